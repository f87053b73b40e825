/-! ===== the reference: totals, and the first changes ===== -/
section
variable {d : Nat} {Q : Value → zM → Prop} {m : zM} {f : Nat → Int32} {s : sS}
theorem allNow_in {what h : Nat} {X : Int32} (hM : MI m) (hA : RA f s) (hh : h < s.2.2.1) (hw : what ≠ 1) (hw4 : what < 4) (hk : zwp (d + 4) M9_allNow 0 0 Q 4 [.ref 667, .int (nI what), .int X, .int (nI (h + 1)), .int (nI 0)] [] 0 0 (zrow m 668 f)) : zwp (d + 4) M9_allNow 0 0 Q 71 [.ref 667, .int (nI what), .int X, .int (nI h), .int (nI 0)] [] 0 0 (zrow m 668 f) := by
  have h6 := hA.h6 hh
  have s6 := hA.s6 hh
  refine zr_iload dX9_allNow_71 rfl ?_
  refine zr_aload_n dX9_allNow_73 rfl ?_
  refine zr_iload_n dX9_allNow_74 rfl ?_
  refine zr_cV1 rfl dX9_allNow_75 cv_9_70 (MI.ob hM ⟨rfl, rfl⟩) (Nat.le_of_ble_eq_true rfl) (entries_ok hM h6 (hA.siz hh) ?_)
  refine zr_icmp_geN (tgt := 113) dX9_allNow_78 (by decide) (by omega) (by omega) (fun hc_78 => ?_) (fun hc_78 => ?_)
  · refine zr_iincN dX9_allNow_113 rfl (by decide) rfl ?_
    dsimp only [zset]
    refine zr_goto (tgt := 4) dX9_allNow_116 (by decide) ?_
    exact hk
  · refine zr_iload_n dX9_allNow_81 rfl ?_
    refine zr_iconst (v := nI 1) dX9_allNow_82 rfl ?_
    refine zr_icmp_neN (tgt := 113) dX9_allNow_83 (by decide) (by omega) (by omega) (fun hc_83 => ?_) (fun hc_83 => ?_)
    · refine zr_iincN dX9_allNow_113 rfl (by decide) rfl ?_
      dsimp only [zset]
      refine zr_goto (tgt := 4) dX9_allNow_116 (by decide) ?_
      exact hk
    · exact absurd hc_83 hw
theorem i_assoc (x : Int32) (a b : Nat) : x + nI a + nI b = x + nI (a + b) := by rw [Int32.add_assoc, nI_add]
theorem allNow_loop {what : Nat} (hM : MI m) (hA : RA f s) (hw : what < 4) (hk : Q (.int (sall s what s.2.2.1)) (zrow m 668 f)) : ∀ c h t4, s.2.2.1 - h < c → h ≤ s.2.2.1 →
    zwp (d + 4) M9_allNow 0 0 Q 4 [.ref 667, .int (nI what), .int (sall s what h), .int (nI h), t4] [] 0 0 (zrow m 668 f) := by
  have hn6 := hA.2.1
  intro c
  induction c with
  | zero => intro h t4 h1; omega
  | succ c ih =>
    intro h t4 h1 h2
    have inner : what = 1 → h < s.2.2.1 → ∀ e i, (s.2.2.2 h).2.2.2.length - i < e → i ≤ (s.2.2.2 h).2.2.2.length →
        zwp (d + 4) M9_allNow 0 0 Q 71 [.ref 667, .int (nI what), .int (sall s what h + nI (cntN (fun i => !sownd s (zg (s.2.2.2 h).2.2.2 i)) i)), .int (nI h), .int (nI i)] [] 0 0 (zrow m 668 f) := by
      intro hw1 ho e
      have s6 := hA.s6 ho
      induction e with
      | zero => intro i h3; omega
      | succ e ih2 =>
        intro i h3 h4
        have hs := ih2 (i + 1)
        have ho2 := ih (h + 1) (.int (nI i))
        refine zr_iload dX9_allNow_71 rfl ?_
        refine zr_aload_n dX9_allNow_73 rfl ?_
        refine zr_iload_n dX9_allNow_74 rfl ?_
        refine zr_cV1 rfl dX9_allNow_75 cv_9_70 (MI.ob hM ⟨rfl, rfl⟩) (Nat.le_of_ble_eq_true rfl) (entries_ok hM (by omega) (hA.siz ho) ?_)
        refine zr_icmp_geN (tgt := 113) dX9_allNow_78 (by decide) (by omega) (by omega) (fun hc_78 => ?_) (fun hc_78 => ?_)
        · refine zr_iincN dX9_allNow_113 rfl (by decide) rfl ?_
          dsimp only [zset]
          refine zr_goto (tgt := 4) dX9_allNow_116 (by decide) ?_
          have e : i = (s.2.2.2 h).2.2.2.length := by omega
          have ho2 := ho2 (by omega) (by omega)
          rw [sall, sallh, if_neg (by omega), if_pos hw1, sstale, ← e] at ho2
          exact ho2
        · refine zr_iload_n dX9_allNow_81 rfl ?_
          refine zr_iconst (v := nI 1) dX9_allNow_82 rfl ?_
          refine zr_icmp_neN (tgt := 113) dX9_allNow_83 (by decide) (by omega) (by omega) (fun hc_83 => ?_) (fun hc_83 => ?_)
          · exact absurd hw1 hc_83
          · refine zr_iload_n dX9_allNow_86 rfl ?_
            refine zr_aload_n dX9_allNow_87 rfl ?_
            refine zr_iload_n dX9_allNow_88 rfl ?_
            refine zr_iload dX9_allNow_89 rfl ?_
            refine zr_cS2 rfl dX9_allNow_91 cv_9_67 (Nat.le_of_ble_eq_true rfl) (kept_ok ?_)
            refine zr_cV1 rfl dX9_allNow_94 cv_9_209 (MI.ob hM ⟨rfl, rfl⟩) (Nat.le_of_ble_eq_true rfl) (isOwned_ok hM hA (by omega) (fun k hk => hA.ent ho hc_78 k (by omega)) ?_)
            refine zr_if_eqB (tgt := 104) dX9_allNow_97 (by decide) (fun hc_97 => ?_) (fun hc_97 => ?_)
            · refine zr_iconst (v := nI 1) dX9_allNow_104 rfl ?_
              refine zr_iadd dX9_allNow_105 ?_
              refine zr_istore_n dX9_allNow_106 (by decide) rfl ?_
              dsimp only [zset]
              refine zr_iincN dX9_allNow_107 rfl (by decide) rfl ?_
              dsimp only [zset]
              refine zr_goto (tgt := 71) dX9_allNow_110 (by decide) ?_
              have hs := hs (by omega) (by omega)
              rw [cntN, ← i_assoc] at hs
              simpa [hc_97] using hs
            · refine zr_iconst (v := nI 0) dX9_allNow_100 rfl ?_
              refine zr_goto (tgt := 105) dX9_allNow_101 (by decide) ?_
              refine zr_iadd dX9_allNow_105 ?_
              refine zr_istore_n dX9_allNow_106 (by decide) rfl ?_
              dsimp only [zset]
              refine zr_iincN dX9_allNow_107 rfl (by decide) rfl ?_
              dsimp only [zset]
              refine zr_goto (tgt := 71) dX9_allNow_110 (by decide) ?_
              have hs := hs (by omega) (by omega)
              rw [cntN, ← i_assoc] at hs
              simpa [hc_97] using hs
    refine zr_iload_n dX9_allNow_4 rfl ?_
    refine zr_aload_n dX9_allNow_5 rfl ?_
    refine zr_getR dX9_allNow_6 fd_9_7 rfl (MI.ob hM ⟨rfl, rfl⟩) (MI.r0 hM ⟨rfl, rfl⟩) (by decide) ?_
    refine zr_iconst (v := nI 0) dX9_allNow_9 rfl ?_
    refine zr_ialoadA dX9_allNow_10 (MI.a668 hM ⟨rfl, rfl⟩) (by omega) ?_
    rw [hA.1]
    refine zr_icmp_geN (tgt := 119) dX9_allNow_11 (by decide) (by omega) (by omega) (fun hc_11 => ?_) (fun hc_11 => ?_)
    · refine zr_iload_n dX9_allNow_119 rfl ?_
      refine zr_ireturn dX9_allNow_120 rfl (Nat.le_refl _) (Nat.le_refl _) ?_
      have e : h = s.2.2.1 := by omega
      rw [e]
      exact hk
    · refine zr_iload_n dX9_allNow_14 rfl ?_
      refine zr_iload_n dX9_allNow_15 rfl ?_
      refine zr_if_ne (tgt := 27) dX9_allNow_16 (by decide) (fun hc_16 => ?_) (fun hc_16 => ?_)
      · refine zr_iload_n dX9_allNow_27 rfl ?_
        refine zr_iconst (v := nI 2) dX9_allNow_28 rfl ?_
        refine zr_icmp_neN (tgt := 46) dX9_allNow_29 (by decide) (by omega) (by omega) (fun hc_29 => ?_) (fun hc_29 => ?_)
        · refine zr_iload_n dX9_allNow_46 rfl ?_
          refine zr_iconst (v := nI 3) dX9_allNow_47 rfl ?_
          refine zr_icmp_neN (tgt := 65) dX9_allNow_48 (by decide) (by omega) (by omega) (fun hc_48 => ?_) (fun hc_48 => ?_)
          · refine zr_iconst (v := nI 0) dX9_allNow_65 rfl ?_
            refine zr_iadd dX9_allNow_66 ?_
            refine zr_istore_n dX9_allNow_67 (by decide) rfl ?_
            dsimp only [zset]
            refine zr_iconst (v := nI 0) dX9_allNow_68 rfl ?_
            refine zr_istore dX9_allNow_69 (by decide) rfl ?_
            dsimp only [zset]
            have hs := ih (h + 1) (.int (nI 0))
            have : what = 0 ∨ what = 1 ∨ what = 2 ∨ what = 3 := by omega
            rcases this with rfl | rfl | rfl | rfl
            · first
              | exact allNow_in hM hA hc_11 (by decide) (by decide) (hs (by omega) (by omega))
              | exact absurd rfl hc_16
            · first
              | exact inner rfl hc_11 _ 0 (Nat.lt_succ_self _) (Nat.zero_le _)
              | exact absurd hc_16 (by decide)
              | exact absurd hc_29 (by decide)
              | exact absurd hc_48 (by decide)
            · first
              | exact allNow_in hM hA hc_11 (by decide) (by decide) (hs (by omega) (by omega))
              | exact absurd hc_16 (by decide)
              | exact absurd rfl hc_29
            · first
              | exact allNow_in hM hA hc_11 (by decide) (by decide) (hs (by omega) (by omega))
              | exact absurd hc_16 (by decide)
              | exact absurd hc_29 (by decide)
              | exact absurd rfl hc_48
          · refine zr_aload_n dX9_allNow_51 rfl ?_
            refine zr_getR dX9_allNow_52 fd_9_7 rfl (MI.ob hM ⟨rfl, rfl⟩) (MI.r0 hM ⟨rfl, rfl⟩) (by decide) ?_
            refine zr_bipush (v := nI 10) dX9_allNow_55 rfl ?_
            refine zr_iconst (v := nI 4) dX9_allNow_57 rfl ?_
            refine zr_iload_n dX9_allNow_58 rfl ?_
            refine zr_imulN dX9_allNow_59 ?_
            refine zr_iaddN dX9_allNow_60 ?_
            refine zr_ialoadA dX9_allNow_61 (MI.a668 hM ⟨rfl, rfl⟩) (by omega) ?_
            rw [hA.awk hc_11]
            refine zr_goto (tgt := 66) dX9_allNow_62 (by decide) ?_
            refine zr_iadd dX9_allNow_66 ?_
            refine zr_istore_n dX9_allNow_67 (by decide) rfl ?_
            dsimp only [zset]
            refine zr_iconst (v := nI 0) dX9_allNow_68 rfl ?_
            refine zr_istore dX9_allNow_69 (by decide) rfl ?_
            dsimp only [zset]
            have hs := ih (h + 1) (.int (nI 0))
            have : what = 0 ∨ what = 1 ∨ what = 2 ∨ what = 3 := by omega
            rcases this with rfl | rfl | rfl | rfl
            · first
              | exact allNow_in hM hA hc_11 (by decide) (by decide) (hs (by omega) (by omega))
              | exact absurd rfl hc_16
            · first
              | exact inner rfl hc_11 _ 0 (Nat.lt_succ_self _) (Nat.zero_le _)
              | exact absurd hc_16 (by decide)
              | exact absurd hc_29 (by decide)
              | exact absurd hc_48 (by decide)
            · first
              | exact allNow_in hM hA hc_11 (by decide) (by decide) (hs (by omega) (by omega))
              | exact absurd hc_16 (by decide)
              | exact absurd rfl hc_29
            · first
              | exact allNow_in hM hA hc_11 (by decide) (by decide) (hs (by omega) (by omega))
              | exact absurd hc_16 (by decide)
              | exact absurd hc_29 (by decide)
              | exact absurd rfl hc_48
        · refine zr_aload_n dX9_allNow_32 rfl ?_
          refine zr_iload_n dX9_allNow_33 rfl ?_
          refine zr_cV1 rfl dX9_allNow_34 cv_9_73 (MI.ob hM ⟨rfl, rfl⟩) (Nat.le_of_ble_eq_true rfl) (records_ok hM (by omega) (hA.cnt hc_11) ?_)
          refine zr_aload_n dX9_allNow_37 rfl ?_
          refine zr_iload_n dX9_allNow_38 rfl ?_
          refine zr_cV1 rfl dX9_allNow_39 cv_9_151 (MI.ob hM ⟨rfl, rfl⟩) (Nat.le_of_ble_eq_true rfl) (owned_ok hM hA hc_11 ?_)
          refine zr_isub dX9_allNow_42 ?_
          refine zr_goto (tgt := 66) dX9_allNow_43 (by decide) ?_
          refine zr_iadd dX9_allNow_66 ?_
          refine zr_istore_n dX9_allNow_67 (by decide) rfl ?_
          dsimp only [zset]
          refine zr_iconst (v := nI 0) dX9_allNow_68 rfl ?_
          refine zr_istore dX9_allNow_69 (by decide) rfl ?_
          dsimp only [zset]
          have hs := ih (h + 1) (.int (nI 0))
          have : what = 0 ∨ what = 1 ∨ what = 2 ∨ what = 3 := by omega
          rcases this with rfl | rfl | rfl | rfl
          · first
            | exact allNow_in hM hA hc_11 (by decide) (by decide) (hs (by omega) (by omega))
            | exact absurd rfl hc_16
          · first
            | exact inner rfl hc_11 _ 0 (Nat.lt_succ_self _) (Nat.zero_le _)
            | exact absurd hc_16 (by decide)
            | exact absurd hc_29 (by decide)
            | exact absurd hc_48 (by decide)
          · first
            | exact allNow_in hM hA hc_11 (by decide) (by decide) (hs (by omega) (by omega))
            | exact absurd hc_16 (by decide)
            | exact absurd rfl hc_29
          · first
            | exact allNow_in hM hA hc_11 (by decide) (by decide) (hs (by omega) (by omega))
            | exact absurd hc_16 (by decide)
            | exact absurd hc_29 (by decide)
            | exact absurd rfl hc_48
      · refine zr_aload_n dX9_allNow_19 rfl ?_
        refine zr_iload_n dX9_allNow_20 rfl ?_
        refine zr_cV1 rfl dX9_allNow_21 cv_9_70 (MI.ob hM ⟨rfl, rfl⟩) (Nat.le_of_ble_eq_true rfl) (entries_ok hM (by omega) (hA.siz hc_11) ?_)
        refine zr_goto (tgt := 66) dX9_allNow_24 (by decide) ?_
        refine zr_iadd dX9_allNow_66 ?_
        refine zr_istore_n dX9_allNow_67 (by decide) rfl ?_
        dsimp only [zset]
        refine zr_iconst (v := nI 0) dX9_allNow_68 rfl ?_
        refine zr_istore dX9_allNow_69 (by decide) rfl ?_
        dsimp only [zset]
        have hs := ih (h + 1) (.int (nI 0))
        have : what = 0 ∨ what = 1 ∨ what = 2 ∨ what = 3 := by omega
        rcases this with rfl | rfl | rfl | rfl
        · first
          | exact allNow_in hM hA hc_11 (by decide) (by decide) (hs (by omega) (by omega))
          | exact absurd rfl hc_16
        · first
          | exact inner rfl hc_11 _ 0 (Nat.lt_succ_self _) (Nat.zero_le _)
          | exact absurd hc_16 (by decide)
          | exact absurd hc_29 (by decide)
          | exact absurd hc_48 (by decide)
        · first
          | exact allNow_in hM hA hc_11 (by decide) (by decide) (hs (by omega) (by omega))
          | exact absurd hc_16 (by decide)
          | exact absurd rfl hc_29
        · first
          | exact allNow_in hM hA hc_11 (by decide) (by decide) (hs (by omega) (by omega))
          | exact absurd hc_16 (by decide)
          | exact absurd hc_29 (by decide)
          | exact absurd rfl hc_48
theorem allNow_ok {what : Nat} (hM : MI m) (hA : RA f s) (hw : what < 4) (hk : Q (.int (sall s what s.2.2.1)) (zrow m 668 f)) : zC (d + 4) M9_allNow 0 0 [.ref 667, .int (nI what)] (zrow m 668 f) Q := by
  refine zenterP (Or.inl (by decide +kernel)) rfl (fun h => by cases h) (Nat.le_of_ble_eq_true rfl) ?_
  show zwp _ _ _ _ _ 0 [_, _, zU, zU, zU] [] 0 0 _
  refine zr_iconst (v := nI 0) dX9_allNow_0 rfl ?_
  refine zr_istore_n dX9_allNow_1 (by decide) rfl ?_
  dsimp only [zset]
  refine zr_iconst (v := nI 0) dX9_allNow_2 rfl ?_
  refine zr_istore_n dX9_allNow_3 (by decide) rfl ?_
  dsimp only [zset]
  exact allNow_loop hM hA hw hk _ 0 _ (Nat.lt_succ_self _) (Nat.zero_le _)
end
