/-! ===== the class: questions of a link ===== -/
def qa (ok : Bool) (v : Int32) : Int32 := if ok then v else -2
theorem qa_t {v : Int32} : qa true v = v := rfl
theorem qa_f {v : Int32} : qa false v = -2 := rfl
theorem bI_of {x : Int32} (h : x = 0 ∨ x = 1) : x = bI (x == 1) := by rcases h with rfl | rfl <;> rfl
theorem sw_of {hi : Int32} (k : Int32) (n : Nat) (e : hi = nI n) (hn : n < 2 ^ 31) : (∃ j, j ≤ n ∧ k = nI j ∧ sin k 0 hi = true) ∨ (sin k 0 hi = false ∧ (k.toInt < 0 ∨ (n : Int) < k.toInt)) := by
  subst e
  cases h : sin k 0 (nI n)
  · refine Or.inr ⟨rfl, ?_⟩
    unfold sin at h
    rw [Bool.and_eq_false_iff] at h
    rcases h with h | h
    · rw [decide_eq_false_iff_not, Int32.le_iff_toInt_le] at h
      exact Or.inl (by simpa using h)
    · rw [decide_eq_false_iff_not, Int32.le_iff_toInt_le, nI_toInt hn] at h
      exact Or.inr (by omega)
  · obtain ⟨j, j1, j2, rfl⟩ := sin_of (a := 0) (b := n) h rfl rfl (by decide) hn
    exact Or.inl ⟨j, j2, rfl, rfl⟩
section
variable {d : Nat} {Q : Value → zM → Prop} {m m' : zM} {L C h b : Nat} {s : sS} {a r n k q i : Int32} {l : List sR} {rc : sR}
theorem LisDefended_ok (hL : LK m L s) (hs : sOK s) (hh : h < s.2.2.1) (hb' : RCl m b rc) (hso : rc 6 = 0 ∨ rc 6 = 1) (hk : Q (.int (bI (sdef s h rc))) m) : zC (d + 3) M5_isDefended 0 0 [.ref L, .int (nI h), .ref b] m Q := by
  refine zenterP (Or.inl (by decide +kernel)) rfl (fun h => by cases h) (Nat.le_of_ble_eq_true rfl) ?_
  show zwp _ _ _ _ _ 0 [_, _, _] [] 0 0 _
  refine zr_aload_n dX5_isDefended_0 rfl ?_
  refine zr_getI dX5_isDefended_1 fd_5_77 rfl hb'.1 ?_
  rw [hb'.2 6 (by decide)]
  refine zr_if_eq (tgt := 27) dX5_isDefended_4 (by decide) (fun hc_4 => ?_) (fun hc_4 => ?_)
  · have e : sdef s h rc = false := by unfold sdef; rw [hc_4]; simp
    refine zr_iconst (v := bI false) dX5_isDefended_27 rfl ?_
    refine zr_zreturnB dX5_isDefended_28 rfl (Nat.le_refl _) (Nat.le_refl _) ?_
    rw [e] at hk
    exact hk
  · refine zr_aload_n dX5_isDefended_7 rfl ?_
    refine zr_cV0 rfl dX5_isDefended_8 cv_5_107 hb'.1 (Nat.le_of_ble_eq_true rfl) (Rown_ok (e := rc) hb'.1 (hb'.2 4 (by decide)) ?_)
    refine zr_if_eqB (tgt := 27) dX5_isDefended_11 (by decide) (fun hc_11 => ?_) (fun hc_11 => ?_)
    · have e : sdef s h rc = false := by unfold sdef; rw [hc_11]; rfl
      refine zr_iconst (v := bI false) dX5_isDefended_27 rfl ?_
      refine zr_zreturnB dX5_isDefended_28 rfl (Nat.le_refl _) (Nat.le_refl _) ?_
      rw [e] at hk
      exact hk
    · refine zr_aload_n dX5_isDefended_14 rfl ?_
      refine zr_iload_n dX5_isDefended_15 rfl ?_
      refine zr_cV1 rfl dX5_isDefended_16 cv_5_139 (hL.1.ob rfl) (Nat.le_of_ble_eq_true rfl) (speaker_ok hL hs hh ?_)
      refine zr_iconst (v := -1) dX5_isDefended_19 rfl ?_
      refine zr_icmp_eq (tgt := 27) dX5_isDefended_20 (by decide) (fun hc_20 => ?_) (fun hc_20 => ?_)
      · have e : sdef s h rc = false := by unfold sdef; rw [(sspk_std hs hh).mp hc_20, Bool.and_false]
        refine zr_iconst (v := bI false) dX5_isDefended_27 rfl ?_
        refine zr_zreturnB dX5_isDefended_28 rfl (Nat.le_refl _) (Nat.le_refl _) ?_
        rw [e] at hk
        exact hk
      · have e : sdef s h rc = true := by
          unfold sdef
          have e1 : sstd s h = true := by
            cases z : sstd s h
            · exact absurd ((sspk_std hs hh).mpr z) hc_20
            · rfl
          rw [e1, hc_11, hso.resolve_left hc_4]
          rfl
        refine zr_iconst (v := bI true) dX5_isDefended_23 rfl ?_
        refine zr_goto (tgt := 28) dX5_isDefended_24 (by decide) ?_
        refine zr_zreturnB dX5_isDefended_28 rfl (Nat.le_refl _) (Nat.le_refl _) ?_
        rw [e] at hk
        exact hk
theorem recordProperty_ok (hL : LK m L s) (hs : sOK s) (hk : Q (.int (qa (sisR s a r && sin k 0 7) (srecth s (hN a) (hN r) (hN k)))) m) : zC (d + 4) M5_recordProperty 0 0 [.ref L, .int a, .int r, .int k] m Q := by
  have n6 := hL.n6
  refine zenterP (Or.inl (by decide +kernel)) rfl (fun h => by cases h) (Nat.le_of_ble_eq_true rfl) ?_
  show zwp _ _ _ _ _ 0 [_, _, _, _, zU] [] 0 0 _
  refine zr_aload_n dX5_recordProperty_0 rfl ?_
  refine zr_iload_n dX5_recordProperty_1 rfl ?_
  refine zr_iload_n dX5_recordProperty_2 rfl ?_
  refine zr_cV2 rfl dX5_recordProperty_3 cv_5_100 (hL.1.ob rfl) (Nat.le_of_ble_eq_true rfl) (LisRecord_ok hL ?_)
  refine zr_if_neB (tgt := 12) dX5_recordProperty_6 (by decide) (fun hc_6 => ?_) (fun hc_6 => ?_)
  · rw [hc_6, Bool.true_and] at hk
    unfold sisR at hc_6
    rw [Bool.and_eq_true] at hc_6
    obtain ⟨i, i1, rfl⟩ := sisH_of n6 hc_6.1
    rw [nI_clamp (show i < 2 ^ 31 by omega)] at hc_6
    have hH := hL.hc i1
    have h5 := hH.c5
    obtain ⟨j, j1, rfl⟩ := sisX_of (by omega) hc_6.2
    rw [hN_nI (show i < 2 ^ 31 by omega), hN_nI (show j < 2 ^ 31 by omega)] at hk
    have hR := hL.rcl i1 j1
    have hso := (hs.rec i1 j1).2.2.1
    refine zr_aload_n dX5_recordProperty_12 rfl ?_
    refine zr_getR dX5_recordProperty_13 fd_5_11 rfl (hL.1.ob rfl) hL.r0 (by omega) ?_
    refine zr_iload_n dX5_recordProperty_16 rfl ?_
    refine zr_aaloadN dX5_recordProperty_17 (hL.1.ar rfl) (by decide) (by decide) (by omega) (by decide) (hL.rh (by omega)) (by unfold hb; omega) ?_
    refine zr_getR dX5_recordProperty_18 fd_5_146 rfl (hH.ob rfl) hH.r0 (by omega) ?_
    refine zr_iload_n dX5_recordProperty_21 rfl ?_
    refine zr_aaloadN dX5_recordProperty_22 (hH.ar rfl) (by decide) (by decide) (by omega) (by decide) (show zR m (hb L i + 1) j = ra m L i j from rfl) (hH.nz (by omega)) ?_
    refine zr_astore dX5_recordProperty_23 (by decide) rfl ?_
    dsimp only [zset]
    refine zr_iload_n dX5_recordProperty_25 rfl ?_
    rcases sw_of (hi := 7) k 7 rfl (by decide) with ⟨j_26, j1_26, rfl, hs_26⟩ | ⟨hs_26, ho_26⟩
    · rcases (show j_26 = 0 ∨ j_26 = 1 ∨ j_26 = 2 ∨ j_26 = 3 ∨ j_26 = 4 ∨ j_26 = 5 ∨ j_26 = 6 ∨ j_26 = 7 by omega) with rfl | rfl | rfl | rfl | rfl | rfl | rfl | rfl
      · rw [hs_26, qa_t] at hk
        refine zr_tableIn (off := 46) (tgt := 72) dX5_recordProperty_26 (by decide) (by decide) rfl (by decide) ?_
        refine zr_aload dX5_recordProperty_72 rfl ?_
        refine zr_getI dX5_recordProperty_74 fd_5_121 rfl hR.1 ?_
        rw [hR.2 0 (by decide)]
        refine zr_ireturn dX5_recordProperty_77 rfl (Nat.le_refl _) (Nat.le_refl _) ?_
        exact hk
      · rw [hs_26, qa_t] at hk
        refine zr_tableIn (off := 52) (tgt := 78) dX5_recordProperty_26 (by decide) (by decide) rfl (by decide) ?_
        refine zr_aload dX5_recordProperty_78 rfl ?_
        refine zr_getI dX5_recordProperty_80 fd_5_124 rfl hR.1 ?_
        rw [hR.2 1 (by decide)]
        refine zr_ireturn dX5_recordProperty_83 rfl (Nat.le_refl _) (Nat.le_refl _) ?_
        exact hk
      · rw [hs_26, qa_t] at hk
        refine zr_tableIn (off := 58) (tgt := 84) dX5_recordProperty_26 (by decide) (by decide) rfl (by decide) ?_
        refine zr_aload dX5_recordProperty_84 rfl ?_
        refine zr_getI dX5_recordProperty_86 fd_5_127 rfl hR.1 ?_
        rw [hR.2 2 (by decide)]
        refine zr_ireturn dX5_recordProperty_89 rfl (Nat.le_refl _) (Nat.le_refl _) ?_
        exact hk
      · rw [hs_26, qa_t] at hk
        refine zr_tableIn (off := 64) (tgt := 90) dX5_recordProperty_26 (by decide) (by decide) rfl (by decide) ?_
        refine zr_aload dX5_recordProperty_90 rfl ?_
        refine zr_getI dX5_recordProperty_92 fd_5_204 rfl hR.1 ?_
        rw [hR.2 3 (by decide)]
        refine zr_ireturn dX5_recordProperty_95 rfl (Nat.le_refl _) (Nat.le_refl _) ?_
        exact hk
      · rw [hs_26, qa_t] at hk
        refine zr_tableIn (off := 70) (tgt := 96) dX5_recordProperty_26 (by decide) (by decide) rfl (by decide) ?_
        refine zr_aload dX5_recordProperty_96 rfl ?_
        refine zr_getI dX5_recordProperty_98 fd_5_83 rfl hR.1 ?_
        rw [hR.2 4 (by decide)]
        refine zr_ireturn dX5_recordProperty_101 rfl (Nat.le_refl _) (Nat.le_refl _) ?_
        exact hk
      · rw [hs_26, qa_t] at hk
        refine zr_tableIn (off := 76) (tgt := 102) dX5_recordProperty_26 (by decide) (by decide) rfl (by decide) ?_
        refine zr_aload dX5_recordProperty_102 rfl ?_
        refine zr_getI dX5_recordProperty_104 fd_5_162 rfl hR.1 ?_
        rw [hR.2 5 (by decide)]
        refine zr_ireturn dX5_recordProperty_107 rfl (Nat.le_refl _) (Nat.le_refl _) ?_
        exact hk
      · rw [hs_26, qa_t] at hk
        refine zr_tableIn (off := 82) (tgt := 108) dX5_recordProperty_26 (by decide) (by decide) rfl (by decide) ?_
        refine zr_aload dX5_recordProperty_108 rfl ?_
        refine zr_getI dX5_recordProperty_110 fd_5_77 rfl hR.1 ?_
        rw [hR.2 6 (by decide), bI_of hso]
        refine zr_cSN1 rfl dX5_recordProperty_113 cv_5_207 (Nat.le_of_ble_eq_true rfl) (oneIf_ok ?_)
        refine zr_ireturn dX5_recordProperty_116 rfl (Nat.le_refl _) (Nat.le_refl _) ?_
        rw [← bI_of hso]
        exact hk
      · rw [hs_26, qa_t] at hk
        refine zr_tableIn (off := 91) (tgt := 117) dX5_recordProperty_26 (by decide) (by decide) rfl (by decide) ?_
        refine zr_aload_n dX5_recordProperty_117 rfl ?_
        refine zr_iload_n dX5_recordProperty_118 rfl ?_
        refine zr_aload dX5_recordProperty_119 rfl ?_
        refine zr_cV2 rfl dX5_recordProperty_121 cv_5_211 (hL.1.ob rfl) (Nat.le_of_ble_eq_true rfl) (LisDefended_ok hL hs i1 hR hso ?_)
        refine zr_cSN1 rfl dX5_recordProperty_124 cv_5_207 (Nat.le_of_ble_eq_true rfl) (oneIf_ok ?_)
        refine zr_ireturn dX5_recordProperty_127 rfl (Nat.le_refl _) (Nat.le_refl _) ?_
        exact hk
    · rw [hs_26, qa_f] at hk
      refine zr_tableOut (tgt := 128) dX5_recordProperty_26 ho_26 (by decide) ?_
      refine zr_bipush (v := -2) dX5_recordProperty_128 rfl ?_
      refine zr_ireturn dX5_recordProperty_130 rfl (Nat.le_refl _) (Nat.le_refl _) ?_
      exact hk
  · rw [hc_6, Bool.false_and, qa_f] at hk
    refine zr_bipush (v := -2) dX5_recordProperty_9 rfl ?_
    refine zr_ireturn dX5_recordProperty_11 rfl (Nat.le_refl _) (Nat.le_refl _) ?_
    exact hk
theorem hostsWithProxy_ok (hL : LK m L s) (hh : h < 6) (hk : Q (.int (sstood s h s.2.2.1)) m) : zC (d + 1) M5_hostsWithProxy 0 0 [.ref L, .int (nI h)] m Q := by
  have n6 := hL.n6
  have loop : ∀ c i, s.2.2.1 - i < c → i ≤ s.2.2.1 → zwp (d + 1) M5_hostsWithProxy 0 0 Q 4 [.ref L, .int (nI h), .int (sstood s h i), .int (nI i)] [] 0 0 m := by
    intro c
    induction c with
    | zero => intro i h1; omega
    | succ c ih =>
      intro i h1 h2
      refine zr_iload_n dX5_hostsWithProxy_4 rfl ?_
      refine zr_aload_n dX5_hostsWithProxy_5 rfl ?_
      refine zr_getI dX5_hostsWithProxy_6 fd_5_25 rfl (hL.1.ob rfl) ?_
      rw [hL.nh]
      refine zr_icmp_geN (tgt := 37) dX5_hostsWithProxy_9 (by decide) (by omega) (by omega) (fun hc_9 => ?_) (fun hc_9 => ?_)
      · refine zr_iload_n dX5_hostsWithProxy_37 rfl ?_
        refine zr_ireturn dX5_hostsWithProxy_38 rfl (Nat.le_refl _) (Nat.le_refl _) ?_
        have e : i = s.2.2.1 := by omega
        subst e
        exact hk
      · refine zr_aload_n dX5_hostsWithProxy_12 rfl ?_
        refine zr_getR dX5_hostsWithProxy_13 fd_5_11 rfl (hL.1.ob rfl) hL.r0 (by omega) ?_
        refine zr_iload_n dX5_hostsWithProxy_16 rfl ?_
        refine zr_aaloadN dX5_hostsWithProxy_17 (hL.1.ar rfl) (by decide) (by decide) (by omega) (by decide) (hL.rh (by omega)) (by unfold hb; omega) ?_
        refine zr_getI dX5_hostsWithProxy_18 fd_5_136 rfl ((hL.hc hc_9).ob rfl) ?_
        rw [(hL.hc hc_9).px]
        refine zr_iload_n dX5_hostsWithProxy_21 rfl ?_
        refine zr_icmp_ne (tgt := 31) dX5_hostsWithProxy_22 (by decide) (fun hc_22 => ?_) (fun hc_22 => ?_)
        · have e : sstood s h (i + 1) = sstood s h i := by
            show sstood s h i ||| _ = _
            rw [if_neg hc_22, Int32.or_zero]
          refine zr_iincN dX5_hostsWithProxy_31 rfl (by decide) rfl ?_
          dsimp only [zset]
          refine zr_goto (tgt := 4) dX5_hostsWithProxy_34 (by decide) ?_
          rw [← e]
          exact ih (i + 1) (by omega) (by omega)
        · have e : sstood s h (i + 1) = sstood s h i ||| (nI 1 <<< (nI i &&& 31)) := by
            show sstood s h i ||| _ = _
            rw [if_pos hc_22]
            rfl
          refine zr_iload_n dX5_hostsWithProxy_25 rfl ?_
          refine zr_iconst (v := nI 1) dX5_hostsWithProxy_26 rfl ?_
          refine zr_iload_n dX5_hostsWithProxy_27 rfl ?_
          refine zr_ishl dX5_hostsWithProxy_28 ?_
          refine zr_ior dX5_hostsWithProxy_29 ?_
          refine zr_istore_n dX5_hostsWithProxy_30 (by decide) rfl ?_
          dsimp only [zset]
          refine zr_iincN dX5_hostsWithProxy_31 rfl (by decide) rfl ?_
          dsimp only [zset]
          refine zr_goto (tgt := 4) dX5_hostsWithProxy_34 (by decide) ?_
          rw [← e]
          exact ih (i + 1) (by omega) (by omega)
  refine zenterP (Or.inl (by decide +kernel)) rfl (fun h => by cases h) (Nat.le_of_ble_eq_true rfl) ?_
  show zwp _ _ _ _ _ 0 [_, _, zU, zU] [] 0 0 _
  refine zr_iconst (v := nI 0) dX5_hostsWithProxy_0 rfl ?_
  refine zr_istore_n dX5_hostsWithProxy_1 (by decide) rfl ?_
  dsimp only [zset]
  refine zr_iconst (v := nI 0) dX5_hostsWithProxy_2 rfl ?_
  refine zr_istore_n dX5_hostsWithProxy_3 (by decide) rfl ?_
  dsimp only [zset]
  exact loop _ 0 (Nat.lt_succ_self _) (Nat.zero_le _)
theorem hostProperty_ok (hL : LK m L s) (hs : sOK s) (hk : Q (.int (qa (sisH s a && sin k 0 5) (sof s (hN a) (hN k)))) m) : zC (d + 3) M5_hostProperty 0 0 [.ref L, .int a, .int k] m Q := by
  have n6 := hL.n6
  refine zenterP (Or.inl (by decide +kernel)) rfl (fun h => by cases h) (Nat.le_of_ble_eq_true rfl) ?_
  show zwp _ _ _ _ _ 0 [_, _, _, zU] [] 0 0 _
  refine zr_aload_n dX5_hostProperty_0 rfl ?_
  refine zr_iload_n dX5_hostProperty_1 rfl ?_
  refine zr_cV1 rfl dX5_hostProperty_2 cv_5_55 (hL.1.ob rfl) (Nat.le_of_ble_eq_true rfl) (LisHost_ok hL ?_)
  refine zr_if_neB (tgt := 11) dX5_hostProperty_5 (by decide) (fun hc_5 => ?_) (fun hc_5 => ?_)
  · rw [hc_5, Bool.true_and] at hk
    obtain ⟨i, i1, rfl⟩ := sisH_of n6 hc_5
    rw [hN_nI (show i < 2 ^ 31 by omega)] at hk
    have hH := hL.hc i1
    have haw := (hs.2 i i1).1
    refine zr_aload_n dX5_hostProperty_11 rfl ?_
    refine zr_getR dX5_hostProperty_12 fd_5_11 rfl (hL.1.ob rfl) hL.r0 (by omega) ?_
    refine zr_iload_n dX5_hostProperty_15 rfl ?_
    refine zr_aaloadN dX5_hostProperty_16 (hL.1.ar rfl) (by decide) (by decide) (by omega) (by decide) (hL.rh (by omega)) (by unfold hb; omega) ?_
    refine zr_astore_n dX5_hostProperty_17 (by decide) rfl ?_
    dsimp only [zset]
    refine zr_iload_n dX5_hostProperty_18 rfl ?_
    rcases sw_of (hi := 5) k 5 rfl (by decide) with ⟨j_19, j1_19, rfl, hs_19⟩ | ⟨hs_19, ho_19⟩
    · rcases (show j_19 = 0 ∨ j_19 = 1 ∨ j_19 = 2 ∨ j_19 = 3 ∨ j_19 = 4 ∨ j_19 = 5 by omega) with rfl | rfl | rfl | rfl | rfl | rfl
      · rw [hs_19, qa_t] at hk
        refine zr_tableIn (off := 37) (tgt := 56) dX5_hostProperty_19 (by decide) (by decide) rfl (by decide) ?_
        refine zr_aload_n dX5_hostProperty_56 rfl ?_
        refine zr_getI dX5_hostProperty_57 fd_5_59 rfl (hH.ob rfl) ?_
        rw [hH.cn]
        refine zr_ireturn dX5_hostProperty_60 rfl (Nat.le_refl _) (Nat.le_refl _) ?_
        exact hk
      · rw [hs_19, qa_t] at hk
        refine zr_tableIn (off := 42) (tgt := 61) dX5_hostProperty_19 (by decide) (by decide) rfl (by decide) ?_
        refine zr_aload_n dX5_hostProperty_61 rfl ?_
        refine zr_getI dX5_hostProperty_62 fd_5_94 rfl (hH.ob rfl) ?_
        rw [hH.aw, bI_of haw]
        refine zr_cSN1 rfl dX5_hostProperty_65 cv_5_207 (Nat.le_of_ble_eq_true rfl) (oneIf_ok ?_)
        refine zr_ireturn dX5_hostProperty_68 rfl (Nat.le_refl _) (Nat.le_refl _) ?_
        rw [← bI_of haw]
        exact hk
      · rw [hs_19, qa_t] at hk
        refine zr_tableIn (off := 50) (tgt := 69) dX5_hostProperty_19 (by decide) (by decide) rfl (by decide) ?_
        refine zr_aload_n dX5_hostProperty_69 rfl ?_
        refine zr_getI dX5_hostProperty_70 fd_5_136 rfl (hH.ob rfl) ?_
        rw [hH.px]
        refine zr_ireturn dX5_hostProperty_73 rfl (Nat.le_refl _) (Nat.le_refl _) ?_
        exact hk
      · rw [hs_19, qa_t] at hk
        refine zr_tableIn (off := 55) (tgt := 74) dX5_hostProperty_19 (by decide) (by decide) rfl (by decide) ?_
        refine zr_aload_n dX5_hostProperty_74 rfl ?_
        refine zr_getR dX5_hostProperty_75 fd_5_111 rfl (hH.ob rfl) hH.r1 (by unfold hb; omega) ?_
        refine zr_getI dX5_hostProperty_78 fd_5_214 rfl (hH.cc.ob rfl) ?_
        rw [hH.cc.2.2.2.2.1]
        refine zr_ireturn dX5_hostProperty_81 rfl (Nat.le_refl _) (Nat.le_refl _) ?_
        exact hk
      · rw [hs_19, qa_t] at hk
        refine zr_tableIn (off := 63) (tgt := 82) dX5_hostProperty_19 (by decide) (by decide) rfl (by decide) ?_
        refine zr_aload_n dX5_hostProperty_82 rfl ?_
        refine zr_cV0 rfl dX5_hostProperty_83 cv_5_200 (hH.ob rfl) (Nat.le_of_ble_eq_true rfl) (ownedCount_ok hH ?_)
        refine zr_ireturn dX5_hostProperty_86 rfl (Nat.le_refl _) (Nat.le_refl _) ?_
        exact hk
      · rw [hs_19, qa_t] at hk
        refine zr_tableIn (off := 68) (tgt := 87) dX5_hostProperty_19 (by decide) (by decide) rfl (by decide) ?_
        refine zr_aload_n dX5_hostProperty_87 rfl ?_
        refine zr_iload_n dX5_hostProperty_88 rfl ?_
        refine zr_cV1 rfl dX5_hostProperty_89 cv_5_217 (hL.1.ob rfl) (Nat.le_of_ble_eq_true rfl) (hostsWithProxy_ok hL (by omega) ?_)
        refine zr_ireturn dX5_hostProperty_92 rfl (Nat.le_refl _) (Nat.le_refl _) ?_
        exact hk
    · rw [hs_19, qa_f] at hk
      refine zr_tableOut (tgt := 93) dX5_hostProperty_19 ho_19 (by decide) ?_
      refine zr_bipush (v := -2) dX5_hostProperty_93 rfl ?_
      refine zr_ireturn dX5_hostProperty_95 rfl (Nat.le_refl _) (Nat.le_refl _) ?_
      exact hk
  · rw [hc_5, Bool.false_and, qa_f] at hk
    refine zr_bipush (v := -2) dX5_hostProperty_8 rfl ?_
    refine zr_ireturn dX5_hostProperty_10 rfl (Nat.le_refl _) (Nat.le_refl _) ?_
    exact hk
theorem entryProperty_ok (hL : LK m L s) (hk : Q (.int (qa (sisH s a && (decide (0 ≤ i) && sin k 0 4)) (if i < nI (s.2.2.2 (hN a)).2.2.2.length then sentr s (hN a) (hN i) (hN k) else -1))) m) : zC (d + 2) M5_entryProperty 0 0 [.ref L, .int a, .int i, .int k] m Q := by
  have n6 := hL.n6
  refine zenterP (Or.inl (by decide +kernel)) rfl (fun h => by cases h) (Nat.le_of_ble_eq_true rfl) ?_
  show zwp _ _ _ _ _ 0 [_, _, _, _, zU, zU] [] 0 0 _
  refine zr_aload_n dX5_entryProperty_0 rfl ?_
  refine zr_iload_n dX5_entryProperty_1 rfl ?_
  refine zr_cV1 rfl dX5_entryProperty_2 cv_5_55 (hL.1.ob rfl) (Nat.le_of_ble_eq_true rfl) (LisHost_ok hL ?_)
  refine zr_if_eqB (tgt := 21) dX5_entryProperty_5 (by decide) (fun hc_5 => ?_) (fun hc_5 => ?_)
  · rw [hc_5, Bool.false_and, qa_f] at hk
    refine zr_bipush (v := -2) dX5_entryProperty_21 rfl ?_
    refine zr_ireturn dX5_entryProperty_23 rfl (Nat.le_refl _) (Nat.le_refl _) ?_
    exact hk
  · refine zr_iload_n dX5_entryProperty_8 rfl ?_
    refine zr_if_lt (tgt := 21) dX5_entryProperty_9 (by decide) (fun hc_9 => ?_) (fun hc_9 => ?_)
    · rw [decide_eq_false (Int32.not_le.mpr hc_9), Bool.false_and, Bool.and_false, qa_f] at hk
      refine zr_bipush (v := -2) dX5_entryProperty_21 rfl ?_
      refine zr_ireturn dX5_entryProperty_23 rfl (Nat.le_refl _) (Nat.le_refl _) ?_
      exact hk
    · refine zr_iload_n dX5_entryProperty_12 rfl ?_
      refine zr_iconst (v := nI 0) dX5_entryProperty_13 rfl ?_
      refine zr_iconst (v := nI 4) dX5_entryProperty_14 rfl ?_
      refine zr_cSN3 rfl dX5_entryProperty_15 cv_5_62 (Nat.le_of_ble_eq_true rfl) (within_ok (lo := 0) (hi := 4) ?_)
      refine zr_if_neB (tgt := 24) dX5_entryProperty_18 (by decide) (fun hc_18 => ?_) (fun hc_18 => ?_)
      · rw [hc_5, hc_18, decide_eq_true (Int32.not_lt.mp hc_9), Bool.and_true, Bool.and_true, qa_t] at hk
        obtain ⟨e, e1, rfl⟩ := sisH_of n6 hc_5
        rw [hN_nI (show e < 2 ^ 31 by omega)] at hk
        have hH := hL.hc e1
        have hC := hH.cc
        have h6 := hC.2.2.2.2.2.1
        obtain ⟨j, j1, rfl⟩ := nI_of hc_9
        obtain ⟨p, p1, p2, rfl⟩ := sin_of (a := 0) (b := 4) hc_18 rfl rfl (by decide) (by decide)
        rw [hN_nI j1, hN_nI (show p < 2 ^ 31 by omega)] at hk
        refine zr_aload_n dX5_entryProperty_24 rfl ?_
        refine zr_getR dX5_entryProperty_25 fd_5_11 rfl (hL.1.ob rfl) hL.r0 (by omega) ?_
        refine zr_iload_n dX5_entryProperty_28 rfl ?_
        refine zr_aaloadN dX5_entryProperty_29 (hL.1.ar rfl) (by decide) (by decide) (by omega) (by decide) (hL.rh (by omega)) (by unfold hb; omega) ?_
        refine zr_getR dX5_entryProperty_30 fd_5_111 rfl (hH.ob rfl) hH.r1 (by unfold hb; omega) ?_
        refine zr_astore dX5_entryProperty_33 (by decide) rfl ?_
        dsimp only [zset]
        refine zr_iload_n dX5_entryProperty_35 rfl ?_
        refine zr_aload dX5_entryProperty_36 rfl ?_
        refine zr_getI dX5_entryProperty_38 fd_5_214 rfl (hC.ob rfl) ?_
        rw [hC.2.2.2.2.1]
        refine zr_icmp_lt (tgt := 46) dX5_entryProperty_41 (by decide) (fun hc_41 => ?_) (fun hc_41 => ?_)
        · rw [if_pos hc_41] at hk
          have j6 := (nI_ltI j1 (by omega)).mp hc_41
          refine zr_aload dX5_entryProperty_46 rfl ?_
          refine zr_getR dX5_entryProperty_48 fd_5_220 rfl (hC.ob rfl) hC.2.2.1 (by omega) ?_
          refine zr_iload_n dX5_entryProperty_51 rfl ?_
          refine zr_aaloadN dX5_entryProperty_52 (hC.ar rfl) (by decide) (by decide) (by omega) (by decide) rfl (hC.nz (by omega)) ?_
          refine zr_astore dX5_entryProperty_53 (by decide) rfl ?_
          dsimp only [zset]
          refine zr_iload_n dX5_entryProperty_55 rfl ?_
          rcases (show p = 0 ∨ p = 1 ∨ p = 2 ∨ p = 3 ∨ p = 4 by omega) with rfl | rfl | rfl | rfl | rfl
          · refine zr_tableIn (off := 32) (tgt := 88) dX5_entryProperty_56 (by decide) (by decide) rfl (by decide) ?_
            refine zr_aload dX5_entryProperty_88 rfl ?_
            refine zr_getI dX5_entryProperty_90 fd_5_224 rfl (hC.eo (by omega) rfl) ?_
            rw [hC.at j6 (by decide)]
            refine zr_ireturn dX5_entryProperty_93 rfl (Nat.le_refl _) (Nat.le_refl _) ?_
            have : ∀ x : Int32, x - (0 : Int32) = x := Int32.sub_zero
            unfold sentr at hk
            rw [if_neg (by decide), this] at hk
            exact hk
          · refine zr_tableIn (off := 38) (tgt := 94) dX5_entryProperty_56 (by decide) (by decide) rfl (by decide) ?_
            refine zr_aload dX5_entryProperty_94 rfl ?_
            refine zr_getI dX5_entryProperty_96 fd_5_227 rfl (hC.eo (by omega) rfl) ?_
            rw [hC.at j6 (by decide)]
            refine zr_ireturn dX5_entryProperty_99 rfl (Nat.le_refl _) (Nat.le_refl _) ?_
            have : ∀ x : Int32, x - (0 : Int32) = x := Int32.sub_zero
            unfold sentr at hk
            rw [if_neg (by decide), this] at hk
            exact hk
          · refine zr_tableIn (off := 44) (tgt := 100) dX5_entryProperty_56 (by decide) (by decide) rfl (by decide) ?_
            refine zr_aload dX5_entryProperty_100 rfl ?_
            refine zr_getI dX5_entryProperty_102 fd_5_228 rfl (hC.eo (by omega) rfl) ?_
            rw [hC.at j6 (by decide)]
            refine zr_ireturn dX5_entryProperty_105 rfl (Nat.le_refl _) (Nat.le_refl _) ?_
            have : ∀ x : Int32, x - (0 : Int32) = x := Int32.sub_zero
            unfold sentr at hk
            rw [if_neg (by decide), this] at hk
            exact hk
          · refine zr_tableIn (off := 50) (tgt := 106) dX5_entryProperty_56 (by decide) (by decide) rfl (by decide) ?_
            refine zr_aload dX5_entryProperty_106 rfl ?_
            refine zr_getI dX5_entryProperty_108 fd_5_229 rfl (hC.eo (by omega) rfl) ?_
            rw [hC.at j6 (by decide)]
            refine zr_ireturn dX5_entryProperty_111 rfl (Nat.le_refl _) (Nat.le_refl _) ?_
            have : ∀ x : Int32, x - (0 : Int32) = x := Int32.sub_zero
            unfold sentr at hk
            rw [if_neg (by decide), this] at hk
            exact hk
          · refine zr_tableOut (tgt := 112) dX5_entryProperty_56 (by decide) (by decide) ?_
            refine zr_aload dX5_entryProperty_112 rfl ?_
            refine zr_getI dX5_entryProperty_114 fd_5_230 rfl (hC.eo (by omega) rfl) ?_
            rw [hC.at j6 (by decide)]
            refine zr_aload_n dX5_entryProperty_117 rfl ?_
            refine zr_getI dX5_entryProperty_118 fd_5_33 rfl (hL.1.ob rfl) ?_
            rw [hL.2.1.2.1]
            refine zr_isub dX5_entryProperty_121 ?_
            refine zr_ireturn dX5_entryProperty_122 rfl (Nat.le_refl _) (Nat.le_refl _) ?_
            exact hk
        · rw [if_neg hc_41] at hk
          refine zr_iconst (v := -1) dX5_entryProperty_44 rfl ?_
          refine zr_ireturn dX5_entryProperty_45 rfl (Nat.le_refl _) (Nat.le_refl _) ?_
          exact hk
      · rw [hc_18, Bool.and_false, Bool.and_false, qa_f] at hk
        refine zr_bipush (v := -2) dX5_entryProperty_21 rfl ?_
        refine zr_ireturn dX5_entryProperty_23 rfl (Nat.le_refl _) (Nat.le_refl _) ?_
        exact hk
theorem lookUp_ok (hL : LK m L s) (hk : Q (.int (qa (sisH s a && (sisN n q && sin k 0 2)) (sfinds s (hN a) n q (hN k)))) m) : zC (d + 3) M5_lookUp 0 0 [.ref L, .int a, .int n, .int q, .int k] m Q := by
  have n6 := hL.n6
  refine zenterP (Or.inl (by decide +kernel)) rfl (fun h => by cases h) (Nat.le_of_ble_eq_true rfl) ?_
  show zwp _ _ _ _ _ 0 [_, _, _, _, _, zU] [] 0 0 _
  refine zr_aload_n dX5_lookUp_0 rfl ?_
  refine zr_iload_n dX5_lookUp_1 rfl ?_
  refine zr_cV1 rfl dX5_lookUp_2 cv_5_55 (hL.1.ob rfl) (Nat.le_of_ble_eq_true rfl) (LisHost_ok hL ?_)
  refine zr_if_eqB (tgt := 16) dX5_lookUp_5 (by decide) (fun hc_5 => ?_) (fun hc_5 => ?_)
  · rw [hc_5, Bool.false_and, qa_f] at hk
    refine zr_bipush (v := -2) dX5_lookUp_16 rfl ?_
    refine zr_ireturn dX5_lookUp_18 rfl (Nat.le_refl _) (Nat.le_refl _) ?_
    exact hk
  · refine zr_iload_n dX5_lookUp_8 rfl ?_
    refine zr_iload_n dX5_lookUp_9 rfl ?_
    refine zr_cS2 rfl dX5_lookUp_10 cv_5_90 (Nat.le_of_ble_eq_true rfl) (LisName_ok ?_)
    refine zr_if_neB (tgt := 19) dX5_lookUp_13 (by decide) (fun hc_13 => ?_) (fun hc_13 => ?_)
    · rw [hc_5, hc_13, Bool.true_and, Bool.true_and] at hk
      obtain ⟨e, e1, rfl⟩ := sisH_of n6 hc_5
      rw [hN_nI (show e < 2 ^ 31 by omega)] at hk
      have hH := hL.hc e1
      refine zr_aload_n dX5_lookUp_19 rfl ?_
      refine zr_getR dX5_lookUp_20 fd_5_11 rfl (hL.1.ob rfl) hL.r0 (by omega) ?_
      refine zr_iload_n dX5_lookUp_23 rfl ?_
      refine zr_aaloadN dX5_lookUp_24 (hL.1.ar rfl) (by decide) (by decide) (by omega) (by decide) (hL.rh (by omega)) (by unfold hb; omega) ?_
      refine zr_getR dX5_lookUp_25 fd_5_111 rfl (hH.ob rfl) hH.r1 (by unfold hb; omega) ?_
      refine zr_astore dX5_lookUp_28 (by decide) rfl ?_
      dsimp only [zset]
      refine zr_iload dX5_lookUp_30 rfl ?_
      rcases sw_of (hi := 2) k 2 rfl (by decide) with ⟨j_32, j1_32, rfl, hs_32⟩ | ⟨hs_32, ho_32⟩
      · rcases (show j_32 = 0 ∨ j_32 = 1 ∨ j_32 = 2 by omega) with rfl | rfl | rfl
        · rw [hs_32, qa_t] at hk
          refine zr_tableIn (off := 28) (tgt := 60) dX5_lookUp_32 (by decide) (by decide) rfl (by decide) ?_
          refine zr_aload dX5_lookUp_60 rfl ?_
          refine zr_iload_n dX5_lookUp_62 rfl ?_
          refine zr_iload_n dX5_lookUp_63 rfl ?_
          refine zr_cV2 rfl dX5_lookUp_64 cv_5_233 (hH.cc.ob rfl) (Nat.le_of_ble_eq_true rfl) (newest_ok hH.cc ?_)
          refine zr_ireturn dX5_lookUp_67 rfl (Nat.le_refl _) (Nat.le_refl _) ?_
          exact hk
        · rw [hs_32, qa_t] at hk
          refine zr_tableIn (off := 36) (tgt := 68) dX5_lookUp_32 (by decide) (by decide) rfl (by decide) ?_
          refine zr_aload dX5_lookUp_68 rfl ?_
          refine zr_iload_n dX5_lookUp_70 rfl ?_
          refine zr_iload_n dX5_lookUp_71 rfl ?_
          refine zr_cV2 rfl dX5_lookUp_72 cv_5_237 (hH.cc.ob rfl) (Nat.le_of_ble_eq_true rfl) (countOf_ok hH.cc ?_)
          refine zr_ireturn dX5_lookUp_75 rfl (Nat.le_refl _) (Nat.le_refl _) ?_
          exact hk
        · rw [hs_32, qa_t] at hk
          refine zr_tableIn (off := 44) (tgt := 76) dX5_lookUp_32 (by decide) (by decide) rfl (by decide) ?_
          refine zr_aload dX5_lookUp_76 rfl ?_
          refine zr_iload_n dX5_lookUp_78 rfl ?_
          refine zr_iload_n dX5_lookUp_79 rfl ?_
          refine zr_aload_n dX5_lookUp_80 rfl ?_
          refine zr_getI dX5_lookUp_81 fd_5_33 rfl (hL.1.ob rfl) ?_
          rw [hL.2.1.2.1]
          refine zr_cV3 rfl dX5_lookUp_84 cv_5_240 (hH.cc.ob rfl) (Nat.le_of_ble_eq_true rfl) (longest_ok hH.cc ?_)
          refine zr_ireturn dX5_lookUp_87 rfl (Nat.le_refl _) (Nat.le_refl _) ?_
          exact hk
      · rw [hs_32, qa_f] at hk
        refine zr_tableOut (tgt := 88) dX5_lookUp_32 ho_32 (by decide) ?_
        refine zr_bipush (v := -2) dX5_lookUp_88 rfl ?_
        refine zr_ireturn dX5_lookUp_90 rfl (Nat.le_refl _) (Nat.le_refl _) ?_
        exact hk
    · rw [hc_13, Bool.false_and, Bool.and_false, qa_f] at hk
      refine zr_bipush (v := -2) dX5_lookUp_16 rfl ?_
      refine zr_ireturn dX5_lookUp_18 rfl (Nat.le_refl _) (Nat.le_refl _) ?_
      exact hk
theorem isOwnedByAny_ok (hL : LK m L s) (hob : zOb m b 2) (hf : ∀ k, k < 3 → zI m b k = rc k) (hk : Q (.int (bI (sownd s rc))) m) : zC (d + 3) M5_isOwnedByAny 0 0 [.ref L, .ref b] m Q := by
  have n6 := hL.n6
  unfold sownd at hk
  have loop : ∀ c i, s.2.2.1 - i < c → i ≤ s.2.2.1 → (∀ o, o < i → (s.2.2.2 o).2.2.1.any (fun a => sown a && ssame a rc) = false) → zwp (d + 3) M5_isOwnedByAny 0 0 Q 2 [.ref L, .ref b, .int (nI i)] [] 0 0 m := by
    intro c
    induction c with
    | zero => intro i h1; omega
    | succ c ih =>
      intro i h1 h2 h3
      refine zr_iload_n dX5_isOwnedByAny_2 rfl ?_
      refine zr_aload_n dX5_isOwnedByAny_3 rfl ?_
      refine zr_getI dX5_isOwnedByAny_4 fd_5_25 rfl (hL.1.ob rfl) ?_
      rw [hL.nh]
      refine zr_icmp_geN (tgt := 42) dX5_isOwnedByAny_7 (by decide) (by omega) (by omega) (fun hc_7 => ?_) (fun hc_7 => ?_)
      · refine zr_iconst (v := bI false) dX5_isOwnedByAny_42 rfl ?_
        refine zr_zreturnB dX5_isOwnedByAny_43 rfl (Nat.le_refl _) (Nat.le_refl _) ?_
        rw [anyN_false.mpr (fun o ho => h3 o (by omega))] at hk
        exact hk
      · refine zr_aload_n dX5_isOwnedByAny_10 rfl ?_
        refine zr_getR dX5_isOwnedByAny_11 fd_5_11 rfl (hL.1.ob rfl) hL.r0 (by omega) ?_
        refine zr_iload_n dX5_isOwnedByAny_14 rfl ?_
        refine zr_aaloadN dX5_isOwnedByAny_15 (hL.1.ar rfl) (by decide) (by decide) (by omega) (by decide) (hL.rh (by omega)) (by unfold hb; omega) ?_
        refine zr_aload_n dX5_isOwnedByAny_16 rfl ?_
        refine zr_getI dX5_isOwnedByAny_17 fd_5_224 rfl hob ?_
        rw [hf 0 (by decide)]
        refine zr_aload_n dX5_isOwnedByAny_20 rfl ?_
        refine zr_getI dX5_isOwnedByAny_21 fd_5_227 rfl hob ?_
        rw [hf 1 (by decide)]
        refine zr_aload_n dX5_isOwnedByAny_24 rfl ?_
        refine zr_getI dX5_isOwnedByAny_25 fd_5_228 rfl hob ?_
        rw [hf 2 (by decide)]
        refine zr_cV3 rfl dX5_isOwnedByAny_28 cv_5_257 ((hL.hc hc_7).ob rfl) (Nat.le_of_ble_eq_true rfl) (owns_ok (hL.hc hc_7) ?_)
        rw [skey_same]
        refine zr_if_eqB (tgt := 36) dX5_isOwnedByAny_31 (by decide) (fun hc_31 => ?_) (fun hc_31 => ?_)
        · refine zr_iincN dX5_isOwnedByAny_36 rfl (by decide) rfl ?_
          dsimp only [zset]
          refine zr_goto (tgt := 2) dX5_isOwnedByAny_39 (by decide) ?_
          refine ih (i + 1) (by omega) (by omega) (fun o ho => ?_)
          by_cases e : o = i
          · subst e; exact hc_31
          · exact h3 o (by omega)
        · refine zr_iconst (v := bI true) dX5_isOwnedByAny_34 rfl ?_
          refine zr_zreturnB dX5_isOwnedByAny_35 rfl (Nat.le_refl _) (Nat.le_refl _) ?_
          rw [anyN_t hc_7 hc_31] at hk
          exact hk
  refine zenterP (Or.inl (by decide +kernel)) rfl (fun h => by cases h) (Nat.le_of_ble_eq_true rfl) ?_
  show zwp _ _ _ _ _ 0 [_, _, zU] [] 0 0 _
  refine zr_iconst (v := nI 0) dX5_isOwnedByAny_0 rfl ?_
  refine zr_istore_n dX5_isOwnedByAny_1 (by decide) rfl ?_
  dsimp only [zset]
  exact loop _ 0 (Nat.lt_succ_self _) (Nat.zero_le _) (fun j hj => absurd hj (Nat.not_lt_zero j))
theorem stale_ok (hL : LK m L s) (hC : CC m C l) (hk : Q (.int (nI (cntN (fun i => !sownd s (zg l i)) l.length))) m) : zC (d + 4) M5_staleEntries 0 0 [.ref L, .ref C] m Q := by
  have h6 := hC.2.2.2.2.2.1
  have loop : ∀ c i, l.length - i < c → i ≤ l.length → zwp (d + 4) M5_staleEntries 0 0 Q 4 [.ref L, .ref C, .int (nI (cntN (fun i => !sownd s (zg l i)) i)), .int (nI i)] [] 0 0 m := by
    intro c
    induction c with
    | zero => intro i h1; omega
    | succ c ih =>
      intro i h1 h2
      refine zr_iload_n dX5_staleEntries_4 rfl ?_
      refine zr_aload_n dX5_staleEntries_5 rfl ?_
      refine zr_getI dX5_staleEntries_6 fd_5_214 rfl (hC.ob rfl) ?_
      rw [hC.2.2.2.2.1]
      refine zr_icmp_geN (tgt := 42) dX5_staleEntries_9 (by decide) (by omega) (by omega) (fun hc_9 => ?_) (fun hc_9 => ?_)
      · refine zr_iload_n dX5_staleEntries_42 rfl ?_
        refine zr_ireturn dX5_staleEntries_43 rfl (Nat.le_refl _) (Nat.le_refl _) ?_
        have e : i = l.length := by omega
        subst e
        exact hk
      · refine zr_iload_n dX5_staleEntries_12 rfl ?_
        refine zr_aload_n dX5_staleEntries_13 rfl ?_
        refine zr_aload_n dX5_staleEntries_14 rfl ?_
        refine zr_getR dX5_staleEntries_15 fd_5_220 rfl (hC.ob rfl) hC.2.2.1 (by omega) ?_
        refine zr_iload_n dX5_staleEntries_18 rfl ?_
        refine zr_aaloadN dX5_staleEntries_19 (hC.ar rfl) (by decide) (by decide) (by omega) (by decide) rfl (hC.nz (by omega)) ?_
        refine zr_cV1 rfl dX5_staleEntries_20 cv_5_253 (hL.1.ob rfl) (Nat.le_of_ble_eq_true rfl) (isOwnedByAny_ok (rc := zg l i) hL (hC.eo (by omega) rfl) (fun k hk => hC.at hc_9 (by omega)) ?_)
        refine zr_if_neB (tgt := 30) dX5_staleEntries_23 (by decide) (fun hc_23 => ?_) (fun hc_23 => ?_)
        · refine zr_iconst (v := bI false) dX5_staleEntries_30 rfl ?_
          refine zr_cSN1 rfl dX5_staleEntries_31 cv_5_207 (Nat.le_of_ble_eq_true rfl) (oneIf_ok ?_)
          refine zr_iadd dX5_staleEntries_34 ?_
          refine zr_istore_n dX5_staleEntries_35 (by decide) rfl ?_
          dsimp only [zset]
          refine zr_iincN dX5_staleEntries_36 rfl (by decide) rfl ?_
          dsimp only [zset]
          refine zr_goto (tgt := 4) dX5_staleEntries_39 (by decide) ?_
          rw [nI_bI]
          have := ih (i + 1) (by omega) (by omega)
          rw [show cntN (fun i => !sownd s (zg l i)) (i + 1) = cntN (fun i => !sownd s (zg l i)) i + (if (!sownd s (zg l i)) = true then 1 else 0) from rfl, hc_23] at this
          exact this
        · refine zr_iconst (v := bI true) dX5_staleEntries_26 rfl ?_
          refine zr_goto (tgt := 31) dX5_staleEntries_27 (by decide) ?_
          refine zr_cSN1 rfl dX5_staleEntries_31 cv_5_207 (Nat.le_of_ble_eq_true rfl) (oneIf_ok ?_)
          refine zr_iadd dX5_staleEntries_34 ?_
          refine zr_istore_n dX5_staleEntries_35 (by decide) rfl ?_
          dsimp only [zset]
          refine zr_iincN dX5_staleEntries_36 rfl (by decide) rfl ?_
          dsimp only [zset]
          refine zr_goto (tgt := 4) dX5_staleEntries_39 (by decide) ?_
          rw [nI_bI]
          have := ih (i + 1) (by omega) (by omega)
          rw [show cntN (fun i => !sownd s (zg l i)) (i + 1) = cntN (fun i => !sownd s (zg l i)) i + (if (!sownd s (zg l i)) = true then 1 else 0) from rfl, hc_23] at this
          exact this
  refine zenterP (Or.inl (by decide +kernel)) rfl (fun h => by cases h) (Nat.le_of_ble_eq_true rfl) ?_
  show zwp _ _ _ _ _ 0 [_, _, zU, zU] [] 0 0 _
  refine zr_iconst (v := nI 0) dX5_staleEntries_0 rfl ?_
  refine zr_istore_n dX5_staleEntries_1 (by decide) rfl ?_
  dsimp only [zset]
  refine zr_iconst (v := nI 0) dX5_staleEntries_2 rfl ?_
  refine zr_istore_n dX5_staleEntries_3 (by decide) rfl ?_
  dsimp only [zset]
  exact loop _ 0 (Nat.lt_succ_self _) (Nat.zero_le _)
theorem total_ok (hL : LK m L s) (hs : sOK s) (hk : Q (.int (qa (sin k 0 3) (sall s (hN k) s.2.2.1))) m) : zC (d + 5) M5_total 0 0 [.ref L, .int k] m Q := by
  have n6 := hL.n6
  have loop : ∀ w, w ≤ 3 → Q (.int (sall s w s.2.2.1)) m → ∀ c i t4, s.2.2.1 - i < c → i ≤ s.2.2.1 → zwp (d + 5) M5_total 0 0 Q 16 [.ref L, .int (nI w), .int (sall s w i), .int (nI i), t4] [] 0 0 m := by
    intro w hw hk c
    induction c with
    | zero => intro i t4 h1; omega
    | succ c ih =>
      intro i t4 h1 h2
      refine zr_iload_n dX5_total_16 rfl ?_
      refine zr_aload_n dX5_total_17 rfl ?_
      refine zr_getI dX5_total_18 fd_5_25 rfl (hL.1.ob rfl) ?_
      rw [hL.nh]
      refine zr_icmp_geN (tgt := 123) dX5_total_21 (by decide) (by omega) (by omega) (fun hc_21 => ?_) (fun hc_21 => ?_)
      · refine zr_iload_n dX5_total_123 rfl ?_
        refine zr_ireturn dX5_total_124 rfl (Nat.le_refl _) (Nat.le_refl _) ?_
        have e : i = s.2.2.1 := by omega
        subst e
        exact hk
      · have hH := hL.hc hc_21
        have haw := (hs.2 i hc_21).1
        refine zr_aload_n dX5_total_24 rfl ?_
        refine zr_getR dX5_total_25 fd_5_11 rfl (hL.1.ob rfl) hL.r0 (by omega) ?_
        refine zr_iload_n dX5_total_28 rfl ?_
        refine zr_aaloadN dX5_total_29 (hL.1.ar rfl) (by decide) (by decide) (by omega) (by decide) (hL.rh (by omega)) (by unfold hb; omega) ?_
        refine zr_astore dX5_total_30 (by decide) rfl ?_
        dsimp only [zset]
        refine zr_iload_n dX5_total_32 rfl ?_
        rcases (show w = 0 ∨ w = 1 ∨ w = 2 ∨ w = 3 by omega) with rfl | rfl | rfl | rfl
        · refine zr_tableIn (off := 27) (tgt := 60) dX5_total_33 (by decide) (by decide) rfl (by decide) ?_
          refine zr_iload_n dX5_total_60 rfl ?_
          refine zr_aload dX5_total_61 rfl ?_
          refine zr_getR dX5_total_63 fd_5_111 rfl (hH.ob rfl) hH.r1 (by unfold hb; omega) ?_
          refine zr_getI dX5_total_66 fd_5_214 rfl (hH.cc.ob rfl) ?_
          rw [hH.cc.2.2.2.2.1]
          refine zr_iadd dX5_total_69 ?_
          refine zr_istore_n dX5_total_70 (by decide) rfl ?_
          dsimp only [zset]
          refine zr_goto (tgt := 117) dX5_total_71 (by decide) ?_
          refine zr_iincN dX5_total_117 rfl (by decide) rfl ?_
          dsimp only [zset]
          refine zr_goto (tgt := 16) dX5_total_120 (by decide) ?_
          exact ih (i + 1) _ (by omega) (by omega)
        · refine zr_tableIn (off := 41) (tgt := 74) dX5_total_33 (by decide) (by decide) rfl (by decide) ?_
          refine zr_iload_n dX5_total_74 rfl ?_
          refine zr_aload_n dX5_total_75 rfl ?_
          refine zr_aload dX5_total_76 rfl ?_
          refine zr_getR dX5_total_78 fd_5_111 rfl (hH.ob rfl) hH.r1 (by unfold hb; omega) ?_
          refine zr_cV1 rfl dX5_total_81 cv_5_249 (hL.1.ob rfl) (Nat.le_of_ble_eq_true rfl) (stale_ok hL hH.cc ?_)
          refine zr_iadd dX5_total_84 ?_
          refine zr_istore_n dX5_total_85 (by decide) rfl ?_
          dsimp only [zset]
          refine zr_goto (tgt := 117) dX5_total_86 (by decide) ?_
          refine zr_iincN dX5_total_117 rfl (by decide) rfl ?_
          dsimp only [zset]
          refine zr_goto (tgt := 16) dX5_total_120 (by decide) ?_
          exact ih (i + 1) _ (by omega) (by omega)
        · refine zr_tableIn (off := 56) (tgt := 89) dX5_total_33 (by decide) (by decide) rfl (by decide) ?_
          refine zr_iload_n dX5_total_89 rfl ?_
          refine zr_aload dX5_total_90 rfl ?_
          refine zr_getI dX5_total_92 fd_5_59 rfl (hH.ob rfl) ?_
          rw [hH.cn]
          refine zr_aload dX5_total_95 rfl ?_
          refine zr_cV0 rfl dX5_total_97 cv_5_200 (hH.ob rfl) (Nat.le_of_ble_eq_true rfl) (ownedCount_ok hH ?_)
          refine zr_isub dX5_total_100 ?_
          refine zr_iadd dX5_total_101 ?_
          refine zr_istore_n dX5_total_102 (by decide) rfl ?_
          dsimp only [zset]
          refine zr_goto (tgt := 117) dX5_total_103 (by decide) ?_
          refine zr_iincN dX5_total_117 rfl (by decide) rfl ?_
          dsimp only [zset]
          refine zr_goto (tgt := 16) dX5_total_120 (by decide) ?_
          exact ih (i + 1) _ (by omega) (by omega)
        · refine zr_tableOut (tgt := 106) dX5_total_33 (by decide) (by decide) ?_
          refine zr_iload_n dX5_total_106 rfl ?_
          refine zr_aload dX5_total_107 rfl ?_
          refine zr_getI dX5_total_109 fd_5_94 rfl (hH.ob rfl) ?_
          rw [hH.aw, bI_of haw]
          refine zr_cSN1 rfl dX5_total_112 cv_5_207 (Nat.le_of_ble_eq_true rfl) (oneIf_ok ?_)
          rw [← bI_of haw]
          refine zr_iadd dX5_total_115 ?_
          refine zr_istore_n dX5_total_116 (by decide) rfl ?_
          dsimp only [zset]
          refine zr_iincN dX5_total_117 rfl (by decide) rfl ?_
          dsimp only [zset]
          refine zr_goto (tgt := 16) dX5_total_120 (by decide) ?_
          exact ih (i + 1) _ (by omega) (by omega)
  refine zenterP (Or.inl (by decide +kernel)) rfl (fun h => by cases h) (Nat.le_of_ble_eq_true rfl) ?_
  show zwp _ _ _ _ _ 0 [_, _, zU, zU, zU] [] 0 0 _
  refine zr_iload_n dX5_total_0 rfl ?_
  refine zr_iconst (v := nI 0) dX5_total_1 rfl ?_
  refine zr_iconst (v := nI 3) dX5_total_2 rfl ?_
  refine zr_cSN3 rfl dX5_total_3 cv_5_62 (Nat.le_of_ble_eq_true rfl) (within_ok (lo := 0) (hi := 3) ?_)
  refine zr_if_neB (tgt := 12) dX5_total_6 (by decide) (fun hc_6 => ?_) (fun hc_6 => ?_)
  · rw [hc_6, qa_t] at hk
    obtain ⟨p, p1, p2, rfl⟩ := sin_of (a := 0) (b := 3) hc_6 rfl rfl (by decide) (by decide)
    rw [hN_nI (show p < 2 ^ 31 by omega)] at hk
    refine zr_iconst (v := nI 0) dX5_total_12 rfl ?_
    refine zr_istore_n dX5_total_13 (by decide) rfl ?_
    dsimp only [zset]
    refine zr_iconst (v := nI 0) dX5_total_14 rfl ?_
    refine zr_istore_n dX5_total_15 (by decide) rfl ?_
    dsimp only [zset]
    exact loop p p2 hk _ 0 _ (Nat.lt_succ_self _) (Nat.zero_le _)
  · rw [hc_6, qa_f] at hk
    refine zr_bipush (v := -2) dX5_total_9 rfl ?_
    refine zr_ireturn dX5_total_11 rfl (Nat.le_refl _) (Nat.le_refl _) ?_
    exact hk
end
