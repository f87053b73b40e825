/-! ===== the class: goodbyes ===== -/
section
variable {d : Nat} {Q : Value → zM → Prop} {m m' : zM} {L h i b : Nat} {s : sS} {rc : sR}
theorem LisRecord_ok {a c : Int32} (hL : LK m L s) (hk : Q (.int (bI (sisR s a c))) m) : zC (d + 2) M5_isRecord 0 0 [.ref L, .int a, .int c] m Q := by
  have n6 := hL.n6
  unfold sisR at hk
  refine zenterP (Or.inl (by decide +kernel)) rfl (fun h => by cases h) (Nat.le_of_ble_eq_true rfl) ?_
  show zwp _ _ _ _ _ 0 [_, _, _] [] 0 0 _
  refine zr_aload_n dX5_isRecord_0 rfl ?_
  refine zr_iload_n dX5_isRecord_1 rfl ?_
  refine zr_cV1 rfl dX5_isRecord_2 cv_5_55 (hL.1.ob rfl) (Nat.le_of_ble_eq_true rfl) (LisHost_ok hL ?_)
  refine zr_if_eqB (tgt := 29) dX5_isRecord_5 (by decide) (fun hc_5 => ?_) (fun hc_5 => ?_)
  · rw [hc_5, Bool.false_and] at hk
    refine zr_iconst (v := bI false) dX5_isRecord_29 rfl ?_
    refine zr_zreturnB dX5_isRecord_30 rfl (Nat.le_refl _) (Nat.le_refl _) ?_
    exact hk
  · obtain ⟨i, i1, rfl⟩ := sisH_of n6 hc_5
    have hH := hL.hc i1
    rw [nI_clamp (show i < 2 ^ 31 by omega), hc_5, Bool.true_and] at hk
    refine zr_iload_n dX5_isRecord_8 rfl ?_
    refine zr_if_lt (tgt := 29) dX5_isRecord_9 (by decide) (fun hc_9 => ?_) (fun hc_9 => ?_)
    · have e : (decide (0 ≤ c) && decide (c < nI (s.2.2.2 i).2.2.1.length)) = false := by rw [decide_eq_false (Int32.not_le.mpr hc_9)]; rfl
      rw [e] at hk
      refine zr_iconst (v := bI false) dX5_isRecord_29 rfl ?_
      refine zr_zreturnB dX5_isRecord_30 rfl (Nat.le_refl _) (Nat.le_refl _) ?_
      exact hk
    · refine zr_iload_n dX5_isRecord_12 rfl ?_
      refine zr_aload_n dX5_isRecord_13 rfl ?_
      refine zr_getR dX5_isRecord_14 fd_5_11 rfl (hL.1.ob rfl) hL.r0 (by omega) ?_
      refine zr_iload_n dX5_isRecord_17 rfl ?_
      refine zr_aaloadN dX5_isRecord_18 (hL.1.ar rfl) (by decide) (by decide) (by omega) (by decide) (hL.rh (by omega)) (by unfold hb; omega) ?_
      refine zr_getI dX5_isRecord_19 fd_5_59 rfl (hH.ob rfl) ?_
      rw [hH.cn]
      refine zr_icmp_ge (tgt := 29) dX5_isRecord_22 (by decide) (fun hc_22 => ?_) (fun hc_22 => ?_)
      · have e : (decide (0 ≤ c) && decide (c < nI (s.2.2.2 i).2.2.1.length)) = false := by rw [decide_eq_false (Int32.not_lt.mpr hc_22), Bool.and_false]
        rw [e] at hk
        refine zr_iconst (v := bI false) dX5_isRecord_29 rfl ?_
        refine zr_zreturnB dX5_isRecord_30 rfl (Nat.le_refl _) (Nat.le_refl _) ?_
        exact hk
      · have e : (decide (0 ≤ c) && decide (c < nI (s.2.2.2 i).2.2.1.length)) = true := by rw [decide_eq_true (Int32.not_lt.mp hc_9), decide_eq_true (Int32.not_le.mp hc_22)]; rfl
        rw [e] at hk
        refine zr_iconst (v := bI true) dX5_isRecord_25 rfl ?_
        refine zr_goto (tgt := 30) dX5_isRecord_26 (by decide) ?_
        refine zr_zreturnB dX5_isRecord_30 rfl (Nat.le_refl _) (Nat.le_refl _) ?_
        exact hk
theorem cbye_0 : sbyeN s rc 0 = s := sS_ext rfl rfl rfl (fun h => by simp [sbyeN])
theorem cbye_s : sbyeN s rc (h + 1) = shst (sbyeN s rc h) h (sbye (s.1 1) rc (s.2.2.2 h)) := by
  refine sS_ext rfl rfl rfl (fun j => ?_)
  show (if j < h + 1 then sbye (s.1 1) rc (s.2.2.2 j) else s.2.2.2 j) = fu (fun j => if j < h then sbye (s.1 1) rc (s.2.2.2 j) else s.2.2.2 j) h (sbye (s.1 1) rc (s.2.2.2 h)) j
  by_cases e : j = h
  · subst e; rw [fu_s, if_pos (by omega)]
  · rw [fu_n _ _ e]
    by_cases e2 : j < h
    · rw [if_pos e2, if_pos (by omega)]
    · rw [if_neg e2, if_neg (by omega)]
theorem cbye_at : (sbyeN s rc h).2.2.2 h = s.2.2.2 h := by show (if h < h then _ else _) = _; rw [if_neg (by omega)]
theorem sbye_recs {x : sH} {t : Int32} : (sbye t rc x).2.2.1 = x.2.2.1 := by unfold sbye; split <;> rfl
theorem bye_58 {x1 x2 : Int32} (hs : sOK s) (hz : rz L b) (hk : ∀ m', LK m' L (sbyeN s rc s.2.2.1) → zout L (L + 92) m m' → ∀ t4, zwp (d + 3) M5_sayGoodbye 0 0 Q 106 [.ref L, .int x1, .int x2, .ref b, t4] [] 0 0 m') : ∀ c i m1, s.2.2.1 - i < c → i ≤ s.2.2.1 → LK m1 L (sbyeN s rc i) → RCl m1 b rc → zout L (L + 92) m m1 →
    zwp (d + 3) M5_sayGoodbye 0 0 Q 58 [.ref L, .int x1, .int x2, .ref b, .int (nI i)] [] 0 0 m1 := by
  intro c
  induction c with
  | zero => intro i m1 h1; omega
  | succ c ih =>
    intro i m1 h1 h2 hL hR ho
    have n6 : s.2.2.1 ≤ 6 := hL.n6
    have hnh : zI m1 L 2 = nI s.2.2.1 := hL.nh
    have htm : zI m1 L 3 = s.1 1 := hL.2.1.2.1
    have hH : i < s.2.2.1 → HC m1 (hb L i) (s.2.2.2 i) := fun hi => by
      have := hL.hc (h := i) hi
      rw [cbye_at] at this
      exact this
    refine zr_iload dX5_sayGoodbye_58 rfl ?_
    refine zr_aload_n dX5_sayGoodbye_60 rfl ?_
    refine zr_getI dX5_sayGoodbye_61 fd_5_25 rfl (hL.1.ob rfl) ?_
    rw [hnh]
    refine zr_icmp_geN (tgt := 106) dX5_sayGoodbye_64 (by decide) (by omega) (by omega) (fun hc_64 => ?_) (fun hc_64 => ?_)
    · have e : i = s.2.2.1 := by omega
      subst e
      exact hk m1 hL ho _
    · refine zr_aload_n dX5_sayGoodbye_67 rfl ?_
      refine zr_getR dX5_sayGoodbye_68 fd_5_11 rfl (hL.1.ob rfl) hL.r0 (by omega) ?_
      refine zr_iload dX5_sayGoodbye_71 rfl ?_
      refine zr_aaloadN dX5_sayGoodbye_73 (hL.1.ar rfl) (by decide) (by decide) (by omega) (by decide) (hL.rh (by omega)) (by unfold hb; omega) ?_
      refine zr_getI dX5_sayGoodbye_74 fd_5_94 rfl ((hH hc_64).ob rfl) ?_
      rw [(hH hc_64).aw]
      refine zr_if_eq (tgt := 100) dX5_sayGoodbye_77 (by decide) (fun hc_77 => ?_) (fun hc_77 => ?_)
      · have e : LK m1 L (sbyeN s rc (i + 1)) := by
          rw [cbye_s]
          have e1 : sbye (s.1 1) rc (s.2.2.2 i) = s.2.2.2 i := by unfold sbye; rw [if_neg (by simp [sawk, hc_77])]
          rw [e1]
          have e2 := shst_id (s := sbyeN s rc i) (h := i)
          rw [cbye_at] at e2
          rw [e2]
          exact hL
        refine zr_iincN dX5_sayGoodbye_100 rfl (by decide) rfl ?_
        dsimp only [zset]
        refine zr_goto (tgt := 58) dX5_sayGoodbye_103 (by decide) ?_
        first
        | exact ih (i + 1) m1 (by omega) (by omega) e hR ho
        | (have hL2 := hL.host (h := i) hc_64 (o2.wd (by omega) (by omega)) ((hH hc_64).cache o2 c2)
           rw [← e1, ← cbye_s] at hL2
           exact ih (i + 1) m2 (by omega) (by omega) hL2 (hR.out o2 (rz_off hz (by omega))) (ho.tr (o2.wd (by omega) (by omega))))
        | fail "none"
      · have e1 : sbye (s.1 1) rc (s.2.2.2 i) = ((s.2.2.2 i).1, (s.2.2.2 i).2.1, (s.2.2.2 i).2.2.1, (s.2.2.2 i).2.2.2.map (fun e => if ssame e rc then sshort (s.1 1) e else e)) := by
          have haw := ((hs.2 i hc_64).1).resolve_left hc_77
          unfold sbye
          rw [if_pos (by simp [sawk, haw])]
        have hi := hb_in (L := L) (h := i) (by omega)
        refine zr_aload_n dX5_sayGoodbye_80 rfl ?_
        refine zr_getR dX5_sayGoodbye_81 fd_5_11 rfl (hL.1.ob rfl) hL.r0 (by omega) ?_
        refine zr_iload dX5_sayGoodbye_84 rfl ?_
        refine zr_aaloadN dX5_sayGoodbye_86 (hL.1.ar rfl) (by decide) (by decide) (by omega) (by decide) (hL.rh (by omega)) (by unfold hb; omega) ?_
        refine zr_getR dX5_sayGoodbye_87 fd_5_111 rfl ((hH hc_64).ob rfl) (hH hc_64).r1 (by omega) ?_
        refine zr_aload_n dX5_sayGoodbye_90 rfl ?_
        refine zr_aload_n dX5_sayGoodbye_91 rfl ?_
        refine zr_getI dX5_sayGoodbye_92 fd_5_33 rfl (hL.1.ob rfl) ?_
        rw [htm]
        refine zr_iconst (v := nI 1) dX5_sayGoodbye_95 rfl ?_
        refine zr_iadd dX5_sayGoodbye_96 ?_
        refine zr_cV2v rfl dX5_sayGoodbye_97 cv_5_115 ((hH hc_64).cc.ob rfl) (Nat.le_of_ble_eq_true rfl) (endOf_ok (hH hc_64).cc (hs.2 i hc_64).2.2.2.2.2.2 hR (fun m2 c2 o2 => ?_))
        refine zr_iincN dX5_sayGoodbye_100 rfl (by decide) rfl ?_
        dsimp only [zset]
        refine zr_goto (tgt := 58) dX5_sayGoodbye_103 (by decide) ?_
        first
        | exact ih (i + 1) m1 (by omega) (by omega) e hR ho
        | (have hL2 := hL.host (h := i) hc_64 (o2.wd (by omega) (by omega)) ((hH hc_64).cache o2 c2)
           rw [← e1, ← cbye_s] at hL2
           exact ih (i + 1) m2 (by omega) (by omega) hL2 (hR.out o2 (rz_off hz (by omega))) (ho.tr (o2.wd (by omega) (by omega))))
        | fail "none"
end
