/-! ===== the class: sleeping and waking ===== -/
section
variable {d : Nat} {Q : Value → zM → Prop} {m m' : zM} {L h i : Nat} {s : sS}
theorem fallAsleep_ok {a b : Int32} (hL : LK m L s) (hs : sOK s) (hno : oc (nI 122) (xs [a, b]) s < 0 → Q (.int (oc (nI 122) (xs [a, b]) s)) m) (hyes : oc (nI 122) (xs [a, b]) s = 0 → ∀ m', LK m' L (od (nI 122) (xs [a, b]) s).2 → zout L (L + 94) m m' → Q (.int (od (nI 122) (xs [a, b]) s).1) m') : zC (d + 3) M5_fallAsleep 0 0 [.ref L, .int a, .int b] m Q := by
  have n6 := hL.n6
  have eo : oc (nI 122) (xs [a, b]) s = scanSleep s a b := rfl
  rw [eo] at hno hyes
  have go : ∀ i, a = nI i → i < s.2.2.1 → scanSleep s a b = 0 → zwp (d + 3) M5_fallAsleep 0 0 Q 64 [.ref L, .int (nI i), .int b] [] 0 0 m := by
    intro i ei i1 e0
    have hyes := hyes e0
    subst ei
    rw [od_z] at hyes
    dsimp only [xs, List.getD, List.getElem?_cons_zero, List.getElem?_cons_succ, Option.getD_some] at hyes
    rw [hN_nI (show i < 2 ^ 31 by omega)] at hyes
    have hH := hL.hc i1
    have hi := hb_in (L := L) (h := i) (by omega)
    have hH2 := (hH.awake (nI 0)).proxy b
    have hL2 := hL.host i1 ((zout.sI (by omega) (by omega)).tr (zout.sI (by omega) (by omega))) hH2
    refine zr_aload_n dX5_fallAsleep_64 rfl ?_
    refine zr_getR dX5_fallAsleep_65 fd_5_11 rfl (hL.1.ob rfl) hL.r0 (by omega) ?_
    refine zr_iload_n dX5_fallAsleep_68 rfl ?_
    refine zr_aaloadN dX5_fallAsleep_69 (hL.1.ar rfl) (by decide) (by decide) (by omega) (by decide) (hL.rh (by omega)) (by unfold hb; omega) ?_
    refine zr_iconst (v := nI 0) dX5_fallAsleep_70 rfl ?_
    refine zr_putZ dX5_fallAsleep_71 fd_5_94 rfl (hH.ob rfl) (by first | exact Or.inl rfl | exact Or.inr rfl | exact bI_01 _) ?_
    refine zr_aload_n dX5_fallAsleep_74 rfl ?_
    refine zr_getR dX5_fallAsleep_75 fd_5_11 rfl (hL.1.ob rfl) hL.r0 (by omega) ?_
    refine zr_iload_n dX5_fallAsleep_78 rfl ?_
    refine zr_aaloadN dX5_fallAsleep_79 (hL.1.ar rfl) (by decide) (by decide) (by omega) (by decide) (hL.rh (by omega)) (by unfold hb; omega) ?_
    refine zr_iload_n dX5_fallAsleep_80 rfl ?_
    refine zr_putI dX5_fallAsleep_81 fd_5_136 rfl (hH.ob rfl) ?_
    refine zr_aload_n dX5_fallAsleep_84 rfl ?_
    refine zr_getR dX5_fallAsleep_85 fd_5_11 rfl (hL.1.ob rfl) hL.r0 (by omega) ?_
    refine zr_iload_n dX5_fallAsleep_88 rfl ?_
    refine zr_aaloadN dX5_fallAsleep_89 (hL.1.ar rfl) (by decide) (by decide) (by omega) (by decide) (hL.rh (by omega)) (by unfold hb; omega) ?_
    refine zr_cV0 rfl dX5_fallAsleep_90 cv_5_200 (hH.ob rfl) (Nat.le_of_ble_eq_true rfl) (ownedCount_ok hH2 ?_)
    refine zr_ireturn dX5_fallAsleep_93 rfl (Nat.le_refl _) (Nat.le_refl _) ?_
    exact hyes _ hL2 ((zout.sI (by omega) (by omega)).tr (zout.sI (by omega) (by omega)))
  have J : (b = -1 ∨ sisH s b = true) → sisH s a = true → ¬ b = a → zwp (d + 3) M5_fallAsleep 0 0 Q 29 [.ref L, .int a, .int b] [] 0 0 m := by
    intro j1 j2 j3
    obtain ⟨i, i1, ei⟩ := sisH_of n6 j2
    have hH := hL.hc i1
    have e1 : scanSleep s a b = if (!sawk (s.2.2.2 i) || (b != -1 && !sawk (s.2.2.2 (hN b)))) = true then -3 else 0 := by
      unfold scanSleep
      rw [if_neg, show a.toNatClampNeg = i by rw [ei]; exact nI_clamp (by omega)]
      · rfl
      · rw [j2]
        rcases j1 with z | z
        · rw [z] at j3 ⊢
          simp [j3]
        · rw [z]
          simp [j3]
    rw [ei]
    refine zr_aload_n dX5_fallAsleep_29 rfl ?_
    refine zr_getR dX5_fallAsleep_30 fd_5_11 rfl (hL.1.ob rfl) hL.r0 (by omega) ?_
    refine zr_iload_n dX5_fallAsleep_33 rfl ?_
    refine zr_aaloadN dX5_fallAsleep_34 (hL.1.ar rfl) (by decide) (by decide) (by omega) (by decide) (hL.rh (by omega)) (by unfold hb; omega) ?_
    refine zr_getI dX5_fallAsleep_35 fd_5_94 rfl (hH.ob rfl) ?_
    rw [hH.aw]
    refine zr_if_eq (tgt := 61) dX5_fallAsleep_38 (by decide) (fun hc_38 => ?_) (fun hc_38 => ?_)
    · rw [if_pos (by simp [sawk, hc_38])] at e1
      refine zr_bipush (v := -3) dX5_fallAsleep_61 rfl ?_
      refine zr_ireturn dX5_fallAsleep_63 rfl (Nat.le_refl _) (Nat.le_refl _) ?_
      rw [e1] at hno
      exact hno (by decide)
    · have haw : sawk (s.2.2.2 i) = true := by
        have := ((hs.2 i i1).1).resolve_left hc_38
        simp [sawk, this]
      rw [haw, Bool.not_true, Bool.false_or] at e1
      refine zr_aload_n dX5_fallAsleep_41 rfl ?_
      refine zr_iload_n dX5_fallAsleep_42 rfl ?_
      refine zr_cV1 rfl dX5_fallAsleep_43 cv_5_55 (hL.1.ob rfl) (Nat.le_of_ble_eq_true rfl) (LisHost_ok hL ?_)
      refine zr_if_eqB (tgt := 64) dX5_fallAsleep_46 (by decide) (fun hc_46 => ?_) (fun hc_46 => ?_)
      · have hb1 : b = -1 := j1.resolve_right (by rw [hc_46]; decide)
        rw [if_neg (by rw [hb1]; simp)] at e1
        exact go i ei i1 e1
      · obtain ⟨p, p1, ep⟩ := sisH_of n6 hc_46
        have hP := hL.hc p1
        have hbn : (b != -1) = true := by rw [ep]; simp [nI_ne_m1 (show p < 2 ^ 31 by omega)]
        rw [hbn, Bool.true_and, show hN b = p by rw [ep]; exact hN_nI (by omega)] at e1
        refine zr_aload_n dX5_fallAsleep_49 rfl ?_
        refine zr_getR dX5_fallAsleep_50 fd_5_11 rfl (hL.1.ob rfl) hL.r0 (by omega) ?_
        refine zr_iload_n dX5_fallAsleep_53 rfl ?_
        rw [ep]
        refine zr_aaloadN dX5_fallAsleep_54 (hL.1.ar rfl) (by decide) (by decide) (by omega) (by decide) (hL.rh (by omega)) (by unfold hb; omega) ?_
        refine zr_getI dX5_fallAsleep_55 fd_5_94 rfl (hP.ob rfl) ?_
        rw [hP.aw]
        refine zr_if_ne (tgt := 64) dX5_fallAsleep_58 (by decide) (fun hc_58 => ?_) (fun hc_58 => ?_)
        · rw [if_neg (by have := ((hs.2 p p1).1).resolve_left hc_58; simp [sawk, this])] at e1
          rw [← ep]
          exact go i ei i1 e1
        · rw [if_pos (by simp [sawk, hc_58])] at e1
          refine zr_bipush (v := -3) dX5_fallAsleep_61 rfl ?_
          refine zr_ireturn dX5_fallAsleep_63 rfl (Nat.le_refl _) (Nat.le_refl _) ?_
          rw [e1] at hno
          exact hno (by decide)
  refine zenterP (Or.inl (by decide +kernel)) rfl (fun h => by cases h) (Nat.le_of_ble_eq_true rfl) ?_
  show zwp _ _ _ _ _ 0 [_, _, _] [] 0 0 _
  refine zr_aload_n dX5_fallAsleep_0 rfl ?_
  refine zr_iload_n dX5_fallAsleep_1 rfl ?_
  refine zr_cV1 rfl dX5_fallAsleep_2 cv_5_55 (hL.1.ob rfl) (Nat.le_of_ble_eq_true rfl) (LisHost_ok hL ?_)
  refine zr_if_eqB (tgt := 26) dX5_fallAsleep_5 (by decide) (fun hc_5 => ?_) (fun hc_5 => ?_)
  · have e : scanSleep s a b = -2 := by unfold scanSleep; rw [if_pos (by rw [hc_5]; rfl)]
    refine zr_bipush (v := -2) dX5_fallAsleep_26 rfl ?_
    refine zr_ireturn dX5_fallAsleep_28 rfl (Nat.le_refl _) (Nat.le_refl _) ?_
    rw [e] at hno
    exact hno (by decide)
  · refine zr_iload_n dX5_fallAsleep_8 rfl ?_
    refine zr_iload_n dX5_fallAsleep_9 rfl ?_
    refine zr_icmp_eq (tgt := 26) dX5_fallAsleep_10 (by decide) (fun hc_10 => ?_) (fun hc_10 => ?_)
    · have e : scanSleep s a b = -2 := by unfold scanSleep; rw [if_pos (by simp [hc_10])]
      refine zr_bipush (v := -2) dX5_fallAsleep_26 rfl ?_
      refine zr_ireturn dX5_fallAsleep_28 rfl (Nat.le_refl _) (Nat.le_refl _) ?_
      rw [e] at hno
      exact hno (by decide)
    · refine zr_iload_n dX5_fallAsleep_13 rfl ?_
      refine zr_iconst (v := -1) dX5_fallAsleep_14 rfl ?_
      refine zr_icmp_eq (tgt := 29) dX5_fallAsleep_15 (by decide) (fun hc_15 => ?_) (fun hc_15 => ?_)
      · first
        | exact J (Or.inl hc_15) hc_5 hc_10
        | exact J (Or.inr hc_23) hc_5 hc_10
        | fail "none"
      · refine zr_aload_n dX5_fallAsleep_18 rfl ?_
        refine zr_iload_n dX5_fallAsleep_19 rfl ?_
        refine zr_cV1 rfl dX5_fallAsleep_20 cv_5_55 (hL.1.ob rfl) (Nat.le_of_ble_eq_true rfl) (LisHost_ok hL ?_)
        refine zr_if_neB (tgt := 29) dX5_fallAsleep_23 (by decide) (fun hc_23 => ?_) (fun hc_23 => ?_)
        · first
          | exact J (Or.inl hc_15) hc_5 hc_10
          | exact J (Or.inr hc_23) hc_5 hc_10
          | fail "none"
        · have e : scanSleep s a b = -2 := by unfold scanSleep; rw [if_pos (by have : (b != -1) = true := (by simpa using hc_15); rw [hc_23, this]; simp)]
          refine zr_bipush (v := -2) dX5_fallAsleep_26 rfl ?_
          refine zr_ireturn dX5_fallAsleep_28 rfl (Nat.le_refl _) (Nat.le_refl _) ?_
          rw [e] at hno
          exact hno (by decide)
end
