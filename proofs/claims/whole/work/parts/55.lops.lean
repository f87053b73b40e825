/-! ===== the class: hosts come, records are added ===== -/
section
variable {d : Nat} {Q : Value → zM → Prop} {m m' : zM} {L h : Nat} {s : sS} {x : Nat → Int32}
theorem addHost_ok (hL : LK m L s) (hno : oc (nI 104) x s < 0 → Q (.int (oc (nI 104) x s)) m) (hyes : oc (nI 104) x s = 0 → ∀ m', LK m' L (od (nI 104) x s).2 → zout L (L + 94) m m' → Q (.int (od (nI 104) x s).1) m') : zC (d + 2) M5_addHost 0 0 [.ref L] m Q := by
  have n6 := hL.n6
  rw [oc_h, od_h] at *
  unfold scanHost at *
  refine zenterP (Or.inl (by decide +kernel)) rfl (fun h => by cases h) (Nat.le_of_ble_eq_true rfl) ?_
  show zwp _ _ _ _ _ 0 [_] [] 0 0 _
  refine zr_aload_n dX5_addHost_0 rfl ?_
  refine zr_getI dX5_addHost_1 fd_5_25 rfl (hL.1.ob rfl) ?_
  rw [hL.nh]
  refine zr_bipush (v := nI 6) dX5_addHost_4 rfl ?_
  refine zr_icmp_ltN (tgt := 12) dX5_addHost_6 (by decide) (by omega) (by omega) (fun hc_6 => ?_) (fun hc_6 => ?_)
  · rw [if_neg (show ¬ s.2.2.1 = 6 by omega)] at hyes
    obtain ⟨x0, hH⟩ := hL.2.2.2.1 s.2.2.1 hc_6
    refine zr_aload_n dX5_addHost_12 rfl ?_
    refine zr_getR dX5_addHost_13 fd_5_11 rfl (hL.1.ob rfl) hL.r0 (by omega) ?_
    refine zr_aload_n dX5_addHost_16 rfl ?_
    refine zr_getI dX5_addHost_17 fd_5_25 rfl (hL.1.ob rfl) ?_
    rw [hL.nh]
    refine zr_aaloadN dX5_addHost_20 (hL.1.ar rfl) (by decide) (by decide) (by omega) (by decide) (hL.rh hc_6) (by unfold hb; omega) ?_
    refine zr_cV0v rfl dX5_addHost_21 cv_5_66 (hH.ob rfl) (Nat.le_of_ble_eq_true rfl) (begin_ok hH (fun m1 h1 o1 => ?_))
    have hi := hb_in (L := L) hc_6
    have hl1 : zI m1 L 2 = nI s.2.2.1 := by rw [o1.I (by omega), hL.nh]
    refine zr_aload_n dX5_addHost_24 rfl ?_
    refine zr_dup dX5_addHost_25 rfl ?_
    refine zr_getI dX5_addHost_26 fd_5_25 rfl (hL.1.ob o1.1) ?_
    rw [hl1]
    refine zr_iconst (v := nI 1) dX5_addHost_29 rfl ?_
    refine zr_iaddN dX5_addHost_30 ?_
    refine zr_putI dX5_addHost_31 fd_5_25 rfl (hL.1.ob o1.1) ?_
    refine zr_aload_n dX5_addHost_34 rfl ?_
    refine zr_getI dX5_addHost_35 fd_5_25 rfl (hL.1.ob o1.1) ?_
    rw [zI_s]
    refine zr_iconst (v := nI 1) dX5_addHost_38 rfl ?_
    refine zr_isubN dX5_addHost_39 (by omega) ?_
    refine zr_ireturn dX5_addHost_40 rfl (Nat.le_refl _) (Nat.le_refl _) ?_
    refine hyes rfl _ ?_ ((o1.wd (by omega) (by omega)).tr (zout.sI (by omega) (by omega)))
    obtain ⟨g1, ⟨k1, k2, k3, k4, k5, k6, k7, k8⟩, g3, g4, g5⟩ := hL
    have ho : zout L (L + 1) m1 (zsI m1 L 2 (nI (s.2.2.1 + 1))) := zout.sI (by omega) (by omega)
    refine ⟨g1.of o1.1 (o1.R (by omega)) (o1.R (by omega)) (o1.R (by omega)), ?_, show s.2.2.1 + 1 ≤ 6 by omega, fun k hk => ?_, fun k hk => ?_⟩
    · refine ⟨zI_s _ _ _ _, ?_, ?_, ?_, ?_, ?_, ?_, ?_⟩
      · rw [zI_n _ _ (Or.inr (by decide)), o1.I (by omega)]; exact k2
      · rw [zI_n _ _ (Or.inr (by decide)), o1.I (by omega)]; exact k3
      · rw [zI_n _ _ (Or.inr (by decide)), o1.I (by omega)]; exact k4
      · rw [zI_n _ _ (Or.inr (by decide)), o1.I (by omega)]; exact k5
      · rw [zI_n _ _ (Or.inr (by decide)), o1.I (by omega)]; exact k6
      · rw [zI_n _ _ (Or.inr (by decide)), o1.I (by omega)]; exact k7
      · show zF m1 L 9 = _
        rw [(o1.2 L (by omega)).2.2.2]; exact k8
    · have hk2 := hb_in (L := L) hk
      by_cases e : k = s.2.2.1
      · subst e; exact ⟨_, h1.out ho (by omega)⟩
      · obtain ⟨y, hy⟩ := g4 k hk
        exact ⟨y, (hy.out o1 (hb_ne e)).out ho (by omega)⟩
    · have hk1 : k < s.2.2.1 + 1 := hk
      have hk2 := hb_in (L := L) (h := k) (by omega)
      show HC _ (hb L k) (fu s.2.2.2 s.2.2.1 (1, -1, [], []) k)
      by_cases e : k = s.2.2.1
      · subst e; rw [fu_s]; exact h1.out ho (by omega)
      · rw [fu_n _ _ e]
        exact ((g5 k (by omega)).out o1 (hb_ne e)).out ho (by omega)
  · rw [if_pos (show s.2.2.1 = 6 by omega)] at hno
    refine zr_bipush (v := -4) dX5_addHost_9 rfl ?_
    refine zr_ireturn dX5_addHost_11 rfl (Nat.le_refl _) (Nat.le_refl _) ?_
    exact hno (by decide)
theorem errorOf_ok {a b c q l : Int32} (hL : LK m L s) (hs : sOK s) (hk : Q (.int (scanRecord s a b c q l)) m) : zC (d + 3) M5_errorOfAdding 0 0 [.ref L, .int a, .int b, .int c, .int q, .int l] m Q := by
  have n6 := hL.n6
  unfold scanRecord at hk
  refine zenterP (Or.inl (by decide +kernel)) rfl (fun h => by cases h) (Nat.le_of_ble_eq_true rfl) ?_
  show zwp _ _ _ _ _ 0 [_, _, _, _, _, _] [] 0 0 _
  refine zr_aload_n dX5_errorOfAdding_0 rfl ?_
  refine zr_iload_n dX5_errorOfAdding_1 rfl ?_
  refine zr_cV1 rfl dX5_errorOfAdding_2 cv_5_55 (hL.1.ob rfl) (Nat.le_of_ble_eq_true rfl) (LisHost_ok hL ?_)
  refine zr_if_eqB (tgt := 39) dX5_errorOfAdding_5 (by decide) (fun hc_5 => ?_) (fun hc_5 => ?_)
  · rw [if_pos (by rw [hc_5]; rfl)] at hk
    refine zr_bipush (v := -2) dX5_errorOfAdding_39 rfl ?_
    refine zr_ireturn dX5_errorOfAdding_41 rfl (Nat.le_refl _) (Nat.le_refl _) ?_
    exact hk
  · refine zr_iload_n dX5_errorOfAdding_8 rfl ?_
    refine zr_iload_n dX5_errorOfAdding_9 rfl ?_
    refine zr_cS2 rfl dX5_errorOfAdding_10 cv_5_90 (Nat.le_of_ble_eq_true rfl) (LisName_ok ?_)
    refine zr_if_eqB (tgt := 39) dX5_errorOfAdding_13 (by decide) (fun hc_13 => ?_) (fun hc_13 => ?_)
    · rw [if_pos (by rw [hc_13]; simp)] at hk
      refine zr_bipush (v := -2) dX5_errorOfAdding_39 rfl ?_
      refine zr_ireturn dX5_errorOfAdding_41 rfl (Nat.le_refl _) (Nat.le_refl _) ?_
      exact hk
    · refine zr_iload dX5_errorOfAdding_16 rfl ?_
      refine zr_iconst (v := nI 0) dX5_errorOfAdding_18 rfl ?_
      refine zr_sipush (v := nI 255) dX5_errorOfAdding_19 rfl ?_
      refine zr_cSN3 rfl dX5_errorOfAdding_22 cv_5_62 (Nat.le_of_ble_eq_true rfl) (within_ok ?_)
      refine zr_if_eqB (tgt := 39) dX5_errorOfAdding_25 (by decide) (fun hc_25 => ?_) (fun hc_25 => ?_)
      · rw [if_pos (by have : sin q 0 255 = false := hc_25; rw [this]; simp)] at hk
        refine zr_bipush (v := -2) dX5_errorOfAdding_39 rfl ?_
        refine zr_ireturn dX5_errorOfAdding_41 rfl (Nat.le_refl _) (Nat.le_refl _) ?_
        exact hk
      · refine zr_iload dX5_errorOfAdding_28 rfl ?_
        refine zr_iconst (v := nI 2) dX5_errorOfAdding_30 rfl ?_
        refine zr_bipush (v := nI 60) dX5_errorOfAdding_31 rfl ?_
        refine zr_cSN3 rfl dX5_errorOfAdding_33 cv_5_62 (Nat.le_of_ble_eq_true rfl) (within_ok ?_)
        refine zr_if_neB (tgt := 42) dX5_errorOfAdding_36 (by decide) (fun hc_36 => ?_) (fun hc_36 => ?_)
        · rw [if_neg (by have h1 : sin q 0 255 = true := hc_25; have h2 : sin l 2 60 = true := hc_36; rw [hc_5, hc_13, h1, h2]; decide)] at hk
          obtain ⟨i, i1, rfl⟩ := sisH_of n6 hc_5
          rw [nI_clamp (show i < 2 ^ 31 by omega)] at hk
          have hH := hL.hc i1
          have h5 := hH.c5
          refine zr_aload_n dX5_errorOfAdding_42 rfl ?_
          refine zr_getR dX5_errorOfAdding_43 fd_5_11 rfl (hL.1.ob rfl) hL.r0 (by omega) ?_
          refine zr_iload_n dX5_errorOfAdding_46 rfl ?_
          refine zr_aaloadN dX5_errorOfAdding_47 (hL.1.ar rfl) (by decide) (by decide) (by omega) (by decide) (hL.rh (by omega)) (by unfold hb; omega) ?_
          refine zr_getI dX5_errorOfAdding_48 fd_5_94 rfl (hH.ob rfl) ?_
          rw [hH.aw]
          refine zr_if_eq (tgt := 68) dX5_errorOfAdding_51 (by decide) (fun hc_51 => ?_) (fun hc_51 => ?_)
          · rw [if_pos (by simp [sawk, hc_51])] at hk
            refine zr_bipush (v := -3) dX5_errorOfAdding_68 rfl ?_
            refine zr_ireturn dX5_errorOfAdding_70 rfl (Nat.le_refl _) (Nat.le_refl _) ?_
            exact hk
          · refine zr_aload_n dX5_errorOfAdding_54 rfl ?_
            refine zr_getR dX5_errorOfAdding_55 fd_5_11 rfl (hL.1.ob rfl) hL.r0 (by omega) ?_
            refine zr_iload_n dX5_errorOfAdding_58 rfl ?_
            refine zr_aaloadN dX5_errorOfAdding_59 (hL.1.ar rfl) (by decide) (by decide) (by omega) (by decide) (hL.rh (by omega)) (by unfold hb; omega) ?_
            refine zr_iload_n dX5_errorOfAdding_60 rfl ?_
            refine zr_iload_n dX5_errorOfAdding_61 rfl ?_
            refine zr_cV2 rfl dX5_errorOfAdding_62 cv_5_97 (hH.ob rfl) (Nat.le_of_ble_eq_true rfl) (hasNamed_ok hH ?_)
            refine zr_if_eqB (tgt := 71) dX5_errorOfAdding_65 (by decide) (fun hc_65 => ?_) (fun hc_65 => ?_)
            · rw [if_neg (by have := ((hs.2 i i1).1).resolve_left hc_51; rw [hc_65]; simp [sawk, this])] at hk
              refine zr_aload_n dX5_errorOfAdding_71 rfl ?_
              refine zr_getR dX5_errorOfAdding_72 fd_5_11 rfl (hL.1.ob rfl) hL.r0 (by omega) ?_
              refine zr_iload_n dX5_errorOfAdding_75 rfl ?_
              refine zr_aaloadN dX5_errorOfAdding_76 (hL.1.ar rfl) (by decide) (by decide) (by omega) (by decide) (hL.rh (by omega)) (by unfold hb; omega) ?_
              refine zr_getI dX5_errorOfAdding_77 fd_5_59 rfl (hH.ob rfl) ?_
              rw [hH.cn]
              refine zr_iconst (v := nI 5) dX5_errorOfAdding_80 rfl ?_
              refine zr_icmp_ltN (tgt := 89) dX5_errorOfAdding_81 (by decide) (by omega) (by omega) (fun hc_81 => ?_) (fun hc_81 => ?_)
              · rw [if_neg (show ¬ (s.2.2.2 i).2.2.1.length = 5 by omega)] at hk
                refine zr_iconst (v := nI 0) dX5_errorOfAdding_89 rfl ?_
                refine zr_ireturn dX5_errorOfAdding_90 rfl (Nat.le_refl _) (Nat.le_refl _) ?_
                exact hk
              · rw [if_pos (show (s.2.2.2 i).2.2.1.length = 5 by omega)] at hk
                refine zr_bipush (v := -4) dX5_errorOfAdding_84 rfl ?_
                refine zr_goto (tgt := 90) dX5_errorOfAdding_86 (by decide) ?_
                refine zr_ireturn dX5_errorOfAdding_90 rfl (Nat.le_refl _) (Nat.le_refl _) ?_
                exact hk
            · rw [if_pos (by rw [hc_65, Bool.or_true])] at hk
              refine zr_bipush (v := -3) dX5_errorOfAdding_68 rfl ?_
              refine zr_ireturn dX5_errorOfAdding_70 rfl (Nat.le_refl _) (Nat.le_refl _) ?_
              exact hk
        · rw [if_pos (by have : sin l 2 60 = false := hc_36; rw [this]; simp)] at hk
          refine zr_bipush (v := -2) dX5_errorOfAdding_39 rfl ?_
          refine zr_ireturn dX5_errorOfAdding_41 rfl (Nat.le_refl _) (Nat.le_refl _) ?_
          exact hk
end
