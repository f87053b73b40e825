/-! ===== the reference: can, does, and the steps ===== -/
section
variable {d : Nat} {Q : Value → zM → Prop} {m m' : zM} {s s' : sS} {w : sW} {x : Nat → Int32}
theorem oc_h : oc (nI 104) x s = scanHost s := rfl
theorem oc_t : oc (nI 116) x s = if sin (x 0) 1 60 then 0 else -2 := rfl
theorem oc_z : oc (nI 122) x s = scanSleep s (x 0) (x 1) := rfl
theorem oc_w : oc (nI 119) x s = scanWake s (x 0) := rfl
theorem oc_g : oc (nI 103) x s = scanLeave s (x 0) (x 1) := rfl
theorem oc_a : oc (nI 97) x s = scanAsk s (x 0) (x 1) (x 2) := rfl
theorem oc_c : oc (nI 99) x s = scanRecord s (x 0) (x 1) (x 2) (x 3) (x 4) := rfl
theorem oc_s : oc (nI 115) x s = scanRecord s (x 0) (x 1) (x 2) (x 3) (x 4) := rfl
theorem od_h : od (nI 104) x s = (nI s.2.2.1, shostNow s) := rfl
theorem od_t : od (nI 116) x s = ((sticks s (hN (x 0))).1 2 - s.1 2, sticks s (hN (x 0))) := rfl
theorem od_z : od (nI 122) x s = (nI (sownN (s.2.2.2 (hN (x 0))).2.2.1), ssleep s (hN (x 0)) (x 1)) := rfl
theorem od_w : od (nI 119) x s = ((swake s (hN (x 0))).1 2 - s.1 2, swake s (hN (x 0))) := rfl
theorem od_g : od (nI 103) x s = (nI ((s.2.2.2 (hN (x 0))).2.2.1.length - 1), sleave s (hN (x 0)) (hN (x 1))) := rfl
theorem od_a : od (nI 97) x s = ((sask s (hN (x 0)) (x 1) (x 2)).1 2 - s.1 2, sask s (hN (x 0)) (x 1) (x 2)) := rfl
theorem od_c : od (nI 99) x s = (nI (s.2.2.2 (hN (x 0))).2.2.1.length, srecordNow s (hN (x 0)) (srec (x 1) (x 2) (x 3) (x 4) true) true) := rfl
theorem od_s : od (nI 115) x s = (nI (s.2.2.2 (hN (x 0))).2.2.1.length, srecordNow s (hN (x 0)) (srec (x 1) (x 2) (x 3) (x 4) false) false) := rfl
theorem hN_nI {k : Nat} (h : k < 2 ^ 31) : hN (nI k) = k := nI_clamp h
theorem can_m {c : Int32} (hl : olet c) (hx : ∀ k, k < oneed c → zI m 675 k = x k) (hR : RS m s) (hk : Q (.int (oc c x s)) m) : zC (d + 5) M9_can 0 0 [.ref 667, .int c] m Q := by
  obtain ⟨hM, hA, -⟩ := hR
  refine zenterP (Or.inl (by decide +kernel)) rfl (fun h => by cases h) (Nat.le_of_ble_eq_true rfl) ?_
  show zwp _ _ _ _ _ 0 [_, _, zU] [] 0 0 _
  rcases hl with rfl | rfl | rfl | rfl | rfl | rfl | rfl | rfl
  · refine zr_aload_n dX9_can_0 rfl ?_
    refine zr_getR dX9_can_1 fd_9_33 rfl (MI.ob hM ⟨rfl, rfl⟩) (MI.r12 hM ⟨rfl, rfl⟩) (by decide) ?_
    refine zr_iconst (v := nI 0) dX9_can_4 rfl ?_
    refine zr_ialoadN dX9_can_5 (MI.a675 hM ⟨rfl, rfl⟩) (by omega) (by decide) ?_
    refine zr_istore_n dX9_can_6 (by decide) rfl ?_
    dsimp only [zset]
    refine zr_iload_n dX9_can_7 rfl ?_
    refine zr_lookup (off := 60) (tgt := 68) dX9_can_8 (by decide) (by decide) (by decide) ?_
    refine zr_aload_n dX9_can_68 rfl ?_
    refine zr_cV0 rfl dX9_can_69 cv_9_93 (MI.ob hM ⟨rfl, rfl⟩) (Nat.le_of_ble_eq_true rfl) (zCg (canHost_ok hM hA ?_))
    refine zr_ireturn dX9_can_72 rfl (Nat.le_refl _) (Nat.le_refl _) ?_
    rw [zrow_id]; exact hk
  · refine zr_aload_n dX9_can_0 rfl ?_
    refine zr_getR dX9_can_1 fd_9_33 rfl (MI.ob hM ⟨rfl, rfl⟩) (MI.r12 hM ⟨rfl, rfl⟩) (by decide) ?_
    refine zr_iconst (v := nI 0) dX9_can_4 rfl ?_
    refine zr_ialoadN dX9_can_5 (MI.a675 hM ⟨rfl, rfl⟩) (by omega) (by decide) ?_
    rw [hx 0 (by decide)]
    refine zr_istore_n dX9_can_6 (by decide) rfl ?_
    dsimp only [zset]
    refine zr_iload_n dX9_can_7 rfl ?_
    refine zr_lookup (off := 65) (tgt := 73) dX9_can_8 (by decide) (by decide) (by decide) ?_
    refine zr_iload_n dX9_can_73 rfl ?_
    refine zr_i2l dX9_can_74 ?_
    refine zr_lconst (v := 1) dX9_can_75 rfl ?_
    refine zr_ldc2 dX9_can_76 kc_9_120 ?_
    refine zr_cS3 rfl dX9_can_79 cv_9_47 (Nat.le_of_ble_eq_true rfl) (in32_ok (lo := 1) (hi := 60) rfl rfl ?_)
    refine zr_if_eqB (tgt := 89) dX9_can_82 (by decide) (fun hc_82 => ?_) (fun hc_82 => ?_)
    · rw [oc_t, hc_82] at hk
      refine zr_bipush (v := -2) dX9_can_89 rfl ?_
      refine zr_ireturn dX9_can_91 rfl (Nat.le_refl _) (Nat.le_refl _) ?_
      exact hk
    · rw [oc_t, hc_82] at hk
      refine zr_iconst (v := nI 0) dX9_can_85 rfl ?_
      refine zr_goto (tgt := 91) dX9_can_86 (by decide) ?_
      refine zr_ireturn dX9_can_91 rfl (Nat.le_refl _) (Nat.le_refl _) ?_
      exact hk
  · refine zr_aload_n dX9_can_0 rfl ?_
    refine zr_getR dX9_can_1 fd_9_33 rfl (MI.ob hM ⟨rfl, rfl⟩) (MI.r12 hM ⟨rfl, rfl⟩) (by decide) ?_
    refine zr_iconst (v := nI 0) dX9_can_4 rfl ?_
    refine zr_ialoadN dX9_can_5 (MI.a675 hM ⟨rfl, rfl⟩) (by omega) (by decide) ?_
    rw [hx 0 (by decide)]
    refine zr_istore_n dX9_can_6 (by decide) rfl ?_
    dsimp only [zset]
    refine zr_iload_n dX9_can_7 rfl ?_
    refine zr_lookup (off := 84) (tgt := 92) dX9_can_8 (by decide) (by decide) (by decide) ?_
    refine zr_aload_n dX9_can_92 rfl ?_
    refine zr_iload_n dX9_can_93 rfl ?_
    refine zr_aload_n dX9_can_94 rfl ?_
    refine zr_getR dX9_can_95 fd_9_33 rfl (MI.ob hM ⟨rfl, rfl⟩) (MI.r12 hM ⟨rfl, rfl⟩) (by decide) ?_
    refine zr_iconst (v := nI 1) dX9_can_98 rfl ?_
    refine zr_ialoadN dX9_can_99 (MI.a675 hM ⟨rfl, rfl⟩) (by omega) (by decide) ?_
    rw [hx 1 (by decide)]
    refine zr_cV2 rfl dX9_can_100 cv_9_215 (MI.ob hM ⟨rfl, rfl⟩) (Nat.le_of_ble_eq_true rfl) (zCg (canSleep_ok hM hA ?_))
    refine zr_ireturn dX9_can_103 rfl (Nat.le_refl _) (Nat.le_refl _) ?_
    rw [zrow_id]; exact hk
  · refine zr_aload_n dX9_can_0 rfl ?_
    refine zr_getR dX9_can_1 fd_9_33 rfl (MI.ob hM ⟨rfl, rfl⟩) (MI.r12 hM ⟨rfl, rfl⟩) (by decide) ?_
    refine zr_iconst (v := nI 0) dX9_can_4 rfl ?_
    refine zr_ialoadN dX9_can_5 (MI.a675 hM ⟨rfl, rfl⟩) (by omega) (by decide) ?_
    rw [hx 0 (by decide)]
    refine zr_istore_n dX9_can_6 (by decide) rfl ?_
    dsimp only [zset]
    refine zr_iload_n dX9_can_7 rfl ?_
    refine zr_lookup (off := 96) (tgt := 104) dX9_can_8 (by decide) (by decide) (by decide) ?_
    refine zr_aload_n dX9_can_104 rfl ?_
    refine zr_iload_n dX9_can_105 rfl ?_
    refine zr_cV1 rfl dX9_can_106 cv_9_221 (MI.ob hM ⟨rfl, rfl⟩) (Nat.le_of_ble_eq_true rfl) (zCg (canWake_ok hM hA ?_))
    refine zr_ireturn dX9_can_109 rfl (Nat.le_refl _) (Nat.le_refl _) ?_
    rw [zrow_id]; exact hk
  · refine zr_aload_n dX9_can_0 rfl ?_
    refine zr_getR dX9_can_1 fd_9_33 rfl (MI.ob hM ⟨rfl, rfl⟩) (MI.r12 hM ⟨rfl, rfl⟩) (by decide) ?_
    refine zr_iconst (v := nI 0) dX9_can_4 rfl ?_
    refine zr_ialoadN dX9_can_5 (MI.a675 hM ⟨rfl, rfl⟩) (by omega) (by decide) ?_
    rw [hx 0 (by decide)]
    refine zr_istore_n dX9_can_6 (by decide) rfl ?_
    dsimp only [zset]
    refine zr_iload_n dX9_can_7 rfl ?_
    refine zr_lookup (off := 102) (tgt := 110) dX9_can_8 (by decide) (by decide) (by decide) ?_
    refine zr_aload_n dX9_can_110 rfl ?_
    refine zr_iload_n dX9_can_111 rfl ?_
    refine zr_aload_n dX9_can_112 rfl ?_
    refine zr_getR dX9_can_113 fd_9_33 rfl (MI.ob hM ⟨rfl, rfl⟩) (MI.r12 hM ⟨rfl, rfl⟩) (by decide) ?_
    refine zr_iconst (v := nI 1) dX9_can_116 rfl ?_
    refine zr_ialoadN dX9_can_117 (MI.a675 hM ⟨rfl, rfl⟩) (by omega) (by decide) ?_
    rw [hx 1 (by decide)]
    refine zr_cV2 rfl dX9_can_118 cv_9_136 (MI.ob hM ⟨rfl, rfl⟩) (Nat.le_of_ble_eq_true rfl) (zCg (canLeave_ok hM hA ?_))
    refine zr_ireturn dX9_can_121 rfl (Nat.le_refl _) (Nat.le_refl _) ?_
    rw [zrow_id]; exact hk
  · refine zr_aload_n dX9_can_0 rfl ?_
    refine zr_getR dX9_can_1 fd_9_33 rfl (MI.ob hM ⟨rfl, rfl⟩) (MI.r12 hM ⟨rfl, rfl⟩) (by decide) ?_
    refine zr_iconst (v := nI 0) dX9_can_4 rfl ?_
    refine zr_ialoadN dX9_can_5 (MI.a675 hM ⟨rfl, rfl⟩) (by omega) (by decide) ?_
    rw [hx 0 (by decide)]
    refine zr_istore_n dX9_can_6 (by decide) rfl ?_
    dsimp only [zset]
    refine zr_iload_n dX9_can_7 rfl ?_
    refine zr_lookup (off := 114) (tgt := 122) dX9_can_8 (by decide) (by decide) (by decide) ?_
    refine zr_aload_n dX9_can_122 rfl ?_
    refine zr_iload_n dX9_can_123 rfl ?_
    refine zr_aload_n dX9_can_124 rfl ?_
    refine zr_getR dX9_can_125 fd_9_33 rfl (MI.ob hM ⟨rfl, rfl⟩) (MI.r12 hM ⟨rfl, rfl⟩) (by decide) ?_
    refine zr_iconst (v := nI 1) dX9_can_128 rfl ?_
    refine zr_ialoadN dX9_can_129 (MI.a675 hM ⟨rfl, rfl⟩) (by omega) (by decide) ?_
    rw [hx 1 (by decide)]
    refine zr_aload_n dX9_can_130 rfl ?_
    refine zr_getR dX9_can_131 fd_9_33 rfl (MI.ob hM ⟨rfl, rfl⟩) (MI.r12 hM ⟨rfl, rfl⟩) (by decide) ?_
    refine zr_iconst (v := nI 2) dX9_can_134 rfl ?_
    refine zr_ialoadN dX9_can_135 (MI.a675 hM ⟨rfl, rfl⟩) (by omega) (by decide) ?_
    rw [hx 2 (by decide)]
    refine zr_cV3 rfl dX9_can_136 cv_9_191 (MI.ob hM ⟨rfl, rfl⟩) (Nat.le_of_ble_eq_true rfl) (zCg (canAsk_ok hM hA ?_))
    refine zr_ireturn dX9_can_139 rfl (Nat.le_refl _) (Nat.le_refl _) ?_
    rw [zrow_id]; exact hk
  · refine zr_aload_n dX9_can_0 rfl ?_
    refine zr_getR dX9_can_1 fd_9_33 rfl (MI.ob hM ⟨rfl, rfl⟩) (MI.r12 hM ⟨rfl, rfl⟩) (by decide) ?_
    refine zr_iconst (v := nI 0) dX9_can_4 rfl ?_
    refine zr_ialoadN dX9_can_5 (MI.a675 hM ⟨rfl, rfl⟩) (by omega) (by decide) ?_
    rw [hx 0 (by decide)]
    refine zr_istore_n dX9_can_6 (by decide) rfl ?_
    dsimp only [zset]
    refine zr_iload_n dX9_can_7 rfl ?_
    refine zr_lookup (off := 132) (tgt := 140) dX9_can_8 (by decide) (by decide) (by decide) ?_
    refine zr_aload_n dX9_can_140 rfl ?_
    refine zr_iload_n dX9_can_141 rfl ?_
    refine zr_aload_n dX9_can_142 rfl ?_
    refine zr_getR dX9_can_143 fd_9_33 rfl (MI.ob hM ⟨rfl, rfl⟩) (MI.r12 hM ⟨rfl, rfl⟩) (by decide) ?_
    refine zr_iconst (v := nI 1) dX9_can_146 rfl ?_
    refine zr_ialoadN dX9_can_147 (MI.a675 hM ⟨rfl, rfl⟩) (by omega) (by decide) ?_
    rw [hx 1 (by decide)]
    refine zr_aload_n dX9_can_148 rfl ?_
    refine zr_getR dX9_can_149 fd_9_33 rfl (MI.ob hM ⟨rfl, rfl⟩) (MI.r12 hM ⟨rfl, rfl⟩) (by decide) ?_
    refine zr_iconst (v := nI 2) dX9_can_152 rfl ?_
    refine zr_ialoadN dX9_can_153 (MI.a675 hM ⟨rfl, rfl⟩) (by omega) (by decide) ?_
    rw [hx 2 (by decide)]
    refine zr_aload_n dX9_can_154 rfl ?_
    refine zr_getR dX9_can_155 fd_9_33 rfl (MI.ob hM ⟨rfl, rfl⟩) (MI.r12 hM ⟨rfl, rfl⟩) (by decide) ?_
    refine zr_iconst (v := nI 3) dX9_can_158 rfl ?_
    refine zr_ialoadN dX9_can_159 (MI.a675 hM ⟨rfl, rfl⟩) (by omega) (by decide) ?_
    rw [hx 3 (by decide)]
    refine zr_aload_n dX9_can_160 rfl ?_
    refine zr_getR dX9_can_161 fd_9_33 rfl (MI.ob hM ⟨rfl, rfl⟩) (MI.r12 hM ⟨rfl, rfl⟩) (by decide) ?_
    refine zr_iconst (v := nI 4) dX9_can_164 rfl ?_
    refine zr_ialoadN dX9_can_165 (MI.a675 hM ⟨rfl, rfl⟩) (by omega) (by decide) ?_
    rw [hx 4 (by decide)]
    refine zr_cV5 rfl dX9_can_166 cv_9_125 (MI.ob hM ⟨rfl, rfl⟩) (Nat.le_of_ble_eq_true rfl) (zCg (canRecord_ok hM hA ?_))
    refine zr_ireturn dX9_can_169 rfl (Nat.le_refl _) (Nat.le_refl _) ?_
    rw [zrow_id]; exact hk
  · refine zr_aload_n dX9_can_0 rfl ?_
    refine zr_getR dX9_can_1 fd_9_33 rfl (MI.ob hM ⟨rfl, rfl⟩) (MI.r12 hM ⟨rfl, rfl⟩) (by decide) ?_
    refine zr_iconst (v := nI 0) dX9_can_4 rfl ?_
    refine zr_ialoadN dX9_can_5 (MI.a675 hM ⟨rfl, rfl⟩) (by omega) (by decide) ?_
    rw [hx 0 (by decide)]
    refine zr_istore_n dX9_can_6 (by decide) rfl ?_
    dsimp only [zset]
    refine zr_iload_n dX9_can_7 rfl ?_
    refine zr_lookup (off := 132) (tgt := 140) dX9_can_8 (by decide) (by decide) (by decide) ?_
    refine zr_aload_n dX9_can_140 rfl ?_
    refine zr_iload_n dX9_can_141 rfl ?_
    refine zr_aload_n dX9_can_142 rfl ?_
    refine zr_getR dX9_can_143 fd_9_33 rfl (MI.ob hM ⟨rfl, rfl⟩) (MI.r12 hM ⟨rfl, rfl⟩) (by decide) ?_
    refine zr_iconst (v := nI 1) dX9_can_146 rfl ?_
    refine zr_ialoadN dX9_can_147 (MI.a675 hM ⟨rfl, rfl⟩) (by omega) (by decide) ?_
    rw [hx 1 (by decide)]
    refine zr_aload_n dX9_can_148 rfl ?_
    refine zr_getR dX9_can_149 fd_9_33 rfl (MI.ob hM ⟨rfl, rfl⟩) (MI.r12 hM ⟨rfl, rfl⟩) (by decide) ?_
    refine zr_iconst (v := nI 2) dX9_can_152 rfl ?_
    refine zr_ialoadN dX9_can_153 (MI.a675 hM ⟨rfl, rfl⟩) (by omega) (by decide) ?_
    rw [hx 2 (by decide)]
    refine zr_aload_n dX9_can_154 rfl ?_
    refine zr_getR dX9_can_155 fd_9_33 rfl (MI.ob hM ⟨rfl, rfl⟩) (MI.r12 hM ⟨rfl, rfl⟩) (by decide) ?_
    refine zr_iconst (v := nI 3) dX9_can_158 rfl ?_
    refine zr_ialoadN dX9_can_159 (MI.a675 hM ⟨rfl, rfl⟩) (by omega) (by decide) ?_
    rw [hx 3 (by decide)]
    refine zr_aload_n dX9_can_160 rfl ?_
    refine zr_getR dX9_can_161 fd_9_33 rfl (MI.ob hM ⟨rfl, rfl⟩) (MI.r12 hM ⟨rfl, rfl⟩) (by decide) ?_
    refine zr_iconst (v := nI 4) dX9_can_164 rfl ?_
    refine zr_ialoadN dX9_can_165 (MI.a675 hM ⟨rfl, rfl⟩) (by omega) (by decide) ?_
    rw [hx 4 (by decide)]
    refine zr_cV5 rfl dX9_can_166 cv_9_125 (MI.ob hM ⟨rfl, rfl⟩) (Nat.le_of_ble_eq_true rfl) (zCg (canRecord_ok hM hA ?_))
    refine zr_ireturn dX9_can_169 rfl (Nat.le_refl _) (Nat.le_refl _) ?_
    rw [zrow_id]; exact hk
theorem does_m {c : Int32} (hl : olet c) (hx : ∀ k, k < oneed c → zI m 675 k = x k) (hR : RS m s) (hs : sOK s) (hF : fT s) (hc : oc c x s = 0) (hk : ∀ m', zkc m m' → RS m' (od c x s).2 → Q (.int (od c x s).1) m') : zC (d + 9) M9_does 0 0 [.ref 667, .int c] m Q := by
  have hM := hR.1
  have n6 := hs.1
  refine zenterP (Or.inl (by decide +kernel)) rfl (fun h => by cases h) (Nat.le_of_ble_eq_true rfl) ?_
  show zwp _ _ _ _ _ 0 [_, _, zU] [] 0 0 _
  rcases hl with rfl | rfl | rfl | rfl | rfl | rfl | rfl | rfl
  · rw [oc_h] at hc
    refine zr_aload_n dX9_does_0 rfl ?_
    refine zr_getR dX9_does_1 fd_9_33 rfl (MI.ob hM ⟨rfl, rfl⟩) (MI.r12 hM ⟨rfl, rfl⟩) (by decide) ?_
    refine zr_iconst (v := nI 0) dX9_does_4 rfl ?_
    refine zr_ialoadN dX9_does_5 (MI.a675 hM ⟨rfl, rfl⟩) (by omega) (by decide) ?_
    refine zr_istore_n dX9_does_6 (by decide) rfl ?_
    dsimp only [zset]
    refine zr_iload_n dX9_does_7 rfl ?_
    refine zr_lookup (off := 60) (tgt := 68) dX9_does_8 (by decide) (by decide) (by decide) ?_
    refine zr_aload_n dX9_does_68 rfl ?_
    refine zr_cV0 rfl dX9_does_69 cv_9_103 (MI.ob hM ⟨rfl, rfl⟩) (Nat.le_of_ble_eq_true rfl) (hostNow_g hR (scanHost_0 n6 hc) (fun m' h1 h2 => ?_))
    refine zr_ireturn dX9_does_72 rfl (Nat.le_refl _) (Nat.le_refl _) ?_
    exact hk m' h1 h2
  · rw [oc_t] at hc
    obtain ⟨n, n1, n2, n3⟩ : ∃ j, 1 ≤ j ∧ j ≤ 60 ∧ x 0 = nI j := by
      split at hc
      · rename_i z; exact sin_of z rfl rfl (by decide) (by decide)
      · exact absurd hc (by decide)
    rw [od_t, n3, hN_nI (by omega)] at hk
    refine zr_aload_n dX9_does_0 rfl ?_
    refine zr_getR dX9_does_1 fd_9_33 rfl (MI.ob hM ⟨rfl, rfl⟩) (MI.r12 hM ⟨rfl, rfl⟩) (by decide) ?_
    refine zr_iconst (v := nI 0) dX9_does_4 rfl ?_
    refine zr_ialoadN dX9_does_5 (MI.a675 hM ⟨rfl, rfl⟩) (by omega) (by decide) ?_
    rw [hx 0 (by decide), n3]
    refine zr_istore_n dX9_does_6 (by decide) rfl ?_
    dsimp only [zset]
    refine zr_iload_n dX9_does_7 rfl ?_
    refine zr_lookup (off := 65) (tgt := 73) dX9_does_8 (by decide) (by decide) (by decide) ?_
    refine zr_aload_n dX9_does_73 rfl ?_
    refine zr_iload_n dX9_does_74 rfl ?_
    refine zr_cV1 rfl dX9_does_75 cv_9_179 (MI.ob hM ⟨rfl, rfl⟩) (Nat.le_of_ble_eq_true rfl) (tickNow_g hR hs n2 hF (fun m' h1 h2 => ?_))
    refine zr_ireturn dX9_does_78 rfl (Nat.le_refl _) (Nat.le_refl _) ?_
    exact hk m' h1 h2
  · rw [oc_z] at hc
    obtain ⟨i, i1, i2, i3⟩ := scanSleep_0 n6 hc
    rw [od_z, i2, hN_nI (by omega)] at hk
    refine zr_aload_n dX9_does_0 rfl ?_
    refine zr_getR dX9_does_1 fd_9_33 rfl (MI.ob hM ⟨rfl, rfl⟩) (MI.r12 hM ⟨rfl, rfl⟩) (by decide) ?_
    refine zr_iconst (v := nI 0) dX9_does_4 rfl ?_
    refine zr_ialoadN dX9_does_5 (MI.a675 hM ⟨rfl, rfl⟩) (by omega) (by decide) ?_
    rw [hx 0 (by decide), i2]
    refine zr_istore_n dX9_does_6 (by decide) rfl ?_
    dsimp only [zset]
    refine zr_iload_n dX9_does_7 rfl ?_
    refine zr_lookup (off := 71) (tgt := 79) dX9_does_8 (by decide) (by decide) (by decide) ?_
    refine zr_aload_n dX9_does_79 rfl ?_
    refine zr_iload_n dX9_does_80 rfl ?_
    refine zr_aload_n dX9_does_81 rfl ?_
    refine zr_getR dX9_does_82 fd_9_33 rfl (MI.ob hM ⟨rfl, rfl⟩) (MI.r12 hM ⟨rfl, rfl⟩) (by decide) ?_
    refine zr_iconst (v := nI 1) dX9_does_85 rfl ?_
    refine zr_ialoadN dX9_does_86 (MI.a675 hM ⟨rfl, rfl⟩) (by omega) (by decide) ?_
    rw [hx 1 (by decide)]
    refine zr_cV2 rfl dX9_does_87 cv_9_218 (MI.ob hM ⟨rfl, rfl⟩) (Nat.le_of_ble_eq_true rfl) (sleepNow_g hR i1 (fun m' h1 h2 => ?_))
    refine zr_ireturn dX9_does_90 rfl (Nat.le_refl _) (Nat.le_refl _) ?_
    exact hk m' h1 h2
  · rw [oc_w] at hc
    obtain ⟨i, i1, i2, i3⟩ := scanWake_0 n6 hc
    rw [od_w, i2, hN_nI (by omega)] at hk
    refine zr_aload_n dX9_does_0 rfl ?_
    refine zr_getR dX9_does_1 fd_9_33 rfl (MI.ob hM ⟨rfl, rfl⟩) (MI.r12 hM ⟨rfl, rfl⟩) (by decide) ?_
    refine zr_iconst (v := nI 0) dX9_does_4 rfl ?_
    refine zr_ialoadN dX9_does_5 (MI.a675 hM ⟨rfl, rfl⟩) (by omega) (by decide) ?_
    rw [hx 0 (by decide), i2]
    refine zr_istore_n dX9_does_6 (by decide) rfl ?_
    dsimp only [zset]
    refine zr_iload_n dX9_does_7 rfl ?_
    refine zr_lookup (off := 83) (tgt := 91) dX9_does_8 (by decide) (by decide) (by decide) ?_
    refine zr_aload_n dX9_does_91 rfl ?_
    refine zr_iload_n dX9_does_92 rfl ?_
    refine zr_cV1 rfl dX9_does_93 cv_9_224 (MI.ob hM ⟨rfl, rfl⟩) (Nat.le_of_ble_eq_true rfl) (wakeNow_g hR hs i1 (fun m' h1 h2 => ?_))
    refine zr_ireturn dX9_does_96 rfl (Nat.le_refl _) (Nat.le_refl _) ?_
    exact hk m' h1 h2
  · rw [oc_g] at hc
    obtain ⟨i, i1, i2, ⟨j, j1, j2⟩, -⟩ := scanLeave_0 hs hc
    have h5 := (hs.2 i i1).2.2.1
    rw [od_g, i2, j2, hN_nI (by omega), hN_nI (by omega)] at hk
    refine zr_aload_n dX9_does_0 rfl ?_
    refine zr_getR dX9_does_1 fd_9_33 rfl (MI.ob hM ⟨rfl, rfl⟩) (MI.r12 hM ⟨rfl, rfl⟩) (by decide) ?_
    refine zr_iconst (v := nI 0) dX9_does_4 rfl ?_
    refine zr_ialoadN dX9_does_5 (MI.a675 hM ⟨rfl, rfl⟩) (by omega) (by decide) ?_
    rw [hx 0 (by decide), i2]
    refine zr_istore_n dX9_does_6 (by decide) rfl ?_
    dsimp only [zset]
    refine zr_iload_n dX9_does_7 rfl ?_
    refine zr_lookup (off := 89) (tgt := 97) dX9_does_8 (by decide) (by decide) (by decide) ?_
    refine zr_aload_n dX9_does_97 rfl ?_
    refine zr_iload_n dX9_does_98 rfl ?_
    refine zr_aload_n dX9_does_99 rfl ?_
    refine zr_getR dX9_does_100 fd_9_33 rfl (MI.ob hM ⟨rfl, rfl⟩) (MI.r12 hM ⟨rfl, rfl⟩) (by decide) ?_
    refine zr_iconst (v := nI 1) dX9_does_103 rfl ?_
    refine zr_ialoadN dX9_does_104 (MI.a675 hM ⟨rfl, rfl⟩) (by omega) (by decide) ?_
    rw [hx 1 (by decide), j2]
    refine zr_cV2 rfl dX9_does_105 cv_9_139 (MI.ob hM ⟨rfl, rfl⟩) (Nat.le_of_ble_eq_true rfl) (leaveNow_g hR i1 j1 (fun m' h1 h2 => ?_))
    refine zr_ireturn dX9_does_108 rfl (Nat.le_refl _) (Nat.le_refl _) ?_
    exact hk m' h1 h2
  · rw [oc_a] at hc
    obtain ⟨i, i1, i2, i3, -⟩ := scanAsk_0 n6 hc
    rw [od_a, i2, hN_nI (by omega)] at hk
    refine zr_aload_n dX9_does_0 rfl ?_
    refine zr_getR dX9_does_1 fd_9_33 rfl (MI.ob hM ⟨rfl, rfl⟩) (MI.r12 hM ⟨rfl, rfl⟩) (by decide) ?_
    refine zr_iconst (v := nI 0) dX9_does_4 rfl ?_
    refine zr_ialoadN dX9_does_5 (MI.a675 hM ⟨rfl, rfl⟩) (by omega) (by decide) ?_
    rw [hx 0 (by decide), i2]
    refine zr_istore_n dX9_does_6 (by decide) rfl ?_
    dsimp only [zset]
    refine zr_iload_n dX9_does_7 rfl ?_
    refine zr_lookup (off := 101) (tgt := 109) dX9_does_8 (by decide) (by decide) (by decide) ?_
    refine zr_aload_n dX9_does_109 rfl ?_
    refine zr_iload_n dX9_does_110 rfl ?_
    refine zr_aload_n dX9_does_111 rfl ?_
    refine zr_getR dX9_does_112 fd_9_33 rfl (MI.ob hM ⟨rfl, rfl⟩) (MI.r12 hM ⟨rfl, rfl⟩) (by decide) ?_
    refine zr_iconst (v := nI 1) dX9_does_115 rfl ?_
    refine zr_ialoadN dX9_does_116 (MI.a675 hM ⟨rfl, rfl⟩) (by omega) (by decide) ?_
    rw [hx 1 (by decide)]
    refine zr_aload_n dX9_does_117 rfl ?_
    refine zr_getR dX9_does_118 fd_9_33 rfl (MI.ob hM ⟨rfl, rfl⟩) (MI.r12 hM ⟨rfl, rfl⟩) (by decide) ?_
    refine zr_iconst (v := nI 2) dX9_does_121 rfl ?_
    refine zr_ialoadN dX9_does_122 (MI.a675 hM ⟨rfl, rfl⟩) (by omega) (by decide) ?_
    rw [hx 2 (by decide)]
    refine zr_cV3 rfl dX9_does_123 cv_9_194 (MI.ob hM ⟨rfl, rfl⟩) (Nat.le_of_ble_eq_true rfl) (askNow_g hR hs i1 (fun m' h1 h2 => ?_))
    refine zr_ireturn dX9_does_126 rfl (Nat.le_refl _) (Nat.le_refl _) ?_
    exact hk m' h1 h2
  · rw [oc_c] at hc
    obtain ⟨i, i1, i2, -, -, -, -, -, i3⟩ := scanRecord_0 n6 hc
    have h5 := (hs.2 i i1).2.2.1
    rw [od_c, i2, hN_nI (by omega)] at hk
    refine zr_aload_n dX9_does_0 rfl ?_
    refine zr_getR dX9_does_1 fd_9_33 rfl (MI.ob hM ⟨rfl, rfl⟩) (MI.r12 hM ⟨rfl, rfl⟩) (by decide) ?_
    refine zr_iconst (v := nI 0) dX9_does_4 rfl ?_
    refine zr_ialoadN dX9_does_5 (MI.a675 hM ⟨rfl, rfl⟩) (by omega) (by decide) ?_
    rw [hx 0 (by decide), i2]
    refine zr_istore_n dX9_does_6 (by decide) rfl ?_
    dsimp only [zset]
    refine zr_iload_n dX9_does_7 rfl ?_
    refine zr_lookup (off := 119) (tgt := 127) dX9_does_8 (by decide) (by decide) (by decide) ?_
    refine zr_aload_n dX9_does_127 rfl ?_
    refine zr_iload_n dX9_does_128 rfl ?_
    refine zr_aload_n dX9_does_129 rfl ?_
    refine zr_getR dX9_does_130 fd_9_33 rfl (MI.ob hM ⟨rfl, rfl⟩) (MI.r12 hM ⟨rfl, rfl⟩) (by decide) ?_
    refine zr_iconst (v := nI 1) dX9_does_133 rfl ?_
    refine zr_ialoadN dX9_does_134 (MI.a675 hM ⟨rfl, rfl⟩) (by omega) (by decide) ?_
    rw [hx 1 (by decide)]
    refine zr_aload_n dX9_does_135 rfl ?_
    refine zr_getR dX9_does_136 fd_9_33 rfl (MI.ob hM ⟨rfl, rfl⟩) (MI.r12 hM ⟨rfl, rfl⟩) (by decide) ?_
    refine zr_iconst (v := nI 2) dX9_does_139 rfl ?_
    refine zr_ialoadN dX9_does_140 (MI.a675 hM ⟨rfl, rfl⟩) (by omega) (by decide) ?_
    rw [hx 2 (by decide)]
    refine zr_aload_n dX9_does_141 rfl ?_
    refine zr_getR dX9_does_142 fd_9_33 rfl (MI.ob hM ⟨rfl, rfl⟩) (MI.r12 hM ⟨rfl, rfl⟩) (by decide) ?_
    refine zr_iconst (v := nI 3) dX9_does_145 rfl ?_
    refine zr_ialoadN dX9_does_146 (MI.a675 hM ⟨rfl, rfl⟩) (by omega) (by decide) ?_
    rw [hx 3 (by decide)]
    refine zr_aload_n dX9_does_147 rfl ?_
    refine zr_getR dX9_does_148 fd_9_33 rfl (MI.ob hM ⟨rfl, rfl⟩) (MI.r12 hM ⟨rfl, rfl⟩) (by decide) ?_
    refine zr_iconst (v := nI 4) dX9_does_151 rfl ?_
    refine zr_ialoadN dX9_does_152 (MI.a675 hM ⟨rfl, rfl⟩) (by omega) (by decide) ?_
    rw [hx 4 (by decide)]
    refine zr_iload_n dX9_does_153 rfl ?_
    refine zr_bipush (v := nI 99) dX9_does_154 rfl ?_
    refine zr_icmp_ne (tgt := 163) dX9_does_156 (by decide) (fun hc_156 => absurd rfl hc_156) (fun hc_156 => ?_)
    refine zr_iconst (v := bI true) dX9_does_159 rfl ?_
    refine zr_goto (tgt := 164) dX9_does_160 (by decide) ?_
    refine zr_cV6 rfl dX9_does_164 cv_9_129 (MI.ob hM ⟨rfl, rfl⟩) (Nat.le_of_ble_eq_true rfl) (recordNow_g hR i1 (by omega) (fun m' h1 h2 => ?_))
    refine zr_ireturn dX9_does_167 rfl (Nat.le_refl _) (Nat.le_refl _) ?_
    exact hk m' h1 h2
  · rw [oc_s] at hc
    obtain ⟨i, i1, i2, -, -, -, -, -, i3⟩ := scanRecord_0 n6 hc
    have h5 := (hs.2 i i1).2.2.1
    rw [od_s, i2, hN_nI (by omega)] at hk
    refine zr_aload_n dX9_does_0 rfl ?_
    refine zr_getR dX9_does_1 fd_9_33 rfl (MI.ob hM ⟨rfl, rfl⟩) (MI.r12 hM ⟨rfl, rfl⟩) (by decide) ?_
    refine zr_iconst (v := nI 0) dX9_does_4 rfl ?_
    refine zr_ialoadN dX9_does_5 (MI.a675 hM ⟨rfl, rfl⟩) (by omega) (by decide) ?_
    rw [hx 0 (by decide), i2]
    refine zr_istore_n dX9_does_6 (by decide) rfl ?_
    dsimp only [zset]
    refine zr_iload_n dX9_does_7 rfl ?_
    refine zr_lookup (off := 119) (tgt := 127) dX9_does_8 (by decide) (by decide) (by decide) ?_
    refine zr_aload_n dX9_does_127 rfl ?_
    refine zr_iload_n dX9_does_128 rfl ?_
    refine zr_aload_n dX9_does_129 rfl ?_
    refine zr_getR dX9_does_130 fd_9_33 rfl (MI.ob hM ⟨rfl, rfl⟩) (MI.r12 hM ⟨rfl, rfl⟩) (by decide) ?_
    refine zr_iconst (v := nI 1) dX9_does_133 rfl ?_
    refine zr_ialoadN dX9_does_134 (MI.a675 hM ⟨rfl, rfl⟩) (by omega) (by decide) ?_
    rw [hx 1 (by decide)]
    refine zr_aload_n dX9_does_135 rfl ?_
    refine zr_getR dX9_does_136 fd_9_33 rfl (MI.ob hM ⟨rfl, rfl⟩) (MI.r12 hM ⟨rfl, rfl⟩) (by decide) ?_
    refine zr_iconst (v := nI 2) dX9_does_139 rfl ?_
    refine zr_ialoadN dX9_does_140 (MI.a675 hM ⟨rfl, rfl⟩) (by omega) (by decide) ?_
    rw [hx 2 (by decide)]
    refine zr_aload_n dX9_does_141 rfl ?_
    refine zr_getR dX9_does_142 fd_9_33 rfl (MI.ob hM ⟨rfl, rfl⟩) (MI.r12 hM ⟨rfl, rfl⟩) (by decide) ?_
    refine zr_iconst (v := nI 3) dX9_does_145 rfl ?_
    refine zr_ialoadN dX9_does_146 (MI.a675 hM ⟨rfl, rfl⟩) (by omega) (by decide) ?_
    rw [hx 3 (by decide)]
    refine zr_aload_n dX9_does_147 rfl ?_
    refine zr_getR dX9_does_148 fd_9_33 rfl (MI.ob hM ⟨rfl, rfl⟩) (MI.r12 hM ⟨rfl, rfl⟩) (by decide) ?_
    refine zr_iconst (v := nI 4) dX9_does_151 rfl ?_
    refine zr_ialoadN dX9_does_152 (MI.a675 hM ⟨rfl, rfl⟩) (by omega) (by decide) ?_
    rw [hx 4 (by decide)]
    refine zr_iload_n dX9_does_153 rfl ?_
    refine zr_bipush (v := nI 99) dX9_does_154 rfl ?_
    refine zr_icmp_ne (tgt := 163) dX9_does_156 (by decide) (fun hc_156 => ?_) (fun hc_156 => absurd hc_156 (by decide))
    refine zr_iconst (v := bI false) dX9_does_163 rfl ?_
    refine zr_cV6 rfl dX9_does_164 cv_9_129 (MI.ob hM ⟨rfl, rfl⟩) (Nat.le_of_ble_eq_true rfl) (recordNow_g hR i1 (by omega) (fun m' h1 h2 => ?_))
    refine zr_ireturn dX9_does_167 rfl (Nat.le_refl _) (Nat.le_refl _) ?_
    exact hk m' h1 h2
end
