/-! ===== the reference: more that is asked ===== -/
section
variable {d : Nat} {Q : Value → zM → Prop} {m : zM} {f : Nat → Int32} {s : sS}
theorem sin_n {x : Int32} {n : Nat} (hn : n < 2 ^ 30) : sin x 0 (nI n - nI 1) = (decide (0 ≤ x) && decide (x < nI n)) := by
  unfold sin
  congr 1
  simp only [Int32.le_iff_toInt_le, Int32.lt_iff_toInt_lt, pk_sub_toInt hn (show 1 < 2 ^ 30 by omega), nI_toInt (show n < 2 ^ 31 by omega)]
  rw [decide_eq_decide]
  omega
theorem isRecord_ok {h r : Int32} (hM : MI m) (hA : RA f s) (hk : Q (.int (bI (sisR s h r))) (zrow m 668 f)) : zC (d + 3) M9_isRecord 0 0 [.ref 667, .int h, .int r] (zrow m 668 f) Q := by
  refine zenterP (Or.inl (by decide +kernel)) rfl (fun h => by cases h) (Nat.le_of_ble_eq_true rfl) ?_
  show zwp _ _ _ _ _ 0 [_, _, _] [] 0 0 _
  refine zr_aload_n dX9_isRecord_0 rfl ?_
  refine zr_iload_n dX9_isRecord_1 rfl ?_
  refine zr_cV1 rfl dX9_isRecord_2 cv_9_110 (MI.ob hM ⟨rfl, rfl⟩) (Nat.le_of_ble_eq_true rfl) (isHost_ok hM hA ?_)
  refine zr_if_eqB (tgt := 29) dX9_isRecord_5 (by decide) (fun hc_5 => ?_) (fun hc_5 => ?_)
  · refine zr_iconst (v := nI 0) dX9_isRecord_29 rfl ?_
    refine zr_z0 dX9_isRecord_30 rfl (Nat.le_refl _) (Nat.le_refl _) ?_ hk
    (try simp only [sisR, hcl]); simp_all [sisR]
  · obtain ⟨k, hk1, rfl⟩ := sisH_of hA.2.1 hc_5
    have h5 := hA.c5 hk1
    have h6 := hA.h6 hk1
    have hcl : (nI k).toNatClampNeg = k := nI_clamp (by omega)
    refine zr_iload_n dX9_isRecord_8 rfl ?_
    refine zr_i2l dX9_isRecord_9 ?_
    refine zr_lconst (v := 0) dX9_isRecord_10 rfl ?_
    refine zr_aload_n dX9_isRecord_11 rfl ?_
    refine zr_iload_n dX9_isRecord_12 rfl ?_
    refine zr_cV1 rfl dX9_isRecord_13 cv_9_73 (MI.ob hM ⟨rfl, rfl⟩) (Nat.le_of_ble_eq_true rfl) (records_ok hM (hA.h6 hk1) (hA.cnt hk1) ?_)
    refine zr_iconst (v := nI 1) dX9_isRecord_16 rfl ?_
    refine zr_isub dX9_isRecord_17 ?_
    refine zr_i2l dX9_isRecord_18 ?_
    refine zr_cS3 rfl dX9_isRecord_19 cv_9_47 (Nat.le_of_ble_eq_true rfl) (in32_ok (lo := 0) rfl rfl ?_)
    rw [sin_n (by omega)]
    refine zr_if_eqB (tgt := 29) dX9_isRecord_22 (by decide) (fun hc_22 => ?_) (fun hc_22 => ?_)
    · refine zr_iconst (v := nI 0) dX9_isRecord_29 rfl ?_
      refine zr_z0 dX9_isRecord_30 rfl (Nat.le_refl _) (Nat.le_refl _) ?_ hk
      (try simp only [sisR, hcl]); simp_all [sisR]
    · refine zr_iconst (v := nI 1) dX9_isRecord_25 rfl ?_
      refine zr_goto (tgt := 30) dX9_isRecord_26 (by decide) ?_
      refine zr_z1 dX9_isRecord_30 rfl (Nat.le_refl _) (Nat.le_refl _) ?_ hk
      (try simp only [sisR, hcl]); simp_all [sisR]
theorem sisR_of {h r : Int32} (hA : RA f s) (hh : sisR s h r = true) : ∃ k j, k < s.2.2.1 ∧ h = nI k ∧ j < (s.2.2.2 k).2.2.1.length ∧ r = nI j := by
  unfold sisR at hh
  rw [Bool.and_eq_true] at hh
  obtain ⟨k, hk1, rfl⟩ := sisH_of hA.2.1 hh.1
  have h6 := hA.h6 hk1
  have h5 := hA.c5 hk1
  have hcl : (nI k).toNatClampNeg = k := nI_clamp (by omega)
  rw [hcl] at hh
  obtain ⟨j, hj, rfl⟩ := sisX_of (by omega) hh.2
  exact ⟨k, j, hk1, rfl, hj, rfl⟩
theorem canLeave_ok {h r : Int32} (hM : MI m) (hA : RA f s) (hk : Q (.int (scanLeave s h r)) (zrow m 668 f)) : zC (d + 4) M9_canLeave 0 0 [.ref 667, .int h, .int r] (zrow m 668 f) Q := by
  refine zenterP (Or.inl (by decide +kernel)) rfl (fun h => by cases h) (Nat.le_of_ble_eq_true rfl) ?_
  show zwp _ _ _ _ _ 0 [_, _, _] [] 0 0 _
  refine zr_aload_n dX9_canLeave_0 rfl ?_
  refine zr_iload_n dX9_canLeave_1 rfl ?_
  refine zr_iload_n dX9_canLeave_2 rfl ?_
  refine zr_cV2 rfl dX9_canLeave_3 cv_9_133 (MI.ob hM ⟨rfl, rfl⟩) (Nat.le_of_ble_eq_true rfl) (isRecord_ok hM hA ?_)
  refine zr_if_neB (tgt := 14) dX9_canLeave_6 (by decide) (fun hc_6 => ?_) (fun hc_6 => ?_)
  · obtain ⟨k, j, hk1, rfl, hj, rfl⟩ := sisR_of hA hc_6
    have h6 := hA.h6 hk1
    have hcl : (nI k).toNatClampNeg = k := nI_clamp (by omega)
    refine zr_aload_n dX9_canLeave_14 rfl ?_
    refine zr_iload_n dX9_canLeave_15 rfl ?_
    refine zr_cV1 rfl dX9_canLeave_16 cv_9_59 (MI.ob hM ⟨rfl, rfl⟩) (Nat.le_of_ble_eq_true rfl) (isAwake_ok hM (hA.h6 hk1) (hA.awk hk1) ?_)
    refine zr_if_eqB (tgt := 26) dX9_canLeave_19 (by decide) (fun hc_19 => ?_) (fun hc_19 => ?_)
    · refine zr_bipush (v := -3) dX9_canLeave_26 rfl ?_
      refine zr_ireturn dX9_canLeave_28 rfl (Nat.le_refl _) (Nat.le_refl _) ?_
      (try rw [scanLeave, hcl] at hk); simpa [scanLeave, *, nI0] using hk
    · refine zr_iconst (v := nI 0) dX9_canLeave_22 rfl ?_
      refine zr_goto (tgt := 28) dX9_canLeave_23 (by decide) ?_
      refine zr_ireturn dX9_canLeave_28 rfl (Nat.le_refl _) (Nat.le_refl _) ?_
      (try rw [scanLeave, hcl] at hk); simpa [scanLeave, *, nI0] using hk
  · refine zr_bipush (v := -2) dX9_canLeave_9 rfl ?_
    refine zr_goto (tgt := 28) dX9_canLeave_11 (by decide) ?_
    refine zr_ireturn dX9_canLeave_28 rfl (Nat.le_refl _) (Nat.le_refl _) ?_
    (try rw [scanLeave, hcl] at hk); simpa [scanLeave, *, nI0] using hk
theorem recordThen_ok {h r what : Nat} (hM : MI m) (hA : RA f s) (hX : sPx s) (hh : h < s.2.2.1) (hr : r < (s.2.2.2 h).2.2.1.length) (hw : what < 8) (hk : Q (.int (srecth s h r what)) (zrow m 668 f)) : zC (d + 3) M9_recordThen 0 0 [.ref 667, .int (nI h), .int (nI r), .int (nI what)] (zrow m 668 f) Q := by
  have h6 := hA.h6 hh
  have h5 := hA.c5 hh
  refine zenterP (Or.inl (by decide +kernel)) rfl (fun h => by cases h) (Nat.le_of_ble_eq_true rfl) ?_
  show zwp _ _ _ _ _ 0 [_, _, _, _] [] 0 0 _
  refine zr_iload_n dX9_recordThen_0 rfl ?_
  refine zr_bipush (v := nI 7) dX9_recordThen_1 rfl ?_
  refine zr_icmp_neN (tgt := 23) dX9_recordThen_3 (by decide) (by omega) (by omega) (fun hc_3 => ?_) (fun hc_3 => ?_)
  · refine zr_aload_n dX9_recordThen_23 rfl ?_
    refine zr_getR dX9_recordThen_24 fd_9_7 rfl (MI.ob hM ⟨rfl, rfl⟩) (MI.r0 hM ⟨rfl, rfl⟩) (by decide) ?_
    refine zr_iload_n dX9_recordThen_27 rfl ?_
    refine zr_iload_n dX9_recordThen_28 rfl ?_
    refine zr_cS2 rfl dX9_recordThen_29 cv_9_55 (Nat.le_of_ble_eq_true rfl) (at_ok ?_)
    refine zr_iload_n dX9_recordThen_32 rfl ?_
    refine zr_iaddN dX9_recordThen_33 ?_
    refine zr_ialoadA dX9_recordThen_34 (MI.a668 hM ⟨rfl, rfl⟩) (by omega) ?_
    rw [hA.rec hh hr what (by omega)]
    refine zr_ireturn dX9_recordThen_35 rfl (Nat.le_refl _) (Nat.le_refl _) ?_
    first | (rw [srecth, if_pos hc_3, hc_12] at hk; exact hk) | (rw [srecth, if_neg hc_3] at hk; exact hk)
  · refine zr_aload_n dX9_recordThen_6 rfl ?_
    refine zr_iload_n dX9_recordThen_7 rfl ?_
    refine zr_iload_n dX9_recordThen_8 rfl ?_
    refine zr_cV2 rfl dX9_recordThen_9 cv_9_142 (MI.ob hM ⟨rfl, rfl⟩) (Nat.le_of_ble_eq_true rfl) (isDefended_ok hM hA hX hh hr ?_)
    refine zr_if_eqB (tgt := 19) dX9_recordThen_12 (by decide) (fun hc_12 => ?_) (fun hc_12 => ?_)
    · refine zr_iconst (v := nI 0) dX9_recordThen_19 rfl ?_
      refine zr_goto (tgt := 35) dX9_recordThen_20 (by decide) ?_
      refine zr_ireturn dX9_recordThen_35 rfl (Nat.le_refl _) (Nat.le_refl _) ?_
      first | (rw [srecth, if_pos hc_3, hc_12] at hk; exact hk) | (rw [srecth, if_neg hc_3] at hk; exact hk)
    · refine zr_iconst (v := nI 1) dX9_recordThen_15 rfl ?_
      refine zr_goto (tgt := 35) dX9_recordThen_16 (by decide) ?_
      refine zr_ireturn dX9_recordThen_35 rfl (Nat.le_refl _) (Nat.le_refl _) ?_
      first | (rw [srecth, if_pos hc_3, hc_12] at hk; exact hk) | (rw [srecth, if_neg hc_3] at hk; exact hk)
theorem owned_loop {h : Nat} (hM : MI m) (hA : RA f s) (hh : h < s.2.2.1) (hk : Q (.int (nI (sownN (s.2.2.2 h).2.2.1))) (zrow m 668 f)) : ∀ n r c, (s.2.2.2 h).2.2.1.length - r < n → r ≤ (s.2.2.2 h).2.2.1.length → c = cntN (fun i => sown (zg (s.2.2.2 h).2.2.1 i)) r →
    zwp (d + 2) M9_owned 0 0 Q 4 [.ref 667, .int (nI h), .int (nI c), .int (nI r)] [] 0 0 (zrow m 668 f) := by
  have h6 := hA.h6 hh
  have h5 := hA.c5 hh
  intro n
  induction n with
  | zero => intro r b h1; omega
  | succ n ih =>
    intro r c h1 h2 hc
    refine zr_iload_n dX9_owned_4 rfl ?_
    refine zr_aload_n dX9_owned_5 rfl ?_
    refine zr_iload_n dX9_owned_6 rfl ?_
    refine zr_cV1 rfl dX9_owned_7 cv_9_73 (MI.ob hM ⟨rfl, rfl⟩) (Nat.le_of_ble_eq_true rfl) (records_ok hM h6 (hA.cnt hh) ?_)
    refine zr_icmp_geN (tgt := 43) dX9_owned_10 (by decide) (by omega) (by omega) (fun hc_10 => ?_) (fun hc_10 => ?_)
    · refine zr_iload_n dX9_owned_43 rfl ?_
      refine zr_ireturn dX9_owned_44 rfl (Nat.le_refl _) (Nat.le_refl _) ?_
      have e : r = (s.2.2.2 h).2.2.1.length := by omega
      rw [hc, e]; exact hk
    · refine zr_iload_n dX9_owned_13 rfl ?_
      refine zr_aload_n dX9_owned_14 rfl ?_
      refine zr_getR dX9_owned_15 fd_9_7 rfl (MI.ob hM ⟨rfl, rfl⟩) (MI.r0 hM ⟨rfl, rfl⟩) (by decide) ?_
      refine zr_iload_n dX9_owned_18 rfl ?_
      refine zr_iload_n dX9_owned_19 rfl ?_
      refine zr_cS2 rfl dX9_owned_20 cv_9_55 (Nat.le_of_ble_eq_true rfl) (at_ok ?_)
      refine zr_iconst (v := nI 4) dX9_owned_23 rfl ?_
      refine zr_iaddN dX9_owned_24 ?_
      refine zr_ialoadA dX9_owned_25 (MI.a668 hM ⟨rfl, rfl⟩) (by omega) ?_
      rw [hA.rec hh hc_10 4 (by decide)]
      refine zr_iconst (v := nI 3) dX9_owned_26 rfl ?_
      refine zr_icmp_ne (tgt := 34) dX9_owned_27 (by decide) (fun hc_27 => ?_) (fun hc_27 => ?_)
      · refine zr_iconst (v := nI 0) dX9_owned_34 rfl ?_
        refine zr_iaddN dX9_owned_35 ?_
        refine zr_istore_n dX9_owned_36 (by decide) rfl ?_
        dsimp only [zset]
        refine zr_iincN dX9_owned_37 rfl (by decide) rfl ?_
        dsimp only [zset]
        refine zr_goto (tgt := 4) dX9_owned_40 (by decide) ?_
        exact ih (r + 1) _ (by omega) (by omega) (by simp_all [cntN, sown, nI3])
      · refine zr_iconst (v := nI 1) dX9_owned_30 rfl ?_
        refine zr_goto (tgt := 35) dX9_owned_31 (by decide) ?_
        refine zr_iaddN dX9_owned_35 ?_
        refine zr_istore_n dX9_owned_36 (by decide) rfl ?_
        dsimp only [zset]
        refine zr_iincN dX9_owned_37 rfl (by decide) rfl ?_
        dsimp only [zset]
        refine zr_goto (tgt := 4) dX9_owned_40 (by decide) ?_
        exact ih (r + 1) _ (by omega) (by omega) (by simp_all [cntN, sown, nI3])
theorem owned_ok {h : Nat} (hM : MI m) (hA : RA f s) (hh : h < s.2.2.1) (hk : Q (.int (nI (sownN (s.2.2.2 h).2.2.1))) (zrow m 668 f)) : zC (d + 2) M9_owned 0 0 [.ref 667, .int (nI h)] (zrow m 668 f) Q := by
  refine zenterP (Or.inl (by decide +kernel)) rfl (fun h => by cases h) (Nat.le_of_ble_eq_true rfl) ?_
  show zwp _ _ _ _ _ 0 [_, _, zU, zU] [] 0 0 _
  refine zr_iconst (v := nI 0) dX9_owned_0 rfl ?_
  refine zr_istore_n dX9_owned_1 (by decide) rfl ?_
  dsimp only [zset]
  refine zr_iconst (v := nI 0) dX9_owned_2 rfl ?_
  refine zr_istore_n dX9_owned_3 (by decide) rfl ?_
  dsimp only [zset]
  exact owned_loop hM hA hh hk _ 0 0 (Nat.lt_succ_self _) (Nat.zero_le _) rfl
theorem stoodFor_loop {h : Nat} (hM : MI m) (hA : RA f s) (hk : Q (.int (sstood s h s.2.2.1)) (zrow m 668 f)) : ∀ n o, s.2.2.1 - o < n → o ≤ s.2.2.1 →
    zwp (d + 2) M9_stoodFor 0 0 Q 4 [.ref 667, .int (nI h), .int (sstood s h o), .int (nI o)] [] 0 0 (zrow m 668 f) := by
  have h6 := hA.2.1
  intro n
  induction n with
  | zero => intro o h1; omega
  | succ n ih =>
    intro o h1 h2
    refine zr_iload_n dX9_stoodFor_4 rfl ?_
    refine zr_aload_n dX9_stoodFor_5 rfl ?_
    refine zr_getR dX9_stoodFor_6 fd_9_7 rfl (MI.ob hM ⟨rfl, rfl⟩) (MI.r0 hM ⟨rfl, rfl⟩) (by decide) ?_
    refine zr_iconst (v := nI 0) dX9_stoodFor_9 rfl ?_
    refine zr_ialoadA dX9_stoodFor_10 (MI.a668 hM ⟨rfl, rfl⟩) (by omega) ?_
    rw [hA.1]
    refine zr_icmp_geN (tgt := 39) dX9_stoodFor_11 (by decide) (by omega) (by omega) (fun hc_11 => ?_) (fun hc_11 => ?_)
    · refine zr_iload_n dX9_stoodFor_39 rfl ?_
      refine zr_ireturn dX9_stoodFor_40 rfl (Nat.le_refl _) (Nat.le_refl _) ?_
      have e : o = s.2.2.1 := by omega
      rw [e]; exact hk
    · refine zr_iload_n dX9_stoodFor_14 rfl ?_
      refine zr_aload_n dX9_stoodFor_15 rfl ?_
      refine zr_iload_n dX9_stoodFor_16 rfl ?_
      refine zr_cV1 rfl dX9_stoodFor_17 cv_9_63 (MI.ob hM ⟨rfl, rfl⟩) (Nat.le_of_ble_eq_true rfl) (proxy_ok hM (by omega) (hA.prx hc_11) ?_)
      refine zr_iload_n dX9_stoodFor_20 rfl ?_
      refine zr_icmp_ne (tgt := 30) dX9_stoodFor_21 (by decide) (fun hc_21 => ?_) (fun hc_21 => ?_)
      · refine zr_iconst (v := nI 0) dX9_stoodFor_30 rfl ?_
        refine zr_ior dX9_stoodFor_31 ?_
        refine zr_istore_n dX9_stoodFor_32 (by decide) rfl ?_
        dsimp only [zset]
        refine zr_iincN dX9_stoodFor_33 rfl (by decide) rfl ?_
        dsimp only [zset]
        refine zr_goto (tgt := 4) dX9_stoodFor_36 (by decide) ?_
        have := ih (o + 1) (by omega) (by omega)
        rw [sstood] at this
        simpa [hc_21, nI0, nI1] using this
      · refine zr_iconst (v := nI 1) dX9_stoodFor_24 rfl ?_
        refine zr_iload_n dX9_stoodFor_25 rfl ?_
        refine zr_ishl dX9_stoodFor_26 ?_
        refine zr_goto (tgt := 31) dX9_stoodFor_27 (by decide) ?_
        refine zr_ior dX9_stoodFor_31 ?_
        refine zr_istore_n dX9_stoodFor_32 (by decide) rfl ?_
        dsimp only [zset]
        refine zr_iincN dX9_stoodFor_33 rfl (by decide) rfl ?_
        dsimp only [zset]
        refine zr_goto (tgt := 4) dX9_stoodFor_36 (by decide) ?_
        have := ih (o + 1) (by omega) (by omega)
        rw [sstood] at this
        simpa [hc_21, nI0, nI1] using this
theorem stoodFor_ok {h : Nat} (hM : MI m) (hA : RA f s) (hk : Q (.int (sstood s h s.2.2.1)) (zrow m 668 f)) : zC (d + 2) M9_stoodFor 0 0 [.ref 667, .int (nI h)] (zrow m 668 f) Q := by
  refine zenterP (Or.inl (by decide +kernel)) rfl (fun h => by cases h) (Nat.le_of_ble_eq_true rfl) ?_
  show zwp _ _ _ _ _ 0 [_, _, zU, zU] [] 0 0 _
  refine zr_iconst (v := nI 0) dX9_stoodFor_0 rfl ?_
  refine zr_istore_n dX9_stoodFor_1 (by decide) rfl ?_
  dsimp only [zset]
  refine zr_iconst (v := nI 0) dX9_stoodFor_2 rfl ?_
  refine zr_istore_n dX9_stoodFor_3 (by decide) rfl ?_
  dsimp only [zset]
  exact stoodFor_loop hM hA hk _ 0 (Nat.lt_succ_self _) (Nat.zero_le _)
theorem ofNow_ok {h what : Nat} (hM : MI m) (hA : RA f s) (hh : h < s.2.2.1) (hw : what < 6) (hk : Q (.int (sof s h what)) (zrow m 668 f)) : zC (d + 3) M9_ofNow 0 0 [.ref 667, .int (nI h), .int (nI what)] (zrow m 668 f) Q := by
  have h6 := hA.h6 hh
  refine zenterP (Or.inl (by decide +kernel)) rfl (fun h => by cases h) (Nat.le_of_ble_eq_true rfl) ?_
  show zwp _ _ _ _ _ 0 [_, _, _] [] 0 0 _
  rcases (show what = 0 ∨ what = 1 ∨ what = 2 ∨ what = 3 ∨ what = 4 ∨ what = 5 by omega) with rfl | rfl | rfl | rfl | rfl | rfl
  · refine zr_iload_n dX9_ofNow_0 rfl ?_
    refine zr_tableIn (off := 35) (tgt := 36) dX9_ofNow_1 (by decide) (by decide) rfl (by decide) ?_
    refine zr_aload_n dX9_ofNow_36 rfl ?_
    refine zr_iload_n dX9_ofNow_37 rfl ?_
    refine zr_cV1 rfl dX9_ofNow_38 cv_9_73 (MI.ob hM ⟨rfl, rfl⟩) (Nat.le_of_ble_eq_true rfl) (records_ok hM h6 (hA.cnt hh) ?_)
    refine zr_ireturn dX9_ofNow_41 rfl (Nat.le_refl _) (Nat.le_refl _) ?_
    exact hk
  · refine zr_iload_n dX9_ofNow_0 rfl ?_
    refine zr_tableIn (off := 41) (tgt := 42) dX9_ofNow_1 (by decide) (by decide) rfl (by decide) ?_
    refine zr_aload_n dX9_ofNow_42 rfl ?_
    refine zr_getR dX9_ofNow_43 fd_9_7 rfl (MI.ob hM ⟨rfl, rfl⟩) (MI.r0 hM ⟨rfl, rfl⟩) (by decide) ?_
    refine zr_bipush (v := nI 10) dX9_ofNow_46 rfl ?_
    refine zr_iconst (v := nI 4) dX9_ofNow_48 rfl ?_
    refine zr_iload_n dX9_ofNow_49 rfl ?_
    refine zr_imulN dX9_ofNow_50 ?_
    refine zr_iaddN dX9_ofNow_51 ?_
    refine zr_ialoadA dX9_ofNow_52 (MI.a668 hM ⟨rfl, rfl⟩) (by omega) ?_
    refine zr_ireturn dX9_ofNow_53 rfl (Nat.le_refl _) (Nat.le_refl _) ?_
    rw [hA.awk hh]; exact hk
  · refine zr_iload_n dX9_ofNow_0 rfl ?_
    refine zr_tableIn (off := 53) (tgt := 54) dX9_ofNow_1 (by decide) (by decide) rfl (by decide) ?_
    refine zr_aload_n dX9_ofNow_54 rfl ?_
    refine zr_iload_n dX9_ofNow_55 rfl ?_
    refine zr_cV1 rfl dX9_ofNow_56 cv_9_63 (MI.ob hM ⟨rfl, rfl⟩) (Nat.le_of_ble_eq_true rfl) (proxy_ok hM h6 (hA.prx hh) ?_)
    refine zr_ireturn dX9_ofNow_59 rfl (Nat.le_refl _) (Nat.le_refl _) ?_
    exact hk
  · refine zr_iload_n dX9_ofNow_0 rfl ?_
    refine zr_tableIn (off := 59) (tgt := 60) dX9_ofNow_1 (by decide) (by decide) rfl (by decide) ?_
    refine zr_aload_n dX9_ofNow_60 rfl ?_
    refine zr_iload_n dX9_ofNow_61 rfl ?_
    refine zr_cV1 rfl dX9_ofNow_62 cv_9_70 (MI.ob hM ⟨rfl, rfl⟩) (Nat.le_of_ble_eq_true rfl) (entries_ok hM h6 (hA.siz hh) ?_)
    refine zr_ireturn dX9_ofNow_65 rfl (Nat.le_refl _) (Nat.le_refl _) ?_
    exact hk
  · refine zr_iload_n dX9_ofNow_0 rfl ?_
    refine zr_tableIn (off := 65) (tgt := 66) dX9_ofNow_1 (by decide) (by decide) rfl (by decide) ?_
    refine zr_aload_n dX9_ofNow_66 rfl ?_
    refine zr_iload_n dX9_ofNow_67 rfl ?_
    refine zr_cV1 rfl dX9_ofNow_68 cv_9_151 (MI.ob hM ⟨rfl, rfl⟩) (Nat.le_of_ble_eq_true rfl) (owned_ok hM hA hh ?_)
    refine zr_ireturn dX9_ofNow_71 rfl (Nat.le_refl _) (Nat.le_refl _) ?_
    exact hk
  · refine zr_iload_n dX9_ofNow_0 rfl ?_
    refine zr_tableOut (tgt := 72) dX9_ofNow_1 (by decide) (by decide) ?_
    refine zr_aload_n dX9_ofNow_72 rfl ?_
    refine zr_iload_n dX9_ofNow_73 rfl ?_
    refine zr_cV1 rfl dX9_ofNow_74 cv_9_154 (MI.ob hM ⟨rfl, rfl⟩) (Nat.le_of_ble_eq_true rfl) (stoodFor_ok hM hA ?_)
    refine zr_ireturn dX9_ofNow_77 rfl (Nat.le_refl _) (Nat.le_refl _) ?_
    exact hk
theorem canAsk_ok {h n k : Int32} (hM : MI m) (hA : RA f s) (hk : Q (.int (scanAsk s h n k)) (zrow m 668 f)) : zC (d + 3) M9_canAsk 0 0 [.ref 667, .int h, .int n, .int k] (zrow m 668 f) Q := by
  refine zenterP (Or.inl (by decide +kernel)) rfl (fun h => by cases h) (Nat.le_of_ble_eq_true rfl) ?_
  show zwp _ _ _ _ _ 0 [_, _, _, _] [] 0 0 _
  refine zr_aload_n dX9_canAsk_0 rfl ?_
  refine zr_iload_n dX9_canAsk_1 rfl ?_
  refine zr_cV1 rfl dX9_canAsk_2 cv_9_110 (MI.ob hM ⟨rfl, rfl⟩) (Nat.le_of_ble_eq_true rfl) (isHost_ok hM hA ?_)
  refine zr_if_eqB (tgt := 16) dX9_canAsk_5 (by decide) (fun hc_5 => ?_) (fun hc_5 => ?_)
  · refine zr_bipush (v := -2) dX9_canAsk_16 rfl ?_
    refine zr_goto (tgt := 35) dX9_canAsk_18 (by decide) ?_
    refine zr_ireturn dX9_canAsk_35 rfl (Nat.le_refl _) (Nat.le_refl _) ?_
    (try rw [scanAsk, hcl] at hk); simpa [scanAsk, *, nI0] using hk
  · obtain ⟨j, hj1, rfl⟩ := sisH_of hA.2.1 hc_5
    have h6 := hA.h6 hj1
    have hcl : (nI j).toNatClampNeg = j := nI_clamp (by omega)
    refine zr_iload_n dX9_canAsk_8 rfl ?_
    refine zr_iload_n dX9_canAsk_9 rfl ?_
    refine zr_cS2 rfl dX9_canAsk_10 cv_9_113 (Nat.le_of_ble_eq_true rfl) (isName_ok ?_)
    refine zr_if_neB (tgt := 21) dX9_canAsk_13 (by decide) (fun hc_13 => ?_) (fun hc_13 => ?_)
    · refine zr_aload_n dX9_canAsk_21 rfl ?_
      refine zr_iload_n dX9_canAsk_22 rfl ?_
      refine zr_cV1 rfl dX9_canAsk_23 cv_9_59 (MI.ob hM ⟨rfl, rfl⟩) (Nat.le_of_ble_eq_true rfl) (isAwake_ok hM (hA.h6 hj1) (hA.awk hj1) ?_)
      refine zr_if_eqB (tgt := 33) dX9_canAsk_26 (by decide) (fun hc_26 => ?_) (fun hc_26 => ?_)
      · refine zr_bipush (v := -3) dX9_canAsk_33 rfl ?_
        refine zr_ireturn dX9_canAsk_35 rfl (Nat.le_refl _) (Nat.le_refl _) ?_
        (try rw [scanAsk, hcl] at hk); simpa [scanAsk, *, nI0] using hk
      · refine zr_iconst (v := nI 0) dX9_canAsk_29 rfl ?_
        refine zr_goto (tgt := 35) dX9_canAsk_30 (by decide) ?_
        refine zr_ireturn dX9_canAsk_35 rfl (Nat.le_refl _) (Nat.le_refl _) ?_
        (try rw [scanAsk, hcl] at hk); simpa [scanAsk, *, nI0] using hk
    · refine zr_bipush (v := -2) dX9_canAsk_16 rfl ?_
      refine zr_goto (tgt := 35) dX9_canAsk_18 (by decide) ?_
      refine zr_ireturn dX9_canAsk_35 rfl (Nat.le_refl _) (Nat.le_refl _) ?_
      (try rw [scanAsk, hcl] at hk); simpa [scanAsk, *, nI0] using hk
theorem canWake_ok {h : Int32} (hM : MI m) (hA : RA f s) (hk : Q (.int (scanWake s h)) (zrow m 668 f)) : zC (d + 3) M9_canWake 0 0 [.ref 667, .int h] (zrow m 668 f) Q := by
  refine zenterP (Or.inl (by decide +kernel)) rfl (fun h => by cases h) (Nat.le_of_ble_eq_true rfl) ?_
  show zwp _ _ _ _ _ 0 [_, _] [] 0 0 _
  refine zr_aload_n dX9_canWake_0 rfl ?_
  refine zr_iload_n dX9_canWake_1 rfl ?_
  refine zr_cV1 rfl dX9_canWake_2 cv_9_110 (MI.ob hM ⟨rfl, rfl⟩) (Nat.le_of_ble_eq_true rfl) (isHost_ok hM hA ?_)
  refine zr_if_neB (tgt := 13) dX9_canWake_5 (by decide) (fun hc_5 => ?_) (fun hc_5 => ?_)
  · obtain ⟨j, hj1, rfl⟩ := sisH_of hA.2.1 hc_5
    have h6 := hA.h6 hj1
    have hcl : (nI j).toNatClampNeg = j := nI_clamp (by omega)
    refine zr_aload_n dX9_canWake_13 rfl ?_
    refine zr_iload_n dX9_canWake_14 rfl ?_
    refine zr_cV1 rfl dX9_canWake_15 cv_9_59 (MI.ob hM ⟨rfl, rfl⟩) (Nat.le_of_ble_eq_true rfl) (isAwake_ok hM (hA.h6 hj1) (hA.awk hj1) ?_)
    refine zr_if_eqB (tgt := 26) dX9_canWake_18 (by decide) (fun hc_18 => ?_) (fun hc_18 => ?_)
    · refine zr_iconst (v := nI 0) dX9_canWake_26 rfl ?_
      refine zr_ireturn dX9_canWake_27 rfl (Nat.le_refl _) (Nat.le_refl _) ?_
      (try rw [scanWake, hcl] at hk); simpa [scanWake, *, nI0] using hk
    · refine zr_bipush (v := -3) dX9_canWake_21 rfl ?_
      refine zr_goto (tgt := 27) dX9_canWake_23 (by decide) ?_
      refine zr_ireturn dX9_canWake_27 rfl (Nat.le_refl _) (Nat.le_refl _) ?_
      (try rw [scanWake, hcl] at hk); simpa [scanWake, *, nI0] using hk
  · refine zr_bipush (v := -2) dX9_canWake_8 rfl ?_
    refine zr_goto (tgt := 27) dX9_canWake_10 (by decide) ?_
    refine zr_ireturn dX9_canWake_27 rfl (Nat.le_refl _) (Nat.le_refl _) ?_
    (try rw [scanWake, hcl] at hk); simpa [scanWake, *, nI0] using hk
theorem canSleep_ok {h p : Int32} (hM : MI m) (hA : RA f s) (hk : Q (.int (scanSleep s h p)) (zrow m 668 f)) : zC (d + 3) M9_canSleep 0 0 [.ref 667, .int h, .int p] (zrow m 668 f) Q := by
  refine zenterP (Or.inl (by decide +kernel)) rfl (fun h => by cases h) (Nat.le_of_ble_eq_true rfl) ?_
  show zwp _ _ _ _ _ 0 [_, _, _] [] 0 0 _
  have J : sisH s h = true → (p = -1 ∨ sisH s p = true) → zwp (d + 3) M9_canSleep 0 0 Q 21 [.ref 667, .int h, .int p] [] 0 0 (zrow m 668 f) := by
    intro h1 h2
    obtain ⟨j, hj1, rfl⟩ := sisH_of hA.2.1 h1
    have h6 := hA.h6 hj1
    have hcl : (nI j).toNatClampNeg = j := nI_clamp (by omega)
    have h3 : (p != -1 && !sisH s p) = false := by rcases h2 with h2 | h2 <;> simp [h2]
    rw [scanSleep, hcl] at hk
    refine zr_iload_n dX9_canSleep_21 rfl ?_
    refine zr_iload_n dX9_canSleep_22 rfl ?_
    refine zr_icmp_ne (tgt := 29) dX9_canSleep_23 (by decide) (fun hc_23 => ?_) (fun hc_23 => ?_)
    · refine zr_aload_n dX9_canSleep_29 rfl ?_
      refine zr_iload_n dX9_canSleep_30 rfl ?_
      refine zr_cV1 rfl dX9_canSleep_31 cv_9_59 (MI.ob hM ⟨rfl, rfl⟩) (Nat.le_of_ble_eq_true rfl) (isAwake_ok hM (hA.h6 hj1) (hA.awk hj1) ?_)
      refine zr_if_eqB (tgt := 50) dX9_canSleep_34 (by decide) (fun hc_34 => ?_) (fun hc_34 => ?_)
      · refine zr_bipush (v := -3) dX9_canSleep_50 rfl ?_
        refine zr_goto (tgt := 56) dX9_canSleep_52 (by decide) ?_
        refine zr_ireturn dX9_canSleep_56 rfl (Nat.le_refl _) (Nat.le_refl _) ?_
        simp_all [nI0]
      · refine zr_iload_n dX9_canSleep_37 rfl ?_
        refine zr_iconst (v := -1) dX9_canSleep_38 rfl ?_
        refine zr_icmp_eq (tgt := 55) dX9_canSleep_39 (by decide) (fun hc_39 => ?_) (fun hc_39 => ?_)
        · refine zr_iconst (v := nI 0) dX9_canSleep_55 rfl ?_
          refine zr_ireturn dX9_canSleep_56 rfl (Nat.le_refl _) (Nat.le_refl _) ?_
          simp_all [nI0]
        · obtain ⟨q, hq1, rfl⟩ := sisH_of hA.2.1 (h2.resolve_left hc_39)
          have h7 := hA.h6 hq1
          have hcq : (nI q).toNatClampNeg = q := nI_clamp (by omega)
          refine zr_aload_n dX9_canSleep_42 rfl ?_
          refine zr_iload_n dX9_canSleep_43 rfl ?_
          refine zr_cV1 rfl dX9_canSleep_44 cv_9_59 (MI.ob hM ⟨rfl, rfl⟩) (Nat.le_of_ble_eq_true rfl) (isAwake_ok hM (hA.h6 hq1) (hA.awk hq1) ?_)
          refine zr_if_neB (tgt := 55) dX9_canSleep_47 (by decide) (fun hc_47 => ?_) (fun hc_47 => ?_)
          · refine zr_iconst (v := nI 0) dX9_canSleep_55 rfl ?_
            refine zr_ireturn dX9_canSleep_56 rfl (Nat.le_refl _) (Nat.le_refl _) ?_
            simp_all [nI0]
          · refine zr_bipush (v := -3) dX9_canSleep_50 rfl ?_
            refine zr_goto (tgt := 56) dX9_canSleep_52 (by decide) ?_
            refine zr_ireturn dX9_canSleep_56 rfl (Nat.le_refl _) (Nat.le_refl _) ?_
            simp_all [nI0]
    · refine zr_bipush (v := -2) dX9_canSleep_26 rfl ?_
      refine zr_ireturn dX9_canSleep_28 rfl (Nat.le_refl _) (Nat.le_refl _) ?_
      simp_all [nI0]
  refine zr_aload_n dX9_canSleep_0 rfl ?_
  refine zr_iload_n dX9_canSleep_1 rfl ?_
  refine zr_cV1 rfl dX9_canSleep_2 cv_9_110 (MI.ob hM ⟨rfl, rfl⟩) (Nat.le_of_ble_eq_true rfl) (isHost_ok hM hA ?_)
  refine zr_if_eqB (tgt := 26) dX9_canSleep_5 (by decide) (fun hc_5 => ?_) (fun hc_5 => ?_)
  · refine zr_bipush (v := -2) dX9_canSleep_26 rfl ?_
    refine zr_ireturn dX9_canSleep_28 rfl (Nat.le_refl _) (Nat.le_refl _) ?_
    simpa [scanSleep, *] using hk
  · refine zr_iload_n dX9_canSleep_8 rfl ?_
    refine zr_iconst (v := -1) dX9_canSleep_9 rfl ?_
    refine zr_icmp_eq (tgt := 21) dX9_canSleep_10 (by decide) (fun hc_10 => ?_) (fun hc_10 => ?_)
    · exact J (by simp [*]) (by simp [*])
    · refine zr_aload_n dX9_canSleep_13 rfl ?_
      refine zr_iload_n dX9_canSleep_14 rfl ?_
      refine zr_cV1 rfl dX9_canSleep_15 cv_9_110 (MI.ob hM ⟨rfl, rfl⟩) (Nat.le_of_ble_eq_true rfl) (isHost_ok hM hA ?_)
      refine zr_if_eqB (tgt := 26) dX9_canSleep_18 (by decide) (fun hc_18 => ?_) (fun hc_18 => ?_)
      · refine zr_bipush (v := -2) dX9_canSleep_26 rfl ?_
        refine zr_ireturn dX9_canSleep_28 rfl (Nat.le_refl _) (Nat.le_refl _) ?_
        simpa [scanSleep, *] using hk
      · exact J (by simp [*]) (by simp [*])
theorem entryNow_ok {h i what : Nat} (hM : MI m) (hA : RA f s) (hh : h < s.2.2.1) (hi : i < (s.2.2.2 h).2.2.2.length) (hw : what < 5) (hk : Q (.int (sentr s h i what)) (zrow m 668 f)) : zC (d + 2) M9_entryNow 0 0 [.ref 667, .int (nI h), .int (nI i), .int (nI what)] (zrow m 668 f) Q := by
  have h6 := hA.h6 hh
  have s6 := hA.s6 hh
  refine zenterP (Or.inl (by decide +kernel)) rfl (fun h => by cases h) (Nat.le_of_ble_eq_true rfl) ?_
  show zwp _ _ _ _ _ 0 [_, _, _, _] [] 0 0 _
  refine zr_aload_n dX9_entryNow_0 rfl ?_
  refine zr_getR dX9_entryNow_1 fd_9_7 rfl (MI.ob hM ⟨rfl, rfl⟩) (MI.r0 hM ⟨rfl, rfl⟩) (by decide) ?_
  refine zr_iload_n dX9_entryNow_4 rfl ?_
  refine zr_iload_n dX9_entryNow_5 rfl ?_
  refine zr_cS2 rfl dX9_entryNow_6 cv_9_67 (Nat.le_of_ble_eq_true rfl) (kept_ok ?_)
  refine zr_iload_n dX9_entryNow_9 rfl ?_
  refine zr_iaddN dX9_entryNow_10 ?_
  refine zr_ialoadA dX9_entryNow_11 (MI.a668 hM ⟨rfl, rfl⟩) (by omega) ?_
  rw [hA.ent hh hi what (by omega)]
  refine zr_iload_n dX9_entryNow_12 rfl ?_
  refine zr_iconst (v := nI 4) dX9_entryNow_13 rfl ?_
  refine zr_icmp_neN (tgt := 26) dX9_entryNow_14 (by decide) (by omega) (by omega) (fun hc_14 => ?_) (fun hc_14 => ?_)
  · refine zr_iconst (v := nI 0) dX9_entryNow_26 rfl ?_
    refine zr_isub dX9_entryNow_27 ?_
    refine zr_ireturn dX9_entryNow_28 rfl (Nat.le_refl _) (Nat.le_refl _) ?_
    simpa [sentr, *, zat, nI0] using hk
  · refine zr_aload_n dX9_entryNow_17 rfl ?_
    refine zr_getR dX9_entryNow_18 fd_9_7 rfl (MI.ob hM ⟨rfl, rfl⟩) (MI.r0 hM ⟨rfl, rfl⟩) (by decide) ?_
    refine zr_iconst (v := nI 1) dX9_entryNow_21 rfl ?_
    refine zr_ialoadA dX9_entryNow_22 (MI.a668 hM ⟨rfl, rfl⟩) (by omega) ?_
    rw [hA.2.2.1 1 (by decide) (by decide)]
    refine zr_goto (tgt := 27) dX9_entryNow_23 (by decide) ?_
    refine zr_isub dX9_entryNow_27 ?_
    refine zr_ireturn dX9_entryNow_28 rfl (Nat.le_refl _) (Nat.le_refl _) ?_
    simpa [sentr, *, zat, nI0] using hk
end
