/-! ===== the reference's public methods: steps ===== -/
def xs (l : List Int32) : Nat → Int32 := fun k => l.getD k 0
section
variable {d : Nat} {Q : Value → zM → Prop} {m m' : zM} {s s' : sS} {w : sW}
theorem wstep_no {c : Int32} {x : Nat → Int32} (h : oc c x w.1 < 0) : wstep w c x = (oc c x w.1, wref w (oc c x w.1)) := if_pos h
theorem wstep_yes {c : Int32} {x : Nat → Int32} (h : oc c x w.1 = 0) : wstep w c x = ((od c x w.1).1, ((od c x w.1).2, skeep w.2.1 w.1, w.2.2)) := if_neg (by rw [h]; decide)
theorem host_m (hR : RM m w) (hs : sOK w.1) (hk : ∀ m', RM m' (wstep w (nI 104) (xs [])).2 → zlo m m' → Q (.int (wstep w (nI 104) (xs [])).1) m') : zC (d + 2) M9_host 0 0 [.ref 667] m Q := by
  have hM := hR.1
  have hA := hR.2.1
  have n6 := hs.1
  refine zenterP (Or.inl (by decide +kernel)) rfl (fun h => by cases h) (Nat.le_of_ble_eq_true rfl) ?_
  show zwp _ _ _ _ _ 0 [_, zU] [] 0 0 _
  refine zr_aload_n dX9_host_0 rfl ?_
  refine zr_cV0 rfl dX9_host_1 cv_9_93 (MI.ob hM ⟨rfl, rfl⟩) (Nat.le_of_ble_eq_true rfl) (zCg (canHost_ok hM hA ?_))
  rw [zrow_id]
  refine zr_istore_n dX9_host_4 (by decide) rfl ?_
  dsimp only [zset]
  refine zr_iload_n dX9_host_5 rfl ?_
  refine zr_if_ge (tgt := 15) dX9_host_6 (by decide) (fun hc_6 => ?_) (fun hc_6 => ?_)
  · have e : oc (nI 104) (xs []) w.1 = 0 := oc_0 (Int32.not_lt.mpr hc_6)
    rw [wstep_yes e] at hk
    
    refine zr_aload_n dX9_host_15 rfl ?_
    refine zr_cV0v rfl dX9_host_16 cv_9_100 (MI.ob hM ⟨rfl, rfl⟩) (Nat.le_of_ble_eq_true rfl) (keep_m hR (fun m1 r1 l1 => ?_))
    have hM := r1.1
    refine zr_aload_n dX9_host_19 rfl ?_
    refine zr_cV0 rfl dX9_host_20 cv_9_103 (MI.ob hM ⟨rfl, rfl⟩) (Nat.le_of_ble_eq_true rfl) (hostNow_g r1.rs (scanHost_0 n6 e) (fun m2 k2 r2 => ?_))
    refine zr_ireturn dX9_host_23 rfl (Nat.le_refl _) (Nat.le_refl _) ?_
    exact hk m2 (r1.cur k2 r2) (l1.tr k2.lo)
  · have e : oc (nI 104) (xs []) w.1 < 0 := Int32.not_le.mp hc_6
    rw [wstep_no e] at hk
    refine zr_aload_n dX9_host_9 rfl ?_
    refine zr_iload_n dX9_host_10 rfl ?_
    refine zr_cV1 rfl dX9_host_11 cv_9_97 (MI.ob hM ⟨rfl, rfl⟩) (Nat.le_of_ble_eq_true rfl) (refuses_m (oc_e e) hR (fun m' h1 h2 => ?_))
    refine zr_ireturn dX9_host_14 rfl (Nat.le_refl _) (Nat.le_refl _) ?_
    exact hk m' h1 h2
theorem claims_m {a b c q l : Int32} (hR : RM m w) (hs : sOK w.1) (hk : ∀ m', RM m' (wstep w (nI 99) (xs [a, b, c, q, l])).2 → zlo m m' → Q (.int (wstep w (nI 99) (xs [a, b, c, q, l])).1) m') : zC (d + 7) M9_claims 0 0 [.ref 667, .int a, .int b, .int c, .int q, .int l] m Q := by
  have hM := hR.1
  have hA := hR.2.1
  have n6 := hs.1
  refine zenterP (Or.inl (by decide +kernel)) rfl (fun h => by cases h) (Nat.le_of_ble_eq_true rfl) ?_
  show zwp _ _ _ _ _ 0 [_, _, _, _, _, _, zU] [] 0 0 _
  refine zr_aload_n dX9_claims_0 rfl ?_
  refine zr_iload_n dX9_claims_1 rfl ?_
  refine zr_iload_n dX9_claims_2 rfl ?_
  refine zr_iload_n dX9_claims_3 rfl ?_
  refine zr_iload dX9_claims_4 rfl ?_
  refine zr_iload dX9_claims_6 rfl ?_
  refine zr_cV5 rfl dX9_claims_8 cv_9_125 (MI.ob hM ⟨rfl, rfl⟩) (Nat.le_of_ble_eq_true rfl) (zCg (canRecord_ok hM hA ?_))
  rw [zrow_id]
  refine zr_istore dX9_claims_11 (by decide) rfl ?_
  dsimp only [zset]
  refine zr_iload dX9_claims_13 rfl ?_
  refine zr_if_ge (tgt := 25) dX9_claims_15 (by decide) (fun hc_15 => ?_) (fun hc_15 => ?_)
  · have e : oc (nI 99) (xs [a, b, c, q, l]) w.1 = 0 := oc_0 (Int32.not_lt.mpr hc_15)
    rw [wstep_yes e] at hk
    obtain ⟨i, i1, i2, -, -, -, -, -, i3⟩ := scanRecord_0 n6 e
    have h5 := (hs.2 i i1).2.2.1
    subst i2
    rw [od_c] at hk
    dsimp only [xs, List.getD, List.getElem?_cons_zero, Option.getD_some] at hk
    rw [hN_nI (show i < 2 ^ 31 by omega)] at hk
    refine zr_aload_n dX9_claims_25 rfl ?_
    refine zr_cV0v rfl dX9_claims_26 cv_9_100 (MI.ob hM ⟨rfl, rfl⟩) (Nat.le_of_ble_eq_true rfl) (keep_m hR (fun m1 r1 l1 => ?_))
    have hM := r1.1
    refine zr_aload_n dX9_claims_29 rfl ?_
    refine zr_iload_n dX9_claims_30 rfl ?_
    refine zr_iload_n dX9_claims_31 rfl ?_
    refine zr_iload_n dX9_claims_32 rfl ?_
    refine zr_iload dX9_claims_33 rfl ?_
    refine zr_iload dX9_claims_35 rfl ?_
    refine zr_iconst (v := bI true) dX9_claims_37 rfl ?_
    refine zr_cV6 rfl dX9_claims_38 cv_9_129 (MI.ob hM ⟨rfl, rfl⟩) (Nat.le_of_ble_eq_true rfl) (recordNow_g r1.rs i1 (Nat.lt_of_le_of_ne h5 i3) (fun m2 k2 r2 => ?_))
    refine zr_ireturn dX9_claims_41 rfl (Nat.le_refl _) (Nat.le_refl _) ?_
    exact hk m2 (r1.cur k2 r2) (l1.tr k2.lo)
  · have e : oc (nI 99) (xs [a, b, c, q, l]) w.1 < 0 := Int32.not_le.mp hc_15
    rw [wstep_no e] at hk
    refine zr_aload_n dX9_claims_18 rfl ?_
    refine zr_iload dX9_claims_19 rfl ?_
    refine zr_cV1 rfl dX9_claims_21 cv_9_97 (MI.ob hM ⟨rfl, rfl⟩) (Nat.le_of_ble_eq_true rfl) (refuses_m (oc_e e) hR (fun m' h1 h2 => ?_))
    refine zr_ireturn dX9_claims_24 rfl (Nat.le_refl _) (Nat.le_refl _) ?_
    exact hk m' h1 h2
theorem shares_m {a b c q l : Int32} (hR : RM m w) (hs : sOK w.1) (hk : ∀ m', RM m' (wstep w (nI 115) (xs [a, b, c, q, l])).2 → zlo m m' → Q (.int (wstep w (nI 115) (xs [a, b, c, q, l])).1) m') : zC (d + 7) M9_shares 0 0 [.ref 667, .int a, .int b, .int c, .int q, .int l] m Q := by
  have hM := hR.1
  have hA := hR.2.1
  have n6 := hs.1
  refine zenterP (Or.inl (by decide +kernel)) rfl (fun h => by cases h) (Nat.le_of_ble_eq_true rfl) ?_
  show zwp _ _ _ _ _ 0 [_, _, _, _, _, _, zU] [] 0 0 _
  refine zr_aload_n dX9_shares_0 rfl ?_
  refine zr_iload_n dX9_shares_1 rfl ?_
  refine zr_iload_n dX9_shares_2 rfl ?_
  refine zr_iload_n dX9_shares_3 rfl ?_
  refine zr_iload dX9_shares_4 rfl ?_
  refine zr_iload dX9_shares_6 rfl ?_
  refine zr_cV5 rfl dX9_shares_8 cv_9_125 (MI.ob hM ⟨rfl, rfl⟩) (Nat.le_of_ble_eq_true rfl) (zCg (canRecord_ok hM hA ?_))
  rw [zrow_id]
  refine zr_istore dX9_shares_11 (by decide) rfl ?_
  dsimp only [zset]
  refine zr_iload dX9_shares_13 rfl ?_
  refine zr_if_ge (tgt := 25) dX9_shares_15 (by decide) (fun hc_15 => ?_) (fun hc_15 => ?_)
  · have e : oc (nI 115) (xs [a, b, c, q, l]) w.1 = 0 := oc_0 (Int32.not_lt.mpr hc_15)
    rw [wstep_yes e] at hk
    obtain ⟨i, i1, i2, -, -, -, -, -, i3⟩ := scanRecord_0 n6 e
    have h5 := (hs.2 i i1).2.2.1
    subst i2
    rw [od_s] at hk
    dsimp only [xs, List.getD, List.getElem?_cons_zero, Option.getD_some] at hk
    rw [hN_nI (show i < 2 ^ 31 by omega)] at hk
    refine zr_aload_n dX9_shares_25 rfl ?_
    refine zr_cV0v rfl dX9_shares_26 cv_9_100 (MI.ob hM ⟨rfl, rfl⟩) (Nat.le_of_ble_eq_true rfl) (keep_m hR (fun m1 r1 l1 => ?_))
    have hM := r1.1
    refine zr_aload_n dX9_shares_29 rfl ?_
    refine zr_iload_n dX9_shares_30 rfl ?_
    refine zr_iload_n dX9_shares_31 rfl ?_
    refine zr_iload_n dX9_shares_32 rfl ?_
    refine zr_iload dX9_shares_33 rfl ?_
    refine zr_iload dX9_shares_35 rfl ?_
    refine zr_iconst (v := bI false) dX9_shares_37 rfl ?_
    refine zr_cV6 rfl dX9_shares_38 cv_9_129 (MI.ob hM ⟨rfl, rfl⟩) (Nat.le_of_ble_eq_true rfl) (recordNow_g r1.rs i1 (Nat.lt_of_le_of_ne h5 i3) (fun m2 k2 r2 => ?_))
    refine zr_ireturn dX9_shares_41 rfl (Nat.le_refl _) (Nat.le_refl _) ?_
    exact hk m2 (r1.cur k2 r2) (l1.tr k2.lo)
  · have e : oc (nI 115) (xs [a, b, c, q, l]) w.1 < 0 := Int32.not_le.mp hc_15
    rw [wstep_no e] at hk
    refine zr_aload_n dX9_shares_18 rfl ?_
    refine zr_iload dX9_shares_19 rfl ?_
    refine zr_cV1 rfl dX9_shares_21 cv_9_97 (MI.ob hM ⟨rfl, rfl⟩) (Nat.le_of_ble_eq_true rfl) (refuses_m (oc_e e) hR (fun m' h1 h2 => ?_))
    refine zr_ireturn dX9_shares_24 rfl (Nat.le_refl _) (Nat.le_refl _) ?_
    exact hk m' h1 h2
theorem leaves_m {a b : Int32} (hR : RM m w) (hs : sOK w.1) (hk : ∀ m', RM m' (wstep w (nI 103) (xs [a, b])).2 → zlo m m' → Q (.int (wstep w (nI 103) (xs [a, b])).1) m') : zC (d + 5) M9_leaves 0 0 [.ref 667, .int a, .int b] m Q := by
  have hM := hR.1
  have hA := hR.2.1
  have n6 := hs.1
  refine zenterP (Or.inl (by decide +kernel)) rfl (fun h => by cases h) (Nat.le_of_ble_eq_true rfl) ?_
  show zwp _ _ _ _ _ 0 [_, _, _, zU] [] 0 0 _
  refine zr_aload_n dX9_leaves_0 rfl ?_
  refine zr_iload_n dX9_leaves_1 rfl ?_
  refine zr_iload_n dX9_leaves_2 rfl ?_
  refine zr_cV2 rfl dX9_leaves_3 cv_9_136 (MI.ob hM ⟨rfl, rfl⟩) (Nat.le_of_ble_eq_true rfl) (zCg (canLeave_ok hM hA ?_))
  rw [zrow_id]
  refine zr_istore_n dX9_leaves_6 (by decide) rfl ?_
  dsimp only [zset]
  refine zr_iload_n dX9_leaves_7 rfl ?_
  refine zr_if_ge (tgt := 17) dX9_leaves_8 (by decide) (fun hc_8 => ?_) (fun hc_8 => ?_)
  · have e : oc (nI 103) (xs [a, b]) w.1 = 0 := oc_0 (Int32.not_lt.mpr hc_8)
    rw [wstep_yes e] at hk
    obtain ⟨i, i1, i2, ⟨j, j1, j2⟩, -⟩ := scanLeave_0 hs e
    have h5 := (hs.2 i i1).2.2.1
    subst i2
    subst j2
    rw [od_g] at hk
    dsimp only [xs, List.getD, List.getElem?_cons_zero, List.getElem?_cons_succ, Option.getD_some] at hk
    rw [hN_nI (show i < 2 ^ 31 by omega), hN_nI (show j < 2 ^ 31 by omega)] at hk
    refine zr_aload_n dX9_leaves_17 rfl ?_
    refine zr_cV0v rfl dX9_leaves_18 cv_9_100 (MI.ob hM ⟨rfl, rfl⟩) (Nat.le_of_ble_eq_true rfl) (keep_m hR (fun m1 r1 l1 => ?_))
    have hM := r1.1
    refine zr_aload_n dX9_leaves_21 rfl ?_
    refine zr_iload_n dX9_leaves_22 rfl ?_
    refine zr_iload_n dX9_leaves_23 rfl ?_
    refine zr_cV2 rfl dX9_leaves_24 cv_9_139 (MI.ob hM ⟨rfl, rfl⟩) (Nat.le_of_ble_eq_true rfl) (leaveNow_g r1.rs i1 j1 (fun m2 k2 r2 => ?_))
    refine zr_ireturn dX9_leaves_27 rfl (Nat.le_refl _) (Nat.le_refl _) ?_
    exact hk m2 (r1.cur k2 r2) (l1.tr k2.lo)
  · have e : oc (nI 103) (xs [a, b]) w.1 < 0 := Int32.not_le.mp hc_8
    rw [wstep_no e] at hk
    refine zr_aload_n dX9_leaves_11 rfl ?_
    refine zr_iload_n dX9_leaves_12 rfl ?_
    refine zr_cV1 rfl dX9_leaves_13 cv_9_97 (MI.ob hM ⟨rfl, rfl⟩) (Nat.le_of_ble_eq_true rfl) (refuses_m (oc_e e) hR (fun m' h1 h2 => ?_))
    refine zr_ireturn dX9_leaves_16 rfl (Nat.le_refl _) (Nat.le_refl _) ?_
    exact hk m' h1 h2
theorem asks_m {a b c : Int32} (hR : RM m w) (hs : sOK w.1) (hk : ∀ m', RM m' (wstep w (nI 97) (xs [a, b, c])).2 → zlo m m' → Q (.int (wstep w (nI 97) (xs [a, b, c])).1) m') : zC (d + 7) M9_asks 0 0 [.ref 667, .int a, .int b, .int c] m Q := by
  have hM := hR.1
  have hA := hR.2.1
  have n6 := hs.1
  refine zenterP (Or.inl (by decide +kernel)) rfl (fun h => by cases h) (Nat.le_of_ble_eq_true rfl) ?_
  show zwp _ _ _ _ _ 0 [_, _, _, _, zU] [] 0 0 _
  refine zr_aload_n dX9_asks_0 rfl ?_
  refine zr_iload_n dX9_asks_1 rfl ?_
  refine zr_iload_n dX9_asks_2 rfl ?_
  refine zr_iload_n dX9_asks_3 rfl ?_
  refine zr_cV3 rfl dX9_asks_4 cv_9_191 (MI.ob hM ⟨rfl, rfl⟩) (Nat.le_of_ble_eq_true rfl) (zCg (canAsk_ok hM hA ?_))
  rw [zrow_id]
  refine zr_istore dX9_asks_7 (by decide) rfl ?_
  dsimp only [zset]
  refine zr_iload dX9_asks_9 rfl ?_
  refine zr_if_ge (tgt := 21) dX9_asks_11 (by decide) (fun hc_11 => ?_) (fun hc_11 => ?_)
  · have e : oc (nI 97) (xs [a, b, c]) w.1 = 0 := oc_0 (Int32.not_lt.mpr hc_11)
    rw [wstep_yes e] at hk
    obtain ⟨i, i1, i2, -, -⟩ := scanAsk_0 n6 e
    subst i2
    rw [od_a] at hk
    dsimp only [xs, List.getD, List.getElem?_cons_zero, List.getElem?_cons_succ, Option.getD_some] at hk
    rw [hN_nI (show i < 2 ^ 31 by omega)] at hk
    refine zr_aload_n dX9_asks_21 rfl ?_
    refine zr_cV0v rfl dX9_asks_22 cv_9_100 (MI.ob hM ⟨rfl, rfl⟩) (Nat.le_of_ble_eq_true rfl) (keep_m hR (fun m1 r1 l1 => ?_))
    have hM := r1.1
    refine zr_aload_n dX9_asks_25 rfl ?_
    refine zr_iload_n dX9_asks_26 rfl ?_
    refine zr_iload_n dX9_asks_27 rfl ?_
    refine zr_iload_n dX9_asks_28 rfl ?_
    refine zr_cV3 rfl dX9_asks_29 cv_9_194 (MI.ob hM ⟨rfl, rfl⟩) (Nat.le_of_ble_eq_true rfl) (askNow_g r1.rs hs i1 (fun m2 k2 r2 => ?_))
    refine zr_ireturn dX9_asks_32 rfl (Nat.le_refl _) (Nat.le_refl _) ?_
    exact hk m2 (r1.cur k2 r2) (l1.tr k2.lo)
  · have e : oc (nI 97) (xs [a, b, c]) w.1 < 0 := Int32.not_le.mp hc_11
    rw [wstep_no e] at hk
    refine zr_aload_n dX9_asks_14 rfl ?_
    refine zr_iload dX9_asks_15 rfl ?_
    refine zr_cV1 rfl dX9_asks_17 cv_9_97 (MI.ob hM ⟨rfl, rfl⟩) (Nat.le_of_ble_eq_true rfl) (refuses_m (oc_e e) hR (fun m' h1 h2 => ?_))
    refine zr_ireturn dX9_asks_20 rfl (Nat.le_refl _) (Nat.le_refl _) ?_
    exact hk m' h1 h2
theorem sleeps_m {a b : Int32} (hR : RM m w) (hs : sOK w.1) (hk : ∀ m', RM m' (wstep w (nI 122) (xs [a, b])).2 → zlo m m' → Q (.int (wstep w (nI 122) (xs [a, b])).1) m') : zC (d + 4) M9_sleeps 0 0 [.ref 667, .int a, .int b] m Q := by
  have hM := hR.1
  have hA := hR.2.1
  have n6 := hs.1
  refine zenterP (Or.inl (by decide +kernel)) rfl (fun h => by cases h) (Nat.le_of_ble_eq_true rfl) ?_
  show zwp _ _ _ _ _ 0 [_, _, _, zU] [] 0 0 _
  refine zr_aload_n dX9_sleeps_0 rfl ?_
  refine zr_iload_n dX9_sleeps_1 rfl ?_
  refine zr_iload_n dX9_sleeps_2 rfl ?_
  refine zr_cV2 rfl dX9_sleeps_3 cv_9_215 (MI.ob hM ⟨rfl, rfl⟩) (Nat.le_of_ble_eq_true rfl) (zCg (canSleep_ok hM hA ?_))
  rw [zrow_id]
  refine zr_istore_n dX9_sleeps_6 (by decide) rfl ?_
  dsimp only [zset]
  refine zr_iload_n dX9_sleeps_7 rfl ?_
  refine zr_if_ge (tgt := 17) dX9_sleeps_8 (by decide) (fun hc_8 => ?_) (fun hc_8 => ?_)
  · have e : oc (nI 122) (xs [a, b]) w.1 = 0 := oc_0 (Int32.not_lt.mpr hc_8)
    rw [wstep_yes e] at hk
    obtain ⟨i, i1, i2, -⟩ := scanSleep_0 n6 e
    subst i2
    rw [od_z] at hk
    dsimp only [xs, List.getD, List.getElem?_cons_zero, List.getElem?_cons_succ, Option.getD_some] at hk
    rw [hN_nI (show i < 2 ^ 31 by omega)] at hk
    refine zr_aload_n dX9_sleeps_17 rfl ?_
    refine zr_cV0v rfl dX9_sleeps_18 cv_9_100 (MI.ob hM ⟨rfl, rfl⟩) (Nat.le_of_ble_eq_true rfl) (keep_m hR (fun m1 r1 l1 => ?_))
    have hM := r1.1
    refine zr_aload_n dX9_sleeps_21 rfl ?_
    refine zr_iload_n dX9_sleeps_22 rfl ?_
    refine zr_iload_n dX9_sleeps_23 rfl ?_
    refine zr_cV2 rfl dX9_sleeps_24 cv_9_218 (MI.ob hM ⟨rfl, rfl⟩) (Nat.le_of_ble_eq_true rfl) (sleepNow_g r1.rs i1 (fun m2 k2 r2 => ?_))
    refine zr_ireturn dX9_sleeps_27 rfl (Nat.le_refl _) (Nat.le_refl _) ?_
    exact hk m2 (r1.cur k2 r2) (l1.tr k2.lo)
  · have e : oc (nI 122) (xs [a, b]) w.1 < 0 := Int32.not_le.mp hc_8
    rw [wstep_no e] at hk
    refine zr_aload_n dX9_sleeps_11 rfl ?_
    refine zr_iload_n dX9_sleeps_12 rfl ?_
    refine zr_cV1 rfl dX9_sleeps_13 cv_9_97 (MI.ob hM ⟨rfl, rfl⟩) (Nat.le_of_ble_eq_true rfl) (refuses_m (oc_e e) hR (fun m' h1 h2 => ?_))
    refine zr_ireturn dX9_sleeps_16 rfl (Nat.le_refl _) (Nat.le_refl _) ?_
    exact hk m' h1 h2
theorem wakes_m {a : Int32} (hR : RM m w) (hs : sOK w.1) (hk : ∀ m', RM m' (wstep w (nI 119) (xs [a])).2 → zlo m m' → Q (.int (wstep w (nI 119) (xs [a])).1) m') : zC (d + 7) M9_wakes 0 0 [.ref 667, .int a] m Q := by
  have hM := hR.1
  have hA := hR.2.1
  have n6 := hs.1
  refine zenterP (Or.inl (by decide +kernel)) rfl (fun h => by cases h) (Nat.le_of_ble_eq_true rfl) ?_
  show zwp _ _ _ _ _ 0 [_, _, zU] [] 0 0 _
  refine zr_aload_n dX9_wakes_0 rfl ?_
  refine zr_iload_n dX9_wakes_1 rfl ?_
  refine zr_cV1 rfl dX9_wakes_2 cv_9_221 (MI.ob hM ⟨rfl, rfl⟩) (Nat.le_of_ble_eq_true rfl) (zCg (canWake_ok hM hA ?_))
  rw [zrow_id]
  refine zr_istore_n dX9_wakes_5 (by decide) rfl ?_
  dsimp only [zset]
  refine zr_iload_n dX9_wakes_6 rfl ?_
  refine zr_if_ge (tgt := 16) dX9_wakes_7 (by decide) (fun hc_7 => ?_) (fun hc_7 => ?_)
  · have e : oc (nI 119) (xs [a]) w.1 = 0 := oc_0 (Int32.not_lt.mpr hc_7)
    rw [wstep_yes e] at hk
    obtain ⟨i, i1, i2, -⟩ := scanWake_0 n6 e
    subst i2
    rw [od_w] at hk
    dsimp only [xs, List.getD, List.getElem?_cons_zero, List.getElem?_cons_succ, Option.getD_some] at hk
    rw [hN_nI (show i < 2 ^ 31 by omega)] at hk
    refine zr_aload_n dX9_wakes_16 rfl ?_
    refine zr_cV0v rfl dX9_wakes_17 cv_9_100 (MI.ob hM ⟨rfl, rfl⟩) (Nat.le_of_ble_eq_true rfl) (keep_m hR (fun m1 r1 l1 => ?_))
    have hM := r1.1
    refine zr_aload_n dX9_wakes_20 rfl ?_
    refine zr_iload_n dX9_wakes_21 rfl ?_
    refine zr_cV1 rfl dX9_wakes_22 cv_9_224 (MI.ob hM ⟨rfl, rfl⟩) (Nat.le_of_ble_eq_true rfl) (wakeNow_g r1.rs hs i1 (fun m2 k2 r2 => ?_))
    refine zr_ireturn dX9_wakes_25 rfl (Nat.le_refl _) (Nat.le_refl _) ?_
    exact hk m2 (r1.cur k2 r2) (l1.tr k2.lo)
  · have e : oc (nI 119) (xs [a]) w.1 < 0 := Int32.not_le.mp hc_7
    rw [wstep_no e] at hk
    refine zr_aload_n dX9_wakes_10 rfl ?_
    refine zr_iload_n dX9_wakes_11 rfl ?_
    refine zr_cV1 rfl dX9_wakes_12 cv_9_97 (MI.ob hM ⟨rfl, rfl⟩) (Nat.le_of_ble_eq_true rfl) (refuses_m (oc_e e) hR (fun m' h1 h2 => ?_))
    refine zr_ireturn dX9_wakes_15 rfl (Nat.le_refl _) (Nat.le_refl _) ?_
    exact hk m' h1 h2
theorem ticks_m {a : Int32} (hR : RM m w) (hs : sOK w.1) (hF : fT w.1) (hk : ∀ m', RM m' (wstep w (nI 116) (xs [a])).2 → zlo m m' → Q (.int (wstep w (nI 116) (xs [a])).1) m') : zC (d + 9) M9_ticks 0 0 [.ref 667, .int a] m Q := by
  have hM := hR.1
  refine zenterP (Or.inl (by decide +kernel)) rfl (fun h => by cases h) (Nat.le_of_ble_eq_true rfl) ?_
  show zwp _ _ _ _ _ 0 [_, _] [] 0 0 _
  refine zr_iload_n dX9_ticks_0 rfl ?_
  refine zr_i2l dX9_ticks_1 ?_
  refine zr_lconst (v := 1) dX9_ticks_2 rfl ?_
  refine zr_ldc2 dX9_ticks_3 kc_9_120 ?_
  refine zr_cS3 rfl dX9_ticks_6 cv_9_47 (Nat.le_of_ble_eq_true rfl) (in32_ok (lo := 1) (hi := 60) rfl rfl ?_)
  refine zr_if_neB (tgt := 19) dX9_ticks_9 (by decide) (fun hc_9 => ?_) (fun hc_9 => ?_)
  · have e : oc (nI 116) (xs [a]) w.1 = 0 := by rw [oc_t]; show (if sin a 1 60 = true then (0 : Int32) else -2) = 0; rw [hc_9]; rfl
    obtain ⟨n, n1, n2, rfl⟩ := sin_of (a := 1) (b := 60) hc_9 rfl rfl (by decide) (by decide)
    rw [wstep_yes e, od_t] at hk
    dsimp only [xs, List.getD, List.getElem?_cons_zero, Option.getD_some] at hk
    rw [hN_nI (show n < 2 ^ 31 by omega)] at hk
    refine zr_aload_n dX9_ticks_19 rfl ?_
    refine zr_cV0v rfl dX9_ticks_20 cv_9_100 (MI.ob hM ⟨rfl, rfl⟩) (Nat.le_of_ble_eq_true rfl) (keep_m hR (fun m1 r1 l1 => ?_))
    have hM := r1.1
    refine zr_aload_n dX9_ticks_23 rfl ?_
    refine zr_iload_n dX9_ticks_24 rfl ?_
    refine zr_cV1 rfl dX9_ticks_25 cv_9_179 (MI.ob hM ⟨rfl, rfl⟩) (Nat.le_of_ble_eq_true rfl) (tickNow_g r1.rs hs n2 hF (fun m2 k2 r2 => ?_))
    refine zr_ireturn dX9_ticks_28 rfl (Nat.le_refl _) (Nat.le_refl _) ?_
    exact hk m2 (r1.cur k2 r2) (l1.tr k2.lo)
  · have e : oc (nI 116) (xs [a]) w.1 = -2 := by rw [oc_t]; show (if sin a 1 60 = true then (0 : Int32) else -2) = -2; rw [hc_9]; rfl
    rw [wstep_no (by rw [e]; decide), e] at hk
    refine zr_aload_n dX9_ticks_12 rfl ?_
    refine zr_bipush (v := -2) dX9_ticks_13 rfl ?_
    refine zr_cV1 rfl dX9_ticks_15 cv_9_97 (MI.ob hM ⟨rfl, rfl⟩) (Nat.le_of_ble_eq_true rfl) (refuses_m (Or.inl rfl) hR (fun m' h1 h2 => ?_))
    refine zr_ireturn dX9_ticks_18 rfl (Nat.le_refl _) (Nat.le_refl _) ?_
    exact hk m' h1 h2
end
