/-! ===== making ===== -/
theorem zk_0 : (zcl 0).2.2 = 2 := rfl
theorem zk_1 : (zcl 1).2.2 = 1 := rfl
theorem zk_2 : (zcl 2).2.2 = 5 := rfl
theorem zk_3 : (zcl 3).2.2 = 3 := rfl
theorem zk_4 : (zcl 4).2.2 = 5 := rfl
theorem zk_5 : (zcl 5).2.2 = 10 := rfl
theorem zk_6 : (zcl 6).2.2 = 7 := rfl
theorem zk_7 : (zcl 7).2.2 = 8 := rfl
theorem zk_8 : (zcl 8).2.2 = 8 := rfl
theorem zk_9 : (zcl 9).2.2 = 16 := rfl
/-- what lies below b stands as it was -/
def zbl (b : Nat) (m m' : zM) : Prop := ∀ a, a < b → zI m' a = zI m a ∧ zR m' a = zR m a ∧ zL m' a = zL m a ∧ zF m' a = zF m a
section
variable {b b' a k : Nat} {m m' m'' : zM}
theorem zbl.rf : zbl b m m := fun _ _ => ⟨rfl, rfl, rfl, rfl⟩
theorem zbl.tr (h : zbl b m m') (h' : zbl b m' m'') : zbl b m m'' := fun a ha => ⟨(h' a ha).1.trans (h a ha).1, (h' a ha).2.1.trans (h a ha).2.1, (h' a ha).2.2.1.trans (h a ha).2.2.1, (h' a ha).2.2.2.trans (h a ha).2.2.2⟩
theorem zbl.wd (h : zbl b m m') (hb : b' ≤ b) : zbl b' m m' := fun a ha => h a (by omega)
theorem zbl.sI {v : Int32} (h : b ≤ a) : zbl b m (zsI m a k v) := fun c hc => ⟨funext fun j => zI_n m v (Or.inl (by omega)), rfl, rfl, rfl⟩
theorem zbl.sR {v : Nat} (h : b ≤ a) : zbl b m (zsR m a k v) := fun c hc => ⟨rfl, funext fun j => zR_n m v (Or.inl (by omega)), rfl, rfl⟩
theorem znw_n (h : a ≠ zn m) : zI (znw m) a = zI m a ∧ zR (znw m) a = zR m a ∧ zL (znw m) a = zL m a ∧ zF (znw m) a = zF m a := by
  refine ⟨?_, ?_, ?_, ?_⟩ <;> (funext j; simp only [zI, zR, zL, zF, znw, zc]; rw [if_neg h])
theorem znw_s : zI (znw m) (zn m) k = 0 ∧ zR (znw m) (zn m) k = 0 ∧ zL (znw m) (zn m) k = 0 ∧ zF (znw m) (zn m) k = 0 := by
  simp [zI, zR, zL, zF, znw, zc]
theorem zbl.nw (h : b ≤ zn m) : zbl b m (znw m) := fun a ha => znw_n (by omega)
theorem zn_nw : zn (znw m) = zn m + 1 := rfl
theorem zbl.I (h : zbl b m m') (ha : a < b) : zI m' a = zI m a := (h a ha).1
theorem zbl.R (h : zbl b m m') (ha : a < b) : zR m' a = zR m a := (h a ha).2.1
end
def C0 (m : zM) (C : Nat) : Prop := zR m C 0 = C + 1 ∧ (∀ j, j < 6 → zR m (C + 1) j = C + 2 + j) ∧ zI m C 1 = 0
def H0 (m : zM) (H : Nat) : Prop := zR m H 0 = H + 1 ∧ zR m H 1 = H + 7 ∧ (∀ j, j < 5 → zR m (H + 1) j = H + 2 + j) ∧ zI m H 2 = 0 ∧ zI m H 3 = 0 ∧ zI m H 4 = 0 ∧ C0 m (H + 7)
def L0 (m : zM) (L : Nat) : Prop := zR m L 0 = L + 1 ∧ zR m L 1 = L + 92 ∧ (∀ h, h < 6 → zR m (L + 1) h = hb L h) ∧ zR m (L + 92) 0 = L + 93 ∧ (∀ k, zI m L k = 0) ∧ zF m L 9 = 0 ∧ ∀ h, h < 6 → H0 m (hb L h)
section
variable {d : Nat} {Q : Value → zM → Prop} {m m' : zM} {C H L b : Nat}
theorem C0.lo (h : C0 m C) (hl : zbl b m m') (hb : C + 2 ≤ b) : C0 m' C := by
  obtain ⟨h1, h2, h3⟩ := h
  exact ⟨by rw [hl.R (by omega)]; exact h1, by rw [hl.R (by omega)]; exact h2, by rw [hl.I (by omega)]; exact h3⟩
theorem H0.lo (h : H0 m H) (hl : zbl b m m') (hb : H + 9 ≤ b) : H0 m' H := by
  obtain ⟨h1, h2, h3, h4, h5, h6, h7⟩ := h
  exact ⟨by rw [hl.R (by omega)]; exact h1, by rw [hl.R (by omega)]; exact h2, by rw [hl.R (by omega)]; exact h3, by rw [hl.I (by omega)]; exact h4, by rw [hl.I (by omega)]; exact h5, by rw [hl.I (by omega)]; exact h6, h7.lo hl (by omega)⟩
theorem L0.lo (h : L0 m L) (hl : zbl b m m') (hb' : L + 93 ≤ b) : L0 m' L := by
  obtain ⟨h1, h2, h3, h4, h5, h6, h7⟩ := h
  exact ⟨by rw [hl.R (by omega)]; exact h1, by rw [hl.R (by omega)]; exact h2, by rw [hl.R (by omega)]; exact h3, by rw [hl.R (by omega)]; exact h4, by rw [hl.I (by omega)]; exact h5, by rw [(hl L (by omega)).2.2.2]; exact h6, fun h hh => (h7 h hh).lo hl (by have := hb_in (L := L) hh; omega)⟩
theorem Einit_ok (hk : Q .null m) : zC (d + 1) M2_init 0 0 [.ref C] m Q := by
  refine zenterP (Or.inl (by decide +kernel)) rfl (fun _ => rfl) (Nat.le_of_ble_eq_true rfl) ?_
  show zwp _ _ _ _ _ 0 [_] [] 0 0 _
  refine zr_aload_n dX2_init_0 rfl ?_
  refine zr_objInit dX2_init_1 oi_2_1 oi_1 oi_2 (Nat.le_of_ble_eq_true rfl) ?_
  refine zr_return dX2_init_4 rfl (Nat.le_refl _) (Nat.le_refl _) ?_
  exact hk
theorem Rinit_ok (hk : Q .null m) : zC (d + 1) M6_init 0 0 [.ref C] m Q := by
  refine zenterP (Or.inl (by decide +kernel)) rfl (fun _ => rfl) (Nat.le_of_ble_eq_true rfl) ?_
  show zwp _ _ _ _ _ 0 [_] [] 0 0 _
  refine zr_aload_n dX6_init_0 rfl ?_
  refine zr_objInit dX6_init_1 oi_6_3 oi_1 oi_2 (Nat.le_of_ble_eq_true rfl) ?_
  refine zr_return dX6_init_4 rfl (Nat.le_refl _) (Nat.le_refl _) ?_
  exact hk
theorem Cinit_ok (hl : LC C) (hz : zn m = C + 1) (h1 : zI m C 1 = 0) (hk : ∀ m', zn m' = C + 8 → zbl C m m' → C0 m' C → Q .null m') : zC (d + 2) M0_init 7 36 [.ref C] m Q := by
  obtain ⟨l1, l2, l3, l4, l5⟩ := hl
  have loop : ∀ c i m1 uc us, 6 - i < c → i ≤ 6 → uc = 1 + i → us = 6 + 5 * i → zn m1 = C + 2 + i → zbl C m m1 → zI m1 C 1 = 0 → zR m1 C 0 = C + 1 → (∀ j, j < i → zR m1 (C + 1) j = C + 2 + j) → zwp (d + 2) M0_init 7 36 Q 15 [.ref C, .int (nI i)] [] uc us m1 := by
    intro c
    induction c with
    | zero => intro i m1 uc us h1; omega
    | succ c ih =>
      intro i m1 uc us q1 q2 q3 q4 q5 q6 q7 q8 q9
      refine zr_iload_n dX0_init_15 rfl ?_
      refine zr_bipush (v := nI 6) dX0_init_16 rfl ?_
      refine zr_icmp_geN (tgt := 40) dX0_init_18 (by decide) (by omega) (by omega) (fun hc_18 => ?_) (fun hc_18 => ?_)
      · refine zr_return dX0_init_40 rfl (by first | omega | (simp only [zk_0, zk_1, zk_2, zk_3, zk_4, zk_5, zk_6, zk_7, zk_8, zk_9]; omega) | fail "none") (by first | omega | (simp only [zk_0, zk_1, zk_2, zk_3, zk_4, zk_5, zk_6, zk_7, zk_8, zk_9]; omega) | fail "none") ?_
        have e : i = 6 := by omega
        subst e
        exact hk m1 q5 q6 ⟨q8, q9, q7⟩
      · refine zr_aload_n dX0_init_21 rfl ?_
        refine zr_getR dX0_init_22 fd_0_11 rfl ⟨l3, l1, by omega⟩ q8 (by omega) ?_
        refine zr_iload_n dX0_init_25 rfl ?_
        refine zr_new dX0_init_26 nw_0_9 (by rw [q5]; exact l5 i (by omega)) (by first | omega | (simp only [zk_0, zk_1, zk_2, zk_3, zk_4, zk_5, zk_6, zk_7, zk_8, zk_9]; omega) | fail "none") (by first | omega | (simp only [zk_0, zk_1, zk_2, zk_3, zk_4, zk_5, zk_6, zk_7, zk_8, zk_9]; omega) | fail "none") ?_
        rw [q5]
        refine zr_dup dX0_init_29 rfl ?_
        refine zr_callIN (as := []) dX0_init_30 cv_0_17 rfl rfl (Nat.le_of_ble_eq_true rfl) (by first | omega | (simp only [zk_0, zk_1, zk_2, zk_3, zk_4, zk_5, zk_6, zk_7, zk_8, zk_9]; omega) | fail "none") (by first | omega | (simp only [zk_0, zk_1, zk_2, zk_3, zk_4, zk_5, zk_6, zk_7, zk_8, zk_9]; omega) | fail "none") (Einit_ok ?_)
        refine zr_aastoreN dX0_init_33 ⟨l4, by omega, by rw [zn_nw]; omega⟩ (by decide) (by decide) (by omega) (by decide) ⟨l5 i (by omega), by omega, by rw [zn_nw]; omega⟩ ?_
        refine zr_iincN dX0_init_34 rfl (by decide) rfl ?_
        dsimp only [zset]
        refine zr_goto (tgt := 15) dX0_init_37 (by decide) ?_
        refine ih (i + 1) _ _ _ (by omega) (by omega) (by omega) (by rw [zk_2]; omega) (by show zn m1 + 1 = _; omega) (q6.tr ((zbl.nw (by omega)).tr (zbl.sR (by omega)))) ?_ ?_ (fun j hj => ?_)
        · show zI (znw m1) C 1 = 0
          rw [(znw_n (show C ≠ zn m1 by omega)).1]; exact q7
        · rw [zR_n _ _ (Or.inl (by omega)), (znw_n (show C ≠ zn m1 by omega)).2.1]; exact q8
        · by_cases e : j = i
          · subst e; rw [zR_s]
          · rw [zR_n _ _ (Or.inr e), (znw_n (show C + 1 ≠ zn m1 by omega)).2.1]; exact q9 j (by omega)
  refine zenterP (Or.inl (by decide +kernel)) rfl (fun _ => rfl) (Nat.le_of_ble_eq_true rfl) ?_
  show zwp _ _ _ _ _ 0 [_, zU] [] 0 0 _
  refine zr_aload_n dX0_init_0 rfl ?_
  refine zr_objInit dX0_init_1 oi_0_3 oi_1 oi_2 (Nat.le_of_ble_eq_true rfl) ?_
  refine zr_aload_n dX0_init_4 rfl ?_
  refine zr_bipush (v := nI 6) dX0_init_5 rfl ?_
  refine zr_anewarray (kd := 15) dX0_init_7 (by decide) (by decide) cl_0_9 ao_2 (by decide) (by rw [hz]; exact l4) (by first | omega | (simp only [zk_0, zk_1, zk_2, zk_3, zk_4, zk_5, zk_6, zk_7, zk_8, zk_9]; omega) | fail "none") (by first | omega | (simp only [zk_0, zk_1, zk_2, zk_3, zk_4, zk_5, zk_6, zk_7, zk_8, zk_9]; omega) | fail "none") ?_
  rw [hz]
  refine zr_putR dX0_init_10 fd_0_11 (Or.inr ⟨rfl, rfl⟩) (fun _ => ⟨rfl, rfl⟩) rfl ⟨l3, l1, by rw [zn_nw]; omega⟩ (by omega) ?_
  refine zr_iconst (v := nI 0) dX0_init_13 rfl ?_
  refine zr_istore_n dX0_init_14 (by decide) rfl ?_
  dsimp only [zset]
  refine loop _ 0 _ _ _ (Nat.lt_succ_self _) (Nat.zero_le _) (by omega) (by omega) (by show zn m + 1 = _; omega) ((zbl.nw (by omega)).tr (zbl.sR (by omega))) ?_ (zR_s _ _ _ _) (fun j hj => absurd hj (Nat.not_lt_zero j))
  show zI (znw m) C 1 = 0
  rw [(znw_n (show C ≠ zn m by omega)).1]; exact h1
theorem Hinit_ok (hl : LH H) (hz : zn m = H + 1) (h1 : ∀ k, zI m H k = 0) (hk : ∀ m', zn m' = H + 15 → zbl H m m' → H0 m' H → Q .null m') : zC (d + 3) M4_init 14 78 [.ref H] m Q := by
  obtain ⟨l1, l2, l3, l4, l5, l6⟩ := hl
  have loop : ∀ c i m1 uc us, 5 - i < c → i ≤ 5 → uc = 1 + i → us = 5 + 7 * i → zn m1 = H + 2 + i → zbl H m m1 → (∀ k, zI m1 H k = 0) → zR m1 H 0 = H + 1 → (∀ j, j < i → zR m1 (H + 1) j = H + 2 + j) → zwp (d + 3) M4_init 14 78 Q 14 [.ref H, .int (nI i)] [] uc us m1 := by
    intro c
    induction c with
    | zero => intro i m1 uc us h1; omega
    | succ c ih =>
      intro i m1 uc us q1 q2 q3 q4 q5 q6 q7 q8 q9
      refine zr_iload_n dX4_init_14 rfl ?_
      refine zr_iconst (v := nI 5) dX4_init_15 rfl ?_
      refine zr_icmp_geN (tgt := 38) dX4_init_16 (by decide) (by omega) (by omega) (fun hc_16 => ?_) (fun hc_16 => ?_)
      · have e : i = 5 := by omega
        subst e
        refine zr_aload_n dX4_init_38 rfl ?_
        refine zr_new dX4_init_39 nw_4_18 (by rw [q5]; exact l6.2.2.1) (by first | omega | (simp only [zk_0, zk_1, zk_2, zk_3, zk_4, zk_5, zk_6, zk_7, zk_8, zk_9]; omega) | fail "none") (by first | omega | (simp only [zk_0, zk_1, zk_2, zk_3, zk_4, zk_5, zk_6, zk_7, zk_8, zk_9]; omega) | fail "none") ?_
        rw [q5]
        refine zr_dup dX4_init_42 rfl ?_
        refine zr_callI (as := []) dX4_init_43 cv_4_20 rfl rfl (Nat.le_of_ble_eq_true rfl) (by first | omega | (simp only [zk_0, zk_1, zk_2, zk_3, zk_4, zk_5, zk_6, zk_7, zk_8, zk_9]; omega) | fail "none") (by first | omega | (simp only [zk_0, zk_1, zk_2, zk_3, zk_4, zk_5, zk_6, zk_7, zk_8, zk_9]; omega) | fail "none") (Cinit_ok (C := H + 7) l6 (by show zn m1 + 1 = _; omega) (by have := (znw_s (m := m1) (k := 1)).1; rw [q5] at this; exact this) (fun m2 n2 b2 c2 => ?_))
        refine zr_putR dX4_init_46 fd_4_21 (Or.inr ⟨rfl, rfl⟩) (fun _ => ⟨rfl, rfl⟩) rfl ⟨l3, l1, by omega⟩ (by omega) ?_
        refine zr_return dX4_init_49 rfl (by first | omega | (simp only [zk_0, zk_1, zk_2, zk_3, zk_4, zk_5, zk_6, zk_7, zk_8, zk_9]; omega) | fail "none") (by first | omega | (simp only [zk_0, zk_1, zk_2, zk_3, zk_4, zk_5, zk_6, zk_7, zk_8, zk_9]; omega) | fail "none") ?_
        refine hk _ n2 ((q6.tr ((zbl.nw (by omega)).tr (b2.wd (by omega)))).tr (zbl.sR (by omega))) ⟨?_, zR_s _ _ _ _, fun j hj => ?_, ?_, ?_, ?_, ?_⟩
        · rw [zR_n _ _ (Or.inr (by decide)), b2.R (by omega), (znw_n (show H ≠ zn m1 by omega)).2.1]; exact q8
        · rw [zR_n _ _ (Or.inl (by omega)), b2.R (by omega), (znw_n (show H + 1 ≠ zn m1 by omega)).2.1]; exact q9 j hj
        · show zI m2 H 2 = 0
          rw [b2.I (by omega), (znw_n (show H ≠ zn m1 by omega)).1]; exact q7 2
        · show zI m2 H 3 = 0
          rw [b2.I (by omega), (znw_n (show H ≠ zn m1 by omega)).1]; exact q7 3
        · show zI m2 H 4 = 0
          rw [b2.I (by omega), (znw_n (show H ≠ zn m1 by omega)).1]; exact q7 4
        · obtain ⟨c1, c3, c4⟩ := c2
          exact ⟨by rw [zR_n _ _ (Or.inl (by omega))]; exact c1, fun j hj => by rw [zR_n _ _ (Or.inl (by omega))]; exact c3 j hj, c4⟩
      · refine zr_aload_n dX4_init_19 rfl ?_
        refine zr_getR dX4_init_20 fd_4_11 rfl ⟨l3, l1, by omega⟩ q8 (by omega) ?_
        refine zr_iload_n dX4_init_23 rfl ?_
        refine zr_new dX4_init_24 nw_4_9 (by rw [q5]; exact l5 i (by omega)) (by first | omega | (simp only [zk_0, zk_1, zk_2, zk_3, zk_4, zk_5, zk_6, zk_7, zk_8, zk_9]; omega) | fail "none") (by first | omega | (simp only [zk_0, zk_1, zk_2, zk_3, zk_4, zk_5, zk_6, zk_7, zk_8, zk_9]; omega) | fail "none") ?_
        rw [q5]
        refine zr_dup dX4_init_27 rfl ?_
        refine zr_callIN (as := []) dX4_init_28 cv_4_17 rfl rfl (Nat.le_of_ble_eq_true rfl) (by first | omega | (simp only [zk_0, zk_1, zk_2, zk_3, zk_4, zk_5, zk_6, zk_7, zk_8, zk_9]; omega) | fail "none") (by first | omega | (simp only [zk_0, zk_1, zk_2, zk_3, zk_4, zk_5, zk_6, zk_7, zk_8, zk_9]; omega) | fail "none") (Rinit_ok ?_)
        refine zr_aastoreN dX4_init_31 ⟨l4, by omega, by rw [zn_nw]; omega⟩ (by decide) (by decide) (by omega) (by decide) ⟨l5 i (by omega), by omega, by rw [zn_nw]; omega⟩ ?_
        refine zr_iincN dX4_init_32 rfl (by decide) rfl ?_
        dsimp only [zset]
        refine zr_goto (tgt := 14) dX4_init_35 (by decide) ?_
        refine ih (i + 1) _ _ _ (by omega) (by omega) (by omega) (by rw [zk_6]; omega) (by show zn m1 + 1 = _; omega) (q6.tr ((zbl.nw (by omega)).tr (zbl.sR (by omega)))) (fun k => ?_) ?_ (fun j hj => ?_)
        · show zI (znw m1) H k = 0
          rw [(znw_n (show H ≠ zn m1 by omega)).1]; exact q7 k
        · rw [zR_n _ _ (Or.inl (by omega)), (znw_n (show H ≠ zn m1 by omega)).2.1]; exact q8
        · by_cases e : j = i
          · subst e; rw [zR_s]
          · rw [zR_n _ _ (Or.inr e), (znw_n (show H + 1 ≠ zn m1 by omega)).2.1]; exact q9 j (by omega)
  refine zenterP (Or.inl (by decide +kernel)) rfl (fun _ => rfl) (Nat.le_of_ble_eq_true rfl) ?_
  show zwp _ _ _ _ _ 0 [_, zU] [] 0 0 _
  refine zr_aload_n dX4_init_0 rfl ?_
  refine zr_objInit dX4_init_1 oi_4_3 oi_1 oi_2 (Nat.le_of_ble_eq_true rfl) ?_
  refine zr_aload_n dX4_init_4 rfl ?_
  refine zr_iconst (v := nI 5) dX4_init_5 rfl ?_
  refine zr_anewarray (kd := 18) dX4_init_6 (by decide) (by decide) cl_4_9 ao_6 (by decide) (by rw [hz]; exact l4) (by first | omega | (simp only [zk_0, zk_1, zk_2, zk_3, zk_4, zk_5, zk_6, zk_7, zk_8, zk_9]; omega) | fail "none") (by first | omega | (simp only [zk_0, zk_1, zk_2, zk_3, zk_4, zk_5, zk_6, zk_7, zk_8, zk_9]; omega) | fail "none") ?_
  rw [hz]
  refine zr_putR dX4_init_9 fd_4_11 (Or.inr ⟨rfl, rfl⟩) (fun _ => ⟨rfl, rfl⟩) rfl ⟨l3, l1, by rw [zn_nw]; omega⟩ (by omega) ?_
  refine zr_iconst (v := nI 0) dX4_init_12 rfl ?_
  refine zr_istore_n dX4_init_13 (by decide) rfl ?_
  dsimp only [zset]
  refine loop _ 0 _ _ _ (Nat.lt_succ_self _) (Nat.zero_le _) (by omega) (by omega) (by show zn m + 1 = _; omega) ((zbl.nw (by omega)).tr (zbl.sR (by omega))) (fun k => ?_) (zR_s _ _ _ _) (fun j hj => absurd hj (Nat.not_lt_zero j))
  show zI (znw m) H k = 0
  rw [(znw_n (show H ≠ zn m by omega)).1]; exact h1 k
theorem Dinit_ok (hd : (zLay b).1 = 1) (h2 : 2 ≤ b) (hl : zLay (b + 1) = (13, 4)) (hz : zn m = b + 1) (hk : ∀ m', zn m' = b + 2 → zbl b m m' → zR m' b 0 = b + 1 → Q .null m') : zC (d + 1) M1_init 1 4 [.ref b] m Q := by
  refine zenterP (Or.inl (by decide +kernel)) rfl (fun _ => rfl) (Nat.le_of_ble_eq_true rfl) ?_
  show zwp _ _ _ _ _ 0 [_] [] 0 0 _
  refine zr_aload_n dX1_init_0 rfl ?_
  refine zr_objInit dX1_init_1 oi_1_3 oi_1 oi_2 (Nat.le_of_ble_eq_true rfl) ?_
  refine zr_aload_n dX1_init_4 rfl ?_
  refine zr_iconst (v := nI 4) dX1_init_5 rfl ?_
  refine zr_newarray (kd := 13) dX1_init_6 rfl (by decide) (by decide) ac_long (by decide) (by rw [hz]; exact hl) (by first | omega | (simp only [zk_0, zk_1, zk_2, zk_3, zk_4, zk_5, zk_6, zk_7, zk_8, zk_9]; omega) | fail "none") (by first | omega | (simp only [zk_0, zk_1, zk_2, zk_3, zk_4, zk_5, zk_6, zk_7, zk_8, zk_9]; omega) | fail "none") ?_
  rw [hz]
  refine zr_putR dX1_init_8 fd_1_9 (Or.inr ⟨rfl, rfl⟩) (fun _ => ⟨rfl, rfl⟩) rfl ⟨hd, h2, by rw [zn_nw]; omega⟩ (by omega) ?_
  refine zr_return dX1_init_11 rfl (by first | omega | (simp only [zk_0, zk_1, zk_2, zk_3, zk_4, zk_5, zk_6, zk_7, zk_8, zk_9]; omega) | fail "none") (by first | omega | (simp only [zk_0, zk_1, zk_2, zk_3, zk_4, zk_5, zk_6, zk_7, zk_8, zk_9]; omega) | fail "none") ?_
  exact hk _ (by show zn m + 1 = _; omega) ((zbl.nw (by omega)).tr (zbl.sR (by omega))) (zR_s _ _ _ _)
theorem Linit_ok (hl : LL L) (hz : zn m = L + 1) (h1 : ∀ k, zI m L k = 0) (h9 : zF m L 9 = 0) (hk : ∀ m', zn m' = L + 94 → zbl L m m' → L0 m' L → Q .null m') : zC (d + 4) M5_init 93 509 [.ref L] m Q := by
  obtain ⟨l1, l2, l3, l4, l5, l6, l7⟩ := hl
  have loop : ∀ c i m1 uc us, 6 - i < c → i ≤ 6 → uc = 1 + 15 * i → us = 6 + 83 * i → zn m1 = L + 2 + 15 * i → zbl L m m1 → (∀ k, zI m1 L k = 0) → zF m1 L 9 = 0 → zR m1 L 0 = L + 1 → (∀ j, j < i → zR m1 (L + 1) j = hb L j) → (∀ j, j < i → H0 m1 (hb L j)) → zwp (d + 4) M5_init 93 509 Q 15 [.ref L, .int (nI i)] [] uc us m1 := by
    intro c
    induction c with
    | zero => intro i m1 uc us h1; omega
    | succ c ih =>
      intro i m1 uc us q1 q2 q3 q4 q5 q6 q7 qf q8 q9 q10
      have q5' : zn m1 = hb L i := q5
      refine zr_iload_n dX5_init_15 rfl ?_
      refine zr_bipush (v := nI 6) dX5_init_16 rfl ?_
      refine zr_icmp_geN (tgt := 40) dX5_init_18 (by decide) (by omega) (by omega) (fun hc_18 => ?_) (fun hc_18 => ?_)
      · have e : i = 6 := by omega
        subst e
        have e92 : hb L 6 = L + 92 := by unfold hb; omega
        rw [e92] at q5'
        refine zr_aload_n dX5_init_40 rfl ?_
        refine zr_new dX5_init_41 nw_5_18 (by rw [q5']; exact l6) (by first | omega | (simp only [zk_0, zk_1, zk_2, zk_3, zk_4, zk_5, zk_6, zk_7, zk_8, zk_9]; omega) | fail "none") (by first | omega | (simp only [zk_0, zk_1, zk_2, zk_3, zk_4, zk_5, zk_6, zk_7, zk_8, zk_9]; omega) | fail "none") ?_
        rw [q5']
        refine zr_dup dX5_init_44 rfl ?_
        refine zr_callI (as := []) dX5_init_45 cv_5_20 rfl rfl (Nat.le_of_ble_eq_true rfl) (by first | omega | (simp only [zk_0, zk_1, zk_2, zk_3, zk_4, zk_5, zk_6, zk_7, zk_8, zk_9]; omega) | fail "none") (by first | omega | (simp only [zk_0, zk_1, zk_2, zk_3, zk_4, zk_5, zk_6, zk_7, zk_8, zk_9]; omega) | fail "none") (Dinit_ok (b := L + 92) l6 (by omega) l7 (by show zn m1 + 1 = _; omega) (fun m2 n2 b2 c2 => ?_))
        refine zr_putR dX5_init_48 fd_5_21 (Or.inr ⟨rfl, rfl⟩) (fun _ => ⟨rfl, rfl⟩) rfl ⟨l3, l1, by omega⟩ (by omega) ?_
        refine zr_return dX5_init_51 rfl (by first | omega | (simp only [zk_0, zk_1, zk_2, zk_3, zk_4, zk_5, zk_6, zk_7, zk_8, zk_9]; omega) | fail "none") (by first | omega | (simp only [zk_0, zk_1, zk_2, zk_3, zk_4, zk_5, zk_6, zk_7, zk_8, zk_9]; omega) | fail "none") ?_
        have hb2 : zbl (L + 92) m1 m2 := (zbl.nw (by omega)).tr b2
        refine hk _ n2 ((q6.tr (hb2.wd (by omega))).tr (zbl.sR (by omega))) ⟨?_, zR_s _ _ _ _, fun j hj => ?_, ?_, fun k => ?_, ?_, fun h hh => ?_⟩
        · rw [zR_n _ _ (Or.inr (by decide)), hb2.R (by omega)]; exact q8
        · rw [zR_n _ _ (Or.inl (by omega)), hb2.R (by omega)]; exact q9 j hj
        · rw [zR_n _ _ (Or.inl (by omega))]; exact c2
        · show zI m2 L k = 0
          rw [hb2.I (by omega)]; exact q7 k
        · show zF m2 L 9 = 0
          rw [(hb2 L (by omega)).2.2.2]; exact qf
        · have hi := hb_in (L := L) hh
          obtain ⟨g1, g2, g3, g4, g5, g6, g7, g8, g9⟩ := (q10 h hh).lo hb2 (by omega)
          exact ⟨by rw [zR_n _ _ (Or.inl (by omega))]; exact g1, by rw [zR_n _ _ (Or.inl (by omega))]; exact g2, fun j hj => by rw [zR_n _ _ (Or.inl (by omega))]; exact g3 j hj, g4, g5, g6, by rw [zR_n _ _ (Or.inl (by omega))]; exact g7, fun j hj => by rw [zR_n _ _ (Or.inl (by omega))]; exact g8 j hj, g9⟩
      · refine zr_aload_n dX5_init_21 rfl ?_
        refine zr_getR dX5_init_22 fd_5_11 rfl ⟨l3, l1, by omega⟩ q8 (by omega) ?_
        refine zr_iload_n dX5_init_25 rfl ?_
        refine zr_new dX5_init_26 nw_5_9 (by rw [q5']; exact (l5 i (by omega)).2.2.1) (by first | omega | (simp only [zk_0, zk_1, zk_2, zk_3, zk_4, zk_5, zk_6, zk_7, zk_8, zk_9]; omega) | fail "none") (by first | omega | (simp only [zk_0, zk_1, zk_2, zk_3, zk_4, zk_5, zk_6, zk_7, zk_8, zk_9]; omega) | fail "none") ?_
        rw [q5']
        refine zr_dup dX5_init_29 rfl ?_
        refine zr_callI (as := []) dX5_init_30 cv_5_17 rfl rfl (Nat.le_of_ble_eq_true rfl) (by first | omega | (simp only [zk_0, zk_1, zk_2, zk_3, zk_4, zk_5, zk_6, zk_7, zk_8, zk_9]; omega) | fail "none") (by first | omega | (simp only [zk_0, zk_1, zk_2, zk_3, zk_4, zk_5, zk_6, zk_7, zk_8, zk_9]; omega) | fail "none") (Hinit_ok (H := hb L i) (l5 i (by omega)) (by show zn m1 + 1 = _; omega) (fun k => by have := (znw_s (m := m1) (k := k)).1; rw [q5'] at this; exact this) (fun m2 n2 b2 c2 => ?_))
        have hi := hb_in (L := L) (h := i) (by omega)
        refine zr_aastoreN dX5_init_33 ⟨l4, by omega, by omega⟩ (by decide) (by decide) (by omega) (by decide) ⟨(l5 i (by omega)).2.2.1, by omega, by omega⟩ ?_
        refine zr_iincN dX5_init_34 rfl (by decide) rfl ?_
        dsimp only [zset]
        refine zr_goto (tgt := 15) dX5_init_37 (by decide) ?_
        refine ih (i + 1) _ _ _ (by omega) (by omega) (by omega) (by rw [zk_4]; omega) (by show zn m2 = _; rw [n2]; unfold hb; omega) (q6.tr (((zbl.nw (by omega)).tr (b2.wd (by omega))).tr (zbl.sR (by omega)))) (fun k => ?_) ?_ ?_ (fun j hj => ?_) (fun j hj => ?_)
        · show zI m2 L k = 0
          rw [b2.I (by omega), (znw_n (show L ≠ zn m1 by omega)).1]; exact q7 k
        · show zF m2 L 9 = 0
          rw [(b2 L (by omega)).2.2.2, (znw_n (show L ≠ zn m1 by omega)).2.2.2]; exact qf
        · rw [zR_n _ _ (Or.inl (by omega)), b2.R (by omega), (znw_n (show L ≠ zn m1 by omega)).2.1]; exact q8
        · by_cases e : j = i
          · subst e; rw [zR_s]
          · rw [zR_n _ _ (Or.inr e), b2.R (by omega), (znw_n (show L + 1 ≠ zn m1 by omega)).2.1]; exact q9 j (by omega)
        · have hs : ∀ x, H0 m2 (hb L x) → H0 (zsR m2 (L + 1) i (hb L i)) (hb L x) := fun x hx => by
            have hx0 : L + 2 ≤ hb L x := by unfold hb; omega
            obtain ⟨g1, g2, g3, g4, g5, g6, g7, g8, g9⟩ := hx
            exact ⟨by rw [zR_n _ _ (Or.inl (by omega))]; exact g1, by rw [zR_n _ _ (Or.inl (by omega))]; exact g2, fun j hj => by rw [zR_n _ _ (Or.inl (by omega))]; exact g3 j hj, g4, g5, g6, by rw [zR_n _ _ (Or.inl (by omega))]; exact g7, fun j hj => by rw [zR_n _ _ (Or.inl (by omega))]; exact g8 j hj, g9⟩
          by_cases e : j = i
          · subst e; exact hs _ c2
          · have hj2 : hb L j + 15 ≤ hb L i := by unfold hb; omega
            exact hs _ (((q10 j (by omega)).lo (zbl.nw (b := hb L i) (by omega)) (by omega)).lo b2 (by omega))
  refine zenterP (Or.inl (by decide +kernel)) rfl (fun _ => rfl) (Nat.le_of_ble_eq_true rfl) ?_
  show zwp _ _ _ _ _ 0 [_, zU] [] 0 0 _
  refine zr_aload_n dX5_init_0 rfl ?_
  refine zr_objInit dX5_init_1 oi_5_3 oi_1 oi_2 (Nat.le_of_ble_eq_true rfl) ?_
  refine zr_aload_n dX5_init_4 rfl ?_
  refine zr_bipush (v := nI 6) dX5_init_5 rfl ?_
  refine zr_anewarray (kd := 16) dX5_init_7 (by decide) (by decide) cl_5_9 ao_4 (by decide) (by rw [hz]; exact l4) (by first | omega | (simp only [zk_0, zk_1, zk_2, zk_3, zk_4, zk_5, zk_6, zk_7, zk_8, zk_9]; omega) | fail "none") (by first | omega | (simp only [zk_0, zk_1, zk_2, zk_3, zk_4, zk_5, zk_6, zk_7, zk_8, zk_9]; omega) | fail "none") ?_
  rw [hz]
  refine zr_putR dX5_init_10 fd_5_11 (Or.inr ⟨rfl, rfl⟩) (fun _ => ⟨rfl, rfl⟩) rfl ⟨l3, l1, by rw [zn_nw]; omega⟩ (by omega) ?_
  refine zr_iconst (v := nI 0) dX5_init_13 rfl ?_
  refine zr_istore_n dX5_init_14 (by decide) rfl ?_
  dsimp only [zset]
  refine loop _ 0 _ _ _ (Nat.lt_succ_self _) (Nat.zero_le _) (by omega) (by omega) (by show zn m + 1 = _; omega) ((zbl.nw (by omega)).tr (zbl.sR (by omega))) (fun k => ?_) ?_ (zR_s _ _ _ _) (fun j hj => absurd hj (Nat.not_lt_zero j)) (fun j hj => absurd hj (Nat.not_lt_zero j))
  · show zI (znw m) L k = 0
    rw [(znw_n (show L ≠ zn m by omega)).1]; exact h1 k
  · show zF (znw m) L 9 = 0
    rw [(znw_n (show L ≠ zn m by omega)).2.2.2]; exact h9
end
