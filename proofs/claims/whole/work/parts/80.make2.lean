/-! ===== making: the whole ===== -/
def zin2 (lo hi : Nat) (m m' : zM) : Prop := ∀ a, lo ≤ a → a < hi → zI m' a = zI m a ∧ zR m' a = zR m a ∧ zL m' a = zL m a ∧ zF m' a = zF m a
section
variable {lo hi lo' hi' a k b C H L : Nat} {m m' m'' : zM}
theorem zin2.tr (h : zin2 lo hi m m') (h' : zin2 lo hi m' m'') : zin2 lo hi m m'' := fun a h1 h2 => ⟨(h' a h1 h2).1.trans (h a h1 h2).1, (h' a h1 h2).2.1.trans (h a h1 h2).2.1, (h' a h1 h2).2.2.1.trans (h a h1 h2).2.2.1, (h' a h1 h2).2.2.2.trans (h a h1 h2).2.2.2⟩
theorem zin2.wd (h : zin2 lo hi m m') (h1 : lo ≤ lo') (h2 : hi' ≤ hi) : zin2 lo' hi' m m' := fun a h3 h4 => h a (by omega) (by omega)
theorem zin2.sI {v : Int32} (h : a < lo ∨ hi ≤ a) : zin2 lo hi m (zsI m a k v) := fun c h1 h2 => ⟨funext fun j => zI_n m v (Or.inl (by omega)), rfl, rfl, rfl⟩
theorem zin2.sR {v : Nat} (h : a < lo ∨ hi ≤ a) : zin2 lo hi m (zsR m a k v) := fun c h1 h2 => ⟨rfl, funext fun j => zR_n m v (Or.inl (by omega)), rfl, rfl⟩
theorem zin2.nw (h : hi ≤ zn m) : zin2 lo hi m (znw m) := fun a h1 h2 => znw_n (by omega)
theorem zbl.zi (h : zbl b m m') (hb : hi ≤ b) : zin2 lo hi m m' := fun a h1 h2 => h a (by omega)
theorem zin2.I (h : zin2 lo hi m m') (h1 : lo ≤ a) (h2 : a < hi) : zI m' a = zI m a := (h a h1 h2).1
theorem zin2.R (h : zin2 lo hi m m') (h1 : lo ≤ a) (h2 : a < hi) : zR m' a = zR m a := (h a h1 h2).2.1
theorem C0.zi (h : C0 m C) (hl : zin2 lo hi m m') (h1 : lo ≤ C) (h2 : C + 2 ≤ hi) : C0 m' C := by
  obtain ⟨g1, g2, g3⟩ := h
  exact ⟨by rw [hl.R (by omega) (by omega)]; exact g1, by rw [hl.R (by omega) (by omega)]; exact g2, by rw [hl.I (by omega) (by omega)]; exact g3⟩
theorem H0.zi (h : H0 m H) (hl : zin2 lo hi m m') (h1 : lo ≤ H) (h2 : H + 9 ≤ hi) : H0 m' H := by
  obtain ⟨g1, g2, g3, g4, g5, g6, g7⟩ := h
  exact ⟨by rw [hl.R (by omega) (by omega)]; exact g1, by rw [hl.R (by omega) (by omega)]; exact g2, by rw [hl.R (by omega) (by omega)]; exact g3, by rw [hl.I (by omega) (by omega)]; exact g4, by rw [hl.I (by omega) (by omega)]; exact g5, by rw [hl.I (by omega) (by omega)]; exact g6, g7.zi hl (by omega) (by omega)⟩
theorem L0.zi (h : L0 m L) (hl : zin2 lo hi m m') (i1 : lo ≤ L) (i2 : L + 94 ≤ hi) : L0 m' L := by
  obtain ⟨h1, h2, h3, h4, h5, h6, h7⟩ := h
  exact ⟨by rw [hl.R (by omega) (by omega)]; exact h1, by rw [hl.R (by omega) (by omega)]; exact h2, by rw [hl.R (by omega) (by omega)]; exact h3, by rw [hl.R (by omega) (by omega)]; exact h4, by rw [hl.I (by omega) (by omega)]; exact h5, by rw [(hl L (by omega) (by omega)).2.2.2]; exact h6, fun h hh => (h7 h hh).zi hl (by have := hb_in (L := L) hh; omega) (by have := hb_in (L := L) hh; omega)⟩
end
theorem LL_3 : LL 3 := by unfold LL LH LC hb; decide +kernel
theorem LL_hp : ∀ k, k < 6 → LL (hp k) := by
  intro k hk
  rcases (show k = 0 ∨ k = 1 ∨ k = 2 ∨ k = 3 ∨ k = 4 ∨ k = 5 by omega) with rfl | rfl | rfl | rfl | rfl | rfl
  · unfold LL LH LC hb hp; decide +kernel
  · unfold LL LH LC hb hp; decide +kernel
  · unfold LL LH LC hb hp; decide +kernel
  · unfold LL LH LC hb hp; decide +kernel
  · unfold LL LH LC hb hp; decide +kernel
  · unfold LL LH LC hb hp; decide +kernel
def Y0 (m : zM) : Prop := zR m 97 0 = 98 ∧ (∀ k, k < 6 → zR m 98 k = hp k) ∧ (∀ k, zI m 97 k = 0) ∧ ∀ k, k < 6 → L0 m (hp k)
def T0 (m : zM) : Prop := zR m 663 0 = 664 ∧ zR m 663 2 = 665 ∧ zR m 663 3 = 666 ∧ zI m 663 1 = 0
def N0 (m : zM) : Prop := zR m 2 0 = 3 ∧ zR m 2 1 = 97 ∧ zR m 2 2 = 663 ∧ (∀ k, k < 7 → zI m 2 k = 0) ∧ zI m 2 7 = -1 ∧ L0 m 3 ∧ Y0 m ∧ T0 m
section
variable {d : Nat} {Q : Value → zM → Prop} {m m' : zM} {lo hi : Nat}
theorem Y0.zi (h : Y0 m) (hl : zin2 lo hi m m') (i1 : lo ≤ 97) (i2 : 663 ≤ hi) : Y0 m' := by
  obtain ⟨h1, h2, h3, h4⟩ := h
  exact ⟨by rw [hl.R (by omega) (by omega)]; exact h1, by rw [hl.R (by omega) (by omega)]; exact h2, by rw [hl.I (by omega) (by omega)]; exact h3, fun k hk => (h4 k hk).zi hl (by unfold hp; omega) (by unfold hp; omega)⟩
theorem T0.zi (h : T0 m) (hl : zin2 lo hi m m') (i1 : lo ≤ 663) (i2 : 667 ≤ hi) : T0 m' := by
  obtain ⟨h1, h2, h3, h4⟩ := h
  exact ⟨by rw [hl.R (by omega) (by omega)]; exact h1, by rw [hl.R (by omega) (by omega)]; exact h2, by rw [hl.R (by omega) (by omega)]; exact h3, by rw [hl.I (by omega) (by omega)]; exact h4⟩
theorem N0.zi (h : N0 m) (hl : zin2 lo hi m m') (i1 : lo ≤ 2) (i2 : 667 ≤ hi) : N0 m' := by
  obtain ⟨h1, h2, h3, h4, h5, h6, h7, h8⟩ := h
  exact ⟨by rw [hl.R (by omega) (by omega)]; exact h1, by rw [hl.R (by omega) (by omega)]; exact h2, by rw [hl.R (by omega) (by omega)]; exact h3, by rw [hl.I (by omega) (by omega)]; exact h4, by rw [hl.I (by omega) (by omega)]; exact h5, h6.zi hl (by omega) (by omega), h7.zi hl (by omega) (by omega), h8.zi hl (by omega) (by omega)⟩
theorem Yinit_ok (hz : zn m = 98) (h1 : ∀ k, zI m 97 k = 0) (hk : ∀ m', zn m' = 663 → zbl 97 m m' → Y0 m' → Q .null m') : zC (d + 5) M3_init 565 3120 [.ref 97] m Q := by
  have loop : ∀ c i m1 uc us, 6 - i < c → i ≤ 6 → uc = 1 + 94 * i → us = 6 + 519 * i → zn m1 = 99 + 94 * i → zbl 97 m m1 → (∀ k, zI m1 97 k = 0) → zR m1 97 0 = 98 → (∀ j, j < i → zR m1 98 j = hp j) → (∀ j, j < i → L0 m1 (hp j)) → zwp (d + 5) M3_init 565 3120 Q 15 [.ref 97, .int (nI i)] [] uc us m1 := by
    intro c
    induction c with
    | zero => intro i m1 uc us h1; omega
    | succ c ih =>
      intro i m1 uc us q1 q2 q3 q4 q5 q6 q7 q8 q9 q10
      have q5' : zn m1 = hp i := q5
      refine zr_iload_n dX3_init_15 rfl ?_
      refine zr_bipush (v := nI 6) dX3_init_16 rfl ?_
      refine zr_icmp_geN (tgt := 40) dX3_init_18 (by decide) (by omega) (by omega) (fun hc_18 => ?_) (fun hc_18 => ?_)
      · refine zr_return dX3_init_40 rfl (by first | omega | (simp only [zk_0, zk_1, zk_2, zk_3, zk_4, zk_5, zk_6, zk_7, zk_8, zk_9]; omega) | fail "none") (by first | omega | (simp only [zk_0, zk_1, zk_2, zk_3, zk_4, zk_5, zk_6, zk_7, zk_8, zk_9]; omega) | fail "none") ?_
        have e : i = 6 := by omega
        subst e
        exact hk m1 q5 q6 ⟨q8, q9, q7, q10⟩
      · refine zr_aload_n dX3_init_21 rfl ?_
        refine zr_getR dX3_init_22 fd_3_13 rfl ⟨by decide, by decide, by omega⟩ q8 (by decide) ?_
        refine zr_iload_n dX3_init_25 rfl ?_
        refine zr_new dX3_init_26 nw_3_11 (by rw [q5']; exact (LL_hp i (by omega)).2.2.1) (by first | omega | (simp only [zk_0, zk_1, zk_2, zk_3, zk_4, zk_5, zk_6, zk_7, zk_8, zk_9]; omega) | fail "none") (by first | omega | (simp only [zk_0, zk_1, zk_2, zk_3, zk_4, zk_5, zk_6, zk_7, zk_8, zk_9]; omega) | fail "none") ?_
        rw [q5']
        refine zr_dup dX3_init_29 rfl ?_
        refine zr_callI (as := []) dX3_init_30 cv_3_17 rfl rfl (Nat.le_of_ble_eq_true rfl) (by first | omega | (simp only [zk_0, zk_1, zk_2, zk_3, zk_4, zk_5, zk_6, zk_7, zk_8, zk_9]; omega) | fail "none") (by first | omega | (simp only [zk_0, zk_1, zk_2, zk_3, zk_4, zk_5, zk_6, zk_7, zk_8, zk_9]; omega) | fail "none") (Linit_ok (L := hp i) (LL_hp i (by omega)) (by show zn m1 + 1 = _; omega) (fun k => by have := (znw_s (m := m1) (k := k)).1; rw [q5'] at this; exact this) (by have := (znw_s (m := m1) (k := 9)).2.2.2; rw [q5'] at this; exact this) (fun m2 n2 b2 c2 => ?_))
        have hi : 99 ≤ hp i := by unfold hp; omega
        refine zr_aastoreN dX3_init_33 (show zAr m2 98 17 6 from ⟨by decide, by decide, by omega⟩) (by decide) (by decide) (by omega) (by decide) ⟨(LL_hp i (by omega)).2.2.1, by omega, by omega⟩ ?_
        refine zr_iincN dX3_init_34 rfl (by decide) rfl ?_
        dsimp only [zset]
        refine zr_goto (tgt := 15) dX3_init_37 (by decide) ?_
        have hB : zbl 99 m1 m2 := (zbl.nw (by omega)).tr (b2.wd hi)
        refine ih (i + 1) _ _ _ (by omega) (by omega) (by omega) (by rw [zk_5]; omega) (by show zn m2 = _; rw [n2]; unfold hp; omega) (q6.tr ((hB.wd (by omega)).tr (zbl.sR (by omega)))) (fun k => ?_) ?_ (fun j hj => ?_) (fun j hj => ?_)
        · show zI m2 97 k = 0
          rw [hB.I (by omega)]; exact q7 k
        · rw [zR_n _ _ (Or.inl (by decide)), hB.R (by omega)]; exact q8
        · by_cases e : j = i
          · subst e; rw [zR_s]
          · rw [zR_n _ _ (Or.inr e), hB.R (by omega)]; exact q9 j (by omega)
        · by_cases e : j = i
          · subst e
            exact c2.zi (lo := 99) (hi := 700) (zin2.sR (by omega)) (by omega) (by unfold hp; omega)
          · have hj2 : hp j + 94 ≤ hp i := by unfold hp; omega
            have hj3 : 99 ≤ hp j := by unfold hp; omega
            exact ((q10 j (by omega)).lo ((zbl.nw (b := hp i) (by omega)).tr b2) (by omega)).zi (lo := 99) (hi := hp j + 94) (zin2.sR (by omega)) hj3 (by omega)
  refine zenterP (Or.inl (by decide +kernel)) rfl (fun _ => rfl) (Nat.le_of_ble_eq_true rfl) ?_
  show zwp _ _ _ _ _ 0 [_, zU] [] 0 0 _
  refine zr_aload_n dX3_init_0 rfl ?_
  refine zr_objInit dX3_init_1 oi_3_3 oi_1 oi_2 (Nat.le_of_ble_eq_true rfl) ?_
  refine zr_aload_n dX3_init_4 rfl ?_
  refine zr_bipush (v := nI 6) dX3_init_5 rfl ?_
  refine zr_anewarray (kd := 17) dX3_init_7 (by decide) (by decide) cl_3_11 ao_5 (by decide) (by rw [hz]; rfl) (by first | omega | (simp only [zk_0, zk_1, zk_2, zk_3, zk_4, zk_5, zk_6, zk_7, zk_8, zk_9]; omega) | fail "none") (by first | omega | (simp only [zk_0, zk_1, zk_2, zk_3, zk_4, zk_5, zk_6, zk_7, zk_8, zk_9]; omega) | fail "none") ?_
  rw [hz]
  refine zr_putR dX3_init_10 fd_3_13 (Or.inr ⟨rfl, rfl⟩) (fun _ => ⟨rfl, rfl⟩) rfl ⟨by decide, by decide, by rw [zn_nw]; omega⟩ (by decide) ?_
  refine zr_iconst (v := nI 0) dX3_init_13 rfl ?_
  refine zr_istore_n dX3_init_14 (by decide) rfl ?_
  dsimp only [zset]
  refine loop _ 0 _ _ _ (Nat.lt_succ_self _) (Nat.zero_le _) (by omega) (by omega) (by show zn m + 1 = _; omega) ((zbl.nw (by omega)).tr (zbl.sR (by omega))) (fun k => ?_) (zR_s _ _ _ _) (fun j hj => absurd hj (Nat.not_lt_zero j)) (fun j hj => absurd hj (Nat.not_lt_zero j))
  show zI (znw m) 97 k = 0
  rw [(znw_n (show 97 ≠ zn m by omega)).1]; exact h1 k
theorem zn_sR {a k v : Nat} : zn (zsR m a k v) = zn m := rfl
theorem zn_sI {a k : Nat} {v : Int32} : zn (zsI m a k v) = zn m := rfl
theorem Tinit_ok (hz : zn m = 664) (h1 : zI m 663 1 = 0) (hk : ∀ m', zn m' = 667 → zbl 663 m m' → T0 m' → Q .null m') : zC (d + 1) M7_init 3 480 [.ref 663] m Q := by
  refine zenterP (Or.inl (by decide +kernel)) rfl (fun _ => rfl) (Nat.le_of_ble_eq_true rfl) ?_
  show zwp _ _ _ _ _ 0 [_] [] 0 0 _
  refine zr_aload_n dX7_init_0 rfl ?_
  refine zr_objInit dX7_init_1 oi_7_3 oi_1 oi_2 (Nat.le_of_ble_eq_true rfl) ?_
  refine zr_aload_n dX7_init_4 rfl ?_
  refine zr_bipush (v := nI 120) dX7_init_5 rfl ?_
  refine zr_newarray (kd := 10) dX7_init_7 rfl (by decide) (by decide) ac_byte (by decide) (by rw [hz]; rfl) (by first | omega | (simp only [zk_0, zk_1, zk_2, zk_3, zk_4, zk_5, zk_6, zk_7, zk_8, zk_9]; omega) | fail "none") (by first | omega | (simp only [zk_0, zk_1, zk_2, zk_3, zk_4, zk_5, zk_6, zk_7, zk_8, zk_9]; omega) | fail "none") ?_
  rw [hz]
  refine zr_putR dX7_init_9 fd_7_9 (Or.inr ⟨rfl, rfl⟩) (fun _ => ⟨rfl, rfl⟩) rfl ⟨by decide, by decide, by rw [zn_nw]; omega⟩ (by decide) ?_
  refine zr_aload_n dX7_init_12 rfl ?_
  refine zr_bipush (v := nI 60) dX7_init_13 rfl ?_
  refine zr_newarray (kd := 12) dX7_init_15 rfl (by decide) (by decide) ac_int (by decide) (by rw [zn_sR, zn_nw, hz]; rfl) (by first | omega | (simp only [zk_0, zk_1, zk_2, zk_3, zk_4, zk_5, zk_6, zk_7, zk_8, zk_9]; omega) | fail "none") (by first | omega | (simp only [zk_0, zk_1, zk_2, zk_3, zk_4, zk_5, zk_6, zk_7, zk_8, zk_9]; omega) | fail "none") ?_
  rw [zn_sR, zn_nw, hz]
  refine zr_putR dX7_init_17 fd_7_15 (Or.inr ⟨rfl, rfl⟩) (fun _ => ⟨rfl, rfl⟩) rfl ⟨by decide, by decide, by rw [zn_nw, zn_sR, zn_nw]; omega⟩ (by decide) ?_
  refine zr_aload_n dX7_init_20 rfl ?_
  refine zr_sipush (v := nI 300) dX7_init_21 rfl ?_
  refine zr_newarray (kd := 12) dX7_init_24 rfl (by decide) (by decide) ac_int (by decide) (by rw [zn_sR, zn_nw, zn_sR, zn_nw, hz]; rfl) (by first | omega | (simp only [zk_0, zk_1, zk_2, zk_3, zk_4, zk_5, zk_6, zk_7, zk_8, zk_9]; omega) | fail "none") (by first | omega | (simp only [zk_0, zk_1, zk_2, zk_3, zk_4, zk_5, zk_6, zk_7, zk_8, zk_9]; omega) | fail "none") ?_
  rw [zn_sR, zn_nw, zn_sR, zn_nw, hz]
  refine zr_putR dX7_init_26 fd_7_19 (Or.inr ⟨rfl, rfl⟩) (fun _ => ⟨rfl, rfl⟩) rfl ⟨by decide, by decide, by rw [zn_nw, zn_sR, zn_nw, zn_sR, zn_nw]; omega⟩ (by decide) ?_
  refine zr_return dX7_init_29 rfl (by first | omega | (simp only [zk_0, zk_1, zk_2, zk_3, zk_4, zk_5, zk_6, zk_7, zk_8, zk_9]; omega) | fail "none") (by first | omega | (simp only [zk_0, zk_1, zk_2, zk_3, zk_4, zk_5, zk_6, zk_7, zk_8, zk_9]; omega) | fail "none") ?_
  have n1 : (663 : Nat) ≠ zn m := by omega
  have n2 : (663 : Nat) ≠ zn (zsR (znw m) 663 0 664) := by rw [zn_sR, zn_nw]; omega
  have n3 : (663 : Nat) ≠ zn (zsR (znw (zsR (znw m) 663 0 664)) 663 2 665) := by rw [zn_sR, zn_nw, zn_sR, zn_nw]; omega
  refine hk _ (by rw [zn_sR, zn_nw, zn_sR, zn_nw, zn_sR, zn_nw]; omega) ((((((zbl.nw (by omega)).tr (zbl.sR (by omega))).tr (zbl.nw (by rw [zn_sR, zn_nw]; omega))).tr (zbl.sR (by omega))).tr (zbl.nw (by rw [zn_sR, zn_nw, zn_sR, zn_nw]; omega))).tr (zbl.sR (by omega))) ⟨?_, ?_, zR_s _ _ _ _, ?_⟩
  · rw [zR_n _ _ (Or.inr (by decide)), (znw_n n3).2.1, zR_n _ _ (Or.inr (by decide)), (znw_n n2).2.1, zR_s]
  · rw [zR_n _ _ (Or.inr (by decide)), (znw_n n3).2.1, zR_s]
  · show zI (znw (zsR (znw (zsR (znw m) 663 0 664)) 663 2 665)) 663 1 = 0
    rw [(znw_n n3).1]
    show zI (znw (zsR (znw m) 663 0 664)) 663 1 = 0
    rw [(znw_n n2).1]
    show zI (znw m) 663 1 = 0
    rw [(znw_n n1).1]
    exact h1
theorem Ninit_ok (hz : zn m = 3) (h1 : ∀ k, zI m 2 k = 0) (hk : ∀ m', zn m' = 667 → zbl 2 m m' → N0 m' → Q .null m') : zC (d + 6) M8_init 664 4130 [.ref 2] m Q := by
  refine zenterP (Or.inl (by decide +kernel)) rfl (fun _ => rfl) (Nat.le_of_ble_eq_true rfl) ?_
  show zwp _ _ _ _ _ 0 [_] [] 0 0 _
  refine zr_aload_n dX8_init_0 rfl ?_
  refine zr_objInit dX8_init_1 oi_8_3 oi_1 oi_2 (Nat.le_of_ble_eq_true rfl) ?_
  refine zr_aload_n dX8_init_4 rfl ?_
  refine zr_new dX8_init_5 nw_8_9 (by rw [hz]; exact LL_3.2.2.1) (by first | omega | (simp only [zk_0, zk_1, zk_2, zk_3, zk_4, zk_5, zk_6, zk_7, zk_8, zk_9]; omega) | fail "none") (by first | omega | (simp only [zk_0, zk_1, zk_2, zk_3, zk_4, zk_5, zk_6, zk_7, zk_8, zk_9]; omega) | fail "none") ?_
  rw [hz]
  refine zr_dup dX8_init_8 rfl ?_
  refine zr_callI (as := []) dX8_init_9 cv_8_11 rfl rfl (Nat.le_of_ble_eq_true rfl) (by first | omega | (simp only [zk_0, zk_1, zk_2, zk_3, zk_4, zk_5, zk_6, zk_7, zk_8, zk_9]; omega) | fail "none") (by first | omega | (simp only [zk_0, zk_1, zk_2, zk_3, zk_4, zk_5, zk_6, zk_7, zk_8, zk_9]; omega) | fail "none") (Linit_ok (L := 3) LL_3 (by rw [zn_nw]; omega) (fun k => by have := (znw_s (m := m) (k := k)).1; rw [hz] at this; exact this) (by have := (znw_s (m := m) (k := 9)).2.2.2; rw [hz] at this; exact this) (fun m1 n1 b1 c1 => ?_))
  refine zr_putR dX8_init_12 fd_8_12 (Or.inr ⟨rfl, rfl⟩) (fun _ => ⟨rfl, rfl⟩) rfl ⟨by decide, by decide, by omega⟩ (by decide) ?_
  refine zr_aload_n dX8_init_15 rfl ?_
  refine zr_new dX8_init_16 nw_8_16 (by rw [zn_sR, n1]; rfl) (by first | omega | (simp only [zk_0, zk_1, zk_2, zk_3, zk_4, zk_5, zk_6, zk_7, zk_8, zk_9]; omega) | fail "none") (by first | omega | (simp only [zk_0, zk_1, zk_2, zk_3, zk_4, zk_5, zk_6, zk_7, zk_8, zk_9]; omega) | fail "none") ?_
  rw [zn_sR, n1]
  have B1 : zbl 3 m (zsR m1 2 0 3) → True := fun _ => trivial
  refine zr_dup dX8_init_19 rfl ?_
  refine zr_callI (as := []) dX8_init_20 cv_8_18 rfl rfl (Nat.le_of_ble_eq_true rfl) (by first | omega | (simp only [zk_0, zk_1, zk_2, zk_3, zk_4, zk_5, zk_6, zk_7, zk_8, zk_9]; omega) | fail "none") (by first | omega | (simp only [zk_0, zk_1, zk_2, zk_3, zk_4, zk_5, zk_6, zk_7, zk_8, zk_9]; omega) | fail "none") (Yinit_ok (by rw [zn_nw, zn_sR]; omega) (fun k => by have := (znw_s (m := zsR m1 2 0 3) (k := k)).1; rw [zn_sR, n1] at this; exact this) (fun m2 n2 b2 c2 => ?_))
  refine zr_putR dX8_init_23 fd_8_19 (Or.inr ⟨rfl, rfl⟩) (fun _ => ⟨rfl, rfl⟩) rfl ⟨by decide, by decide, by omega⟩ (by decide) ?_
  refine zr_aload_n dX8_init_26 rfl ?_
  refine zr_new dX8_init_27 nw_8_23 (by rw [zn_sR, n2]; rfl) (by first | omega | (simp only [zk_0, zk_1, zk_2, zk_3, zk_4, zk_5, zk_6, zk_7, zk_8, zk_9]; omega) | fail "none") (by first | omega | (simp only [zk_0, zk_1, zk_2, zk_3, zk_4, zk_5, zk_6, zk_7, zk_8, zk_9]; omega) | fail "none") ?_
  rw [zn_sR, n2]
  refine zr_dup dX8_init_30 rfl ?_
  refine zr_callI (as := []) dX8_init_31 cv_8_25 rfl rfl (Nat.le_of_ble_eq_true rfl) (by first | omega | (simp only [zk_0, zk_1, zk_2, zk_3, zk_4, zk_5, zk_6, zk_7, zk_8, zk_9]; omega) | fail "none") (by first | omega | (simp only [zk_0, zk_1, zk_2, zk_3, zk_4, zk_5, zk_6, zk_7, zk_8, zk_9]; omega) | fail "none") (Tinit_ok (by rw [zn_nw, zn_sR]; omega) (by have := (znw_s (m := zsR m2 2 1 97) (k := 1)).1; rw [zn_sR, n2] at this; exact this) (fun m3 n3 b3 c3 => ?_))
  refine zr_putR dX8_init_34 fd_8_26 (Or.inr ⟨rfl, rfl⟩) (fun _ => ⟨rfl, rfl⟩) rfl ⟨by decide, by decide, by omega⟩ (by decide) ?_
  refine zr_aload_n dX8_init_37 rfl ?_
  refine zr_iconst (v := -1) dX8_init_38 rfl ?_
  refine zr_putI dX8_init_39 fd_8_30 rfl ⟨by decide, by decide, by rw [zn_sR]; omega⟩ ?_
  refine zr_return dX8_init_42 rfl (by first | omega | (simp only [zk_0, zk_1, zk_2, zk_3, zk_4, zk_5, zk_6, zk_7, zk_8, zk_9]; omega) | fail "none") (by first | omega | (simp only [zk_0, zk_1, zk_2, zk_3, zk_4, zk_5, zk_6, zk_7, zk_8, zk_9]; omega) | fail "none") ?_
  have i1 : zbl 3 (znw m) m1 := b1
  have i2 : zbl 97 (zsR m1 2 0 3) m2 := (zbl.nw (by rw [zn_sR]; omega)).tr b2
  have i3 : zbl 663 (zsR m2 2 1 97) m3 := (zbl.nw (by rw [zn_sR]; omega)).tr b3
  have f1 : ∀ k, zI m1 2 k = 0 := fun k => by rw [i1.I (by omega), (znw_n (show 2 ≠ zn m by omega)).1]; exact h1 k
  have f2 : ∀ k, zI m2 2 k = 0 := fun k => by rw [i2.I (by omega)]; exact f1 k
  have f3 : ∀ k, zI m3 2 k = 0 := fun k => by rw [i3.I (by omega)]; exact f2 k
  have j2 : zin2 3 700 m3 (zsI (zsR m3 2 2 663) 2 7 (-1)) := (zin2.sR (by omega)).tr (zin2.sI (by omega))
  have j1 : zin2 3 663 m2 (zsI (zsR m3 2 2 663) 2 7 (-1)) := ((zin2.sR (by omega)).tr (i3.zi (by omega))).tr (j2.wd (by omega) (by omega))
  have j0 : zin2 3 97 m1 (zsI (zsR m3 2 2 663) 2 7 (-1)) := ((zin2.sR (by omega)).tr (i2.zi (by omega))).tr (j1.wd (by omega) (by omega))
  refine hk _ n3 ?_ ⟨?_, ?_, ?_, fun k hk => ?_, zI_s _ _ _ _, c1.zi j0 (by omega) (by omega), c2.zi j1 (by omega) (by omega), c3.zi j2 (by omega) (by omega)⟩
  · exact (((((zbl.nw (by omega)).tr (b1.wd (by omega))).tr (zbl.sR (by omega))).tr (i2.wd (by omega))).tr ((zbl.sR (by omega)).tr (i3.wd (by omega)))).tr ((zbl.sR (by omega)).tr (zbl.sI (by omega)))
  · show zR (zsR m3 2 2 663) 2 0 = 3
    rw [zR_n _ _ (Or.inr (by decide)), i3.R (by omega), zR_n _ _ (Or.inr (by decide)), i2.R (by omega), zR_s]
  · show zR (zsR m3 2 2 663) 2 1 = 97
    rw [zR_n _ _ (Or.inr (by decide)), i3.R (by omega), zR_s]
  · show zR (zsR m3 2 2 663) 2 2 = 663
    rw [zR_s]
  · rw [zI_n _ _ (Or.inr (by omega))]; exact f3 k
end
