/-! ===== the class: hosts, what they tell ===== -/
def LH (H : Nat) : Prop := 2 ≤ H ∧ H + 15 ≤ 676 ∧ (zLay H).1 = 4 ∧ zLay (H + 1) = (18, 5) ∧ (∀ j, j < 5 → (zLay (H + 2 + j)).1 = 6) ∧ LC (H + 7)
def HC (m : zM) (H : Nat) (x : sH) : Prop := zn m = 676 ∧ LH H ∧ zR m H 0 = H + 1 ∧ zR m H 1 = H + 7 ∧ zpm (zR m (H + 1)) (H + 2) 5 ∧ zI m H 2 = nI x.2.2.1.length ∧ x.2.2.1.length ≤ 5 ∧ zI m H 3 = x.1 ∧ zI m H 4 = x.2.1 ∧ (∀ r, r < x.2.2.1.length → ∀ k, k < 7 → zI m (zR m (H + 1) r) k = zg x.2.2.1 r k) ∧ CC m (H + 7) x.2.2.2
section
variable {m m' : zM} {H r : Nat} {x : sH}
theorem HC.ob (h : HC m H x) (e : zn m' = zn m) : zOb m' H 4 := ⟨h.2.1.2.2.1, h.2.1.1, by rw [e, h.1]; have := h.2.1.2.1; omega⟩
theorem HC.ar (h : HC m H x) (e : zn m' = zn m) : zAr m' (H + 1) 18 5 := ⟨h.2.1.2.2.2.1, by have := h.2.1.1; omega, by rw [e, h.1]; have := h.2.1.2.1; omega⟩
theorem LH.ro (h : LH H) {a : Nat} (h1 : H + 2 ≤ a) (h2 : a < H + 2 + 5) : (zLay a).1 = 6 := by
  have := h.2.2.2.2.1 (a - (H + 2)) (by omega)
  rwa [show H + 2 + (a - (H + 2)) = a by omega] at this
theorem HC.ro (h : HC m H x) (hr : r < 5) (e : zn m' = zn m) : zOb m' (zR m (H + 1) r) 6 := by
  have hp := h.2.2.2.2.1.1 r hr
  exact ⟨h.2.1.ro hp.1 hp.2, by have := h.2.1.1; omega, by rw [e, h.1]; have := h.2.1.2.1; omega⟩
theorem HC.nz (h : HC m H x) (hr : r < 5) : zR m (H + 1) r ≠ 0 := by have := h.2.2.2.2.1.1 r hr; omega
theorem HC.r0 (h : HC m H x) : zR m H 0 = H + 1 := h.2.2.1
theorem HC.r1 (h : HC m H x) : zR m H 1 = H + 7 := h.2.2.2.1
theorem HC.cn (h : HC m H x) : zI m H 2 = nI x.2.2.1.length := h.2.2.2.2.2.1
theorem HC.c5 (h : HC m H x) : x.2.2.1.length ≤ 5 := h.2.2.2.2.2.2.1
theorem HC.aw (h : HC m H x) : zI m H 3 = x.1 := h.2.2.2.2.2.2.2.1
theorem HC.px (h : HC m H x) : zI m H 4 = x.2.1 := h.2.2.2.2.2.2.2.2.1
theorem HC.at (h : HC m H x) (hr : r < x.2.2.1.length) {k : Nat} (hk : k < 7) : zI m (zR m (H + 1) r) k = zg x.2.2.1 r k := h.2.2.2.2.2.2.2.2.2.1 r hr k hk
theorem HC.cc (h : HC m H x) : CC m (H + 7) x.2.2.2 := h.2.2.2.2.2.2.2.2.2.2
theorem HC.rg (h : HC m H x) (hr : r < 5) : H + 2 ≤ zR m (H + 1) r ∧ zR m (H + 1) r < H + 7 := h.2.2.2.2.1.1 r hr
theorem HC.rcl (h : HC m H x) (hr : r < x.2.2.1.length) : RCl m (zR m (H + 1) r) (zg x.2.2.1 r) := ⟨h.ro (by have := h.c5; omega) rfl, fun k hk => h.at hr hk⟩
theorem HC.off (h : HC m H x) (hz : zn m' = zn m) (hI : ∀ a, H ≤ a → a < H + 15 → zI m' a = zI m a) (hR : ∀ a, H ≤ a → a < H + 15 → zR m' a = zR m a) : HC m' H x := by
  obtain ⟨h1, h2, h3, h4, h5, h6, h7, h8, h9, h10, h11⟩ := h
  refine ⟨hz.trans h1, h2, by rw [hR H (by omega) (by omega)]; exact h3, by rw [hR H (by omega) (by omega)]; exact h4, by rw [hR (H + 1) (by omega) (by omega)]; exact h5, by rw [hI H (by omega) (by omega)]; exact h6, h7, by rw [hI H (by omega) (by omega)]; exact h8, by rw [hI H (by omega) (by omega)]; exact h9, fun i hi k hk => ?_, h11.off hz (fun a b1 b2 => hI a (by omega) (by omega)) (fun a b1 b2 => hR a (by omega) (by omega))⟩
  rw [hR (H + 1) (by omega) (by omega), hI _ (by have := h5.1 i (by omega); omega) (by have := h5.1 i (by omega); omega)]
  exact h10 i hi k hk
theorem HC.out {lo hi : Nat} (h : HC m H x) (ho : zout lo hi m m') (hd : H + 15 ≤ lo ∨ hi ≤ H) : HC m' H x := h.off ho.1 (fun a h1 h2 => ho.I (by omega)) (fun a h1 h2 => ho.R (by omega))
theorem any_t {p : sR → Bool} {l : List sR} {i : Nat} (hi : i < l.length) (hp : p (zg l i) = true) : l.any p = true := by rw [any_anyN, anyN_iff]; exact ⟨i, hi, hp⟩
theorem any_f {p : sR → Bool} {l : List sR} (h : ∀ i, i < l.length → p (zg l i) = false) : l.any p = false := by rw [any_anyN, anyN_false]; exact h
end
section
variable {d : Nat} {Q : Value → zM → Prop} {m : zM} {H b : Nat} {x : sH} {n k q : Int32} {rc : sR}
theorem hasNamed_ok (hH : HC m H x) (hk : Q (.int (bI (x.2.2.1.any (fun a => snam a n k)))) m) : zC (d + 2) M4_hasNamed 0 0 [.ref H, .int n, .int k] m Q := by
  have hr := hH.r0
  have hc := hH.cn
  have h5 := hH.c5
  have loop : ∀ c i, x.2.2.1.length - i < c → i ≤ x.2.2.1.length → (∀ j, j < i → (fun a => snam a n k) (zg x.2.2.1 j) = false) → zwp (d + 2) M4_hasNamed 0 0 Q 2 [.ref H, .int n, .int k, .int (nI i)] [] 0 0 m := by
    intro c
    induction c with
    | zero => intro i h1; omega
    | succ c ih =>
      intro i h1 h2 h3
      refine zr_iload_n dX4_hasNamed_2 rfl ?_
      refine zr_aload_n dX4_hasNamed_3 rfl ?_
      refine zr_getI dX4_hasNamed_4 fd_4_25 rfl (hH.ob rfl) ?_
      rw [hc]
      refine zr_icmp_geN (tgt := 32) dX4_hasNamed_7 (by decide) (by omega) (by omega) (fun hc_7 => ?_) (fun hc_7 => ?_)
      · refine zr_iconst (v := bI false) dX4_hasNamed_32 rfl ?_
        refine zr_zreturnB dX4_hasNamed_33 rfl (Nat.le_refl _) (Nat.le_refl _) ?_
        rw [any_f (p := fun a => snam a n k) (fun j hj => h3 j (by omega))] at hk
        exact hk
      · refine zr_aload_n dX4_hasNamed_10 rfl ?_
        refine zr_getR dX4_hasNamed_11 fd_4_11 rfl (hH.ob rfl) hr (by omega) ?_
        refine zr_iload_n dX4_hasNamed_14 rfl ?_
        refine zr_aaloadN dX4_hasNamed_15 (hH.ar rfl) (by decide) (by decide) (by omega) (by decide) rfl (hH.nz (by omega)) ?_
        refine zr_iload_n dX4_hasNamed_16 rfl ?_
        refine zr_iload_n dX4_hasNamed_17 rfl ?_
        refine zr_cV2 rfl dX4_hasNamed_18 cv_4_61 (hH.ro (by omega) rfl) (Nat.le_of_ble_eq_true rfl) (Risn_ok (e := zg x.2.2.1 i) (hH.ro (by omega) rfl) (hH.at (by omega) (by decide)) (hH.at (by omega) (by decide)) ?_)
        refine zr_if_eqB (tgt := 26) dX4_hasNamed_21 (by decide) (fun hc_21 => ?_) (fun hc_21 => ?_)
        · refine zr_iincN dX4_hasNamed_26 rfl (by decide) rfl ?_
          dsimp only [zset]
          refine zr_goto (tgt := 2) dX4_hasNamed_29 (by decide) ?_
          refine ih (i + 1) (by omega) (by omega) (fun j hj => ?_)
          by_cases e : j = i
          · subst e
            exact hc_21
          · exact h3 j (by omega)
        · refine zr_iconst (v := bI true) dX4_hasNamed_24 rfl ?_
          refine zr_zreturnB dX4_hasNamed_25 rfl (Nat.le_refl _) (Nat.le_refl _) ?_
          rw [any_t (p := fun a => snam a n k) (by omega) (hc_21)] at hk
          exact hk
  refine zenterP (Or.inl (by decide +kernel)) rfl (fun h => by cases h) (Nat.le_of_ble_eq_true rfl) ?_
  show zwp _ _ _ _ _ 0 [_, _, _, zU] [] 0 0 _
  refine zr_iconst (v := nI 0) dX4_hasNamed_0 rfl ?_
  refine zr_istore_n dX4_hasNamed_1 (by decide) rfl ?_
  dsimp only [zset]
  exact loop _ 0 (Nat.lt_succ_self _) (Nat.zero_le _) (fun j hj => absurd hj (Nat.not_lt_zero j))
theorem has_ok (hH : HC m H x) (hk : Q (.int (bI (x.2.2.1.any (skey n k q)))) m) : zC (d + 2) M4_has 0 0 [.ref H, .int n, .int k, .int q] m Q := by
  have hr := hH.r0
  have hc := hH.cn
  have h5 := hH.c5
  have loop : ∀ c i, x.2.2.1.length - i < c → i ≤ x.2.2.1.length → (∀ j, j < i → (skey n k q) (zg x.2.2.1 j) = false) → zwp (d + 2) M4_has 0 0 Q 3 [.ref H, .int n, .int k, .int q, .int (nI i)] [] 0 0 m := by
    intro c
    induction c with
    | zero => intro i h1; omega
    | succ c ih =>
      intro i h1 h2 h3
      refine zr_iload dX4_has_3 rfl ?_
      refine zr_aload_n dX4_has_5 rfl ?_
      refine zr_getI dX4_has_6 fd_4_25 rfl (hH.ob rfl) ?_
      rw [hc]
      refine zr_icmp_geN (tgt := 49) dX4_has_9 (by decide) (by omega) (by omega) (fun hc_9 => ?_) (fun hc_9 => ?_)
      · refine zr_iconst (v := bI false) dX4_has_49 rfl ?_
        refine zr_zreturnB dX4_has_50 rfl (Nat.le_refl _) (Nat.le_refl _) ?_
        rw [any_f (p := skey n k q) (fun j hj => h3 j (by omega))] at hk
        exact hk
      · refine zr_aload_n dX4_has_12 rfl ?_
        refine zr_getR dX4_has_13 fd_4_11 rfl (hH.ob rfl) hr (by omega) ?_
        refine zr_iload dX4_has_16 rfl ?_
        refine zr_aaloadN dX4_has_18 (hH.ar rfl) (by decide) (by decide) (by omega) (by decide) rfl (hH.nz (by omega)) ?_
        refine zr_iload_n dX4_has_19 rfl ?_
        refine zr_iload_n dX4_has_20 rfl ?_
        refine zr_cV2 rfl dX4_has_21 cv_4_61 (hH.ro (by omega) rfl) (Nat.le_of_ble_eq_true rfl) (Risn_ok (e := zg x.2.2.1 i) (hH.ro (by omega) rfl) (hH.at (by omega) (by decide)) (hH.at (by omega) (by decide)) ?_)
        refine zr_if_eqB (tgt := 43) dX4_has_24 (by decide) (fun hc_24 => ?_) (fun hc_24 => ?_)
        · refine zr_iincN dX4_has_43 rfl (by decide) rfl ?_
          dsimp only [zset]
          refine zr_goto (tgt := 3) dX4_has_46 (by decide) ?_
          refine ih (i + 1) (by omega) (by omega) (fun j hj => ?_)
          by_cases e : j = i
          · subst e
            simp [skey, *]
          · exact h3 j (by omega)
        · refine zr_aload_n dX4_has_27 rfl ?_
          refine zr_getR dX4_has_28 fd_4_11 rfl (hH.ob rfl) hr (by omega) ?_
          refine zr_iload dX4_has_31 rfl ?_
          refine zr_aaloadN dX4_has_33 (hH.ar rfl) (by decide) (by decide) (by omega) (by decide) rfl (hH.nz (by omega)) ?_
          refine zr_getI dX4_has_34 fd_4_52 rfl (hH.ro (by omega) rfl) ?_
          rw [hH.at (by omega) (by decide)]
          refine zr_iload_n dX4_has_37 rfl ?_
          refine zr_icmp_ne (tgt := 43) dX4_has_38 (by decide) (fun hc_38 => ?_) (fun hc_38 => ?_)
          · refine zr_iincN dX4_has_43 rfl (by decide) rfl ?_
            dsimp only [zset]
            refine zr_goto (tgt := 3) dX4_has_46 (by decide) ?_
            refine ih (i + 1) (by omega) (by omega) (fun j hj => ?_)
            by_cases e : j = i
            · subst e
              simp [skey, *]
            · exact h3 j (by omega)
          · refine zr_iconst (v := bI true) dX4_has_41 rfl ?_
            refine zr_zreturnB dX4_has_42 rfl (Nat.le_refl _) (Nat.le_refl _) ?_
            rw [any_t (p := skey n k q) (by omega) (by simp [skey, hc_24, hc_38])] at hk
            exact hk
  refine zenterP (Or.inl (by decide +kernel)) rfl (fun h => by cases h) (Nat.le_of_ble_eq_true rfl) ?_
  show zwp _ _ _ _ _ 0 [_, _, _, _, zU] [] 0 0 _
  refine zr_iconst (v := nI 0) dX4_has_0 rfl ?_
  refine zr_istore dX4_has_1 (by decide) rfl ?_
  dsimp only [zset]
  exact loop _ 0 (Nat.lt_succ_self _) (Nat.zero_le _) (fun j hj => absurd hj (Nat.not_lt_zero j))
theorem owns_ok (hH : HC m H x) (hk : Q (.int (bI (x.2.2.1.any (fun a => sown a && skey n k q a)))) m) : zC (d + 2) M4_owns 0 0 [.ref H, .int n, .int k, .int q] m Q := by
  have hr := hH.r0
  have hc := hH.cn
  have h5 := hH.c5
  have loop : ∀ c i t5, x.2.2.1.length - i < c → i ≤ x.2.2.1.length → (∀ j, j < i → (fun a => sown a && skey n k q a) (zg x.2.2.1 j) = false) → zwp (d + 2) M4_owns 0 0 Q 3 [.ref H, .int n, .int k, .int q, .int (nI i), t5] [] 0 0 m := by
    intro c
    induction c with
    | zero => intro i t5 h1; omega
    | succ c ih =>
      intro i t5 h1 h2 h3
      refine zr_iload dX4_owns_3 rfl ?_
      refine zr_aload_n dX4_owns_5 rfl ?_
      refine zr_getI dX4_owns_6 fd_4_25 rfl (hH.ob rfl) ?_
      rw [hc]
      refine zr_icmp_geN (tgt := 56) dX4_owns_9 (by decide) (by omega) (by omega) (fun hc_9 => ?_) (fun hc_9 => ?_)
      · refine zr_iconst (v := bI false) dX4_owns_56 rfl ?_
        refine zr_zreturnB dX4_owns_57 rfl (Nat.le_refl _) (Nat.le_refl _) ?_
        rw [any_f (p := fun a => sown a && skey n k q a) (fun j hj => h3 j (by omega))] at hk
        exact hk
      · refine zr_aload_n dX4_owns_12 rfl ?_
        refine zr_getR dX4_owns_13 fd_4_11 rfl (hH.ob rfl) hr (by omega) ?_
        refine zr_iload dX4_owns_16 rfl ?_
        refine zr_aaloadN dX4_owns_18 (hH.ar rfl) (by decide) (by decide) (by omega) (by decide) rfl (hH.nz (by omega)) ?_
        refine zr_astore dX4_owns_19 (by decide) rfl ?_
        dsimp only [zset]
        refine zr_aload dX4_owns_21 rfl ?_
        refine zr_cV0 rfl dX4_owns_23 cv_4_65 (hH.ro (by omega) rfl) (Nat.le_of_ble_eq_true rfl) (Rown_ok (e := zg x.2.2.1 i) (hH.ro (by omega) rfl) (hH.at (by omega) (by decide)) ?_)
        refine zr_if_eqB (tgt := 50) dX4_owns_26 (by decide) (fun hc_26 => ?_) (fun hc_26 => ?_)
        · refine zr_iincN dX4_owns_50 rfl (by decide) rfl ?_
          dsimp only [zset]
          refine zr_goto (tgt := 3) dX4_owns_53 (by decide) ?_
          refine ih (i + 1) _ (by omega) (by omega) (fun j hj => ?_)
          by_cases e : j = i
          · subst e
            simp [skey, *]
          · exact h3 j (by omega)
        · refine zr_aload dX4_owns_29 rfl ?_
          refine zr_iload_n dX4_owns_31 rfl ?_
          refine zr_iload_n dX4_owns_32 rfl ?_
          refine zr_cV2 rfl dX4_owns_33 cv_4_61 (hH.ro (by omega) rfl) (Nat.le_of_ble_eq_true rfl) (Risn_ok (e := zg x.2.2.1 i) (hH.ro (by omega) rfl) (hH.at (by omega) (by decide)) (hH.at (by omega) (by decide)) ?_)
          refine zr_if_eqB (tgt := 50) dX4_owns_36 (by decide) (fun hc_36 => ?_) (fun hc_36 => ?_)
          · refine zr_iincN dX4_owns_50 rfl (by decide) rfl ?_
            dsimp only [zset]
            refine zr_goto (tgt := 3) dX4_owns_53 (by decide) ?_
            refine ih (i + 1) _ (by omega) (by omega) (fun j hj => ?_)
            by_cases e : j = i
            · subst e
              simp [skey, *]
            · exact h3 j (by omega)
          · refine zr_aload dX4_owns_39 rfl ?_
            refine zr_getI dX4_owns_41 fd_4_52 rfl (hH.ro (by omega) rfl) ?_
            rw [hH.at (by omega) (by decide)]
            refine zr_iload_n dX4_owns_44 rfl ?_
            refine zr_icmp_ne (tgt := 50) dX4_owns_45 (by decide) (fun hc_45 => ?_) (fun hc_45 => ?_)
            · refine zr_iincN dX4_owns_50 rfl (by decide) rfl ?_
              dsimp only [zset]
              refine zr_goto (tgt := 3) dX4_owns_53 (by decide) ?_
              refine ih (i + 1) _ (by omega) (by omega) (fun j hj => ?_)
              by_cases e : j = i
              · subst e
                simp [skey, *]
              · exact h3 j (by omega)
            · refine zr_iconst (v := bI true) dX4_owns_48 rfl ?_
              refine zr_zreturnB dX4_owns_49 rfl (Nat.le_refl _) (Nat.le_refl _) ?_
              rw [any_t (p := fun a => sown a && skey n k q a) (by omega) (by simp [skey, hc_26, hc_36, hc_45])] at hk
              exact hk
  refine zenterP (Or.inl (by decide +kernel)) rfl (fun h => by cases h) (Nat.le_of_ble_eq_true rfl) ?_
  show zwp _ _ _ _ _ 0 [_, _, _, _, zU, zU] [] 0 0 _
  refine zr_iconst (v := nI 0) dX4_owns_0 rfl ?_
  refine zr_istore dX4_owns_1 (by decide) rfl ?_
  dsimp only [zset]
  exact loop _ 0 _ (Nat.lt_succ_self _) (Nat.zero_le _) (fun j hj => absurd hj (Nat.not_lt_zero j))
theorem rival_ok (hH : HC m H x) (hso : ∀ r, r < x.2.2.1.length → zg x.2.2.1 r 6 = 0 ∨ zg x.2.2.1 r 6 = 1) (hb : RCl m b rc) (hk : Q (.int (bI (x.2.2.1.any (fun a => (a 6 == 1 && sown a) && (sone a rc && !ssame a rc))))) m) : zC (d + 2) M4_ownsRivalOf 0 0 [.ref H, .ref b] m Q := by
  have hr := hH.r0
  have hc := hH.cn
  have h5 := hH.c5
  have loop : ∀ c i t3, x.2.2.1.length - i < c → i ≤ x.2.2.1.length → (∀ j, j < i → (fun a => (a 6 == 1 && sown a) && (sone a rc && !ssame a rc)) (zg x.2.2.1 j) = false) → zwp (d + 2) M4_ownsRivalOf 0 0 Q 2 [.ref H, .ref b, .int (nI i), t3] [] 0 0 m := by
    intro c
    induction c with
    | zero => intro i t3 h1; omega
    | succ c ih =>
      intro i t3 h1 h2 h3
      refine zr_iload_n dX4_ownsRivalOf_2 rfl ?_
      refine zr_aload_n dX4_ownsRivalOf_3 rfl ?_
      refine zr_getI dX4_ownsRivalOf_4 fd_4_25 rfl (hH.ob rfl) ?_
      rw [hc]
      refine zr_icmp_geN (tgt := 65) dX4_ownsRivalOf_7 (by decide) (by omega) (by omega) (fun hc_7 => ?_) (fun hc_7 => ?_)
      · refine zr_iconst (v := bI false) dX4_ownsRivalOf_65 rfl ?_
        refine zr_zreturnB dX4_ownsRivalOf_66 rfl (Nat.le_refl _) (Nat.le_refl _) ?_
        rw [any_f (p := fun a => (a 6 == 1 && sown a) && (sone a rc && !ssame a rc)) (fun j hj => h3 j (by omega))] at hk
        exact hk
      · refine zr_aload_n dX4_ownsRivalOf_10 rfl ?_
        refine zr_getR dX4_ownsRivalOf_11 fd_4_11 rfl (hH.ob rfl) hr (by omega) ?_
        refine zr_iload_n dX4_ownsRivalOf_14 rfl ?_
        refine zr_aaloadN dX4_ownsRivalOf_15 (hH.ar rfl) (by decide) (by decide) (by omega) (by decide) rfl (hH.nz (by omega)) ?_
        refine zr_astore_n dX4_ownsRivalOf_16 (by decide) rfl ?_
        dsimp only [zset]
        refine zr_aload_n dX4_ownsRivalOf_17 rfl ?_
        refine zr_getI dX4_ownsRivalOf_18 fd_4_73 rfl (hH.ro (by omega) rfl) ?_
        rw [hH.at (by omega) (by decide)]
        refine zr_if_eq (tgt := 59) dX4_ownsRivalOf_21 (by decide) (fun hc_21 => ?_) (fun hc_21 => ?_)
        · refine zr_iincN dX4_ownsRivalOf_59 rfl (by decide) rfl ?_
          dsimp only [zset]
          refine zr_goto (tgt := 2) dX4_ownsRivalOf_62 (by decide) ?_
          refine ih (i + 1) _ (by omega) (by omega) (fun j hj => ?_)
          by_cases e : j = i
          · subst e
            first
            | (simp [hc_21]; done)
            | (simp [hc_28]; done)
            | (have := hc_43
               simp only [snam] at this
               simp [sone, this]; done)
            | (simp [ssame, hc_54]; done)
            | fail "none"
          · exact h3 j (by omega)
        · refine zr_aload_n dX4_ownsRivalOf_24 rfl ?_
          refine zr_cV0 rfl dX4_ownsRivalOf_25 cv_4_65 (hH.ro (by omega) rfl) (Nat.le_of_ble_eq_true rfl) (Rown_ok (e := zg x.2.2.1 i) (hH.ro (by omega) rfl) (hH.at (by omega) (by decide)) ?_)
          refine zr_if_eqB (tgt := 59) dX4_ownsRivalOf_28 (by decide) (fun hc_28 => ?_) (fun hc_28 => ?_)
          · refine zr_iincN dX4_ownsRivalOf_59 rfl (by decide) rfl ?_
            dsimp only [zset]
            refine zr_goto (tgt := 2) dX4_ownsRivalOf_62 (by decide) ?_
            refine ih (i + 1) _ (by omega) (by omega) (fun j hj => ?_)
            by_cases e : j = i
            · subst e
              first
              | (simp [hc_21]; done)
              | (simp [hc_28]; done)
              | (have := hc_43
                 simp only [snam] at this
                 simp [sone, this]; done)
              | (simp [ssame, hc_54]; done)
              | fail "none"
            · exact h3 j (by omega)
          · refine zr_aload_n dX4_ownsRivalOf_31 rfl ?_
            refine zr_aload_n dX4_ownsRivalOf_32 rfl ?_
            refine zr_getI dX4_ownsRivalOf_33 fd_4_46 rfl hb.1 ?_
            rw [hb.2 0 (by decide)]
            refine zr_aload_n dX4_ownsRivalOf_36 rfl ?_
            refine zr_getI dX4_ownsRivalOf_37 fd_4_49 rfl hb.1 ?_
            rw [hb.2 1 (by decide)]
            refine zr_cV2 rfl dX4_ownsRivalOf_40 cv_4_61 (hH.ro (by omega) rfl) (Nat.le_of_ble_eq_true rfl) (Risn_ok (e := zg x.2.2.1 i) (hH.ro (by omega) rfl) (hH.at (by omega) (by decide)) (hH.at (by omega) (by decide)) ?_)
            refine zr_if_eqB (tgt := 59) dX4_ownsRivalOf_43 (by decide) (fun hc_43 => ?_) (fun hc_43 => ?_)
            · refine zr_iincN dX4_ownsRivalOf_59 rfl (by decide) rfl ?_
              dsimp only [zset]
              refine zr_goto (tgt := 2) dX4_ownsRivalOf_62 (by decide) ?_
              refine ih (i + 1) _ (by omega) (by omega) (fun j hj => ?_)
              by_cases e : j = i
              · subst e
                first
                | (simp [hc_21]; done)
                | (simp [hc_28]; done)
                | (have := hc_43
                   simp only [snam] at this
                   simp [sone, this]; done)
                | (simp [ssame, hc_54]; done)
                | fail "none"
              · exact h3 j (by omega)
            · refine zr_aload_n dX4_ownsRivalOf_46 rfl ?_
              refine zr_getI dX4_ownsRivalOf_47 fd_4_52 rfl (hH.ro (by omega) rfl) ?_
              rw [hH.at (by omega) (by decide)]
              refine zr_aload_n dX4_ownsRivalOf_50 rfl ?_
              refine zr_getI dX4_ownsRivalOf_51 fd_4_52 rfl hb.1 ?_
              rw [hb.2 2 (by decide)]
              refine zr_icmp_eq (tgt := 59) dX4_ownsRivalOf_54 (by decide) (fun hc_54 => ?_) (fun hc_54 => ?_)
              · refine zr_iincN dX4_ownsRivalOf_59 rfl (by decide) rfl ?_
                dsimp only [zset]
                refine zr_goto (tgt := 2) dX4_ownsRivalOf_62 (by decide) ?_
                refine ih (i + 1) _ (by omega) (by omega) (fun j hj => ?_)
                by_cases e : j = i
                · subst e
                  first
                  | (simp [hc_21]; done)
                  | (simp [hc_28]; done)
                  | (have := hc_43
                     simp only [snam] at this
                     simp [sone, this]; done)
                  | (simp [ssame, hc_54]; done)
                  | fail "none"
                · exact h3 j (by omega)
              · refine zr_iconst (v := bI true) dX4_ownsRivalOf_57 rfl ?_
                refine zr_zreturnB dX4_ownsRivalOf_58 rfl (Nat.le_refl _) (Nat.le_refl _) ?_
                rw [any_t (p := fun a => (a 6 == 1 && sown a) && (sone a rc && !ssame a rc)) (by omega) (by
                  have h61 := (hso i (by omega)).resolve_left hc_21
                  have := hc_43
                  simp only [snam, Bool.and_eq_true, beq_iff_eq] at this
                  simp [h61, hc_28, sone, ssame, this, hc_54])] at hk
                exact hk
  refine zenterP (Or.inl (by decide +kernel)) rfl (fun h => by cases h) (Nat.le_of_ble_eq_true rfl) ?_
  show zwp _ _ _ _ _ 0 [_, _, zU, zU] [] 0 0 _
  refine zr_iconst (v := nI 0) dX4_ownsRivalOf_0 rfl ?_
  refine zr_istore_n dX4_ownsRivalOf_1 (by decide) rfl ?_
  dsimp only [zset]
  exact loop _ 0 _ (Nat.lt_succ_self _) (Nat.zero_le _) (fun j hj => absurd hj (Nat.not_lt_zero j))
theorem outbids_ok (hH : HC m H x) (hb : RCl m b rc) (hk : Q (.int (bI (x.2.2.1.any (fun a => !sown a && (sone a rc && decide (rc 2 < a 2)))))) m) : zC (d + 2) M4_outbids 0 0 [.ref H, .ref b] m Q := by
  have hr := hH.r0
  have hc := hH.cn
  have h5 := hH.c5
  have loop : ∀ c i t3, x.2.2.1.length - i < c → i ≤ x.2.2.1.length → (∀ j, j < i → (fun a => !sown a && (sone a rc && decide (rc 2 < a 2))) (zg x.2.2.1 j) = false) → zwp (d + 2) M4_outbids 0 0 Q 2 [.ref H, .ref b, .int (nI i), t3] [] 0 0 m := by
    intro c
    induction c with
    | zero => intro i t3 h1; omega
    | succ c ih =>
      intro i t3 h1 h2 h3
      refine zr_iload_n dX4_outbids_2 rfl ?_
      refine zr_aload_n dX4_outbids_3 rfl ?_
      refine zr_getI dX4_outbids_4 fd_4_25 rfl (hH.ob rfl) ?_
      rw [hc]
      refine zr_icmp_geN (tgt := 58) dX4_outbids_7 (by decide) (by omega) (by omega) (fun hc_7 => ?_) (fun hc_7 => ?_)
      · refine zr_iconst (v := bI false) dX4_outbids_58 rfl ?_
        refine zr_zreturnB dX4_outbids_59 rfl (Nat.le_refl _) (Nat.le_refl _) ?_
        rw [any_f (p := fun a => !sown a && (sone a rc && decide (rc 2 < a 2))) (fun j hj => h3 j (by omega))] at hk
        exact hk
      · refine zr_aload_n dX4_outbids_10 rfl ?_
        refine zr_getR dX4_outbids_11 fd_4_11 rfl (hH.ob rfl) hr (by omega) ?_
        refine zr_iload_n dX4_outbids_14 rfl ?_
        refine zr_aaloadN dX4_outbids_15 (hH.ar rfl) (by decide) (by decide) (by omega) (by decide) rfl (hH.nz (by omega)) ?_
        refine zr_astore_n dX4_outbids_16 (by decide) rfl ?_
        dsimp only [zset]
        refine zr_aload_n dX4_outbids_17 rfl ?_
        refine zr_cV0 rfl dX4_outbids_18 cv_4_65 (hH.ro (by omega) rfl) (Nat.le_of_ble_eq_true rfl) (Rown_ok (e := zg x.2.2.1 i) (hH.ro (by omega) rfl) (hH.at (by omega) (by decide)) ?_)
        refine zr_if_neB (tgt := 52) dX4_outbids_21 (by decide) (fun hc_21 => ?_) (fun hc_21 => ?_)
        · refine zr_iincN dX4_outbids_52 rfl (by decide) rfl ?_
          dsimp only [zset]
          refine zr_goto (tgt := 2) dX4_outbids_55 (by decide) ?_
          refine ih (i + 1) _ (by omega) (by omega) (fun j hj => ?_)
          by_cases e : j = i
          · subst e
            first
            | (simp [hc_21]; done)
            | (have := hc_36
               simp only [snam] at this
               simp [sone, this]; done)
            | (have := Int32.not_lt.mpr hc_47
               simp [this]; done)
            | fail "none"
          · exact h3 j (by omega)
        · refine zr_aload_n dX4_outbids_24 rfl ?_
          refine zr_aload_n dX4_outbids_25 rfl ?_
          refine zr_getI dX4_outbids_26 fd_4_46 rfl hb.1 ?_
          rw [hb.2 0 (by decide)]
          refine zr_aload_n dX4_outbids_29 rfl ?_
          refine zr_getI dX4_outbids_30 fd_4_49 rfl hb.1 ?_
          rw [hb.2 1 (by decide)]
          refine zr_cV2 rfl dX4_outbids_33 cv_4_61 (hH.ro (by omega) rfl) (Nat.le_of_ble_eq_true rfl) (Risn_ok (e := zg x.2.2.1 i) (hH.ro (by omega) rfl) (hH.at (by omega) (by decide)) (hH.at (by omega) (by decide)) ?_)
          refine zr_if_eqB (tgt := 52) dX4_outbids_36 (by decide) (fun hc_36 => ?_) (fun hc_36 => ?_)
          · refine zr_iincN dX4_outbids_52 rfl (by decide) rfl ?_
            dsimp only [zset]
            refine zr_goto (tgt := 2) dX4_outbids_55 (by decide) ?_
            refine ih (i + 1) _ (by omega) (by omega) (fun j hj => ?_)
            by_cases e : j = i
            · subst e
              first
              | (simp [hc_21]; done)
              | (have := hc_36
                 simp only [snam] at this
                 simp [sone, this]; done)
              | (have := Int32.not_lt.mpr hc_47
                 simp [this]; done)
              | fail "none"
            · exact h3 j (by omega)
          · refine zr_aload_n dX4_outbids_39 rfl ?_
            refine zr_getI dX4_outbids_40 fd_4_52 rfl (hH.ro (by omega) rfl) ?_
            rw [hH.at (by omega) (by decide)]
            refine zr_aload_n dX4_outbids_43 rfl ?_
            refine zr_getI dX4_outbids_44 fd_4_52 rfl hb.1 ?_
            rw [hb.2 2 (by decide)]
            refine zr_icmp_le (tgt := 52) dX4_outbids_47 (by decide) (fun hc_47 => ?_) (fun hc_47 => ?_)
            · refine zr_iincN dX4_outbids_52 rfl (by decide) rfl ?_
              dsimp only [zset]
              refine zr_goto (tgt := 2) dX4_outbids_55 (by decide) ?_
              refine ih (i + 1) _ (by omega) (by omega) (fun j hj => ?_)
              by_cases e : j = i
              · subst e
                first
                | (simp [hc_21]; done)
                | (have := hc_36
                   simp only [snam] at this
                   simp [sone, this]; done)
                | (have := Int32.not_lt.mpr hc_47
                   simp [this]; done)
                | fail "none"
              · exact h3 j (by omega)
            · refine zr_iconst (v := bI true) dX4_outbids_50 rfl ?_
              refine zr_zreturnB dX4_outbids_51 rfl (Nat.le_refl _) (Nat.le_refl _) ?_
              rw [any_t (p := fun a => !sown a && (sone a rc && decide (rc 2 < a 2))) (by omega) (by
                have := hc_36
                simp only [snam, Bool.and_eq_true, beq_iff_eq] at this
                have h2 := Int32.not_le.mp hc_47
                simp [hc_21, sone, this, h2])] at hk
              exact hk
  refine zenterP (Or.inl (by decide +kernel)) rfl (fun h => by cases h) (Nat.le_of_ble_eq_true rfl) ?_
  show zwp _ _ _ _ _ 0 [_, _, zU, zU] [] 0 0 _
  refine zr_iconst (v := nI 0) dX4_outbids_0 rfl ?_
  refine zr_istore_n dX4_outbids_1 (by decide) rfl ?_
  dsimp only [zset]
  exact loop _ 0 _ (Nat.lt_succ_self _) (Nat.zero_le _) (fun j hj => absurd hj (Nat.not_lt_zero j))
end
