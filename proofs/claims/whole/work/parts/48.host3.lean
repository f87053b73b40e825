/-! ===== the class: records come and go, a host becomes another ===== -/
section
variable {d : Nat} {Q : Value → zM → Prop} {m m' : zM} {H G r : Nat} {x x0 : sH} {n k q l : Int32} {rc : sR}
theorem HC.rot (hH : HC m H x) (hr : r < x.2.2.1.length) : HC (zrwR (zsI m H 2 (nI (x.2.2.1.length - 1))) (H + 1) (rotn (zR m (H + 1)) r x.2.2.1.length)) H (x.1, x.2.1, x.2.2.1.eraseIdx r, x.2.2.2) := by
  obtain ⟨h1, h2, h3, h4, h5, h6, h7, h8, h9, h10, h11⟩ := hH
  have hl : (x.2.2.1.eraseIdx r).length = x.2.2.1.length - 1 := List.length_eraseIdx_of_lt hr
  refine ⟨h1, h2, ?_, ?_, ?_, ?_, by rw [hl]; omega, ?_, ?_, fun y hy k hk => ?_, ?_⟩
  · rw [zrwR_n _ _ (by omega)]; exact h3
  · rw [zrwR_n _ _ (by omega)]; exact h4
  · rw [zrwR_s]; exact rotn_pm hr h7 h5
  · rw [hl]
    exact zI_s m H 2 _
  · exact (zI_n m _ (Or.inr (by decide))).trans h8
  · exact (zI_n m _ (Or.inr (by decide))).trans h9
  · rw [hl] at hy
    rw [zrwR_s, rotn_lt hy]
    have hne : ∀ z, z < 5 → zR m (H + 1) z ≠ H := fun z hz => by have := h5.1 z hz; omega
    have e : zI (zrwR (zsI m H 2 (nI (x.2.2.1.length - 1))) (H + 1) (rotn (zR m (H + 1)) r x.2.2.1.length)) (zR m (H + 1) (if y < r then y else y + 1)) k = zI m (zR m (H + 1) (if y < r then y else y + 1)) k := zI_n m _ (Or.inl (hne _ (by split <;> omega)))
    rw [e, h10 _ (by split <;> omega) k hk]
    have := zat_erase (l := x.2.2.1) (j := r) (i := y) (k := k)
    unfold zat at this
    rw [this]
    split <;> rfl
  · refine h11.off rfl (fun b b1 b2 => ?_) (fun b b1 b2 => ?_)
    · funext j
      exact zI_n (b := b) m _ (Or.inl (by omega))
    · exact zrwR_n _ _ (by omega)
theorem takeOut_ok (hH : HC m H x) (hr : r < x.2.2.1.length) (hk : ∀ m', HC m' H (x.1, x.2.1, x.2.2.1.eraseIdx r, x.2.2.2) → RCl m' (zR m (H + 1) r) (zg x.2.2.1 r) → zout H (H + 15) m m' → Q (.ref (zR m (H + 1) r)) m') : zC (d + 1) M4_takeOut 0 0 [.ref H, .int (nI r)] m Q := by
  have hr0 := hH.r0
  have hc := hH.cn
  have h5 := hH.c5
  have hg := hH.rg (r := r) (by omega)
  have loop : ∀ c j, x.2.2.1.length - 1 - j < c → r ≤ j → j ≤ x.2.2.1.length - 1 → zwp (d + 1) M4_takeOut 0 0 Q 9 [.ref H, .int (nI r), .ref (zR m (H + 1) r), .int (nI j)] [] 0 0 (zrwR m (H + 1) (rot (zR m (H + 1)) r j)) := by
    intro c
    induction c with
    | zero => intro j h1; omega
    | succ c ih =>
      intro j h1 h2 h3
      have hs2 : ∀ g, zI (zrwR m (H + 1) g) H 2 = nI x.2.2.1.length := fun g => hc
      have hr2 : ∀ g, zR (zrwR m (H + 1) g) H 0 = H + 1 := fun g => by rw [zrwR_n _ _ (by omega)]; exact hr0
      refine zr_iload_n dX4_takeOut_9 rfl ?_
      refine zr_aload_n dX4_takeOut_10 rfl ?_
      refine zr_getI dX4_takeOut_11 fd_4_25 rfl (hH.ob rfl) ?_
      rw [hs2]
      refine zr_iconst (v := nI 1) dX4_takeOut_14 rfl ?_
      refine zr_isubN dX4_takeOut_15 (by omega) ?_
      refine zr_icmp_geN (tgt := 39) dX4_takeOut_16 (by decide) (by omega) (by omega) (fun hc_16 => ?_) (fun hc_16 => ?_)
      · have e : j = x.2.2.1.length - 1 := by omega
        subst e
        refine zr_aload_n dX4_takeOut_39 rfl ?_
        refine zr_dup dX4_takeOut_40 rfl ?_
        refine zr_getI dX4_takeOut_41 fd_4_25 rfl (hH.ob rfl) ?_
        rw [hs2]
        refine zr_iconst (v := nI 1) dX4_takeOut_44 rfl ?_
        refine zr_isubN dX4_takeOut_45 (by omega) ?_
        refine zr_putI dX4_takeOut_46 fd_4_25 rfl (hH.ob rfl) ?_
        refine zr_aload_n dX4_takeOut_49 rfl ?_
        refine zr_getR dX4_takeOut_50 fd_4_11 rfl (hH.ob rfl) (show zR (zsI (zrwR m (H + 1) (rot (zR m (H + 1)) r (x.2.2.1.length - 1))) H 2 (nI (x.2.2.1.length - 1))) H 0 = H + 1 from hr2 _) (by omega) ?_
        refine zr_aload_n dX4_takeOut_53 rfl ?_
        refine zr_getI dX4_takeOut_54 fd_4_25 rfl (hH.ob rfl) ?_
        rw [zI_s]
        refine zr_aload_n dX4_takeOut_57 rfl ?_
        refine zr_aastoreN dX4_takeOut_58 (hH.ar rfl) (by decide) (by decide) (by omega) (by decide) (hH.ro (by omega) rfl) ?_
        rw [zsI_rwR, zsR_rwR]
        refine zr_aload_n dX4_takeOut_59 rfl ?_
        refine zr_areturn dX4_takeOut_60 rfl (Nat.le_refl _) (Nat.le_refl _) ?_
        refine hk _ (hH.rot hr) ⟨hH.ro (by omega) rfl, fun k hk => ?_⟩ (zout.tr (m' := zsI m H 2 (nI (x.2.2.1.length - 1))) (zout.sI (by omega) (by omega)) (zout.rwR (by omega) (by omega)))
        have e : zI (zrwR (zsI m H 2 (nI (x.2.2.1.length - 1))) (H + 1) (fu (rot (zR m (H + 1)) r (x.2.2.1.length - 1)) (x.2.2.1.length - 1) (zR m (H + 1) r))) (zR m (H + 1) r) k = zI m (zR m (H + 1) r) k := zI_n m _ (Or.inl (by omega))
        rw [e]
        exact hH.at hr hk
      · refine zr_aload_n dX4_takeOut_19 rfl ?_
        refine zr_getR dX4_takeOut_20 fd_4_11 rfl (hH.ob rfl) (hr2 _) (by omega) ?_
        refine zr_iload_n dX4_takeOut_23 rfl ?_
        refine zr_aload_n dX4_takeOut_24 rfl ?_
        refine zr_getR dX4_takeOut_25 fd_4_11 rfl (hH.ob rfl) (hr2 _) (by omega) ?_
        refine zr_iload_n dX4_takeOut_28 rfl ?_
        refine zr_iconst (v := nI 1) dX4_takeOut_29 rfl ?_
        refine zr_iaddN dX4_takeOut_30 ?_
        refine zr_aaloadN dX4_takeOut_31 (hH.ar rfl) (by decide) (by decide) (by omega) (by decide) (show zR (zrwR m (H + 1) (rot (zR m (H + 1)) r j)) (H + 1) (j + 1) = zR m (H + 1) (j + 1) by rw [zrwR_s]; unfold rot; rw [if_neg (by omega)]) (hH.nz (by omega)) ?_
        refine zr_aastoreN dX4_takeOut_32 (hH.ar rfl) (by decide) (by decide) (by omega) (by decide) (hH.ro (by omega) rfl) ?_
        rw [zsR_rwR, rot_s _ h2]
        refine zr_iincN dX4_takeOut_33 rfl (by decide) rfl ?_
        dsimp only [zset]
        refine zr_goto (tgt := 9) dX4_takeOut_36 (by decide) ?_
        exact ih (j + 1) (by omega) (by omega) (by omega)
  refine zenterP (Or.inl (by decide +kernel)) rfl (fun h => by cases h) (Nat.le_of_ble_eq_true rfl) ?_
  show zwp _ _ _ _ _ 0 [_, _, zU, zU] [] 0 0 _
  refine zr_aload_n dX4_takeOut_0 rfl ?_
  refine zr_getR dX4_takeOut_1 fd_4_11 rfl (hH.ob rfl) hr0 (by omega) ?_
  refine zr_iload_n dX4_takeOut_4 rfl ?_
  refine zr_aaloadN dX4_takeOut_5 (hH.ar rfl) (by decide) (by decide) (by omega) (by decide) rfl (hH.nz (by omega)) ?_
  refine zr_astore_n dX4_takeOut_6 (by decide) rfl ?_
  dsimp only [zset]
  refine zr_iload_n dX4_takeOut_7 rfl ?_
  refine zr_istore_n dX4_takeOut_8 (by decide) rfl ?_
  dsimp only [zset]
  have := loop _ r (Nat.lt_succ_self _) (Nat.le_refl _) (by omega)
  rw [rot_0, zrwR_id] at this
  exact this
theorem HC.push (hH : HC m H x) (h5 : x.2.2.1.length < 5) (hI : ∀ b j, (b ≠ H ∧ b ≠ zR m (H + 1) x.2.2.1.length) ∨ (b = H ∧ j ≠ 2) → zI m' b j = zI m b j) (hs : zI m' H 2 = nI (x.2.2.1.length + 1)) (he : ∀ k, k < 7 → zI m' (zR m (H + 1) x.2.2.1.length) k = rc k) (hz : zn m' = zn m) (hR : ∀ b, zR m' b = zR m b) : HC m' H (x.1, x.2.1, x.2.2.1 ++ [rc], x.2.2.2) := by
  have hp := hH.rg h5
  obtain ⟨h1, h2, h3, h4, g5, h6, h7, h8, h9, h10, h11⟩ := hH
  refine ⟨hz.trans h1, h2, by rw [hR]; exact h3, by rw [hR]; exact h4, by rw [hR]; exact g5, by rw [hs, List.length_append]; rfl, by rw [List.length_append]; show x.2.2.1.length + 1 ≤ 5; omega, ?_, ?_, fun y hy k hk => ?_, ?_⟩
  · rw [hI H 3 (Or.inr ⟨rfl, by decide⟩)]; exact h8
  · rw [hI H 4 (Or.inr ⟨rfl, by decide⟩)]; exact h9
  · rw [List.length_append] at hy
    have hy2 : y < x.2.2.1.length + 1 := hy
    rw [hR]
    by_cases e : y = x.2.2.1.length
    · subst e
      rw [he k hk]
      exact zat_app_r.symm
    · have hy3 : y < x.2.2.1.length := by omega
      have hq := g5.1 y (by omega)
      rw [hI _ _ (Or.inl ⟨by omega, fun z => e (g5.2 _ _ (by omega) (by omega) z)⟩), h10 y hy3 k hk]
      exact (zat_app_l (l' := [rc]) hy3).symm
  · refine h11.off hz (fun b b1 b2 => ?_) (fun b b1 b2 => hR b)
    funext j
    exact hI b j (Or.inl ⟨by omega, by omega⟩)
theorem add_ok (hH : HC m H x) (h5 : x.2.2.1.length < 5) (hk : ∀ m' rc, rc 0 = n → rc 1 = k → rc 2 = q → rc 3 = l → rc 5 = 0 → HC m' H (x.1, x.2.1, x.2.2.1 ++ [rc], x.2.2.2) → zout H (H + 15) m m' → (∀ b, zR m' b = zR m b) → Q (.ref (zR m (H + 1) x.2.2.1.length)) m') : zC (d + 1) M4_add 0 0 [.ref H, .int n, .int k, .int q, .int l] m Q := by
  have hr0 := hH.r0
  have hc := hH.cn
  have hg := hH.rg h5
  have hne : zR m (H + 1) x.2.2.1.length ≠ H := by omega
  refine zenterP (Or.inl (by decide +kernel)) rfl (fun h => by cases h) (Nat.le_of_ble_eq_true rfl) ?_
  show zwp _ _ _ _ _ 0 [_, _, _, _, _, zU] [] 0 0 _
  refine zr_aload_n dX4_add_0 rfl ?_
  refine zr_getR dX4_add_1 fd_4_11 rfl (hH.ob rfl) hr0 (by omega) ?_
  refine zr_aload_n dX4_add_4 rfl ?_
  refine zr_getI dX4_add_5 fd_4_25 rfl (hH.ob rfl) ?_
  rw [hc]
  refine zr_aaloadN dX4_add_8 (hH.ar rfl) (by decide) (by decide) (by omega) (by decide) rfl (hH.nz h5) ?_
  refine zr_astore dX4_add_9 (by decide) rfl ?_
  dsimp only [zset]
  refine zr_aload_n dX4_add_11 rfl ?_
  refine zr_dup dX4_add_12 rfl ?_
  refine zr_getI dX4_add_13 fd_4_25 rfl (hH.ob rfl) ?_
  rw [hc]
  refine zr_iconst (v := nI 1) dX4_add_16 rfl ?_
  refine zr_iaddN dX4_add_17 ?_
  refine zr_putI dX4_add_18 fd_4_25 rfl (hH.ob rfl) ?_
  refine zr_aload dX4_add_21 rfl ?_
  refine zr_iload_n dX4_add_23 rfl ?_
  refine zr_putI dX4_add_24 fd_4_46 rfl (hH.ro h5 rfl) ?_
  refine zr_aload dX4_add_27 rfl ?_
  refine zr_iload_n dX4_add_29 rfl ?_
  refine zr_putI dX4_add_30 fd_4_49 rfl (hH.ro h5 rfl) ?_
  refine zr_aload dX4_add_33 rfl ?_
  refine zr_iload_n dX4_add_35 rfl ?_
  refine zr_putI dX4_add_36 fd_4_52 rfl (hH.ro h5 rfl) ?_
  refine zr_aload dX4_add_39 rfl ?_
  refine zr_iload dX4_add_41 rfl ?_
  refine zr_putI dX4_add_43 fd_4_55 rfl (hH.ro h5 rfl) ?_
  refine zr_aload dX4_add_46 rfl ?_
  refine zr_iconst (v := nI 0) dX4_add_48 rfl ?_
  refine zr_putI dX4_add_49 fd_4_58 rfl (hH.ro h5 rfl) ?_
  refine zr_aload dX4_add_52 rfl ?_
  refine zr_areturn dX4_add_54 rfl (Nat.le_refl _) (Nat.le_refl _) ?_
  refine hk _ (fun j => zI (zsI (zsI (zsI (zsI (zsI (zsI m H 2 (nI (x.2.2.1.length + 1))) (zR m (H + 1) x.2.2.1.length) 0 n) (zR m (H + 1) x.2.2.1.length) 1 k) (zR m (H + 1) x.2.2.1.length) 2 q) (zR m (H + 1) x.2.2.1.length) 3 l) (zR m (H + 1) x.2.2.1.length) 5 (nI 0)) (zR m (H + 1) x.2.2.1.length) j) ?_ ?_ ?_ ?_ ?_ ?_ ?_ (fun _ => rfl)
  · rw [zI_n _ _ (Or.inr (by decide)), zI_n _ _ (Or.inr (by decide)), zI_n _ _ (Or.inr (by decide)), zI_n _ _ (Or.inr (by decide)), zI_s]
  · rw [zI_n _ _ (Or.inr (by decide)), zI_n _ _ (Or.inr (by decide)), zI_n _ _ (Or.inr (by decide)), zI_s]
  · rw [zI_n _ _ (Or.inr (by decide)), zI_n _ _ (Or.inr (by decide)), zI_s]
  · rw [zI_n _ _ (Or.inr (by decide)), zI_s]
  · rw [zI_s]
    rfl
  · refine hH.push h5 ?_ ?_ (fun j hj => rfl) rfl (fun _ => rfl)
    · intro b j hbj
      rcases hbj with ⟨b1, b2⟩ | ⟨b1, b2⟩
      · rw [zI_n _ _ (Or.inl b2), zI_n _ _ (Or.inl b2), zI_n _ _ (Or.inl b2), zI_n _ _ (Or.inl b2), zI_n _ _ (Or.inl b2), zI_n _ _ (Or.inl b1)]
      · subst b1
        rw [zI_n _ _ (Or.inl (Ne.symm hne)), zI_n _ _ (Or.inl (Ne.symm hne)), zI_n _ _ (Or.inl (Ne.symm hne)), zI_n _ _ (Or.inl (Ne.symm hne)), zI_n _ _ (Or.inl (Ne.symm hne)), zI_n _ _ (Or.inr b2)]
    · rw [zI_n _ _ (Or.inl (Ne.symm hne)), zI_n _ _ (Or.inl (Ne.symm hne)), zI_n _ _ (Or.inl (Ne.symm hne)), zI_n _ _ (Or.inl (Ne.symm hne)), zI_n _ _ (Or.inl (Ne.symm hne)), zI_s]
  · exact ((((((zout.sI (by omega) (by omega)).tr (zout.sI (by omega) (by omega))).tr (zout.sI (by omega) (by omega))).tr (zout.sI (by omega) (by omega))).tr (zout.sI (by omega) (by omega))).tr (zout.sI (by omega) (by omega)))
/-! a host becomes another -/
theorem zRb_n {a b c : Nat} (h : c ≠ a) : zI (zRb m a b) c = zI m c := by
  funext j
  unfold zRb
  rw [zI_n _ _ (Or.inl h), zI_n _ _ (Or.inl h), zI_n _ _ (Or.inl h), zI_n _ _ (Or.inl h), zI_n _ _ (Or.inl h), zI_n _ _ (Or.inl h), zI_n _ _ (Or.inl h)]
theorem zRb_s {a b k : Nat} (hk : k < 7) : zI (zRb m a b) a k = zI m b k := by
  unfold zRb
  match k, hk with
  | 0, _ => rw [zI_n _ _ (Or.inr (by decide)), zI_n _ _ (Or.inr (by decide)), zI_n _ _ (Or.inr (by decide)), zI_n _ _ (Or.inr (by decide)), zI_n _ _ (Or.inr (by decide)), zI_n _ _ (Or.inr (by decide)), zI_s]
  | 1, _ => rw [zI_n _ _ (Or.inr (by decide)), zI_n _ _ (Or.inr (by decide)), zI_n _ _ (Or.inr (by decide)), zI_n _ _ (Or.inr (by decide)), zI_n _ _ (Or.inr (by decide)), zI_s]
  | 2, _ => rw [zI_n _ _ (Or.inr (by decide)), zI_n _ _ (Or.inr (by decide)), zI_n _ _ (Or.inr (by decide)), zI_n _ _ (Or.inr (by decide)), zI_s]
  | 3, _ => rw [zI_n _ _ (Or.inr (by decide)), zI_n _ _ (Or.inr (by decide)), zI_n _ _ (Or.inr (by decide)), zI_s]
  | 4, _ => rw [zI_n _ _ (Or.inr (by decide)), zI_n _ _ (Or.inr (by decide)), zI_s]
  | 5, _ => rw [zI_n _ _ (Or.inr (by decide)), zI_s]
  | 6, _ => rw [zI_s]
theorem zRb_o {a b lo hi : Nat} (h1 : lo ≤ a) (h2 : a < hi) : zout lo hi m (zRb m a b) := ⟨rfl, fun c hc => ⟨zRb_n (by omega), rfl, rfl, rfl⟩⟩
theorem Hbec_ok (hH : HC m H x0) (hG : HC m G x) (hd : H + 15 ≤ G ∨ G + 15 ≤ H) (ha : x.1 = 0 ∨ x.1 = 1) (hso : ∀ r, r < x.2.2.1.length → zg x.2.2.1 r 6 = 0 ∨ zg x.2.2.1 r 6 = 1) (hk : ∀ m', HC m' H x → zout H (H + 15) m m' → Q .null m') : zC (d + 3) M4_become 0 0 [.ref H, .ref G] m Q := by
  have h5 := hG.c5
  have loop : ∀ c i m1, x.2.2.1.length - i < c → i ≤ x.2.2.1.length → zout H (H + 15) m m1 → (∀ y, zR m1 y = zR m y) → zI m1 H 2 = nI x.2.2.1.length → CC m1 (H + 7) x0.2.2.2 → (∀ y, y < i → ∀ k, k < 7 → zI m1 (zR m (H + 1) y) k = zg x.2.2.1 y k) → zwp (d + 3) M4_become 0 0 Q 10 [.ref H, .ref G, .int (nI i)] [] 0 0 m1 := by
    intro c
    induction c with
    | zero => intro i m1 h1; omega
    | succ c ih =>
      intro i m1 h1 h2 ho hR hs hC he
      have hG1 : HC m1 G x := hG.out ho (by omega)
      have hr0 : zR m1 H 0 = H + 1 := by rw [hR]; exact hH.r0
      have hr1 : zR m1 H 1 = H + 7 := by rw [hR]; exact hH.r1
      refine zr_iload_n dX4_become_10 rfl ?_
      refine zr_aload_n dX4_become_11 rfl ?_
      refine zr_getI dX4_become_12 fd_4_25 rfl (hH.ob ho.1) ?_
      rw [hs]
      refine zr_icmp_geN (tgt := 39) dX4_become_15 (by decide) (by omega) (by omega) (fun hc_15 => ?_) (fun hc_15 => ?_)
      · refine zr_aload_n dX4_become_39 rfl ?_
        refine zr_getR dX4_become_40 fd_4_21 rfl (hH.ob ho.1) hr1 (by omega) ?_
        refine zr_aload_n dX4_become_43 rfl ?_
        refine zr_getR dX4_become_44 fd_4_21 rfl (hG1.ob rfl) hG1.r1 (by omega) ?_
        refine zr_cV1v rfl dX4_become_47 cv_4_43 (hC.ob rfl) (Nat.le_of_ble_eq_true rfl) (Cbec_ok hC hG1.cc (by omega) (fun m2 c2 o2 => ?_))
        refine zr_aload_n dX4_become_50 rfl ?_
        refine zr_aload_n dX4_become_51 rfl ?_
        refine zr_getI dX4_become_52 fd_4_32 rfl ((hG1.out o2 (by omega)).ob rfl) ?_
        rw [(hG1.out o2 (by omega)).aw]
        refine zr_putZ dX4_become_55 fd_4_32 rfl (hH.ob (o2.1.trans ho.1)) ha ?_
        refine zr_aload_n dX4_become_58 rfl ?_
        refine zr_aload_n dX4_become_59 rfl ?_
        refine zr_getI dX4_become_60 fd_4_36 rfl ((hG1.out o2 (by omega)).ob rfl) ?_
        rw [zI_n _ _ (Or.inl (by omega)), (hG1.out o2 (by omega)).px]
        refine zr_putI dX4_become_63 fd_4_36 rfl (hH.ob (o2.1.trans ho.1)) ?_
        refine zr_return dX4_become_66 rfl (Nat.le_refl _) (Nat.le_refl _) ?_
        have e : i = x.2.2.1.length := by omega
        subst e
        obtain ⟨q1, q2, q3, q4, q5, q6, q7, q8, q9, q10, q11⟩ := hH
        have hR2 : ∀ b, b < H + 7 → zR m2 b = zR m b := fun b hb => (o2.R (by omega)).trans (hR b)
        refine hk _ ⟨o2.1.trans (ho.1.trans q1), q2, by show zR m2 H 0 = _; rw [hR2 H (by omega)]; exact q3, by show zR m2 H 1 = _; rw [hR2 H (by omega)]; exact q4, by show zpm (zR m2 (H + 1)) _ _; rw [hR2 (H + 1) (by omega)]; exact q5, ?_, h5, ?_, zI_s _ _ _ _, fun y hy k hk => ?_, ?_⟩ ?_
        · rw [zI_n _ _ (Or.inr (by decide)), zI_n _ _ (Or.inr (by decide)), o2.I (by omega)]; exact hs
        · rw [zI_n _ _ (Or.inr (by decide)), zI_s]
        · have p1 := q5.1 y (by omega)
          show zI (zsI (zsI m2 H 3 x.1) H 4 x.2.1) (zR m2 (H + 1) y) k = _
          rw [hR2 (H + 1) (by omega), zI_n _ _ (Or.inl (by omega)), zI_n _ _ (Or.inl (by omega)), o2.I (by omega)]
          exact he y hy k hk
        · refine c2.off rfl (fun b b1 b2 => ?_) (fun b b1 b2 => rfl)
          funext j
          rw [zI_n _ _ (Or.inl (by omega)), zI_n _ _ (Or.inl (by omega))]
        · exact ((ho.tr (o2.wd (by omega) (by omega))).tr (zout.sI (by omega) (by omega))).tr (zout.sI (by omega) (by omega))
      · refine zr_aload_n dX4_become_18 rfl ?_
        refine zr_getR dX4_become_19 fd_4_11 rfl (hH.ob ho.1) hr0 (by omega) ?_
        refine zr_iload_n dX4_become_22 rfl ?_
        refine zr_aaloadN dX4_become_23 (hH.ar ho.1) (by decide) (by decide) (by omega) (by decide) (show zR m1 (H + 1) i = zR m (H + 1) i by rw [hR]) (hH.nz (by omega)) ?_
        refine zr_aload_n dX4_become_24 rfl ?_
        refine zr_getR dX4_become_25 fd_4_11 rfl (hG1.ob rfl) hG1.r0 (by omega) ?_
        refine zr_iload_n dX4_become_28 rfl ?_
        refine zr_aaloadN dX4_become_29 (hG1.ar rfl) (by decide) (by decide) (by omega) (by decide) rfl (hG1.nz (by omega)) ?_
        refine zr_cV1v rfl dX4_become_30 cv_4_39 (hH.ro (by omega) ho.1) (Nat.le_of_ble_eq_true rfl) (Rbec_ok (hH.ro (by omega) ho.1) (hG1.ro (by omega) rfl) ?_ (by rw [hG1.at hc_15 (by decide)]; exact hso i hc_15) ?_)
        · have p1 := hH.rg (r := i) (by omega)
          have p2 := hG1.rg (r := i) (by omega)
          omega
        refine zr_iincN dX4_become_33 rfl (by decide) rfl ?_
        dsimp only [zset]
        refine zr_goto (tgt := 10) dX4_become_36 (by decide) ?_
        have p1 := hH.rg (r := i) (by omega)
        refine ih (i + 1) _ (by omega) (by omega) (ho.tr (zRb_o (by omega) (by omega))) (fun y => hR y) ?_ (hC.out (zRb_o (lo := H) (hi := H + 7) (by omega) (by omega)) (by omega)) (fun y hy k hk => ?_)
        · rw [zRb_n (by omega)]; exact hs
        · by_cases e : y = i
          · subst e
            rw [zRb_s hk]
            exact hG1.at hc_15 hk
          · rw [zRb_n (fun z => e (hH.2.2.2.2.1.2 _ _ (by omega) (by omega) z))]
            exact he y (by omega) k hk
  refine zenterP (Or.inl (by decide +kernel)) rfl (fun h => by cases h) (Nat.le_of_ble_eq_true rfl) ?_
  show zwp _ _ _ _ _ 0 [_, _, zU] [] 0 0 _
  refine zr_aload_n dX4_become_0 rfl ?_
  refine zr_aload_n dX4_become_1 rfl ?_
  refine zr_getI dX4_become_2 fd_4_25 rfl (hG.ob rfl) ?_
  rw [hG.cn]
  refine zr_putI dX4_become_5 fd_4_25 rfl (hH.ob rfl) ?_
  refine zr_iconst (v := nI 0) dX4_become_8 rfl ?_
  refine zr_istore_n dX4_become_9 (by decide) rfl ?_
  dsimp only [zset]
  exact loop _ 0 _ (Nat.lt_succ_self _) (Nat.zero_le _) (zout.sI (by omega) (by omega)) (fun y => rfl) (zI_s _ _ _ _) (hH.cc.out (zout.sI (lo := H) (hi := H + 1) (by omega) (by omega)) (by omega)) (fun y hy => absurd hy (Nat.not_lt_zero y))
end
