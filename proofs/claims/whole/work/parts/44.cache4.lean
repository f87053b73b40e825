/-! ===== the class: a cache learns, hears a goodbye, becomes another ===== -/
theorem uq_filter {p : sR → Bool} : ∀ (l : List sR) (j : Nat), j < l.length → p (zg l j) = true → (∀ i, i < l.length → i ≠ j → p (zg l i) = false) → l.filter (fun e => !p e) = l.eraseIdx j
  | [], j, h, _, _ => absurd h (Nat.not_lt_zero j)
  | x :: l, 0, h, hp, hn => by
    have hx : p x = true := hp
    rw [List.filter_cons, if_neg (by rw [hx]; decide)]
    show l.filter _ = l
    rw [List.filter_eq_self]
    intro e he
    obtain ⟨i, hi, rfl⟩ := List.getElem_of_mem he
    have := hn (i + 1) (by show i + 1 < l.length + 1; omega) (by omega)
    have e2 : zg (x :: l) (i + 1) = l[i] := by simp [zg, List.getD, hi]
    rw [e2] at this
    rw [this]
    rfl
  | x :: l, j + 1, h, hp, hn => by
    have hx : p x = false := hn 0 (by show 0 < l.length + 1; omega) (by omega)
    rw [List.filter_cons, if_pos (by rw [hx]; rfl)]
    show x :: l.filter _ = x :: l.eraseIdx j
    congr 1
    refine uq_filter l j (by have : j + 1 < l.length + 1 := h; omega) hp (fun i hi hij => ?_)
    exact hn (i + 1) (by show i + 1 < l.length + 1; omega) (by omega)
theorem uq_none {p : sR → Bool} {l : List sR} (h : ∀ i, i < l.length → p (zg l i) = false) : l.filter (fun e => !p e) = l := by
  rw [List.filter_eq_self]
  intro e he
  obtain ⟨i, hi, rfl⟩ := List.getElem_of_mem he
  have := h i hi
  have e2 : zg l i = l[i] := by simp [zg, List.getD, hi]
  rw [e2] at this
  rw [this]
  rfl
theorem uq_map {p : sR → Bool} {f : sR → sR} {l : List sR} {j : Nat} (hj : j < l.length) (hp : p (zg l j) = true) (hn : ∀ i, i < l.length → i ≠ j → p (zg l i) = false) : l.map (fun e => if p e then f e else e) = l.set j (f (zg l j)) := by
  refine List.ext_getElem (by simp) (fun i h1 h2 => ?_)
  rw [List.length_map] at h1
  rw [List.getElem_map, List.getElem_set]
  have e2 : zg l i = l[i] := by simp [zg, List.getD, h1]
  by_cases e : j = i
  · subst e
    rw [if_pos rfl, ← e2, if_pos hp]
  · rw [if_neg e]
    have := hn i h1 (fun z => e z.symm)
    rw [e2] at this
    rw [if_neg (by rw [this]; decide)]
theorem uq_mapn {p : sR → Bool} {f : sR → sR} {l : List sR} (hn : ∀ i, i < l.length → p (zg l i) = false) : l.map (fun e => if p e then f e else e) = l := by
  refine List.ext_getElem (by simp) (fun i h1 h2 => ?_)
  rw [List.length_map] at h1
  rw [List.getElem_map]
  have e2 : zg l i = l[i] := by simp [zg, List.getD, h1]
  have := hn i h1
  rw [e2] at this
  rw [if_neg (by rw [this]; decide)]
theorem uq_of {l : List sR} {rc : sR} {j : Nat} (hu : l.Pairwise (fun a b => ssame a b = false)) (hj : j < l.length) (hp : ssame (zg l j) rc = true) : ∀ i, i < l.length → i ≠ j → ssame (zg l i) rc = false := by
  intro i hi hij
  have e1 : zg l i = l[i] := by simp [zg, List.getD, hi]
  have e2 : zg l j = l[j] := by simp [zg, List.getD, hj]
  rw [← Bool.not_eq_true]
  intro hq
  rw [e1] at hq
  rw [e2] at hp
  have hs : ssame l[i] l[j] = true := by
    simp only [ssame, sone, Bool.and_eq_true, beq_iff_eq] at hp hq ⊢
    exact ⟨⟨hq.1.1.trans hp.1.1.symm, hq.1.2.trans hp.1.2.symm⟩, hq.2.trans hp.2.symm⟩
  rw [List.pairwise_iff_getElem] at hu
  by_cases h : i < j
  · have := hu i j hi hj h
    rw [hs] at this
    cases this
  · have := hu j i hj hi (by omega)
    rw [ssame_comm, hs] at this
    cases this
section
variable {d : Nat} {Q : Value → zM → Prop} {m m' : zM} {C D i a : Nat} {l l0 : List sR} {n k q t : Int32} {rc : sR} {x : sH}
theorem skey_same : skey (rc 0) (rc 1) (rc 2) = fun e => ssame e rc := rfl
theorem endOf_ok (hC : CC m C l) (hu : l.Pairwise (fun a b => ssame a b = false)) (ha : RCl m a rc) (hk : ∀ m', CC m' C (l.map (fun e => if ssame e rc then sshort t e else e)) → zout C (C + 8) m m' → Q .null m') : zC (d + 2) M0_endOf 0 0 [.ref C, .ref a, .int (t + 1)] m Q := by
  have hr := hC.2.2.1
  have h6 := hC.2.2.2.2.2.1
  refine zenterP (Or.inl (by decide +kernel)) rfl (fun h => by cases h) (Nat.le_of_ble_eq_true rfl) ?_
  show zwp _ _ _ _ _ 0 [_, _, _, zU] [] 0 0 _
  refine zr_aload_n dX0_endOf_0 rfl ?_
  refine zr_aload_n dX0_endOf_1 rfl ?_
  refine zr_getI dX0_endOf_2 fd_0_42 rfl ha.1 ?_
  rw [ha.2 0 (by decide)]
  refine zr_aload_n dX0_endOf_5 rfl ?_
  refine zr_getI dX0_endOf_6 fd_0_45 rfl ha.1 ?_
  rw [ha.2 1 (by decide)]
  refine zr_aload_n dX0_endOf_9 rfl ?_
  refine zr_getI dX0_endOf_10 fd_0_46 rfl ha.1 ?_
  rw [ha.2 2 (by decide)]
  refine zr_cV3 rfl dX0_endOf_13 cv_0_47 (hC.ob rfl) (Nat.le_of_ble_eq_true rfl) (indexOf_ok hC ?_)
  rw [skey_same]
  cases hi : sidx l (fun e => ssame e rc) l.length with
  | none =>
    have hn := sidx_none hi
    rw [uq_mapn hn] at hk
    refine zr_istore_n dX0_endOf_16 (by decide) rfl ?_
    dsimp only [zset]
    refine zr_iload_n dX0_endOf_17 rfl ?_
    refine zr_iconst (v := -1) dX0_endOf_18 rfl ?_
    refine zr_icmp_eq (tgt := 45) dX0_endOf_19 (by decide) (fun hc_19 => ?_) (fun hc_19 => absurd rfl hc_19)
    refine zr_return dX0_endOf_45 rfl (Nat.le_refl _) (Nat.le_refl _) ?_
    exact hk _ hC zout.rf
  | some j =>
    obtain ⟨j1, j2, j3⟩ := sidx_some hi
    rw [uq_map j1 j2 (uq_of hu j1 j2)] at hk
    show zwp _ _ _ _ _ _ _ [.int (nI j)] _ _ _
    refine zr_istore_n dX0_endOf_16 (by decide) rfl ?_
    dsimp only [zset]
    refine zr_iload_n dX0_endOf_17 rfl ?_
    refine zr_iconst (v := -1) dX0_endOf_18 rfl ?_
    refine zr_icmp_eq (tgt := 45) dX0_endOf_19 (by decide) (fun hc_19 => absurd hc_19 (nI_ne_m1 (by omega))) (fun hc_19 => ?_)
    refine zr_aload_n dX0_endOf_22 rfl ?_
    refine zr_getR dX0_endOf_23 fd_0_11 rfl (hC.ob rfl) hr (by omega) ?_
    refine zr_iload_n dX0_endOf_26 rfl ?_
    refine zr_aaloadN dX0_endOf_27 (hC.ar rfl) (by decide) (by decide) (by omega) (by decide) rfl (hC.nz (by omega)) ?_
    refine zr_getI dX0_endOf_28 fd_0_35 rfl (hC.eo (by omega) rfl) ?_
    rw [hC.at j1 (by decide)]
    refine zr_iload_n dX0_endOf_31 rfl ?_
    refine zr_icmp_le (tgt := 45) dX0_endOf_32 (by decide) (fun hc_32 => ?_) (fun hc_32 => ?_)
    · have e1 : zg l j = l[j] := by simp [zg, List.getD, j1]
      rw [sshort_no hc_32, e1, List.set_getElem_self] at hk
      refine zr_return dX0_endOf_45 rfl (Nat.le_refl _) (Nat.le_refl _) ?_
      first
      | exact hk _ hC zout.rf
      | exact hk _ (hC.sete j1 _) (hC.seto j1 _)
      | fail "none"
    · rw [sshort_yes hc_32] at hk
      refine zr_aload_n dX0_endOf_35 rfl ?_
      refine zr_getR dX0_endOf_36 fd_0_11 rfl (hC.ob rfl) hr (by omega) ?_
      refine zr_iload_n dX0_endOf_39 rfl ?_
      refine zr_aaloadN dX0_endOf_40 (hC.ar rfl) (by decide) (by decide) (by omega) (by decide) rfl (hC.nz (by omega)) ?_
      refine zr_iload_n dX0_endOf_41 rfl ?_
      refine zr_putI dX0_endOf_42 fd_0_35 rfl (hC.eo (by omega) rfl) ?_
      refine zr_return dX0_endOf_45 rfl (Nat.le_refl _) (Nat.le_refl _) ?_
      first
      | exact hk _ hC zout.rf
      | exact hk _ (hC.sete j1 _) (hC.seto j1 _)
      | fail "none"
/-! a new entry -/
theorem CC.push (hC : CC m C l) (h6 : l.length < 6) (hI : ∀ b j, (b ≠ C ∧ b ≠ zR m (C + 1) l.length) ∨ (b = C ∧ j ≠ 1) → zI m' b j = zI m b j) (hs : zI m' C 1 = nI (l.length + 1)) (he : ∀ k, k < 5 → zI m' (zR m (C + 1) l.length) k = rc k) (hz : zn m' = zn m) (hR : ∀ b, zR m' b = zR m b) : CC m' C (l ++ [rc]) := by
  obtain ⟨h1, h2, h3, h4, h5, h6', h7⟩ := hC
  refine ⟨hz.trans h1, h2, by rw [hR]; exact h3, by rw [hR]; exact h4, by rw [hs, List.length_append]; rfl, by rw [List.length_append]; show l.length + 1 ≤ 6; omega, fun x hx k hk => ?_⟩
  rw [List.length_append] at hx
  have hx2 : x < l.length + 1 := hx
  rw [hR]
  by_cases e : x = l.length
  · subst e
    rw [he k hk]
    exact zat_app_r.symm
  · have hx3 : x < l.length := by omega
    have hp := h4.1 x (by omega)
    rw [hI _ _ (Or.inl ⟨by omega, fun z => e (h4.2 _ _ (by omega) (by omega) z)⟩), h7 x hx3 k hk]
    exact (zat_app_l (l' := [rc]) hx3).symm
theorem learn_100 {m0 : zM} (hC : CC m C (l ++ [sent t rc])) (ha : RCl m a rc) (hd : a < C ∨ C + 8 ≤ a) (hso : rc 6 = 0 ∨ rc 6 = 1) (hk : ∀ m', CC m' C (if rc 6 == 1 then (l ++ [sent t rc]).map (srival t rc) else l ++ [sent t rc]) → zout C (C + 8) m0 m' → Q .null m') (ho : zout C (C + 8) m0 m) {t3 : Value} : zwp (d + 2) M0_learn 0 0 Q 100 [.ref C, .ref a, .int t, t3] [.int (rc 6)] 0 0 m := by
  refine zr_if_eq (tgt := 111) dX0_learn_100 (by decide) (fun hc_100 => ?_) (fun hc_100 => ?_)
  · rw [if_neg (by rw [hc_100]; decide)] at hk
    refine zr_return dX0_learn_111 rfl (Nat.le_refl _) (Nat.le_refl _) ?_
    first
    | exact hk _ c' (ho.tr o')
    | exact hk _ hC ho
  · have e : rc 6 = 1 := hso.resolve_left hc_100
    rw [if_pos (by rw [e]; rfl)] at hk
    refine zr_aload_n dX0_learn_103 rfl ?_
    refine zr_aload_n dX0_learn_104 rfl ?_
    refine zr_iload_n dX0_learn_105 rfl ?_
    refine zr_iconst (v := nI 1) dX0_learn_106 rfl ?_
    refine zr_iadd dX0_learn_107 ?_
    refine zr_cV2v rfl dX0_learn_108 cv_0_59 (hC.ob rfl) (Nat.le_of_ble_eq_true rfl) (endRivals_ok hC ha hd (fun m' c' o' => ?_))
    refine zr_return dX0_learn_111 rfl (Nat.le_refl _) (Nat.le_refl _) ?_
    first
    | exact hk _ c' (ho.tr o')
    | exact hk _ hC ho
theorem learn_34 (hC : CC m C l) (h6 : l.length < 6) (ha : RCl m a rc) (hd : a < C ∨ C + 8 ≤ a) (hso : rc 6 = 0 ∨ rc 6 = 1) (hk : ∀ m', CC m' C (if rc 6 == 1 then (l ++ [sent t rc]).map (srival t rc) else l ++ [sent t rc]) → zout C (C + 8) m m' → Q .null m') : zwp (d + 2) M0_learn 0 0 Q 34 [.ref C, .ref a, .int t, zU] [] 0 0 m := by
  have hr := hC.2.2.1
  have hs := hC.2.2.2.2.1
  have hp := hC.2.2.2.1.1 l.length h6
  have hna : a ≠ C := by omega
  have hne : a ≠ zR m (C + 1) l.length := by omega
  have hnc : zR m (C + 1) l.length ≠ C := by omega
  have hM := hC.1
  refine zr_aload_n dX0_learn_34 rfl ?_
  refine zr_getR dX0_learn_35 fd_0_11 rfl (hC.ob rfl) hr (by omega) ?_
  refine zr_aload_n dX0_learn_38 rfl ?_
  refine zr_getI dX0_learn_39 fd_0_18 rfl (hC.ob rfl) ?_
  rw [hs]
  refine zr_aaloadN dX0_learn_42 (hC.ar rfl) (by decide) (by decide) (by omega) (by decide) rfl (hC.nz h6) ?_
  refine zr_astore_n dX0_learn_43 (by decide) rfl ?_
  dsimp only [zset]
  refine zr_aload_n dX0_learn_44 rfl ?_
  refine zr_dup dX0_learn_45 rfl ?_
  refine zr_getI dX0_learn_46 fd_0_18 rfl (hC.ob rfl) ?_
  rw [hs]
  refine zr_iconst (v := nI 1) dX0_learn_49 rfl ?_
  refine zr_iaddN dX0_learn_50 ?_
  refine zr_putI dX0_learn_51 fd_0_18 rfl (hC.ob rfl) ?_
  refine zr_aload_n dX0_learn_54 rfl ?_
  refine zr_aload_n dX0_learn_55 rfl ?_
  refine zr_getI dX0_learn_56 fd_0_42 rfl ha.1 ?_
  rw [zI_n _ _ (Or.inl hna), ha.2 0 (by decide)]
  refine zr_putI dX0_learn_59 fd_0_26 rfl (hC.eo h6 rfl) ?_
  refine zr_aload_n dX0_learn_62 rfl ?_
  refine zr_aload_n dX0_learn_63 rfl ?_
  refine zr_getI dX0_learn_64 fd_0_45 rfl ha.1 ?_
  rw [zI_n _ _ (Or.inl hne), zI_n _ _ (Or.inl hna), ha.2 1 (by decide)]
  refine zr_putI dX0_learn_67 fd_0_29 rfl (hC.eo h6 rfl) ?_
  refine zr_aload_n dX0_learn_70 rfl ?_
  refine zr_aload_n dX0_learn_71 rfl ?_
  refine zr_getI dX0_learn_72 fd_0_46 rfl ha.1 ?_
  rw [zI_n _ _ (Or.inl hne), zI_n _ _ (Or.inl hne), zI_n _ _ (Or.inl hna), ha.2 2 (by decide)]
  refine zr_putI dX0_learn_75 fd_0_32 rfl (hC.eo h6 rfl) ?_
  refine zr_aload_n dX0_learn_78 rfl ?_
  refine zr_aload_n dX0_learn_79 rfl ?_
  refine zr_getI dX0_learn_80 fd_0_51 rfl ha.1 ?_
  rw [zI_n _ _ (Or.inl hne), zI_n _ _ (Or.inl hne), zI_n _ _ (Or.inl hne), zI_n _ _ (Or.inl hna), ha.2 3 (by decide)]
  refine zr_putI dX0_learn_83 fd_0_54 rfl (hC.eo h6 rfl) ?_
  refine zr_aload_n dX0_learn_86 rfl ?_
  refine zr_iload_n dX0_learn_87 rfl ?_
  refine zr_aload_n dX0_learn_88 rfl ?_
  refine zr_getI dX0_learn_89 fd_0_51 rfl ha.1 ?_
  rw [zI_n _ _ (Or.inl hne), zI_n _ _ (Or.inl hne), zI_n _ _ (Or.inl hne), zI_n _ _ (Or.inl hne), zI_n _ _ (Or.inl hna), ha.2 3 (by decide)]
  refine zr_iadd dX0_learn_92 ?_
  refine zr_putI dX0_learn_93 fd_0_35 rfl (hC.eo h6 rfl) ?_
  refine zr_aload_n dX0_learn_96 rfl ?_
  refine zr_getI dX0_learn_97 fd_0_55 rfl ha.1 ?_
  rw [zI_n _ _ (Or.inl hne), zI_n _ _ (Or.inl hne), zI_n _ _ (Or.inl hne), zI_n _ _ (Or.inl hne), zI_n _ _ (Or.inl hne), zI_n _ _ (Or.inl hna), ha.2 6 (by decide)]
  have ho : ∀ v, zout C (C + 8) m (zsI (zsI (zsI (zsI (zsI (zsI m C 1 (nI (l.length + 1))) (zR m (C + 1) l.length) 0 (rc 0)) (zR m (C + 1) l.length) 1 (rc 1)) (zR m (C + 1) l.length) 2 (rc 2)) (zR m (C + 1) l.length) 3 (rc 3)) (zR m (C + 1) l.length) 4 v) := fun v => ((((((zout.sI (by omega) (by omega)).tr (zout.sI (by omega) (by omega))).tr (zout.sI (by omega) (by omega))).tr (zout.sI (by omega) (by omega))).tr (zout.sI (by omega) (by omega))).tr (zout.sI (by omega) (by omega)))
  refine learn_100 (m0 := m) ?_ (ha.out (ho _) hd) hd hso hk (ho _)
  refine hC.push h6 ?_ ?_ ?_ rfl (fun _ => rfl)
  · intro b j hbj
    rcases hbj with ⟨b1, b2⟩ | ⟨b1, b2⟩
    · rw [zI_n _ _ (Or.inl b2), zI_n _ _ (Or.inl b2), zI_n _ _ (Or.inl b2), zI_n _ _ (Or.inl b2), zI_n _ _ (Or.inl b2), zI_n _ _ (Or.inl b1)]
    · subst b1
      rw [zI_n _ _ (Or.inl (Ne.symm hnc)), zI_n _ _ (Or.inl (Ne.symm hnc)), zI_n _ _ (Or.inl (Ne.symm hnc)), zI_n _ _ (Or.inl (Ne.symm hnc)), zI_n _ _ (Or.inl (Ne.symm hnc)), zI_n _ _ (Or.inr b2)]
  · rw [zI_n _ _ (Or.inl (Ne.symm hnc)), zI_n _ _ (Or.inl (Ne.symm hnc)), zI_n _ _ (Or.inl (Ne.symm hnc)), zI_n _ _ (Or.inl (Ne.symm hnc)), zI_n _ _ (Or.inl (Ne.symm hnc)), zI_s]
  · intro k hk
    match k, hk with
    | 0, _ => rw [zI_n _ _ (Or.inr (by decide)), zI_n _ _ (Or.inr (by decide)), zI_n _ _ (Or.inr (by decide)), zI_n _ _ (Or.inr (by decide)), zI_s]; rfl
    | 1, _ => rw [zI_n _ _ (Or.inr (by decide)), zI_n _ _ (Or.inr (by decide)), zI_n _ _ (Or.inr (by decide)), zI_s]; rfl
    | 2, _ => rw [zI_n _ _ (Or.inr (by decide)), zI_n _ _ (Or.inr (by decide)), zI_s]; rfl
    | 3, _ => rw [zI_n _ _ (Or.inr (by decide)), zI_s]; rfl
    | 4, _ => rw [zI_s]; rfl
theorem learn_ok (hC : CC m C x.2.2.2) (hu : x.2.2.2.Pairwise (fun a b => ssame a b = false)) (ha : RCl m a rc) (hd : a < C ∨ C + 8 ≤ a) (hso : rc 6 = 0 ∨ rc 6 = 1) (hk : ∀ m', CC m' C (if rc 6 == 1 then (shc3 t x rc).map (srival t rc) else shc3 t x rc) → zout C (C + 8) m m' → Q .null m') : zC (d + 2) M0_learn 0 0 [.ref C, .ref a, .int t] m Q := by
  have fin : ∀ m1, CC m1 C (shc1 x rc) → zout C (C + 8) m m1 → zwp (d + 2) M0_learn 0 0 Q 20 [.ref C, .ref a, .int t, zU] [] 0 0 m1 := by
    intro m1 c1 o1
    have hs := c1.2.2.2.2.1
    have h6 := c1.2.2.2.2.2.1
    have ha1 := ha.out o1 hd
    refine zr_aload_n dX0_learn_20 rfl ?_
    refine zr_getI dX0_learn_21 fd_0_18 rfl (c1.ob rfl) ?_
    rw [hs]
    refine zr_bipush (v := nI 6) dX0_learn_24 rfl ?_
    refine zr_icmp_ltN (tgt := 34) dX0_learn_26 (by decide) (by omega) (by omega) (fun hc_26 => ?_) (fun hc_26 => ?_)
    · have e : shc2 x rc = shc1 x rc := if_neg (by omega)
      first
      | (rw [← e] at c2
         refine learn_34 c2 ?_ (ha1.out o2 hd) hd hso (fun m' c' o' => hk m' c' (o1.tr (o2.tr o')))
         rw [e, List.length_eraseIdx_of_lt (by omega)]
         omega)
      | (rw [← e] at c1
         refine learn_34 c1 ?_ ha1 hd hso (fun m' c' o' => hk m' c' (o1.tr o'))
         rw [e]
         omega)
      | fail "none"
    · have e : shc2 x rc = (shc1 x rc).eraseIdx 0 := if_pos (by omega)
      refine zr_aload_n dX0_learn_29 rfl ?_
      refine zr_iconst (v := nI 0) dX0_learn_30 rfl ?_
      refine zr_cV1v rfl dX0_learn_31 cv_0_38 (c1.ob rfl) (Nat.le_of_ble_eq_true rfl) (removeAt_ok (i := 0) c1 (by omega) (fun m2 c2 o2 => ?_))
      first
      | (rw [← e] at c2
         refine learn_34 c2 ?_ (ha1.out o2 hd) hd hso (fun m' c' o' => hk m' c' (o1.tr (o2.tr o')))
         rw [e, List.length_eraseIdx_of_lt (by omega)]
         omega)
      | (rw [← e] at c1
         refine learn_34 c1 ?_ ha1 hd hso (fun m' c' o' => hk m' c' (o1.tr o'))
         rw [e]
         omega)
      | fail "none"
  refine zenterP (Or.inl (by decide +kernel)) rfl (fun h => by cases h) (Nat.le_of_ble_eq_true rfl) ?_
  show zwp _ _ _ _ _ 0 [_, _, _, zU] [] 0 0 _
  refine zr_aload_n dX0_learn_0 rfl ?_
  refine zr_aload_n dX0_learn_1 rfl ?_
  refine zr_aload_n dX0_learn_2 rfl ?_
  refine zr_getI dX0_learn_3 fd_0_42 rfl ha.1 ?_
  rw [ha.2 0 (by decide)]
  refine zr_aload_n dX0_learn_6 rfl ?_
  refine zr_getI dX0_learn_7 fd_0_45 rfl ha.1 ?_
  rw [ha.2 1 (by decide)]
  refine zr_aload_n dX0_learn_10 rfl ?_
  refine zr_getI dX0_learn_11 fd_0_46 rfl ha.1 ?_
  rw [ha.2 2 (by decide)]
  refine zr_cV3 rfl dX0_learn_14 cv_0_47 (hC.ob rfl) (Nat.le_of_ble_eq_true rfl) (indexOf_ok hC ?_)
  rw [skey_same]
  cases hi : sidx x.2.2.2 (fun e => ssame e rc) x.2.2.2.length with
  | none =>
    have hn := sidx_none hi
    have e : shc1 x rc = x.2.2.2 := uq_none hn
    refine zr_cV1v rfl dX0_learn_17 cv_0_38 (hC.ob rfl) (Nat.le_of_ble_eq_true rfl) (removeAt_no hC (by decide) ?_)
    exact fin m (by rw [e]; exact hC) zout.rf
  | some j =>
    obtain ⟨j1, j2, j3⟩ := sidx_some hi
    have e : shc1 x rc = x.2.2.2.eraseIdx j := uq_filter _ j j1 j2 (uq_of hu j1 j2)
    show zwp _ _ _ _ _ _ _ [.int (nI j), .ref C] _ _ _
    refine zr_cV1v rfl dX0_learn_17 cv_0_38 (hC.ob rfl) (Nat.le_of_ble_eq_true rfl) (removeAt_ok hC j1 (fun m2 c2 o2 => ?_))
    exact fin m2 (by rw [e]; exact c2) o2
/-! a cache becomes another -/
theorem CC.len (hC : CC m C l0) (hl : l.length ≤ 6) (hn : ∀ i, i < l.length → ∀ k, k < 5 → zI m (zR m (C + 1) i) k = zg l i k) : CC (zsI m C 1 (nI l.length)) C l := by
  obtain ⟨h1, h2, h3, h4, h5, h6, h7⟩ := hC
  refine ⟨h1, h2, h3, h4, zI_s _ _ _ _, hl, fun i hi k hk => ?_⟩
  have hp := h4.1 i (by omega)
  have e : zI (zsI m C 1 (nI l.length)) (zR (zsI m C 1 (nI l.length)) (C + 1) i) k = zI m (zR m (C + 1) i) k := zI_n (b := zR m (C + 1) i) m _ (Or.inl (by omega))
  rw [e]
  exact hn i hi k hk
end
