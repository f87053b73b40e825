/-! ===== the class: hosts change ===== -/
section
variable {d : Nat} {Q : Value → zM → Prop} {m m' : zM} {H G r : Nat} {x x0 : sH} {n k q l : Int32} {rc : sR}
theorem ownedCount_ok (hH : HC m H x) (hk : Q (.int (nI (sownN x.2.2.1))) m) : zC (d + 2) M4_ownedCount 0 0 [.ref H] m Q := by
  have hr := hH.r0
  have hc := hH.cn
  have h5 := hH.c5
  have loop : ∀ c i, x.2.2.1.length - i < c → i ≤ x.2.2.1.length → zwp (d + 2) M4_ownedCount 0 0 Q 4 [.ref H, .int (nI (cntN (fun i => sown (zg x.2.2.1 i)) i)), .int (nI i)] [] 0 0 m := by
    intro c
    induction c with
    | zero => intro i h1; omega
    | succ c ih =>
      intro i h1 h2
      refine zr_iload_n dX4_ownedCount_4 rfl ?_
      refine zr_aload_n dX4_ownedCount_5 rfl ?_
      refine zr_getI dX4_ownedCount_6 fd_4_25 rfl (hH.ob rfl) ?_
      rw [hc]
      refine zr_icmp_geN (tgt := 33) dX4_ownedCount_9 (by decide) (by omega) (by omega) (fun hc_9 => ?_) (fun hc_9 => ?_)
      · refine zr_iload_n dX4_ownedCount_33 rfl ?_
        refine zr_ireturn dX4_ownedCount_34 rfl (Nat.le_refl _) (Nat.le_refl _) ?_
        have e : i = x.2.2.1.length := by omega
        subst e
        exact hk
      · refine zr_iload_n dX4_ownedCount_12 rfl ?_
        refine zr_aload_n dX4_ownedCount_13 rfl ?_
        refine zr_getR dX4_ownedCount_14 fd_4_11 rfl (hH.ob rfl) hr (by omega) ?_
        refine zr_iload_n dX4_ownedCount_17 rfl ?_
        refine zr_aaloadN dX4_ownedCount_18 (hH.ar rfl) (by decide) (by decide) (by omega) (by decide) rfl (hH.nz (by omega)) ?_
        refine zr_cV0 rfl dX4_ownedCount_19 cv_4_65 (hH.ro (by omega) rfl) (Nat.le_of_ble_eq_true rfl) (Rown_ok (e := zg x.2.2.1 i) (hH.ro (by omega) rfl) (hH.at (by omega) (by decide)) ?_)
        refine zr_cSN1 rfl dX4_ownedCount_22 cv_4_69 (Nat.le_of_ble_eq_true rfl) (oneIf_ok ?_)
        refine zr_iadd dX4_ownedCount_25 ?_
        refine zr_istore_n dX4_ownedCount_26 (by decide) rfl ?_
        dsimp only [zset]
        refine zr_iincN dX4_ownedCount_27 rfl (by decide) rfl ?_
        dsimp only [zset]
        refine zr_goto (tgt := 4) dX4_ownedCount_30 (by decide) ?_
        rw [nI_bI]
        exact ih (i + 1) (by omega) (by omega)
  refine zenterP (Or.inl (by decide +kernel)) rfl (fun h => by cases h) (Nat.le_of_ble_eq_true rfl) ?_
  show zwp _ _ _ _ _ 0 [_, zU, zU] [] 0 0 _
  refine zr_iconst (v := nI 0) dX4_ownedCount_0 rfl ?_
  refine zr_istore_n dX4_ownedCount_1 (by decide) rfl ?_
  dsimp only [zset]
  refine zr_iconst (v := nI 0) dX4_ownedCount_2 rfl ?_
  refine zr_istore_n dX4_ownedCount_3 (by decide) rfl ?_
  dsimp only [zset]
  exact loop _ 0 (Nat.lt_succ_self _) (Nat.zero_le _)
def ssole (n k : Int32) (a : sR) : Bool := a 6 == 1 && (sown a && snam a n k)
theorem firstSole_ok (hH : HC m H x) (hso : ∀ r, r < x.2.2.1.length → zg x.2.2.1 r 6 = 0 ∨ zg x.2.2.1 r 6 = 1) (hk : Q (.int (oN (sidx x.2.2.1 (ssole n k) x.2.2.1.length))) m) : zC (d + 2) M4_firstSole 0 0 [.ref H, .int n, .int k] m Q := by
  have hr := hH.r0
  have hc := hH.cn
  have h5 := hH.c5
  have loop : ∀ c i t4, x.2.2.1.length - i < c → i ≤ x.2.2.1.length → (∀ j, j < i → ssole n k (zg x.2.2.1 j) = false) → zwp (d + 2) M4_firstSole 0 0 Q 2 [.ref H, .int n, .int k, .int (nI i), t4] [] 0 0 m := by
    intro c
    induction c with
    | zero => intro i t4 h1; omega
    | succ c ih =>
      intro i t4 h1 h2 h3
      refine zr_iload_n dX4_firstSole_2 rfl ?_
      refine zr_aload_n dX4_firstSole_3 rfl ?_
      refine zr_getI dX4_firstSole_4 fd_4_25 rfl (hH.ob rfl) ?_
      rw [hc]
      refine zr_icmp_geN (tgt := 52) dX4_firstSole_7 (by decide) (by omega) (by omega) (fun hc_7 => ?_) (fun hc_7 => ?_)
      · refine zr_iconst (v := -1) dX4_firstSole_52 rfl ?_
        refine zr_ireturn dX4_firstSole_53 rfl (Nat.le_refl _) (Nat.le_refl _) ?_
        rw [sidx_no (fun j hj => h3 j (by omega))] at hk
        exact hk
      · refine zr_aload_n dX4_firstSole_10 rfl ?_
        refine zr_getR dX4_firstSole_11 fd_4_11 rfl (hH.ob rfl) hr (by omega) ?_
        refine zr_iload_n dX4_firstSole_14 rfl ?_
        refine zr_aaloadN dX4_firstSole_15 (hH.ar rfl) (by decide) (by decide) (by omega) (by decide) rfl (hH.nz (by omega)) ?_
        refine zr_astore dX4_firstSole_16 (by decide) rfl ?_
        dsimp only [zset]
        refine zr_aload dX4_firstSole_18 rfl ?_
        refine zr_getI dX4_firstSole_20 fd_4_73 rfl (hH.ro (by omega) rfl) ?_
        rw [hH.at (by omega) (by decide)]
        refine zr_if_eq (tgt := 46) dX4_firstSole_23 (by decide) (fun hc_23 => ?_) (fun hc_23 => ?_)
        · refine zr_iincN dX4_firstSole_46 rfl (by decide) rfl ?_
          dsimp only [zset]
          refine zr_goto (tgt := 2) dX4_firstSole_49 (by decide) ?_
          refine ih (i + 1) _ (by omega) (by omega) (fun j hj => ?_)
          by_cases e : j = i
          · subst e
            simp [ssole, *]
          · exact h3 j (by omega)
        · refine zr_aload dX4_firstSole_26 rfl ?_
          refine zr_cV0 rfl dX4_firstSole_28 cv_4_65 (hH.ro (by omega) rfl) (Nat.le_of_ble_eq_true rfl) (Rown_ok (e := zg x.2.2.1 i) (hH.ro (by omega) rfl) (hH.at (by omega) (by decide)) ?_)
          refine zr_if_eqB (tgt := 46) dX4_firstSole_31 (by decide) (fun hc_31 => ?_) (fun hc_31 => ?_)
          · refine zr_iincN dX4_firstSole_46 rfl (by decide) rfl ?_
            dsimp only [zset]
            refine zr_goto (tgt := 2) dX4_firstSole_49 (by decide) ?_
            refine ih (i + 1) _ (by omega) (by omega) (fun j hj => ?_)
            by_cases e : j = i
            · subst e
              simp [ssole, *]
            · exact h3 j (by omega)
          · refine zr_aload dX4_firstSole_34 rfl ?_
            refine zr_iload_n dX4_firstSole_36 rfl ?_
            refine zr_iload_n dX4_firstSole_37 rfl ?_
            refine zr_cV2 rfl dX4_firstSole_38 cv_4_61 (hH.ro (by omega) rfl) (Nat.le_of_ble_eq_true rfl) (Risn_ok (e := zg x.2.2.1 i) (hH.ro (by omega) rfl) (hH.at (by omega) (by decide)) (hH.at (by omega) (by decide)) ?_)
            refine zr_if_eqB (tgt := 46) dX4_firstSole_41 (by decide) (fun hc_41 => ?_) (fun hc_41 => ?_)
            · refine zr_iincN dX4_firstSole_46 rfl (by decide) rfl ?_
              dsimp only [zset]
              refine zr_goto (tgt := 2) dX4_firstSole_49 (by decide) ?_
              refine ih (i + 1) _ (by omega) (by omega) (fun j hj => ?_)
              by_cases e : j = i
              · subst e
                simp [ssole, *]
              · exact h3 j (by omega)
            · refine zr_iload_n dX4_firstSole_44 rfl ?_
              refine zr_ireturn dX4_firstSole_45 rfl (Nat.le_refl _) (Nat.le_refl _) ?_
              rw [sidx_mk (by omega) (by have h61 := (hso i (by omega)).resolve_left hc_23; simp [ssole, h61, hc_31, hc_41]) h3] at hk
              exact hk
  refine zenterP (Or.inl (by decide +kernel)) rfl (fun h => by cases h) (Nat.le_of_ble_eq_true rfl) ?_
  show zwp _ _ _ _ _ 0 [_, _, _, zU, zU] [] 0 0 _
  refine zr_iconst (v := nI 0) dX4_firstSole_0 rfl ?_
  refine zr_istore_n dX4_firstSole_1 (by decide) rfl ?_
  dsimp only [zset]
  exact loop _ 0 _ (Nat.lt_succ_self _) (Nat.zero_le _) (fun j hj => absurd hj (Nat.not_lt_zero j))
/-! changes of a host's cells -/
theorem HC.recs {l : List sR} (h : HC m H x) (hl : l.length = x.2.2.1.length) (hr : ∀ r, r < l.length → ∀ k, k < 7 → zg x.2.2.1 r k = zg l r k) : HC m H (x.1, x.2.1, l, x.2.2.2) := by
  obtain ⟨h1, h2, h3, h4, h5, h6, h7, h8, h9, h10, h11⟩ := h
  exact ⟨h1, h2, h3, h4, h5, by rw [hl]; exact h6, by rw [hl]; exact h7, h8, h9, fun r hr' k hk => by rw [← hr r hr' k hk]; exact h10 r (Nat.lt_of_lt_of_eq hr' hl) k hk, h11⟩
theorem HC.setr (h : HC m H x) (hr : r < x.2.2.1.length) (k : Nat) (v : Int32) : HC (zsI m (zR m (H + 1) r) k v) H (x.1, x.2.1, x.2.2.1.set r (fu (zg x.2.2.1 r) k v), x.2.2.2) := by
  have hp := h.rg (r := r) (by have := h.c5; omega)
  obtain ⟨h1, h2, h3, h4, h5, h6, h7, h8, h9, h10, h11⟩ := h
  refine ⟨h1, h2, h3, h4, h5, ?_, by rw [List.length_set]; exact h7, ?_, ?_, fun y hy j hj => ?_, ?_⟩
  · rw [List.length_set, zI_n _ _ (Or.inl (by omega))]; exact h6
  · rw [zI_n _ _ (Or.inl (by omega))]; exact h8
  · rw [zI_n _ _ (Or.inl (by omega))]; exact h9
  · rw [List.length_set] at hy
    have hz : zg (x.2.2.1.set r (fu (zg x.2.2.1 r) k v)) y j = if y = r then fu (zg x.2.2.1 r) k v j else zg x.2.2.1 y j := zat_set (k := j) (i := y) hr
    rw [hz]
    show zI (zsI m (zR m (H + 1) r) k v) (zR m (H + 1) y) j = _
    by_cases e : y = r
    · subst e
      rw [if_pos rfl]
      by_cases ej : j = k
      · subst ej; rw [zI_s, fu_s]
      · rw [zI_n _ _ (Or.inr ej), fu_n _ _ ej]; exact h10 y hy j hj
    · rw [if_neg e, zI_n _ _ (Or.inl (fun z => e (h5.2 _ _ (by omega) (by omega) z)))]
      exact h10 y hy j hj
  · refine h11.off rfl (fun b b1 b2 => ?_) (fun b b1 b2 => rfl)
    funext j
    exact zI_n _ _ (Or.inl (by omega))
theorem HC.seto (h : HC m H x) (hr : r < 5) (k : Nat) (v : Int32) : zout H (H + 15) m (zsI m (zR m (H + 1) r) k v) := by
  have hp := h.rg hr
  exact zout.sI (by omega) (by omega)
theorem HC.awake (h : HC m H x) (v : Int32) : HC (zsI m H 3 v) H (v, x.2) := by
  obtain ⟨h1, h2, h3, h4, h5, h6, h7, h8, h9, h10, h11⟩ := h
  refine ⟨h1, h2, h3, h4, h5, ?_, h7, zI_s _ _ _ _, ?_, fun y hy j hj => ?_, h11.off rfl (fun b b1 b2 => ?_) (fun b b1 b2 => rfl)⟩
  · rw [zI_n _ _ (Or.inr (by decide))]; exact h6
  · rw [zI_n _ _ (Or.inr (by decide))]; exact h9
  · have hp := h5.1 y (by have : y < x.2.2.1.length := hy; omega)
    have e : zI (zsI m H 3 v) (zR m (H + 1) y) j = zI m (zR m (H + 1) y) j := zI_n _ _ (Or.inl (by omega))
    exact e.trans (h10 y hy j hj)
  · funext j
    exact zI_n _ _ (Or.inl (by omega))
theorem HC.proxy (h : HC m H x) (v : Int32) : HC (zsI m H 4 v) H (x.1, v, x.2.2) := by
  obtain ⟨h1, h2, h3, h4, h5, h6, h7, h8, h9, h10, h11⟩ := h
  refine ⟨h1, h2, h3, h4, h5, ?_, h7, ?_, zI_s _ _ _ _, fun y hy j hj => ?_, h11.off rfl (fun b b1 b2 => ?_) (fun b b1 b2 => rfl)⟩
  · rw [zI_n _ _ (Or.inr (by decide))]; exact h6
  · rw [zI_n _ _ (Or.inr (by decide))]; exact h8
  · have hp := h5.1 y (by have : y < x.2.2.1.length := hy; omega)
    have e : zI (zsI m H 4 v) (zR m (H + 1) y) j = zI m (zR m (H + 1) y) j := zI_n _ _ (Or.inl (by omega))
    exact e.trans (h10 y hy j hj)
  · funext j
    exact zI_n _ _ (Or.inl (by omega))
theorem HC.cache {c : List sR} (h : HC m H x) (ho : zout (H + 7) (H + 15) m m') (hc : CC m' (H + 7) c) : HC m' H (x.1, x.2.1, x.2.2.1, c) := by
  obtain ⟨h1, h2, h3, h4, h5, h6, h7, h8, h9, h10, h11⟩ := h
  refine ⟨ho.1.trans h1, h2, by rw [ho.R (by omega)]; exact h3, by rw [ho.R (by omega)]; exact h4, by rw [ho.R (by omega)]; exact h5, by rw [ho.I (by omega)]; exact h6, h7, by rw [ho.I (by omega)]; exact h8, by rw [ho.I (by omega)]; exact h9, fun y hy j hj => ?_, hc⟩
  have hy2 : y < x.2.2.1.length := hy
  have hp := h5.1 y (by omega)
  rw [ho.R (by omega), ho.I (by omega)]
  exact h10 y hy j hj
theorem begin_ok (hH : HC m H x) (hk : ∀ m', HC m' H (1, -1, [], []) → zout H (H + 15) m m' → Q .null m') : zC (d + 1) M4_begin 0 0 [.ref H] m Q := by
  have hC := hH.cc
  refine zenterP (Or.inl (by decide +kernel)) rfl (fun h => by cases h) (Nat.le_of_ble_eq_true rfl) ?_
  show zwp _ _ _ _ _ 0 [_] [] 0 0 _
  refine zr_aload_n dX4_begin_0 rfl ?_
  refine zr_iconst (v := nI 0) dX4_begin_1 rfl ?_
  refine zr_putI dX4_begin_2 fd_4_25 rfl (hH.ob rfl) ?_
  refine zr_aload_n dX4_begin_5 rfl ?_
  refine zr_getR dX4_begin_6 fd_4_21 rfl (hH.ob rfl) hH.r1 (by omega) ?_
  refine zr_iconst (v := nI 0) dX4_begin_9 rfl ?_
  refine zr_putI dX4_begin_10 fd_4_29 rfl (hC.ob rfl) ?_
  refine zr_aload_n dX4_begin_13 rfl ?_
  refine zr_iconst (v := nI 1) dX4_begin_14 rfl ?_
  refine zr_putZ dX4_begin_15 fd_4_32 rfl (hH.ob rfl) (by first | exact Or.inl rfl | exact Or.inr rfl | exact bI_01 _) ?_
  refine zr_aload_n dX4_begin_18 rfl ?_
  refine zr_iconst (v := -1) dX4_begin_19 rfl ?_
  refine zr_putI dX4_begin_20 fd_4_36 rfl (hH.ob rfl) ?_
  refine zr_return dX4_begin_23 rfl (Nat.le_refl _) (Nat.le_refl _) ?_
  obtain ⟨h1, h2, h3, h4, h5, h6, h7, h8, h9, h10, h11⟩ := hH
  refine hk _ ⟨h1, h2, h3, h4, h5, ?_, Nat.zero_le _, ?_, zI_s _ _ _ _, fun y hy => absurd hy (Nat.not_lt_zero y), ?_⟩ ?_
  · rw [zI_n _ _ (Or.inr (by decide)), zI_n _ _ (Or.inr (by decide)), zI_n _ _ (Or.inl (by omega)), zI_s]
    rfl
  · rw [zI_n _ _ (Or.inr (by decide)), zI_s]
    rfl
  · obtain ⟨c1, c2, c3, c4, c5, c6, c7⟩ := h11
    refine ⟨c1, c2, c3, c4, ?_, Nat.zero_le _, fun y hy => absurd hy (Nat.not_lt_zero y)⟩
    rw [zI_n _ _ (Or.inl (by omega)), zI_n _ _ (Or.inl (by omega)), zI_s]
    rfl
  · exact (((zout.sI (by omega) (by omega)).tr (zout.sI (by omega) (by omega))).tr (zout.sI (by omega) (by omega))).tr (zout.sI (by omega) (by omega))
end
