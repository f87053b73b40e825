/-! ===== the class: the saved states ===== -/
def hp (k : Nat) : Nat := 99 + 94 * k
def HY (m : zM) (o : Nat) (p : List sS) : Prop := zn m = 676 ∧ zR m 97 0 = 98 ∧ (∀ k, k < 6 → zR m 98 k = hp k) ∧ zI m 97 1 = nI o ∧ o < 6 ∧ zI m 97 2 = nI p.length ∧ p.length ≤ 5 ∧ (∀ k, k < 6 → ∃ s, LK m (hp k) s) ∧ ∀ i s, p[i]? = some s → LK m (hp ((o + i) % 6)) s
/-- and the place behind the newest has a draft -/
def HD (m : zM) (o : Nat) (p : List sS) (s : sS) : Prop := HY m o p ∧ LK m (hp ((o + p.length) % 6)) s
theorem nI_6 {j : Nat} (hj : j < 12) : nI j - nI j / nI 6 * nI 6 = nI (j % 6) := by
  have : ∀ j : Fin 12, nI j - nI j / nI 6 * nI 6 = nI (j % 6) := by decide +kernel
  exact this ⟨j, hj⟩
section
variable {d : Nat} {Q : Value → zM → Prop} {m m' : zM} {o : Nat} {p : List sS} {s s1 : sS}
theorem HY.ob (h : HY m o p) (e : zn m' = zn m) : zOb m' 97 3 := ⟨by decide, by decide, by rw [e, h.1]; decide⟩
theorem HY.ar (h : HY m o p) (e : zn m' = zn m) : zAr m' 98 17 6 := ⟨by decide, by decide, by rw [e, h.1]; decide⟩
theorem lt_of_get {i : Nat} (h : p[i]? = some s) : i < p.length := (List.getElem?_eq_some_iff.mp h).1
theorem HY.upd (h : HY m o p) {t : Nat} (ht : t < 6) (hn : ∀ i, i < p.length → (o + i) % 6 ≠ t) (ho : zout (hp t) (hp t + 94) m m') (hl : LK m' (hp t) s) : HY m' o p := by
  obtain ⟨h1, h2, h3, h4, h5, h6, h7, h8, h9⟩ := h
  have b1 : ∀ k, k ≠ t → hp k + 94 ≤ hp t ∨ hp t + 94 ≤ hp k := fun k hk => by unfold hp; omega
  have b2 : 99 ≤ hp t := by unfold hp; omega
  refine ⟨ho.1.trans h1, by rw [ho.R (by omega)]; exact h2, by rw [ho.R (by omega)]; exact h3, by rw [ho.I (by omega)]; exact h4, h5, by rw [ho.I (by omega)]; exact h6, h7, fun k hk => ?_, fun i x hx => ?_⟩
  · by_cases e : k = t
    · subst e; exact ⟨_, hl⟩
    · obtain ⟨y, y1⟩ := h8 k hk
      exact ⟨y, y1.out ho (by have := b1 k e; omega)⟩
  · exact (h9 i x hx).out ho (by have := b1 _ (hn i (lt_of_get hx)); omega)
theorem HY.out {lo hi : Nat} (h : HY m o p) (ho : zout lo hi m m') (hd : hi ≤ 97 ∨ 663 ≤ lo) : HY m' o p := by
  obtain ⟨h1, h2, h3, h4, h5, h6, h7, h8, h9⟩ := h
  have b1 : ∀ k, k < 6 → 99 ≤ hp k ∧ hp k + 94 ≤ 663 := fun k hk => by unfold hp; omega
  refine ⟨ho.1.trans h1, by rw [ho.R (by omega)]; exact h2, by rw [ho.R (by omega)]; exact h3, by rw [ho.I (by omega)]; exact h4, h5, by rw [ho.I (by omega)]; exact h6, h7, fun k hk => ?_, fun i x hx => ?_⟩
  · obtain ⟨y, y1⟩ := h8 k hk
    exact ⟨y, y1.out ho (by have := b1 k hk; omega)⟩
  · exact (h9 i x hx).out ho (by have := b1 ((o + i) % 6) (by omega); omega)
theorem HD.out {lo hi : Nat} (h : HD m o p s) (ho : zout lo hi m m') (hd : hi ≤ 97 ∨ 663 ≤ lo) : HD m' o p s := ⟨h.1.out ho hd, h.2.out ho (by have : 99 ≤ hp ((o + p.length) % 6) ∧ hp ((o + p.length) % 6) + 94 ≤ 663 := (by unfold hp; omega); omega)⟩
theorem behind_ok (hY : HY m o p) (hk : Q (.ref (hp ((o + p.length) % 6))) m) : zC (d + 1) M3_behindNewest 0 0 [.ref 97] m Q := by
  have h5 := hY.2.2.2.2.1
  have h7 := hY.2.2.2.2.2.2.1
  refine zenterP (Or.inl (by decide +kernel)) rfl (fun h => by cases h) (Nat.le_of_ble_eq_true rfl) ?_
  show zwp _ _ _ _ _ 0 [_] [] 0 0 _
  refine zr_aload_n dX3_behindNewest_0 rfl ?_
  refine zr_getR dX3_behindNewest_1 fd_3_13 rfl (hY.ob rfl) hY.2.1 (by decide) ?_
  refine zr_aload_n dX3_behindNewest_4 rfl ?_
  refine zr_getI dX3_behindNewest_5 fd_3_18 rfl (hY.ob rfl) ?_
  rw [hY.2.2.2.1]
  refine zr_aload_n dX3_behindNewest_8 rfl ?_
  refine zr_getI dX3_behindNewest_9 fd_3_22 rfl (hY.ob rfl) ?_
  rw [hY.2.2.2.2.2.1]
  refine zr_iaddN dX3_behindNewest_12 ?_
  refine zr_bipush (v := nI 6) dX3_behindNewest_13 rfl ?_
  refine zr_irem dX3_behindNewest_15 (by decide) ?_
  rw [nI_6 (by omega)]
  refine zr_aaloadN dX3_behindNewest_16 (hY.ar rfl) (by decide) (by decide) (by omega) (by decide) (hY.2.2.1 _ (by omega)) (by unfold hp; omega) ?_
  refine zr_areturn dX3_behindNewest_17 rfl (Nat.le_refl _) (Nat.le_refl _) ?_
  exact hk
theorem hp_ne : hp ((o + p.length) % 6) ≠ 0 := by unfold hp; omega
theorem draft_ok (hY : HY m o p) (hL : LK m 3 s) (hs : sOK s) (hk : ∀ m', HD m' o p s → LK m' 3 s → zout 99 663 m m' → Q .null m') : zC (d + 5) M3_draft 0 0 [.ref 97, .ref 3] m Q := by
  have h7 := hY.2.2.2.2.2.2.1
  obtain ⟨s1, l1⟩ := hY.2.2.2.2.2.2.2.1 ((o + p.length) % 6) (by omega)
  have b1 : 99 ≤ hp ((o + p.length) % 6) ∧ hp ((o + p.length) % 6) + 94 ≤ 663 := by unfold hp; omega
  refine zenterP (Or.inl (by decide +kernel)) rfl (fun h => by cases h) (Nat.le_of_ble_eq_true rfl) ?_
  show zwp _ _ _ _ _ 0 [_, _] [] 0 0 _
  refine zr_aload_n dX3_draft_0 rfl ?_
  refine zr_cV0 rfl dX3_draft_1 cv_3_25 (hY.ob rfl) (Nat.le_of_ble_eq_true rfl) (behind_ok hY ?_)
  refine zr_aload_n dX3_draft_4 rfl ?_
  refine zr_cV1v rfl dX3_draft_5 cv_3_29 (l1.1.ob rfl) (Nat.le_of_ble_eq_true rfl) (Lbec_ok l1 hL hs (by omega) (fun m2 l2 o2 => ?_))
  refine zr_return dX3_draft_8 rfl (Nat.le_refl _) (Nat.le_refl _) ?_
  exact hk m2 ⟨hY.upd (by omega) (fun i hi => by omega) o2 l2, l2⟩ (hL.out o2 (by omega)) (o2.wd (by omega) (by omega))
theorem restore_ok (hD : HD m o p s) (hL : LK m 3 s1) (hs : sOK s) (hk : ∀ m', HD m' o p s → LK m' 3 s → zout 3 97 m m' → Q .null m') : zC (d + 5) M3_restoreDraft 0 0 [.ref 97, .ref 3] m Q := by
  have b1 : 99 ≤ hp ((o + p.length) % 6) ∧ hp ((o + p.length) % 6) + 94 ≤ 663 := by unfold hp; omega
  refine zenterP (Or.inl (by decide +kernel)) rfl (fun h => by cases h) (Nat.le_of_ble_eq_true rfl) ?_
  show zwp _ _ _ _ _ 0 [_, _] [] 0 0 _
  refine zr_aload_n dX3_restoreDraft_0 rfl ?_
  refine zr_aload_n dX3_restoreDraft_1 rfl ?_
  refine zr_cV0 rfl dX3_restoreDraft_2 cv_3_25 (hD.1.ob rfl) (Nat.le_of_ble_eq_true rfl) (behind_ok hD.1 ?_)
  refine zr_cV1v rfl dX3_restoreDraft_5 cv_3_29 (hL.1.ob rfl) (Nat.le_of_ble_eq_true rfl) (Lbec_ok hL hD.2 hs (by omega) (fun m2 l2 o2 => ?_))
  refine zr_return dX3_restoreDraft_8 rfl (Nat.le_refl _) (Nat.le_refl _) ?_
  exact hk m2 (hD.out o2 (by omega)) l2 o2
theorem keepDraft_ok (hD : HD m o p s) (hk : ∀ m' o', HY m' o' (skeep p s) → zout 97 98 m m' → Q .null m') : zC (d + 1) M3_keepDraft 0 0 [.ref 97] m Q := by
  have hY := hD.1
  have hob := hY.ob (m' := m) rfl
  obtain ⟨h1, h2, h3, h4, h5, h6, h7, h8, h9⟩ := hY
  have b1 : ∀ k, k < 6 → 99 ≤ hp k ∧ hp k + 94 ≤ 663 := fun k hk => by unfold hp; omega
  have o1 : ∀ k v, zout 97 98 m (zsI m 97 k v) := fun k v => zout.sI (by omega) (by omega)
  have hx8 : ∀ k v, ∀ j, j < 6 → ∃ s, LK (zsI m 97 k v) (hp j) s := fun k v j hj => by
    obtain ⟨y, y1⟩ := h8 j hj
    exact ⟨y, y1.out (o1 k v) (by have := b1 j hj; omega)⟩
  have lo : p.length < 5 → Q .null (zsI m 97 2 (nI (p.length + 1))) := by
    intro e5
    refine hk _ o ⟨h1, h2, h3, (zI_n _ _ (Or.inr (by decide))).trans h4, h5, ?_, ?_, hx8 _ _, fun i x hx => ?_⟩ (o1 _ _)
    · rw [zI_s, skeep, if_neg (by omega), List.length_append]; rfl
    · rw [skeep, if_neg (by omega), List.length_append, List.length_singleton]; omega
    · rw [skeep, if_neg (by omega)] at hx
      refine LK.out ?_ (o1 _ _) (by have := b1 ((o + i) % 6) (by omega); omega)
      by_cases e : i < p.length
      · rw [List.getElem?_append_left e] at hx
        exact h9 i x hx
      · have e2 := lt_of_get hx
        rw [List.length_append, List.length_singleton] at e2
        have e3 : i = p.length := by omega
        subst e3
        rw [List.getElem?_append_right (Nat.le_refl _), Nat.sub_self] at hx
        injection hx with hx
        subst hx
        exact hD.2
  have hi : p.length = 5 → Q .null (zsI m 97 1 (nI ((o + 1) % 6))) := by
    intro e5
    refine hk _ ((o + 1) % 6) ⟨h1, h2, h3, zI_s _ _ _ _, by omega, ?_, ?_, hx8 _ _, fun i x hx => ?_⟩ (o1 _ _)
    · rw [zI_n _ _ (Or.inr (by decide)), h6, skeep, if_pos e5, List.length_append, List.length_drop, e5]; rfl
    · rw [skeep, if_pos e5, List.length_append, List.length_drop, e5, List.length_singleton]; omega
    · rw [skeep, if_pos e5] at hx
      refine LK.out ?_ (o1 _ _) (by have := b1 (((o + 1) % 6 + i) % 6) (by omega); omega)
      have e2 := lt_of_get hx
      rw [List.length_append, List.length_singleton, List.length_drop] at e2
      by_cases e : i < 4
      · rw [List.getElem?_append_left (by rw [List.length_drop]; omega), List.getElem?_drop] at hx
        have := h9 _ x hx
        rwa [show (o + (1 + i)) % 6 = ((o + 1) % 6 + i) % 6 by omega] at this
      · have e3 : i = 4 := by omega
        subst e3
        rw [List.getElem?_append_right (by rw [List.length_drop]; omega), List.length_drop, e5] at hx
        injection hx with hx
        subst hx
        have := hD.2
        rwa [e5, show (o + 5) % 6 = ((o + 1) % 6 + 4) % 6 by omega] at this
  refine zenterP (Or.inl (by decide +kernel)) rfl (fun h => by cases h) (Nat.le_of_ble_eq_true rfl) ?_
  show zwp _ _ _ _ _ 0 [_] [] 0 0 _
  refine zr_aload_n dX3_keepDraft_0 rfl ?_
  refine zr_getI dX3_keepDraft_1 fd_3_22 rfl hob ?_
  rw [h6]
  refine zr_iconst (v := nI 5) dX3_keepDraft_4 rfl ?_
  refine zr_icmp_ltN (tgt := 24) dX3_keepDraft_5 (by decide) (by omega) (by omega) (fun hc_5 => ?_) (fun hc_5 => ?_)
  · refine zr_aload_n dX3_keepDraft_24 rfl ?_
    refine zr_dup dX3_keepDraft_25 rfl ?_
    refine zr_getI dX3_keepDraft_26 fd_3_22 rfl hob ?_
    rw [h6]
    refine zr_iconst (v := nI 1) dX3_keepDraft_29 rfl ?_
    refine zr_iaddN dX3_keepDraft_30 ?_
    refine zr_putI dX3_keepDraft_31 fd_3_22 rfl hob ?_
    refine zr_return dX3_keepDraft_34 rfl (Nat.le_refl _) (Nat.le_refl _) ?_
    first
    | exact lo (by omega)
    | exact hi (by omega)
    | fail "none"
  · refine zr_aload_n dX3_keepDraft_8 rfl ?_
    refine zr_aload_n dX3_keepDraft_9 rfl ?_
    refine zr_getI dX3_keepDraft_10 fd_3_18 rfl hob ?_
    rw [h4]
    refine zr_iconst (v := nI 1) dX3_keepDraft_13 rfl ?_
    refine zr_iaddN dX3_keepDraft_14 ?_
    refine zr_bipush (v := nI 6) dX3_keepDraft_15 rfl ?_
    refine zr_irem dX3_keepDraft_17 (by decide) ?_
    rw [nI_6 (by omega)]
    refine zr_putI dX3_keepDraft_18 fd_3_18 rfl hob ?_
    refine zr_goto (tgt := 34) dX3_keepDraft_21 (by decide) ?_
    refine zr_return dX3_keepDraft_34 rfl (Nat.le_refl _) (Nat.le_refl _) ?_
    first
    | exact lo (by omega)
    | exact hi (by omega)
    | fail "none"
theorem goBack_ok (hY : HY m o p) (hL : LK m 3 s1) (hs : ∀ s ∈ p, sOK s) (hno : p.length = 0 → Q (.int (-3)) m) (hyes : p.length ≠ 0 → ∀ m', HY m' o p.dropLast → LK m' 3 (p.getLastD s1) → zout 3 98 m m' → Q (.int (nI (p.length - 1))) m') : zC (d + 6) M3_goBack 0 0 [.ref 97, .ref 3] m Q := by
  have hob := hY.ob (m' := m) rfl
  obtain ⟨h1, h2, h3, h4, h5, h6, h7, h8, h9⟩ := hY
  have b1 : ∀ k, k < 6 → 99 ≤ hp k ∧ hp k + 94 ≤ 663 := fun k hk => by unfold hp; omega
  refine zenterP (Or.inl (by decide +kernel)) rfl (fun h => by cases h) (Nat.le_of_ble_eq_true rfl) ?_
  show zwp _ _ _ _ _ 0 [_, _] [] 0 0 _
  refine zr_aload_n dX3_goBack_0 rfl ?_
  refine zr_getI dX3_goBack_1 fd_3_22 rfl hob ?_
  rw [h6]
  refine zr_if_ne (tgt := 10) dX3_goBack_4 (by decide) (fun hc_4 => ?_) (fun hc_4 => ?_)
  · have e0 : p.length ≠ 0 := fun z => hc_4 (by rw [z]; rfl)
    refine zr_aload_n dX3_goBack_10 rfl ?_
    refine zr_dup dX3_goBack_11 rfl ?_
    refine zr_getI dX3_goBack_12 fd_3_22 rfl hob ?_
    rw [h6]
    refine zr_iconst (v := nI 1) dX3_goBack_15 rfl ?_
    refine zr_isubN dX3_goBack_16 (by omega) ?_
    refine zr_putI dX3_goBack_17 fd_3_22 rfl hob ?_
    have o1 : zout 97 98 m (zsI m 97 2 (nI (p.length - 1))) := zout.sI (by omega) (by omega)
    have hl : p[p.length - 1]? = some (p.getLastD s1) := by
      rw [← List.getLast?_eq_getElem?]
      cases hp0 : p with
      | nil => rw [hp0] at e0; exact absurd rfl e0
      | cons a l => exact List.getLast?_eq_some_getLast (List.cons_ne_nil a l)
    have hY1 : HY (zsI m 97 2 (nI (p.length - 1))) o p.dropLast := by
      refine ⟨h1, h2, h3, (zI_n _ _ (Or.inr (by decide))).trans h4, h5, ?_, ?_, fun k hk => ?_, fun i x hx => ?_⟩
      · rw [zI_s, List.length_dropLast]
      · rw [List.length_dropLast]; omega
      · obtain ⟨y, y1⟩ := h8 k hk
        exact ⟨y, y1.out o1 (by have := b1 k hk; omega)⟩
      · have e2 := lt_of_get hx
        rw [List.length_dropLast] at e2
        rw [List.getElem?_dropLast, if_pos (by omega)] at hx
        exact (h9 i x hx).out o1 (by have := b1 ((o + i) % 6) (by omega); omega)
    have hD1 : HD (zsI m 97 2 (nI (p.length - 1))) o p.dropLast (p.getLastD s1) := by
      refine ⟨hY1, ?_⟩
      rw [List.length_dropLast]
      exact (h9 _ _ hl).out o1 (by have := b1 ((o + (p.length - 1)) % 6) (by omega); omega)
    refine zr_aload_n dX3_goBack_20 rfl ?_
    refine zr_aload_n dX3_goBack_21 rfl ?_
    refine zr_cV1v rfl dX3_goBack_22 cv_3_33 hob (Nat.le_of_ble_eq_true rfl) (restore_ok hD1 (hL.out o1 (by omega)) (hs _ (List.mem_of_getElem? hl)) (fun m2 d2 l2 o2 => ?_))
    refine zr_aload_n dX3_goBack_25 rfl ?_
    refine zr_getI dX3_goBack_26 fd_3_22 rfl (d2.1.ob rfl) ?_
    rw [d2.1.2.2.2.2.2.1, List.length_dropLast]
    refine zr_ireturn dX3_goBack_29 rfl (Nat.le_refl _) (Nat.le_refl _) ?_
    exact hyes e0 m2 d2.1 l2 ((o1.wd (by omega) (by omega)).tr (o2.wd (by omega) (by omega)))
  · have e0 : p.length = 0 := (nI_eq (by omega) (by decide)).mp hc_4
    refine zr_bipush (v := -3) dX3_goBack_7 rfl ?_
    refine zr_ireturn dX3_goBack_9 rfl (Nat.le_refl _) (Nat.le_refl _) ?_
    exact hno e0
end
