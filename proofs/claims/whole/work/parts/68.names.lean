/-! ===== the class LinkNames: steps ===== -/
def RF (m : zM) (f : (Nat → Int32) × Int32 × Int32) : Prop := zn m = 676 ∧ zR m 2 0 = 3 ∧ zR m 2 1 = 97 ∧ zR m 2 2 = 663 ∧ (∀ k, k < 3 → zI m 2 (3 + k) = f.1 k) ∧ zI m 2 6 = f.2.1 ∧ zI m 2 7 = f.2.2
def RC (m : zM) (w : sW) : Prop := RF m w.2.2.2 ∧ LK m 3 w.1 ∧ (∃ o, HY m o w.2.1) ∧ TX m w.2.2.1
/-- within a step: the link is s already, the draft is what it was -/
def RD (m : zM) (w : sW) (s : sS) : Prop := RF m w.2.2.2 ∧ LK m 3 s ∧ (∃ o, HD m o w.2.1 w.1) ∧ TX m w.2.2.1
def ores (c : Int32) (x : Nat → Int32) (s : sS) : Int32 × sS := if oc c x s < 0 then (oc c x s, s) else od c x s
section
variable {d : Nat} {Q : Value → zM → Prop} {m m' : zM} {w : sW} {s : sS} {f : (Nat → Int32) × Int32 × Int32} {c v : Int32} {x : Nat → Int32}
theorem RF.ob (h : RF m f) (e : zn m' = zn m) : zOb m' 2 8 := ⟨by decide, by decide, by rw [e, h.1]; decide⟩
theorem RF.out {lo hi : Nat} (h : RF m f) (ho : zout lo hi m m') (hd : 3 ≤ lo) : RF m' f := by
  obtain ⟨h1, h2, h3, h4, h5, h6, h7⟩ := h
  exact ⟨ho.1.trans h1, by rw [ho.R (by omega)]; exact h2, by rw [ho.R (by omega)]; exact h3, by rw [ho.R (by omega)]; exact h4, by rw [ho.I (by omega)]; exact h5, by rw [ho.I (by omega)]; exact h6, by rw [ho.I (by omega)]; exact h7⟩
theorem RC.o2 (h : RC m w) (ho : zout 2 3 m m') (hf : RF m' f) : RC m' (w.1, w.2.1, w.2.2.1, f) := by
  obtain ⟨h1, h2, ⟨o, h3⟩, h4⟩ := h
  exact ⟨hf, h2.out ho (by omega), ⟨o, h3.out ho (by omega)⟩, h4.out ho (by omega)⟩
theorem RC.cnt (h : RC m w) {k : Nat} (hk : k < 3) : RC (zsI m 2 (3 + k) (w.2.2.2.1 k + nI 1)) (w.1, w.2.1, w.2.2.1, fu w.2.2.2.1 k (w.2.2.2.1 k + 1), w.2.2.2.2) := by
  obtain ⟨h1, h2, h3, h4, h5, h6, h7⟩ := h.1
  refine h.o2 (zout.sI (by omega) (by omega)) ⟨h1, h2, h3, h4, fun j hj => ?_, ?_, ?_⟩
  · show zI _ 2 (3 + j) = fu w.2.2.2.1 k (w.2.2.2.1 k + 1) j
    by_cases e : j = k
    · subst e; rw [zI_s, fu_s]; rfl
    · rw [zI_n _ _ (Or.inr (by omega)), fu_n _ _ e]; exact h5 j hj
  · rw [zI_n _ _ (Or.inr (by omega))]; exact h6
  · rw [zI_n _ _ (Or.inr (by omega))]; exact h7
theorem Ccounted_ok (hR : RC m w) (hk : ∀ m', RC m' (if oEb v then wref w v else w) → zout 2 667 m m' → Q (.int v) m') : zC (d + 1) M8_counted 0 0 [.ref 2, .int v] m Q := by
  have hf := hR.1.2.2.2.2.1
  have f0 : zI m 2 3 = w.2.2.2.1 0 := hf 0 (by decide)
  have f1 : zI m 2 4 = w.2.2.2.1 1 := hf 1 (by decide)
  have f2 : zI m 2 5 = w.2.2.2.1 2 := hf 2 (by decide)
  refine zenterP (Or.inl (by decide +kernel)) rfl (fun h => by cases h) (Nat.le_of_ble_eq_true rfl) ?_
  show zwp _ _ _ _ _ 0 [_, _] [] 0 0 _
  refine zr_iload_n dX8_counted_0 rfl ?_
  refine zr_bipush (v := -2) dX8_counted_1 rfl ?_
  refine zr_icmp_ne (tgt := 19) dX8_counted_3 (by decide) (fun hc_3 => ?_) (fun hc_3 => ?_)
  · refine zr_iload_n dX8_counted_19 rfl ?_
    refine zr_bipush (v := -3) dX8_counted_20 rfl ?_
    refine zr_icmp_ne (tgt := 38) dX8_counted_22 (by decide) (fun hc_22 => ?_) (fun hc_22 => ?_)
    · refine zr_iload_n dX8_counted_38 rfl ?_
      refine zr_bipush (v := -4) dX8_counted_39 rfl ?_
      refine zr_icmp_ne (tgt := 54) dX8_counted_41 (by decide) (fun hc_41 => ?_) (fun hc_41 => ?_)
      · have e : oEb v = false := by simp [oEb, hc_3, hc_22, hc_41]
        refine zr_iload_n dX8_counted_54 rfl ?_
        refine zr_ireturn dX8_counted_55 rfl (Nat.le_refl _) (Nat.le_refl _) ?_
        rw [e] at hk
        first
        | exact hk m hR zout.rf
        | (rw [ew] at hk
           exact hk _ hc (zout.sI (by omega) (by omega)))
        | fail "none"
      · have e : oEb v = true := by rw [hc_41]; rfl
        have ew : wref w v = (w.1, w.2.1, w.2.2.1, fu w.2.2.2.1 2 (w.2.2.2.1 2 + 1), w.2.2.2.2) := by rw [hc_41]; rfl
        have hc := hR.cnt (k := 2) (by decide)
        refine zr_aload_n dX8_counted_44 rfl ?_
        refine zr_dup dX8_counted_45 rfl ?_
        refine zr_getI dX8_counted_46 fd_8_138 rfl (hR.1.ob rfl) ?_
        rw [f2]
        refine zr_iconst (v := nI 1) dX8_counted_49 rfl ?_
        refine zr_iadd dX8_counted_50 ?_
        refine zr_putI dX8_counted_51 fd_8_138 rfl (hR.1.ob rfl) ?_
        refine zr_iload_n dX8_counted_54 rfl ?_
        refine zr_ireturn dX8_counted_55 rfl (Nat.le_refl _) (Nat.le_refl _) ?_
        rw [e] at hk
        first
        | exact hk m hR zout.rf
        | (rw [ew] at hk
           exact hk _ hc (zout.sI (by omega) (by omega)))
        | fail "none"
    · have e : oEb v = true := by rw [hc_22]; rfl
      have ew : wref w v = (w.1, w.2.1, w.2.2.1, fu w.2.2.2.1 1 (w.2.2.2.1 1 + 1), w.2.2.2.2) := by rw [hc_22]; rfl
      have hc := hR.cnt (k := 1) (by decide)
      refine zr_aload_n dX8_counted_25 rfl ?_
      refine zr_dup dX8_counted_26 rfl ?_
      refine zr_getI dX8_counted_27 fd_8_135 rfl (hR.1.ob rfl) ?_
      rw [f1]
      refine zr_iconst (v := nI 1) dX8_counted_30 rfl ?_
      refine zr_iadd dX8_counted_31 ?_
      refine zr_putI dX8_counted_32 fd_8_135 rfl (hR.1.ob rfl) ?_
      refine zr_goto (tgt := 54) dX8_counted_35 (by decide) ?_
      refine zr_iload_n dX8_counted_54 rfl ?_
      refine zr_ireturn dX8_counted_55 rfl (Nat.le_refl _) (Nat.le_refl _) ?_
      rw [e] at hk
      first
      | exact hk m hR zout.rf
      | (rw [ew] at hk
         exact hk _ hc (zout.sI (by omega) (by omega)))
      | fail "none"
  · have e : oEb v = true := by rw [hc_3]; rfl
    have ew : wref w v = (w.1, w.2.1, w.2.2.1, fu w.2.2.2.1 0 (w.2.2.2.1 0 + 1), w.2.2.2.2) := by rw [hc_3]; rfl
    have hc := hR.cnt (k := 0) (by decide)
    refine zr_aload_n dX8_counted_6 rfl ?_
    refine zr_dup dX8_counted_7 rfl ?_
    refine zr_getI dX8_counted_8 fd_8_128 rfl (hR.1.ob rfl) ?_
    rw [f0]
    refine zr_iconst (v := nI 1) dX8_counted_11 rfl ?_
    refine zr_iadd dX8_counted_12 ?_
    refine zr_putI dX8_counted_13 fd_8_128 rfl (hR.1.ob rfl) ?_
    refine zr_goto (tgt := 54) dX8_counted_16 (by decide) ?_
    refine zr_iload_n dX8_counted_54 rfl ?_
    refine zr_ireturn dX8_counted_55 rfl (Nat.le_refl _) (Nat.le_refl _) ?_
    rw [e] at hk
    first
    | exact hk m hR zout.rf
    | (rw [ew] at hk
       exact hk _ hc (zout.sI (by omega) (by omega)))
    | fail "none"
theorem RD.rc (h : RD m w s) : RC m (s, w.2) := by
  obtain ⟨h1, h2, ⟨o, h3⟩, h4⟩ := h
  exact ⟨h1, h2, ⟨o, h3.1⟩, h4⟩
theorem Cstepped_ok (hD : RD m w s) (hk : ∀ m', RC m' (if oEb v then wref (s, w.2) v else (s, skeep w.2.1 w.1, w.2.2)) → zout 2 667 m m' → Q (.int v) m') : zC (d + 2) M8_stepped 0 0 [.ref 2, .int v] m Q := by
  have hR := hD.rc
  obtain ⟨h1, h2, ⟨o, h3⟩, h4⟩ := hD
  cases e : oEb v
  · skip
    refine zenterP (Or.inl (by decide +kernel)) rfl (fun h => by cases h) (Nat.le_of_ble_eq_true rfl) ?_
    show zwp _ _ _ _ _ 0 [_, _] [] 0 0 _
    refine zr_iload_n dX8_stepped_0 rfl ?_
    refine zr_cS1 rfl dX8_stepped_1 cv_8_115 (Nat.le_of_ble_eq_true rfl) (isError_ok ?_)
    rw [e]
    refine zr_if_neB (tgt := 14) dX8_stepped_4 (by decide) (fun hc_4 => absurd hc_4 (by decide)) (fun hc_4 => ?_)
    refine zr_aload_n dX8_stepped_7 rfl ?_
    refine zr_getR dX8_stepped_8 fd_8_19 rfl (h1.ob rfl) h1.2.2.1 (by decide) ?_
    refine zr_cV0v rfl dX8_stepped_11 cv_8_125 (h3.1.ob rfl) (Nat.le_of_ble_eq_true rfl) (keepDraft_ok h3 (fun m1 o1 y1 z1 => ?_))
    have hR1 : RC m1 (s, skeep w.2.1 w.1, w.2.2) := ⟨h1.out z1 (by omega), h2.out z1 (by omega), ⟨o1, y1⟩, h4.out z1 (by omega)⟩
    refine zr_aload_n dX8_stepped_14 rfl ?_
    refine zr_iload_n dX8_stepped_15 rfl ?_
    refine zr_cV1 rfl dX8_stepped_16 cv_8_61 (hR1.1.ob rfl) (Nat.le_of_ble_eq_true rfl) (Ccounted_ok hR1 (fun m2 r2 o2 => ?_))
    refine zr_ireturn dX8_stepped_19 rfl (Nat.le_refl _) (Nat.le_refl _) ?_
    rw [e] at hk r2
    exact hk m2 r2 ((z1.wd (by omega) (by omega)).tr o2)
  · skip
    refine zenterP (Or.inl (by decide +kernel)) rfl (fun h => by cases h) (Nat.le_of_ble_eq_true rfl) ?_
    show zwp _ _ _ _ _ 0 [_, _] [] 0 0 _
    refine zr_iload_n dX8_stepped_0 rfl ?_
    refine zr_cS1 rfl dX8_stepped_1 cv_8_115 (Nat.le_of_ble_eq_true rfl) (isError_ok ?_)
    rw [e]
    refine zr_if_neB (tgt := 14) dX8_stepped_4 (by decide) (fun hc_4 => ?_) (fun hc_4 => absurd hc_4 (by decide))
    refine zr_aload_n dX8_stepped_14 rfl ?_
    refine zr_iload_n dX8_stepped_15 rfl ?_
    refine zr_cV1 rfl dX8_stepped_16 cv_8_61 (hR.1.ob rfl) (Nat.le_of_ble_eq_true rfl) (Ccounted_ok hR (fun m2 r2 o2 => ?_))
    refine zr_ireturn dX8_stepped_19 rfl (Nat.le_refl _) (Nat.le_refl _) ?_
    rw [e] at hk r2
    exact hk m2 r2 o2
theorem ores_w (hne : oc c x w.1 = 0 → ¬ oE (od c x w.1).1) : (ores c x w.1).1 = (wstep w c x).1 ∧ (if oEb (ores c x w.1).1 then wref ((ores c x w.1).2, w.2) (ores c x w.1).1 else ((ores c x w.1).2, skeep w.2.1 w.1, w.2.2)) = (wstep w c x).2 := by
  by_cases h : oc c x w.1 < 0
  · have e1 : ores c x w.1 = (oc c x w.1, w.1) := if_pos h
    rw [wstep_no h, e1]
    refine ⟨rfl, ?_⟩
    rw [if_pos (oEb_iff.mpr (oc_e h))]
  · have h0 := oc_0 h
    have e1 : ores c x w.1 = od c x w.1 := if_neg h
    rw [wstep_yes h0, e1]
    refine ⟨rfl, ?_⟩
    rw [if_neg (fun z => hne h0 (oEb_iff.mp z))]
theorem ogo {L : Nat} {P : Prop} (hL : LK m L s) (g : (oc c x s < 0 → Q (.int (oc c x s)) m) → (oc c x s = 0 → ∀ m', LK m' L (od c x s).2 → zout L (L + 94) m m' → Q (.int (od c x s).1) m') → P) (hk : ∀ m', LK m' L (ores c x s).2 → zout L (L + 94) m m' → Q (.int (ores c x s).1) m') : P := by
  refine g (fun h => ?_) (fun h m' l o => ?_)
  · have := hk m (by rw [ores, if_pos h]; exact hL) zout.rf
    rw [ores, if_pos h] at this
    exact this
  · have hn : ¬ oc c x s < 0 := by rw [h]; decide
    have := hk m' (by rw [ores, if_neg hn]; exact l) o
    rw [ores, if_neg hn] at this
    exact this
theorem RC.link (h : RC m w) : zR m 2 0 = 3 := h.1.2.1
theorem RC.hist (h : RC m w) : zR m 2 1 = 97 := h.1.2.2.1
theorem RC.text (h : RC m w) : zR m 2 2 = 663 := h.1.2.2.2.1
theorem Cdraft_ok (hR : RC m w) (hs : sOK w.1) (hk : ∀ m', RD m' w w.1 → zout 2 667 m m' → Q .null m') : zC (d + 5) M3_draft 0 0 [.ref 97, .ref 3] m Q := by
  obtain ⟨h1, h2, ⟨o, h3⟩, h4⟩ := hR
  exact draft_ok h3 h2 hs (fun m1 y1 l1 z1 => hk m1 ⟨h1.out z1 (by omega), l1, ⟨o, y1⟩, h4.out z1 (by omega)⟩ (z1.wd (by omega) (by omega)))
theorem RD.upd (h : RD m w s) {s' : sS} (hl : LK m' 3 s') (ho : zout 3 97 m m') : RD m' w s' := by
  obtain ⟨h1, h2, ⟨o, h3⟩, h4⟩ := h
  exact ⟨h1.out ho (by omega), hl, ⟨o, h3.out ho (by omega)⟩, h4.out ho (by omega)⟩
/-- the end of every step -/
theorem Cstep_fin (hD : RD m w (ores c x w.1).2) (hne : oc c x w.1 = 0 → ¬ oE (od c x w.1).1) (hk : ∀ m', RC m' (wstep w c x).2 → zout 2 667 m m' → Q (.int (wstep w c x).1) m') : zC (d + 2) M8_stepped 0 0 [.ref 2, .int (ores c x w.1).1] m Q := by
  obtain ⟨e1, e2⟩ := ores_w hne
  refine Cstepped_ok hD (fun m' r o => ?_)
  rw [e2] at r
  rw [e1]
  exact hk m' r o
theorem host_c (hR : RC m w) (hs : sOK w.1) (hne : oc (nI 104) (xs []) w.1 = 0 → ¬ oE (od (nI 104) (xs []) w.1).1) (hk : ∀ m', RC m' (wstep w (nI 104) (xs [])).2 → zout 2 667 m m' → Q (.int (wstep w (nI 104) (xs [])).1) m') : zC (d + 6) M8_host 0 0 [.ref 2] m Q := by
  refine zenterP (Or.inl (by decide +kernel)) rfl (fun h => by cases h) (Nat.le_of_ble_eq_true rfl) ?_
  show zwp _ _ _ _ _ 0 [_] [] 0 0 _
  refine zr_aload_n dX8_host_0 rfl ?_
  refine zr_getR dX8_host_1 fd_8_19 rfl (hR.1.ob rfl) hR.hist (by decide) ?_
  refine zr_aload_n dX8_host_4 rfl ?_
  refine zr_getR dX8_host_5 fd_8_12 rfl (hR.1.ob rfl) hR.link (by decide) ?_
  refine zr_cV1v rfl dX8_host_8 cv_8_34 (hR.2.2.1.choose_spec.ob rfl) (Nat.le_of_ble_eq_true rfl) (Cdraft_ok hR hs (fun m1 D z1 => ?_))
  refine zr_aload_n dX8_host_11 rfl ?_
  refine zr_aload_n dX8_host_12 rfl ?_
  refine zr_getR dX8_host_13 fd_8_12 rfl (D.1.ob rfl) D.1.2.1 (by decide) ?_
  refine zr_cV0 rfl dX8_host_16 cv_8_38 (D.2.1.1.ob rfl) (Nat.le_of_ble_eq_true rfl) (ogo D.2.1 (addHost_ok (x := xs []) D.2.1) (fun m2 l2 o2 => ?_))
  refine zr_cV1 rfl dX8_host_19 cv_8_42 ((D.upd l2 o2).1.ob rfl) (Nat.le_of_ble_eq_true rfl) (Cstep_fin (D.upd l2 o2) hne (fun m3 r3 o3 => ?_))
  refine zr_ireturn dX8_host_22 rfl (Nat.le_refl _) (Nat.le_refl _) ?_
  exact hk m3 r3 ((z1.tr (o2.wd (by omega) (by omega))).tr o3)
theorem claims_c {a b e q l : Int32} (hR : RC m w) (hs : sOK w.1) (hne : oc (nI 99) (xs [a, b, e, q, l]) w.1 = 0 → ¬ oE (od (nI 99) (xs [a, b, e, q, l]) w.1).1) (hk : ∀ m', RC m' (wstep w (nI 99) (xs [a, b, e, q, l])).2 → zout 2 667 m m' → Q (.int (wstep w (nI 99) (xs [a, b, e, q, l])).1) m') : zC (d + 6) M8_claims 0 0 [.ref 2, .int a, .int b, .int e, .int q, .int l] m Q := by
  refine zenterP (Or.inl (by decide +kernel)) rfl (fun h => by cases h) (Nat.le_of_ble_eq_true rfl) ?_
  show zwp _ _ _ _ _ 0 [_, _, _, _, _, _] [] 0 0 _
  refine zr_aload_n dX8_claims_0 rfl ?_
  refine zr_getR dX8_claims_1 fd_8_19 rfl (hR.1.ob rfl) hR.hist (by decide) ?_
  refine zr_aload_n dX8_claims_4 rfl ?_
  refine zr_getR dX8_claims_5 fd_8_12 rfl (hR.1.ob rfl) hR.link (by decide) ?_
  refine zr_cV1v rfl dX8_claims_8 cv_8_34 (hR.2.2.1.choose_spec.ob rfl) (Nat.le_of_ble_eq_true rfl) (Cdraft_ok hR hs (fun m1 D z1 => ?_))
  refine zr_aload_n dX8_claims_11 rfl ?_
  refine zr_aload_n dX8_claims_12 rfl ?_
  refine zr_getR dX8_claims_13 fd_8_12 rfl (D.1.ob rfl) D.1.2.1 (by decide) ?_
  refine zr_iload_n dX8_claims_16 rfl ?_
  refine zr_iload_n dX8_claims_17 rfl ?_
  refine zr_iload_n dX8_claims_18 rfl ?_
  refine zr_iload dX8_claims_19 rfl ?_
  refine zr_iload dX8_claims_21 rfl ?_
  refine zr_cV5 rfl dX8_claims_23 cv_8_46 (D.2.1.1.ob rfl) (Nat.le_of_ble_eq_true rfl) (ogo D.2.1 (claim_ok D.2.1 hs) (fun m2 l2 o2 => ?_))
  refine zr_cV1 rfl dX8_claims_26 cv_8_42 ((D.upd l2 o2).1.ob rfl) (Nat.le_of_ble_eq_true rfl) (Cstep_fin (D.upd l2 o2) hne (fun m3 r3 o3 => ?_))
  refine zr_ireturn dX8_claims_29 rfl (Nat.le_refl _) (Nat.le_refl _) ?_
  exact hk m3 r3 ((z1.tr (o2.wd (by omega) (by omega))).tr o3)
theorem shares_c {a b e q l : Int32} (hR : RC m w) (hs : sOK w.1) (hne : oc (nI 115) (xs [a, b, e, q, l]) w.1 = 0 → ¬ oE (od (nI 115) (xs [a, b, e, q, l]) w.1).1) (hk : ∀ m', RC m' (wstep w (nI 115) (xs [a, b, e, q, l])).2 → zout 2 667 m m' → Q (.int (wstep w (nI 115) (xs [a, b, e, q, l])).1) m') : zC (d + 6) M8_shares 0 0 [.ref 2, .int a, .int b, .int e, .int q, .int l] m Q := by
  refine zenterP (Or.inl (by decide +kernel)) rfl (fun h => by cases h) (Nat.le_of_ble_eq_true rfl) ?_
  show zwp _ _ _ _ _ 0 [_, _, _, _, _, _] [] 0 0 _
  refine zr_aload_n dX8_shares_0 rfl ?_
  refine zr_getR dX8_shares_1 fd_8_19 rfl (hR.1.ob rfl) hR.hist (by decide) ?_
  refine zr_aload_n dX8_shares_4 rfl ?_
  refine zr_getR dX8_shares_5 fd_8_12 rfl (hR.1.ob rfl) hR.link (by decide) ?_
  refine zr_cV1v rfl dX8_shares_8 cv_8_34 (hR.2.2.1.choose_spec.ob rfl) (Nat.le_of_ble_eq_true rfl) (Cdraft_ok hR hs (fun m1 D z1 => ?_))
  refine zr_aload_n dX8_shares_11 rfl ?_
  refine zr_aload_n dX8_shares_12 rfl ?_
  refine zr_getR dX8_shares_13 fd_8_12 rfl (D.1.ob rfl) D.1.2.1 (by decide) ?_
  refine zr_iload_n dX8_shares_16 rfl ?_
  refine zr_iload_n dX8_shares_17 rfl ?_
  refine zr_iload_n dX8_shares_18 rfl ?_
  refine zr_iload dX8_shares_19 rfl ?_
  refine zr_iload dX8_shares_21 rfl ?_
  refine zr_cV5 rfl dX8_shares_23 cv_8_50 (D.2.1.1.ob rfl) (Nat.le_of_ble_eq_true rfl) (ogo D.2.1 (share_ok D.2.1 hs) (fun m2 l2 o2 => ?_))
  refine zr_cV1 rfl dX8_shares_26 cv_8_42 ((D.upd l2 o2).1.ob rfl) (Nat.le_of_ble_eq_true rfl) (Cstep_fin (D.upd l2 o2) hne (fun m3 r3 o3 => ?_))
  refine zr_ireturn dX8_shares_29 rfl (Nat.le_refl _) (Nat.le_refl _) ?_
  exact hk m3 r3 ((z1.tr (o2.wd (by omega) (by omega))).tr o3)
theorem leaves_c {a b : Int32} (hR : RC m w) (hs : sOK w.1) (hne : oc (nI 103) (xs [a, b]) w.1 = 0 → ¬ oE (od (nI 103) (xs [a, b]) w.1).1) (hk : ∀ m', RC m' (wstep w (nI 103) (xs [a, b])).2 → zout 2 667 m m' → Q (.int (wstep w (nI 103) (xs [a, b])).1) m') : zC (d + 6) M8_leaves 0 0 [.ref 2, .int a, .int b] m Q := by
  refine zenterP (Or.inl (by decide +kernel)) rfl (fun h => by cases h) (Nat.le_of_ble_eq_true rfl) ?_
  show zwp _ _ _ _ _ 0 [_, _, _] [] 0 0 _
  refine zr_aload_n dX8_leaves_0 rfl ?_
  refine zr_getR dX8_leaves_1 fd_8_19 rfl (hR.1.ob rfl) hR.hist (by decide) ?_
  refine zr_aload_n dX8_leaves_4 rfl ?_
  refine zr_getR dX8_leaves_5 fd_8_12 rfl (hR.1.ob rfl) hR.link (by decide) ?_
  refine zr_cV1v rfl dX8_leaves_8 cv_8_34 (hR.2.2.1.choose_spec.ob rfl) (Nat.le_of_ble_eq_true rfl) (Cdraft_ok hR hs (fun m1 D z1 => ?_))
  refine zr_aload_n dX8_leaves_11 rfl ?_
  refine zr_aload_n dX8_leaves_12 rfl ?_
  refine zr_getR dX8_leaves_13 fd_8_12 rfl (D.1.ob rfl) D.1.2.1 (by decide) ?_
  refine zr_iload_n dX8_leaves_16 rfl ?_
  refine zr_iload_n dX8_leaves_17 rfl ?_
  refine zr_cV2 rfl dX8_leaves_18 cv_8_53 (D.2.1.1.ob rfl) (Nat.le_of_ble_eq_true rfl) (ogo D.2.1 (sayGoodbye_ok D.2.1 hs) (fun m2 l2 o2 => ?_))
  refine zr_cV1 rfl dX8_leaves_21 cv_8_42 ((D.upd l2 o2).1.ob rfl) (Nat.le_of_ble_eq_true rfl) (Cstep_fin (D.upd l2 o2) hne (fun m3 r3 o3 => ?_))
  refine zr_ireturn dX8_leaves_24 rfl (Nat.le_refl _) (Nat.le_refl _) ?_
  exact hk m3 r3 ((z1.tr (o2.wd (by omega) (by omega))).tr o3)
theorem ticks_c {a : Int32} (hR : RC m w) (hs : sOK w.1) (hF : fT w.1) (hne : oc (nI 116) (xs [a]) w.1 = 0 → ¬ oE (od (nI 116) (xs [a]) w.1).1) (hk : ∀ m', RC m' (wstep w (nI 116) (xs [a])).2 → zout 2 667 m m' → Q (.int (wstep w (nI 116) (xs [a])).1) m') : zC (d + 6) M8_ticks 0 0 [.ref 2, .int a] m Q := by
  refine zenterP (Or.inl (by decide +kernel)) rfl (fun h => by cases h) (Nat.le_of_ble_eq_true rfl) ?_
  show zwp _ _ _ _ _ 0 [_, _] [] 0 0 _
  refine zr_aload_n dX8_ticks_0 rfl ?_
  refine zr_getR dX8_ticks_1 fd_8_19 rfl (hR.1.ob rfl) hR.hist (by decide) ?_
  refine zr_aload_n dX8_ticks_4 rfl ?_
  refine zr_getR dX8_ticks_5 fd_8_12 rfl (hR.1.ob rfl) hR.link (by decide) ?_
  refine zr_cV1v rfl dX8_ticks_8 cv_8_34 (hR.2.2.1.choose_spec.ob rfl) (Nat.le_of_ble_eq_true rfl) (Cdraft_ok hR hs (fun m1 D z1 => ?_))
  refine zr_aload_n dX8_ticks_11 rfl ?_
  refine zr_aload_n dX8_ticks_12 rfl ?_
  refine zr_getR dX8_ticks_13 fd_8_12 rfl (D.1.ob rfl) D.1.2.1 (by decide) ?_
  refine zr_iload_n dX8_ticks_16 rfl ?_
  refine zr_cV1 rfl dX8_ticks_17 cv_8_67 (D.2.1.1.ob rfl) (Nat.le_of_ble_eq_true rfl) (ogo D.2.1 (passTicks_ok D.2.1 hs hF) (fun m2 l2 o2 => ?_))
  refine zr_cV1 rfl dX8_ticks_20 cv_8_42 ((D.upd l2 o2).1.ob rfl) (Nat.le_of_ble_eq_true rfl) (Cstep_fin (D.upd l2 o2) hne (fun m3 r3 o3 => ?_))
  refine zr_ireturn dX8_ticks_23 rfl (Nat.le_refl _) (Nat.le_refl _) ?_
  exact hk m3 r3 ((z1.tr (o2.wd (by omega) (by omega))).tr o3)
theorem asks_c {a b e : Int32} (hR : RC m w) (hs : sOK w.1) (hne : oc (nI 97) (xs [a, b, e]) w.1 = 0 → ¬ oE (od (nI 97) (xs [a, b, e]) w.1).1) (hk : ∀ m', RC m' (wstep w (nI 97) (xs [a, b, e])).2 → zout 2 667 m m' → Q (.int (wstep w (nI 97) (xs [a, b, e])).1) m') : zC (d + 6) M8_asks 0 0 [.ref 2, .int a, .int b, .int e] m Q := by
  refine zenterP (Or.inl (by decide +kernel)) rfl (fun h => by cases h) (Nat.le_of_ble_eq_true rfl) ?_
  show zwp _ _ _ _ _ 0 [_, _, _, _] [] 0 0 _
  refine zr_aload_n dX8_asks_0 rfl ?_
  refine zr_getR dX8_asks_1 fd_8_19 rfl (hR.1.ob rfl) hR.hist (by decide) ?_
  refine zr_aload_n dX8_asks_4 rfl ?_
  refine zr_getR dX8_asks_5 fd_8_12 rfl (hR.1.ob rfl) hR.link (by decide) ?_
  refine zr_cV1v rfl dX8_asks_8 cv_8_34 (hR.2.2.1.choose_spec.ob rfl) (Nat.le_of_ble_eq_true rfl) (Cdraft_ok hR hs (fun m1 D z1 => ?_))
  refine zr_aload_n dX8_asks_11 rfl ?_
  refine zr_aload_n dX8_asks_12 rfl ?_
  refine zr_getR dX8_asks_13 fd_8_12 rfl (D.1.ob rfl) D.1.2.1 (by decide) ?_
  refine zr_iload_n dX8_asks_16 rfl ?_
  refine zr_iload_n dX8_asks_17 rfl ?_
  refine zr_iload_n dX8_asks_18 rfl ?_
  refine zr_cV3 rfl dX8_asks_19 cv_8_78 (D.2.1.1.ob rfl) (Nat.le_of_ble_eq_true rfl) (ogo D.2.1 (ask_ok D.2.1 hs) (fun m2 l2 o2 => ?_))
  refine zr_cV1 rfl dX8_asks_22 cv_8_42 ((D.upd l2 o2).1.ob rfl) (Nat.le_of_ble_eq_true rfl) (Cstep_fin (D.upd l2 o2) hne (fun m3 r3 o3 => ?_))
  refine zr_ireturn dX8_asks_25 rfl (Nat.le_refl _) (Nat.le_refl _) ?_
  exact hk m3 r3 ((z1.tr (o2.wd (by omega) (by omega))).tr o3)
theorem sleeps_c {a b : Int32} (hR : RC m w) (hs : sOK w.1) (hne : oc (nI 122) (xs [a, b]) w.1 = 0 → ¬ oE (od (nI 122) (xs [a, b]) w.1).1) (hk : ∀ m', RC m' (wstep w (nI 122) (xs [a, b])).2 → zout 2 667 m m' → Q (.int (wstep w (nI 122) (xs [a, b])).1) m') : zC (d + 6) M8_sleeps 0 0 [.ref 2, .int a, .int b] m Q := by
  refine zenterP (Or.inl (by decide +kernel)) rfl (fun h => by cases h) (Nat.le_of_ble_eq_true rfl) ?_
  show zwp _ _ _ _ _ 0 [_, _, _] [] 0 0 _
  refine zr_aload_n dX8_sleeps_0 rfl ?_
  refine zr_getR dX8_sleeps_1 fd_8_19 rfl (hR.1.ob rfl) hR.hist (by decide) ?_
  refine zr_aload_n dX8_sleeps_4 rfl ?_
  refine zr_getR dX8_sleeps_5 fd_8_12 rfl (hR.1.ob rfl) hR.link (by decide) ?_
  refine zr_cV1v rfl dX8_sleeps_8 cv_8_34 (hR.2.2.1.choose_spec.ob rfl) (Nat.le_of_ble_eq_true rfl) (Cdraft_ok hR hs (fun m1 D z1 => ?_))
  refine zr_aload_n dX8_sleeps_11 rfl ?_
  refine zr_aload_n dX8_sleeps_12 rfl ?_
  refine zr_getR dX8_sleeps_13 fd_8_12 rfl (D.1.ob rfl) D.1.2.1 (by decide) ?_
  refine zr_iload_n dX8_sleeps_16 rfl ?_
  refine zr_iload_n dX8_sleeps_17 rfl ?_
  refine zr_cV2 rfl dX8_sleeps_18 cv_8_94 (D.2.1.1.ob rfl) (Nat.le_of_ble_eq_true rfl) (ogo D.2.1 (fallAsleep_ok D.2.1 hs) (fun m2 l2 o2 => ?_))
  refine zr_cV1 rfl dX8_sleeps_21 cv_8_42 ((D.upd l2 o2).1.ob rfl) (Nat.le_of_ble_eq_true rfl) (Cstep_fin (D.upd l2 o2) hne (fun m3 r3 o3 => ?_))
  refine zr_ireturn dX8_sleeps_24 rfl (Nat.le_refl _) (Nat.le_refl _) ?_
  exact hk m3 r3 ((z1.tr (o2.wd (by omega) (by omega))).tr o3)
theorem wakes_c {a : Int32} (hR : RC m w) (hs : sOK w.1) (hne : oc (nI 119) (xs [a]) w.1 = 0 → ¬ oE (od (nI 119) (xs [a]) w.1).1) (hk : ∀ m', RC m' (wstep w (nI 119) (xs [a])).2 → zout 2 667 m m' → Q (.int (wstep w (nI 119) (xs [a])).1) m') : zC (d + 6) M8_wakes 0 0 [.ref 2, .int a] m Q := by
  refine zenterP (Or.inl (by decide +kernel)) rfl (fun h => by cases h) (Nat.le_of_ble_eq_true rfl) ?_
  show zwp _ _ _ _ _ 0 [_, _] [] 0 0 _
  refine zr_aload_n dX8_wakes_0 rfl ?_
  refine zr_getR dX8_wakes_1 fd_8_19 rfl (hR.1.ob rfl) hR.hist (by decide) ?_
  refine zr_aload_n dX8_wakes_4 rfl ?_
  refine zr_getR dX8_wakes_5 fd_8_12 rfl (hR.1.ob rfl) hR.link (by decide) ?_
  refine zr_cV1v rfl dX8_wakes_8 cv_8_34 (hR.2.2.1.choose_spec.ob rfl) (Nat.le_of_ble_eq_true rfl) (Cdraft_ok hR hs (fun m1 D z1 => ?_))
  refine zr_aload_n dX8_wakes_11 rfl ?_
  refine zr_aload_n dX8_wakes_12 rfl ?_
  refine zr_getR dX8_wakes_13 fd_8_12 rfl (D.1.ob rfl) D.1.2.1 (by decide) ?_
  refine zr_iload_n dX8_wakes_16 rfl ?_
  refine zr_cV1 rfl dX8_wakes_17 cv_8_97 (D.2.1.1.ob rfl) (Nat.le_of_ble_eq_true rfl) (ogo D.2.1 (wakeUp_ok D.2.1 hs) (fun m2 l2 o2 => ?_))
  refine zr_cV1 rfl dX8_wakes_20 cv_8_42 ((D.upd l2 o2).1.ob rfl) (Nat.le_of_ble_eq_true rfl) (Cstep_fin (D.upd l2 o2) hne (fun m3 r3 o3 => ?_))
  refine zr_ireturn dX8_wakes_23 rfl (Nat.le_refl _) (Nat.le_refl _) ?_
  exact hk m3 r3 ((z1.tr (o2.wd (by omega) (by omega))).tr o3)
end
