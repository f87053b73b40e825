/-! ===== the class: a cache ages, learns, hears a goodbye ===== -/
section
variable {d : Nat} {Q : Value → zM → Prop} {m m' : zM} {C i a : Nat} {l : List sR} {n k q t : Int32} {rc : sR}
theorem removeEnded_ok (hC : CC m C l) (hk : ∀ m', CC m' C (l.filter (fun e => decide (t < e 4))) → zout C (C + 8) m m' → Q .null m') : zC (d + 2) M0_removeEnded 0 0 [.ref C, .int t] m Q := by
  have loop : ∀ i l1 l2 m1, l = l1 ++ l2 → l1.length = i → CC m1 C (l1 ++ l2.filter (fun e => decide (t < e 4))) → zout C (C + 8) m m1 → zwp (d + 2) M0_removeEnded 0 0 Q 7 [.ref C, .int t, .int (nI i - nI 1)] [] 0 0 m1 := by
    intro i
    induction i with
    | zero =>
      intro l1 l2 m1 h1 h2 h3 h4
      refine zr_iload_n dX0_removeEnded_7 rfl ?_
      refine zr_if_lt (tgt := 35) dX0_removeEnded_8 (by decide) (fun hc_8 => ?_) (fun hc_8 => absurd nI_0m hc_8)
      refine zr_return dX0_removeEnded_35 rfl (Nat.le_refl _) (Nat.le_refl _) ?_
      have e : l1 = [] := List.eq_nil_of_length_eq_zero h2
      subst e
      subst h1
      exact hk _ h3 h4
    | succ i ih =>
      intro l1 l2 m1 h1 h2 h3 h4
      have hr := h3.2.2.1
      have h6 := h3.2.2.2.2.2.1
      rw [List.length_append] at h6
      obtain ⟨l0, x, rfl⟩ : ∃ l0 x, l1 = l0 ++ [x] := ⟨l1.dropLast, l1.getLast (fun z => by rw [z] at h2; cases h2), (List.dropLast_concat_getLast _).symm⟩
      have hl0 : l0.length = i := by rw [List.length_append] at h2; simpa using h2
      have hx : zg (l0 ++ [x] ++ l2.filter (fun e => decide (t < e 4))) i = x := by
        unfold zg
        rw [List.append_assoc, List.getD_eq_getElem?_getD, List.getElem?_append_right (by omega), hl0, Nat.sub_self]
        rfl
      have hlt : i < (l0 ++ [x] ++ l2.filter (fun e => decide (t < e 4))).length := by rw [List.length_append, h2]; omega
      rw [nI_pr]
      refine zr_iload_n dX0_removeEnded_7 rfl ?_
      refine zr_if_lt (tgt := 35) dX0_removeEnded_8 (by decide) (fun hc_8 => absurd hc_8 (nI_pos (by omega))) (fun hc_8 => ?_)
      refine zr_aload_n dX0_removeEnded_11 rfl ?_
      refine zr_getR dX0_removeEnded_12 fd_0_11 rfl (h3.ob rfl) hr (by omega) ?_
      refine zr_iload_n dX0_removeEnded_15 rfl ?_
      refine zr_aaloadN dX0_removeEnded_16 (h3.ar rfl) (by decide) (by decide) (by omega) (by decide) rfl (h3.nz (by omega)) ?_
      refine zr_getI dX0_removeEnded_17 fd_0_35 rfl (h3.eo (by omega) rfl) ?_
      rw [h3.at hlt (by decide), hx]
      refine zr_iload_n dX0_removeEnded_20 rfl ?_
      refine zr_icmp_gt (tgt := 29) dX0_removeEnded_21 (by decide) (fun hc_21 => ?_) (fun hc_21 => ?_)
      · have e : CC m1 C (l0 ++ (x :: l2).filter (fun e => decide (t < e 4))) := by
          rw [List.filter_cons, if_pos (by rw [decide_eq_true_eq]; exact hc_21)]
          rw [List.append_assoc] at h3
          exact h3
        refine zr_iinc (v := nI i - nI 1) dX0_removeEnded_29 rfl (nI_m1 i) (by decide) rfl ?_
        dsimp only [zset]
        refine zr_goto (tgt := 7) dX0_removeEnded_32 (by decide) ?_
        first
        | exact ih l0 (x :: l2) m1 (by rw [h1, List.append_assoc]; rfl) hl0 e h4
        | (refine ih l0 (x :: l2) m2 (by rw [h1, List.append_assoc]; rfl) hl0 ?_ (h4.tr o2)
           rw [List.filter_cons, if_neg (by rw [decide_eq_true_eq]; exact hc_21)]
           rw [List.append_assoc, List.eraseIdx_append_of_length_le (by omega), hl0, Nat.sub_self] at c2
           exact c2)
        | fail "none"
      · refine zr_aload_n dX0_removeEnded_24 rfl ?_
        refine zr_iload_n dX0_removeEnded_25 rfl ?_
        refine zr_cV1v rfl dX0_removeEnded_26 cv_0_38 (h3.ob rfl) (Nat.le_of_ble_eq_true rfl) (removeAt_ok h3 hlt (fun m2 c2 o2 => ?_))
        refine zr_iinc (v := nI i - nI 1) dX0_removeEnded_29 rfl (nI_m1 i) (by decide) rfl ?_
        dsimp only [zset]
        refine zr_goto (tgt := 7) dX0_removeEnded_32 (by decide) ?_
        first
        | exact ih l0 (x :: l2) m1 (by rw [h1, List.append_assoc]; rfl) hl0 e h4
        | (refine ih l0 (x :: l2) m2 (by rw [h1, List.append_assoc]; rfl) hl0 ?_ (h4.tr o2)
           rw [List.filter_cons, if_neg (by rw [decide_eq_true_eq]; exact hc_21)]
           rw [List.append_assoc, List.eraseIdx_append_of_length_le (by omega), hl0, Nat.sub_self] at c2
           exact c2)
        | fail "none"
  refine zenterP (Or.inl (by decide +kernel)) rfl (fun h => by cases h) (Nat.le_of_ble_eq_true rfl) ?_
  show zwp _ _ _ _ _ 0 [_, _, zU] [] 0 0 _
  refine zr_aload_n dX0_removeEnded_0 rfl ?_
  refine zr_getI dX0_removeEnded_1 fd_0_18 rfl (hC.ob rfl) ?_
  rw [hC.2.2.2.2.1]
  refine zr_iconst (v := nI 1) dX0_removeEnded_4 rfl ?_
  refine zr_isub dX0_removeEnded_5 ?_
  refine zr_istore_n dX0_removeEnded_6 (by decide) rfl ?_
  dsimp only [zset]
  exact loop l.length l [] m (List.append_nil l).symm rfl (by rw [List.filter_nil, List.append_nil]; exact hC) zout.rf
/-! an entry's end is set -/
theorem CC.sete (hC : CC m C l) (hi : i < l.length) (v : Int32) : CC (zsI m (zR m (C + 1) i) 4 v) C (l.set i (fu (zg l i) 4 v)) := by
  obtain ⟨h1, h2, h3, h4, h5, h6, h7⟩ := hC
  have hp := h4.1 i (by omega)
  refine ⟨h1, h2, h3, h4, ?_, by rw [List.length_set]; exact h6, fun x hx k hk => ?_⟩
  · rw [List.length_set, zI_n _ _ (Or.inl (by omega))]; exact h5
  · rw [List.length_set] at hx
    have hz : zg (l.set i (fu (zg l i) 4 v)) x k = if x = i then fu (zg l i) 4 v k else zg l x k := zat_set (k := k) (i := x) hi
    rw [hz]
    show zI (zsI m (zR m (C + 1) i) 4 v) (zR m (C + 1) x) k = _
    by_cases e : x = i
    · subst e
      rw [if_pos rfl]
      by_cases e4 : k = 4
      · subst e4; rw [zI_s, fu_s]
      · rw [zI_n _ _ (Or.inr e4), fu_n _ _ e4]; exact h7 x hx k hk
    · rw [if_neg e, zI_n _ _ (Or.inl (fun z => e (h4.2 _ _ (by omega) (by omega) z)))]
      exact h7 x hx k hk
theorem CC.seto (hC : CC m C l) (hi : i < l.length) (v : Int32) : zout C (C + 8) m (zsI m (zR m (C + 1) i) 4 v) := by
  have hp := hC.2.2.2.1.1 i (by have := hC.2.2.2.2.2.1; omega)
  exact zout.sI (by omega) (by omega)
/-- a record's cell, apart from the cache -/
def RCl (m : zM) (a : Nat) (rc : sR) : Prop := zOb m a 6 ∧ ∀ k, k < 7 → zI m a k = rc k
theorem RCl.out {lo hi : Nat} (h : RCl m a rc) (ho : zout lo hi m m') (hd : a < lo ∨ hi ≤ a) : RCl m' a rc := ⟨⟨h.1.1, h.1.2.1, by rw [ho.1]; exact h.1.2.2⟩, fun k hk => by rw [ho.I hd]; exact h.2 k hk⟩
theorem sshort_no {x : sR} (h : x 4 ≤ t + 1) : sshort t x = x := by
  funext k
  unfold sshort
  by_cases e : k = 4
  · subst e
    rw [if_pos rfl, if_neg (Int32.not_lt.mpr h)]
  · rw [if_neg e]
theorem sshort_yes {x : sR} (h : ¬ x 4 ≤ t + 1) : sshort t x = fu x 4 (t + 1) := by
  funext k
  unfold sshort fu
  rw [if_pos (Int32.not_le.mp h)]
theorem endRivals_ok (hC : CC m C l) (ha : RCl m a rc) (hd : a < C ∨ C + 8 ≤ a) (hk : ∀ m', CC m' C (l.map (srival t rc)) → zout C (C + 8) m m' → Q .null m') : zC (d + 1) M0_endRivals 0 0 [.ref C, .ref a, .int (t + 1)] m Q := by
  have loop : ∀ c l1 l2 m1 t4, l2.length < c → l = l1 ++ l2 → CC m1 C (l1.map (srival t rc) ++ l2) → zout C (C + 8) m m1 → zwp (d + 1) M0_endRivals 0 0 Q 2 [.ref C, .ref a, .int (t + 1), .int (nI l1.length), t4] [] 0 0 m1 := by
    intro c
    induction c with
    | zero => intro l1 l2 m1 t4 h1; omega
    | succ c ih =>
      intro l1 l2 m1 t4 h1 h2 h3 h4
      have ha1 := ha.out h4 hd
      have hr := h3.2.2.1
      have hs := h3.2.2.2.2.1
      have h6 := h3.2.2.2.2.2.1
      have hlen : (l1.map (srival t rc) ++ l2).length = l1.length + l2.length := by rw [List.length_append, List.length_map]
      rw [hlen] at hs h6
      cases l2 with
      | nil =>
        refine zr_iload_n dX0_endRivals_2 rfl ?_
        refine zr_aload_n dX0_endRivals_3 rfl ?_
        refine zr_getI dX0_endRivals_4 fd_0_18 rfl (h3.ob rfl) ?_
        rw [hs]
        refine zr_icmp_geN (tgt := 75) dX0_endRivals_7 (by decide) (by omega) (by omega) (fun hc_7 => ?_) (fun hc_7 => absurd hc_7 (by show ¬ l1.length < l1.length + 0; omega))
        refine zr_return dX0_endRivals_75 rfl (Nat.le_refl _) (Nat.le_refl _) ?_
        rw [List.append_nil] at h2 h3
        subst h2
        exact hk _ h3 h4
      | cons x l2 =>
        have hlt : l1.length < (l1.map (srival t rc) ++ x :: l2).length := by rw [hlen]; show _ < _ + (_ + 1); omega
        have h6' : l1.length < 6 := by have : (x :: l2).length = l2.length + 1 := rfl; omega
        have hx : zg (l1.map (srival t rc) ++ x :: l2) l1.length = x := by
          unfold zg
          rw [List.getD_eq_getElem?_getD, List.getElem?_append_right (by rw [List.length_map]; exact Nat.le_refl _), List.length_map, Nat.sub_self]
          rfl
        have go : ∀ m2 t4, zout C (C + 8) m1 m2 → CC m2 C (l1.map (srival t rc) ++ srival t rc x :: l2) → zwp (d + 1) M0_endRivals 0 0 Q 2 [.ref C, .ref a, .int (t + 1), .int (nI (l1.length + 1)), t4] [] 0 0 m2 := by
          intro m2 t4 o2 c2
          have := ih (l1 ++ [x]) l2 m2 t4 (by have : (x :: l2).length = l2.length + 1 := rfl; omega) (by rw [h2, List.append_assoc]; rfl) (by rw [List.map_append, List.append_assoc]; exact c2) (h4.tr o2)
          rw [List.length_append] at this
          exact this
        refine zr_iload_n dX0_endRivals_2 rfl ?_
        refine zr_aload_n dX0_endRivals_3 rfl ?_
        refine zr_getI dX0_endRivals_4 fd_0_18 rfl (h3.ob rfl) ?_
        rw [hs]
        refine zr_icmp_geN (tgt := 75) dX0_endRivals_7 (by decide) (by omega) (by omega) (fun hc_7 => absurd hc_7 (by show ¬ _ + (_ + 1) ≤ _; omega)) (fun hc_7 => ?_)
        refine zr_aload_n dX0_endRivals_10 rfl ?_
        refine zr_getR dX0_endRivals_11 fd_0_11 rfl (h3.ob rfl) hr (by omega) ?_
        refine zr_iload_n dX0_endRivals_14 rfl ?_
        refine zr_aaloadN dX0_endRivals_15 (h3.ar rfl) (by decide) (by decide) h6' (by decide) rfl (h3.nz h6') ?_
        refine zr_astore dX0_endRivals_16 (by decide) rfl ?_
        dsimp only [zset]
        refine zr_aload dX0_endRivals_18 rfl ?_
        refine zr_getI dX0_endRivals_20 fd_0_26 rfl (h3.eo h6' rfl) ?_
        rw [h3.at hlt (by decide), hx]
        refine zr_aload_n dX0_endRivals_23 rfl ?_
        refine zr_getI dX0_endRivals_24 fd_0_42 rfl ha1.1 ?_
        rw [ha1.2 0 (by decide)]
        refine zr_icmp_ne (tgt := 69) dX0_endRivals_27 (by decide) (fun hc_27 => ?_) (fun hc_27 => ?_)
        · have e : srival t rc x = x := by unfold srival; rw [if_neg (by simp [sone]; intro z; exact absurd z hc_27)]
          refine zr_iincN dX0_endRivals_69 rfl (by decide) rfl ?_
          dsimp only [zset]
          refine zr_goto (tgt := 2) dX0_endRivals_72 (by decide) ?_
          first
          | (refine go m1 _ zout.rf ?_
             rw [e]
             exact h3)
          | (refine go _ _ (h3.seto hlt _) ?_
             have := h3.sete hlt (t + 1)
             rw [hx, ← e] at this
             have e2 : (l1.map (srival t rc) ++ x :: l2).set l1.length (srival t rc x) = l1.map (srival t rc) ++ srival t rc x :: l2 := by
               rw [List.set_append_right _ _ (by rw [List.length_map]; exact Nat.le_refl _), List.length_map, Nat.sub_self]
               rfl
             rw [e2] at this
             exact this)
          | fail "none"
        · refine zr_aload dX0_endRivals_30 rfl ?_
          refine zr_getI dX0_endRivals_32 fd_0_29 rfl (h3.eo h6' rfl) ?_
          rw [h3.at hlt (by decide), hx]
          refine zr_aload_n dX0_endRivals_35 rfl ?_
          refine zr_getI dX0_endRivals_36 fd_0_45 rfl ha1.1 ?_
          rw [ha1.2 1 (by decide)]
          refine zr_icmp_ne (tgt := 69) dX0_endRivals_39 (by decide) (fun hc_39 => ?_) (fun hc_39 => ?_)
          · have e : srival t rc x = x := by unfold srival; rw [if_neg (by simp [sone]; intro _ z; exact absurd z hc_39)]
            refine zr_iincN dX0_endRivals_69 rfl (by decide) rfl ?_
            dsimp only [zset]
            refine zr_goto (tgt := 2) dX0_endRivals_72 (by decide) ?_
            first
            | (refine go m1 _ zout.rf ?_
               rw [e]
               exact h3)
            | (refine go _ _ (h3.seto hlt _) ?_
               have := h3.sete hlt (t + 1)
               rw [hx, ← e] at this
               have e2 : (l1.map (srival t rc) ++ x :: l2).set l1.length (srival t rc x) = l1.map (srival t rc) ++ srival t rc x :: l2 := by
                 rw [List.set_append_right _ _ (by rw [List.length_map]; exact Nat.le_refl _), List.length_map, Nat.sub_self]
                 rfl
               rw [e2] at this
               exact this)
            | fail "none"
          · refine zr_aload dX0_endRivals_42 rfl ?_
            refine zr_getI dX0_endRivals_44 fd_0_32 rfl (h3.eo h6' rfl) ?_
            rw [h3.at hlt (by decide), hx]
            refine zr_aload_n dX0_endRivals_47 rfl ?_
            refine zr_getI dX0_endRivals_48 fd_0_46 rfl ha1.1 ?_
            rw [ha1.2 2 (by decide)]
            refine zr_icmp_eq (tgt := 69) dX0_endRivals_51 (by decide) (fun hc_51 => ?_) (fun hc_51 => ?_)
            · have e : srival t rc x = x := by unfold srival; rw [if_neg (by simp [sone, ssame, hc_27, hc_39, hc_51])]
              refine zr_iincN dX0_endRivals_69 rfl (by decide) rfl ?_
              dsimp only [zset]
              refine zr_goto (tgt := 2) dX0_endRivals_72 (by decide) ?_
              first
              | (refine go m1 _ zout.rf ?_
                 rw [e]
                 exact h3)
              | (refine go _ _ (h3.seto hlt _) ?_
                 have := h3.sete hlt (t + 1)
                 rw [hx, ← e] at this
                 have e2 : (l1.map (srival t rc) ++ x :: l2).set l1.length (srival t rc x) = l1.map (srival t rc) ++ srival t rc x :: l2 := by
                   rw [List.set_append_right _ _ (by rw [List.length_map]; exact Nat.le_refl _), List.length_map, Nat.sub_self]
                   rfl
                 rw [e2] at this
                 exact this)
              | fail "none"
            · refine zr_aload dX0_endRivals_54 rfl ?_
              refine zr_getI dX0_endRivals_56 fd_0_35 rfl (h3.eo h6' rfl) ?_
              rw [h3.at hlt (by decide), hx]
              refine zr_iload_n dX0_endRivals_59 rfl ?_
              refine zr_icmp_le (tgt := 69) dX0_endRivals_60 (by decide) (fun hc_60 => ?_) (fun hc_60 => ?_)
              · have e : srival t rc x = x := by
                  unfold srival
                  rw [if_pos (by simp [sone, ssame, hc_27, hc_39, hc_51])]
                  exact sshort_no hc_60
                refine zr_iincN dX0_endRivals_69 rfl (by decide) rfl ?_
                dsimp only [zset]
                refine zr_goto (tgt := 2) dX0_endRivals_72 (by decide) ?_
                first
                | (refine go m1 _ zout.rf ?_
                   rw [e]
                   exact h3)
                | (refine go _ _ (h3.seto hlt _) ?_
                   have := h3.sete hlt (t + 1)
                   rw [hx, ← e] at this
                   have e2 : (l1.map (srival t rc) ++ x :: l2).set l1.length (srival t rc x) = l1.map (srival t rc) ++ srival t rc x :: l2 := by
                     rw [List.set_append_right _ _ (by rw [List.length_map]; exact Nat.le_refl _), List.length_map, Nat.sub_self]
                     rfl
                   rw [e2] at this
                   exact this)
                | fail "none"
              · have e : srival t rc x = fu x 4 (t + 1) := by
                  unfold srival
                  rw [if_pos (by simp [sone, ssame, hc_27, hc_39, hc_51])]
                  exact sshort_yes hc_60
                refine zr_aload dX0_endRivals_63 rfl ?_
                refine zr_iload_n dX0_endRivals_65 rfl ?_
                refine zr_putI dX0_endRivals_66 fd_0_35 rfl (h3.eo h6' rfl) ?_
                refine zr_iincN dX0_endRivals_69 rfl (by decide) rfl ?_
                dsimp only [zset]
                refine zr_goto (tgt := 2) dX0_endRivals_72 (by decide) ?_
                first
                | (refine go m1 _ zout.rf ?_
                   rw [e]
                   exact h3)
                | (refine go _ _ (h3.seto hlt _) ?_
                   have := h3.sete hlt (t + 1)
                   rw [hx, ← e] at this
                   have e2 : (l1.map (srival t rc) ++ x :: l2).set l1.length (srival t rc x) = l1.map (srival t rc) ++ srival t rc x :: l2 := by
                     rw [List.set_append_right _ _ (by rw [List.length_map]; exact Nat.le_refl _), List.length_map, Nat.sub_self]
                     rfl
                   rw [e2] at this
                   exact this)
                | fail "none"
  refine zenterP (Or.inl (by decide +kernel)) rfl (fun h => by cases h) (Nat.le_of_ble_eq_true rfl) ?_
  show zwp _ _ _ _ _ 0 [_, _, _, zU, zU] [] 0 0 _
  refine zr_iconst (v := nI 0) dX0_endRivals_0 rfl ?_
  refine zr_istore_n dX0_endRivals_1 (by decide) rfl ?_
  dsimp only [zset]
  exact loop _ [] l m _ (Nat.lt_succ_self _) rfl hC zout.rf
end
