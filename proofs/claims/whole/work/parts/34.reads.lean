/-! ===== the reference: numbers and orders ===== -/
section
variable {d : Nat} {Q : Value → zM → Prop} {m : zM} {g : Nat → Int32} {p : Nat} {t : List Int32} {q : sT}
theorem fu_fu {α : Type} {f : Nat → α} {k : Nat} {a b : α} : fu (fu f k a) k b = fu f k b := by
  funext j
  unfold fu
  split <;> rfl
theorem ten_eq (v c : Int32) : nI 10 * v + c - nI 48 = v * 10 + (c - 48) := by
  rw [Int32.mul_comm, Int32.sub_eq_add_neg, Int32.add_assoc, ← Int32.sub_eq_add_neg]
  rfl
theorem sfig_32 {c : Int32} (h : sfig c = true) : c ≠ nI 32 := by
  rintro rfl
  exact absurd h (by decide)
theorem sfig_m1 {c : Int32} (h : sfig c = true) : c ≠ -1 := by
  rintro rfl
  exact absurd h (by decide)
theorem tst_b {q : sT} : tst q (nI 32) = some (q.1, q.2.1, q.2.2.1, q.2.2.2.1, q.2.2.2.2.1, 0) := if_pos rfl
theorem tst_l {O : List sO} {L c : Int32} {N : Nat → Int32} {b k : Nat} (h : olb c = true) : tst (O, false, L, N, b, k) c = some (O, true, c, (fun _ => -1), 0, 0) := by
  have h1 : c ≠ nI 32 := by rintro rfl; exact absurd h (by decide)
  unfold tst
  dsimp only
  rw [if_neg h1, if_pos rfl, if_pos h]
theorem tst_ln {O : List sO} {L c : Int32} {N : Nat → Int32} {b k : Nat} (h1 : c ≠ nI 32) (h : olb c = false) : tst (O, false, L, N, b, k) c = none := by
  unfold tst
  dsimp only
  rw [if_neg h1, if_pos rfl, if_neg (by rw [h]; decide)]
theorem tst_f1 {O : List sO} {L c : Int32} {N : Nat → Int32} {b : Nat} (h : sfig c = true) (hb : b ≠ oneed L) : tst (O, true, L, N, b, 0) c = some (O, true, L, fu N b (0 * 10 + (c - 48)), b + 1, 1) := by
  unfold tst
  dsimp only
  rw [if_neg (sfig_32 h), if_neg (by decide), if_pos h, if_neg (by omega), if_pos rfl]
theorem tst_f2 {O : List sO} {L c : Int32} {N : Nat → Int32} {b k : Nat} (h : sfig c = true) (h3 : k ≠ 3) (h0 : k ≠ 0) : tst (O, true, L, N, b + 1, k) c = some (O, true, L, fu N b (N b * 10 + (c - 48)), b + 1, k + 1) := by
  unfold tst
  dsimp only
  rw [if_neg (sfig_32 h), if_neg (by decide), if_pos h, if_neg (by omega), if_neg h0, Nat.add_sub_cancel]
theorem tst_fn {O : List sO} {L c : Int32} {N : Nat → Int32} {b k : Nat} (h : sfig c = true) (h3 : k = 3 ∨ (k = 0 ∧ b = oneed L)) : tst (O, true, L, N, b, k) c = none := by
  unfold tst
  dsimp only
  rw [if_neg (sfig_32 h), if_neg (by decide), if_pos h, if_pos h3]
theorem tst_e {O : List sO} {L : Int32} {N : Nat → Int32} {b k : Nat} (h : oleast L ≤ b) : tst (O, true, L, N, b, k) (nI 59) = some (O ++ [(L, N)], false, L, N, b, k) := by
  unfold tst
  dsimp only
  rw [if_neg (by decide), if_neg (by decide), if_neg (by decide), if_pos ⟨rfl, h⟩]
theorem tst_en {O : List sO} {L c : Int32} {N : Nat → Int32} {b k : Nat} (h1 : c ≠ nI 32) (h2 : sfig c = false) (h : c = nI 59 → b < oleast L) : tst (O, true, L, N, b, k) c = none := by
  unfold tst
  dsimp only
  rw [if_neg h1, if_neg (by decide), if_neg (by rw [h2]; decide), if_neg (fun z => by have := h z.1; omega)]
theorem takes_14 {to p0 : Nat} {cc : Int32} (hM : MI m) (hT : RT (zI m 667 10) (zI m 674) t) (h5 : to < 5) (hcc : cc ≠ -1)
    (hkt : ∀ p' v k, p0 ≤ p' → p' ≤ t.length → tAt t p' (q.1, true, q.2.2.1, fu q.2.2.2.1 to v, to + 1, k) → (p' < t.length → sfig (tg t p') = false) → Q (.int (bI true)) (zpn m p' (fu g to v)))
    (hkf : ∀ p' v, tBad t p' → Q (.int (bI false)) (zpn m p' (fu g to v))) : ∀ c n p v, 3 - n < c → 1 ≤ n → n ≤ 3 → p0 ≤ p → p ≤ t.length → tAt t p (q.1, true, q.2.2.1, fu q.2.2.2.1 to v, to + 1, n) →
    zwp (d + 3) M9_takes 0 0 Q 14 [.ref 667, .int (nI to), .int cc, .int (nI n)] [] 0 0 (zpn m p (fu g to v)) := by
  have hT2 := hT.2.1
  intro c
  induction c with
  | zero => intro n p v h1; omega
  | succ c ih =>
    intro n p v h1 h2 h3 h0 h4 hq
    have e11 : zI (zpn m p (fu g to v)) 667 11 = nI p := zpn_p
    refine zr_aload_n dX9_takes_14 rfl ?_
    refine zr_aload_n dX9_takes_15 rfl ?_
    refine zr_getI dX9_takes_16 fd_9_232 rfl (MI.ob hM ⟨rfl, rfl⟩) ?_
    rw [e11]
    refine zr_cV1 rfl dX9_takes_19 cv_9_242 (MI.ob hM ⟨rfl, rfl⟩) (Nat.le_of_ble_eq_true rfl) (isFigure_ok hM hT (by omega) ?_)
    refine zr_if_eqB (tgt := 74) dX9_takes_22 (by decide) (fun hc_22 => ?_) (fun hc_22 => ?_)
    · refine zr_iload_n dX9_takes_74 rfl ?_
      refine zr_iconst (v := -1) dX9_takes_75 rfl ?_
      refine zr_icmp_eq (tgt := 98) dX9_takes_76 (by decide) (fun hc_76 => absurd hc_76 hcc) (fun hc_76 => ?_)
      refine zr_iload_n dX9_takes_79 rfl ?_
      refine zr_if_le (tgt := 98) dX9_takes_80 (by decide) (fun hc_80 => absurd hc_80 (nI_nle (by omega) (by omega))) (fun hc_80 => ?_)
      refine zr_aload_n dX9_takes_83 rfl ?_
      refine zr_aload_n dX9_takes_84 rfl ?_
      refine zr_getI dX9_takes_85 fd_9_232 rfl (MI.ob hM ⟨rfl, rfl⟩) ?_
      rw [e11]
      refine zr_cV1 rfl dX9_takes_88 cv_9_242 (MI.ob hM ⟨rfl, rfl⟩) (Nat.le_of_ble_eq_true rfl) (isFigure_ok hM hT (by omega) ?_)
      refine zr_if_neB (tgt := 98) dX9_takes_91 (by decide) (fun hc_91 => ?_) (fun hc_91 => ?_)
      · refine zr_iconst (v := bI false) dX9_takes_98 rfl ?_
        refine zr_zreturnB dX9_takes_99 rfl (Nat.le_refl _) (Nat.le_refl _) ?_
        first
        | (refine hkt p v n h0 h4 hq (fun z => ?_)
           simpa [z] using hc_91)
        | (have hp : p < t.length ∧ sfig (tg t p) = true := by simpa using hc_91
           have hn : n = 3 := by
             first
             | omega
             | (rw [hc_22] at hc_91; cases hc_91)
           exact hkf p v ⟨_, hq, h4, Or.inl ⟨hp.1, tst_fn hp.2 (Or.inl hn)⟩⟩)
      · refine zr_iconst (v := bI true) dX9_takes_94 rfl ?_
        refine zr_goto (tgt := 99) dX9_takes_95 (by decide) ?_
        refine zr_zreturnB dX9_takes_99 rfl (Nat.le_refl _) (Nat.le_refl _) ?_
        first
        | (refine hkt p v n h0 h4 hq (fun z => ?_)
           simpa [z] using hc_91)
        | (have hp : p < t.length ∧ sfig (tg t p) = true := by simpa using hc_91
           have hn : n = 3 := by
             first
             | omega
             | (rw [hc_22] at hc_91; cases hc_91)
           exact hkf p v ⟨_, hq, h4, Or.inl ⟨hp.1, tst_fn hp.2 (Or.inl hn)⟩⟩)
    · refine zr_iload_n dX9_takes_25 rfl ?_
      refine zr_iconst (v := nI 3) dX9_takes_26 rfl ?_
      refine zr_icmp_geN (tgt := 74) dX9_takes_27 (by decide) (by omega) (by omega) (fun hc_27 => ?_) (fun hc_27 => ?_)
      · refine zr_iload_n dX9_takes_74 rfl ?_
        refine zr_iconst (v := -1) dX9_takes_75 rfl ?_
        refine zr_icmp_eq (tgt := 98) dX9_takes_76 (by decide) (fun hc_76 => absurd hc_76 hcc) (fun hc_76 => ?_)
        refine zr_iload_n dX9_takes_79 rfl ?_
        refine zr_if_le (tgt := 98) dX9_takes_80 (by decide) (fun hc_80 => absurd hc_80 (nI_nle (by omega) (by omega))) (fun hc_80 => ?_)
        refine zr_aload_n dX9_takes_83 rfl ?_
        refine zr_aload_n dX9_takes_84 rfl ?_
        refine zr_getI dX9_takes_85 fd_9_232 rfl (MI.ob hM ⟨rfl, rfl⟩) ?_
        rw [e11]
        refine zr_cV1 rfl dX9_takes_88 cv_9_242 (MI.ob hM ⟨rfl, rfl⟩) (Nat.le_of_ble_eq_true rfl) (isFigure_ok hM hT (by omega) ?_)
        refine zr_if_neB (tgt := 98) dX9_takes_91 (by decide) (fun hc_91 => ?_) (fun hc_91 => ?_)
        · refine zr_iconst (v := bI false) dX9_takes_98 rfl ?_
          refine zr_zreturnB dX9_takes_99 rfl (Nat.le_refl _) (Nat.le_refl _) ?_
          first
          | (refine hkt p v n h0 h4 hq (fun z => ?_)
             simpa [z] using hc_91)
          | (have hp : p < t.length ∧ sfig (tg t p) = true := by simpa using hc_91
             have hn : n = 3 := by
               first
               | omega
               | (rw [hc_22] at hc_91; cases hc_91)
             exact hkf p v ⟨_, hq, h4, Or.inl ⟨hp.1, tst_fn hp.2 (Or.inl hn)⟩⟩)
        · refine zr_iconst (v := bI true) dX9_takes_94 rfl ?_
          refine zr_goto (tgt := 99) dX9_takes_95 (by decide) ?_
          refine zr_zreturnB dX9_takes_99 rfl (Nat.le_refl _) (Nat.le_refl _) ?_
          first
          | (refine hkt p v n h0 h4 hq (fun z => ?_)
             simpa [z] using hc_91)
          | (have hp : p < t.length ∧ sfig (tg t p) = true := by simpa using hc_91
             have hn : n = 3 := by
               first
               | omega
               | (rw [hc_22] at hc_91; cases hc_91)
             exact hkf p v ⟨_, hq, h4, Or.inl ⟨hp.1, tst_fn hp.2 (Or.inl hn)⟩⟩)
      · have hp : p < t.length ∧ sfig (tg t p) = true := by simpa using hc_22
        refine zr_aload_n dX9_takes_30 rfl ?_
        refine zr_getR dX9_takes_31 fd_9_33 rfl (MI.ob hM ⟨rfl, rfl⟩) (MI.r12 hM ⟨rfl, rfl⟩) (by decide) ?_
        refine zr_iload_n dX9_takes_34 rfl ?_
        refine zr_bipush (v := nI 10) dX9_takes_35 rfl ?_
        refine zr_aload_n dX9_takes_37 rfl ?_
        refine zr_getR dX9_takes_38 fd_9_33 rfl (MI.ob hM ⟨rfl, rfl⟩) (MI.r12 hM ⟨rfl, rfl⟩) (by decide) ?_
        refine zr_iload_n dX9_takes_41 rfl ?_
        refine zr_ialoadN dX9_takes_42 (MI.a675 hM ⟨rfl, rfl⟩) (by omega) (by decide) ?_
        rw [zpn_g, fu_s]
        refine zr_imul dX9_takes_43 ?_
        refine zr_aload_n dX9_takes_44 rfl ?_
        refine zr_getR dX9_takes_45 fd_9_30 rfl (MI.ob hM ⟨rfl, rfl⟩) (MI.r9 hM ⟨rfl, rfl⟩) (by decide) ?_
        refine zr_aload_n dX9_takes_48 rfl ?_
        refine zr_getI dX9_takes_49 fd_9_232 rfl (MI.ob hM ⟨rfl, rfl⟩) ?_
        rw [e11]
        refine zr_ialoadN dX9_takes_52 (MI.a674 hM ⟨rfl, rfl⟩) (by omega) (by decide) ?_
        rw [zpn_n (by decide) (by decide), hT.at hp.1]
        refine zr_iadd dX9_takes_53 ?_
        refine zr_bipush (v := nI 48) dX9_takes_54 rfl ?_
        refine zr_isub dX9_takes_56 ?_
        refine zr_iastoreN dX9_takes_57 (MI.a675 hM ⟨rfl, rfl⟩) (by omega) (by decide) ?_
        rw [zpn_sg, fu_fu, ten_eq]
        have e11 : ∀ x, zI (zpn m p x) 667 11 = nI p := fun x => zpn_p
        refine zr_aload_n dX9_takes_58 rfl ?_
        refine zr_dup dX9_takes_59 rfl ?_
        refine zr_getI dX9_takes_60 fd_9_232 rfl (MI.ob hM ⟨rfl, rfl⟩) ?_
        rw [e11]
        refine zr_iconst (v := nI 1) dX9_takes_63 rfl ?_
        refine zr_iaddN dX9_takes_64 ?_
        refine zr_putI dX9_takes_65 fd_9_232 rfl (MI.ob hM ⟨rfl, rfl⟩) ?_
        rw [zpn_sp]
        refine zr_iincN dX9_takes_68 rfl (by decide) rfl ?_
        dsimp only [zset]
        refine zr_goto (tgt := 14) dX9_takes_71 (by decide) ?_
        refine ih (n + 1) (p + 1) _ (by omega) (by omega) (by omega) (by omega) (by omega) (hq.step ?_)
        rw [tst_f2 hp.2 (by omega) (by omega), fu_s, fu_fu]
theorem oleast_le (c : Int32) : oleast c ≤ oneed c := by
  unfold oleast
  split
  · rename_i h; rw [h]; decide
  · exact Nat.le_refl _
theorem oneed_5 (c : Int32) : oneed c ≤ 5 := by
  unfold oneed
  repeat' split
  all_goals decide
theorem takes_ok {to : Nat} (hM : MI m) (hT : RT (zI m 667 10) (zI m 674) t) (hp : p ≤ t.length) (hq : tAt t p q) (hio : q.2.1 = true) (hb : q.2.2.2.2.1 = to) (hto : to < oneed q.2.2.1)
    (hfr : q.2.2.2.2.2 = 0 ∨ (p < t.length → sfig (tg t p) = false)) (hst : to < oleast q.2.2.1 ∨ (p < t.length ∧ sfig (tg t p) = true))
    (hkt : ∀ p' v k, p ≤ p' → p' ≤ t.length → tAt t p' (q.1, true, q.2.2.1, fu q.2.2.2.1 to v, to + 1, k) → (p' < t.length → sfig (tg t p') = false) → Q (.int (bI true)) (zpn m p' (fu g to v)))
    (hkf : ∀ p' v, tBad t p' → Q (.int (bI false)) (zpn m p' (fu g to v))) : zC (d + 3) M9_takes 0 0 [.ref 667, .int (nI to)] (zpn m p g) Q := by
  have hT2 := hT.2.1
  have h5 : to < 5 := by have := oneed_5 q.2.2.1; omega
  have hMz : ∀ p g, MI (zpn m p g) := fun p g => hM.of rfl rfl
  refine zenterP (Or.inl (by decide +kernel)) rfl (fun h => by cases h) (Nat.le_of_ble_eq_true rfl) ?_
  show zwp _ _ _ _ _ 0 [_, _, zU, zU] [] 0 0 _
  refine zr_aload_n dX9_takes_0 rfl ?_
  refine zr_cV0 rfl dX9_takes_1 cv_9_239 (MI.ob hM ⟨rfl, rfl⟩) (Nat.le_of_ble_eq_true rfl) (here_ok hM hT hp hq (fun p1 k a1 a2 a3 a4 a5 a6 => ?_))
  refine zr_istore_n dX9_takes_4 (by decide) rfl ?_
  dsimp only [zset]
  refine zr_iconst (v := nI 0) dX9_takes_5 rfl ?_
  refine zr_istore_n dX9_takes_6 (by decide) rfl ?_
  dsimp only [zset]
  refine zr_aload_n dX9_takes_7 rfl ?_
  refine zr_getR dX9_takes_8 fd_9_33 rfl (MI.ob hM ⟨rfl, rfl⟩) (MI.r12 hM ⟨rfl, rfl⟩) (by decide) ?_
  refine zr_iload_n dX9_takes_11 rfl ?_
  refine zr_iconst (v := nI 0) dX9_takes_12 rfl ?_
  refine zr_iastoreN dX9_takes_13 (MI.a675 hM ⟨rfl, rfl⟩) (by omega) (by decide) ?_
  rw [zpn_sg]
  rw [hio, hb] at a3
  have e11 : zI (zpn m p1 (fu g to (nI 0))) 667 11 = nI p1 := zpn_p
  refine zr_aload_n dX9_takes_14 rfl ?_
  refine zr_aload_n dX9_takes_15 rfl ?_
  refine zr_getI dX9_takes_16 fd_9_232 rfl (MI.ob hM ⟨rfl, rfl⟩) ?_
  rw [e11]
  refine zr_cV1 rfl dX9_takes_19 cv_9_242 (MI.ob hM ⟨rfl, rfl⟩) (Nat.le_of_ble_eq_true rfl) (isFigure_ok hM hT (by omega) ?_)
  refine zr_if_eqB (tgt := 74) dX9_takes_22 (by decide) (fun hc_22 => ?_) (fun hc_22 => ?_)
  · refine zr_iload_n dX9_takes_74 rfl ?_
    refine zr_iconst (v := -1) dX9_takes_75 rfl ?_
    refine zr_icmp_eq (tgt := 98) dX9_takes_76 (by decide) (fun hc_76 => ?_) (fun hc_76 => ?_)
    · refine zr_iconst (v := bI false) dX9_takes_98 rfl ?_
      refine zr_zreturnB dX9_takes_99 rfl (Nat.le_refl _) (Nat.le_refl _) ?_
      refine hkf p1 _ ⟨_, a3, a2, ?_⟩
      by_cases hl : p1 < t.length
      · have hnf : sfig (tg t p1) = false := by simpa [hl] using hc_22
        refine Or.inl ⟨hl, tst_en (a6 hl) hnf (fun z => ?_)⟩
        rcases hst with z2 | ⟨z2, z3⟩
        · exact z2
        · exfalso
          rcases a4 with ⟨z4, -⟩ | ⟨z4, -⟩
          · subst z4
            rw [hnf] at z3
            cases z3
          · exact sfig_32 z3 (a5 z4)
      · exact Or.inr ⟨by omega, rfl⟩
    · refine zr_iload_n dX9_takes_79 rfl ?_
      refine zr_if_le (tgt := 98) dX9_takes_80 (by decide) (fun hc_80 => ?_) (fun hc_80 => ?_)
      · refine zr_iconst (v := bI false) dX9_takes_98 rfl ?_
        refine zr_zreturnB dX9_takes_99 rfl (Nat.le_refl _) (Nat.le_refl _) ?_
        refine hkf p1 _ ⟨_, a3, a2, ?_⟩
        by_cases hl : p1 < t.length
        · have hnf : sfig (tg t p1) = false := by simpa [hl] using hc_22
          refine Or.inl ⟨hl, tst_en (a6 hl) hnf (fun z => ?_)⟩
          rcases hst with z2 | ⟨z2, z3⟩
          · exact z2
          · exfalso
            rcases a4 with ⟨z4, -⟩ | ⟨z4, -⟩
            · subst z4
              rw [hnf] at z3
              cases z3
            · exact sfig_32 z3 (a5 z4)
        · exact Or.inr ⟨by omega, rfl⟩
      · exact absurd (show nI 0 ≤ 0 by decide) hc_80
  · refine zr_iload_n dX9_takes_25 rfl ?_
    refine zr_iconst (v := nI 3) dX9_takes_26 rfl ?_
    refine zr_icmp_geN (tgt := 74) dX9_takes_27 (by decide) (by omega) (by omega) (fun hc_27 => ?_) (fun hc_27 => ?_)
    · exact absurd hc_27 (by decide)
      skip
    · have hf : p1 < t.length ∧ sfig (tg t p1) = true := by simpa using hc_22
      refine zr_aload_n dX9_takes_30 rfl ?_
      refine zr_getR dX9_takes_31 fd_9_33 rfl (MI.ob hM ⟨rfl, rfl⟩) (MI.r12 hM ⟨rfl, rfl⟩) (by decide) ?_
      refine zr_iload_n dX9_takes_34 rfl ?_
      refine zr_bipush (v := nI 10) dX9_takes_35 rfl ?_
      refine zr_aload_n dX9_takes_37 rfl ?_
      refine zr_getR dX9_takes_38 fd_9_33 rfl (MI.ob hM ⟨rfl, rfl⟩) (MI.r12 hM ⟨rfl, rfl⟩) (by decide) ?_
      refine zr_iload_n dX9_takes_41 rfl ?_
      refine zr_ialoadN dX9_takes_42 (MI.a675 hM ⟨rfl, rfl⟩) (by omega) (by decide) ?_
      rw [zpn_g, fu_s]
      refine zr_imul dX9_takes_43 ?_
      refine zr_aload_n dX9_takes_44 rfl ?_
      refine zr_getR dX9_takes_45 fd_9_30 rfl (MI.ob hM ⟨rfl, rfl⟩) (MI.r9 hM ⟨rfl, rfl⟩) (by decide) ?_
      refine zr_aload_n dX9_takes_48 rfl ?_
      refine zr_getI dX9_takes_49 fd_9_232 rfl (MI.ob hM ⟨rfl, rfl⟩) ?_
      rw [e11]
      refine zr_ialoadN dX9_takes_52 (MI.a674 hM ⟨rfl, rfl⟩) (by omega) (by decide) ?_
      rw [zpn_n (by decide) (by decide), hT.at hf.1]
      refine zr_iadd dX9_takes_53 ?_
      refine zr_bipush (v := nI 48) dX9_takes_54 rfl ?_
      refine zr_isub dX9_takes_56 ?_
      refine zr_iastoreN dX9_takes_57 (MI.a675 hM ⟨rfl, rfl⟩) (by omega) (by decide) ?_
      rw [zpn_sg, fu_fu, ten_eq]
      have e11 : ∀ x, zI (zpn m p1 x) 667 11 = nI p1 := fun x => zpn_p
      refine zr_aload_n dX9_takes_58 rfl ?_
      refine zr_dup dX9_takes_59 rfl ?_
      refine zr_getI dX9_takes_60 fd_9_232 rfl (MI.ob hM ⟨rfl, rfl⟩) ?_
      rw [e11]
      refine zr_iconst (v := nI 1) dX9_takes_63 rfl ?_
      refine zr_iaddN dX9_takes_64 ?_
      refine zr_putI dX9_takes_65 fd_9_232 rfl (MI.ob hM ⟨rfl, rfl⟩) ?_
      rw [zpn_sp]
      refine zr_iincN dX9_takes_68 rfl (by decide) rfl ?_
      dsimp only [zset]
      refine zr_goto (tgt := 14) dX9_takes_71 (by decide) ?_
      have hk0 : k = 0 := by
        rcases a4 with ⟨z1, z2⟩ | ⟨-, z2⟩
        · rcases hfr with z | z
          · rw [z2, z]
          · subst z1
            rw [z hf.1] at hf
            exact absurd hf.2 (by decide)
        · exact z2
      subst hk0
      refine takes_14 (q := q) hM hT h5 ?_ hkt hkf _ 1 (p1 + 1) _ (Nat.lt_succ_self _) (by omega) (by omega) (by omega) (by omega) (a3.step ?_)
      · unfold tc
        rw [if_pos hf.1]
        exact sfig_m1 hf.2
      · exact tst_f1 hf.2 (by omega)
end
