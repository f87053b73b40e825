/-! ===== the reference: an order ===== -/
section
variable {d : Nat} {Q : Value → zM → Prop} {m : zM} {g : Nat → Int32} {p : Nat} {t : List Int32} {q : sT} {b : Bool} {c : Int32}
theorem tc_m1 {p : Nat} (h : tc t p ≠ -1) : p < t.length := by
  unfold tc at h
  split at h
  · assumption
  · exact absurd rfl h
theorem tc_olb {p : Nat} (h : olb (tc t p) = true) : p < t.length ∧ tc t p = tg t p := by
  unfold tc at h ⊢
  split at h
  · rename_i z
    exact ⟨z, if_pos z⟩
  · exact absurd h (by decide)
theorem takes_b {to : Nat} (hM : MI m) (hT : RT (zI m 667 10) (zI m 674) t) (hp : p ≤ t.length) (hq : tAt t p q) (hio : q.2.1 = true) (hb : q.2.2.2.2.1 = to) (hto : to < oneed q.2.2.1)
    (hfr : q.2.2.2.2.2 = 0 ∨ (p < t.length → sfig (tg t p) = false)) (hst : to < oleast q.2.2.1 ∨ (p < t.length ∧ sfig (tg t p) = true))
    (hk : ∀ r p' v, (r = true → p ≤ p' ∧ p' ≤ t.length ∧ (∃ k, tAt t p' (q.1, true, q.2.2.1, fu q.2.2.2.1 to v, to + 1, k)) ∧ (p' < t.length → sfig (tg t p') = false)) → (r = false → tBad t p') → Q (.int (bI r)) (zpn m p' (fu g to v))) : zC (d + 3) M9_takes 0 0 [.ref 667, .int (nI to)] (zpn m p g) Q :=
  takes_ok hM hT hp hq hio hb hto hfr hst (fun p' v k a0 a1 a2 a3 => hk true p' v (fun _ => ⟨a0, a1, ⟨k, a2⟩, a3⟩) (fun z => by cases z)) (fun p' v a1 => hk false p' v (fun z => by cases z) (fun _ => a1))
theorem readsOrder_92 {O : List sO} {N : Nat → Int32} {bg k : Nat} {t3 t4 : Int32} (hM : MI m) (hT : RT (zI m 667 10) (zI m 674) t) (hp : p ≤ t.length) (hq : tAt t p (O, true, c, N, bg, k)) (hl : oleast c ≤ bg)
    (hJ : (bg = oneed c ∧ (k = 0 ∨ (p < t.length → sfig (tg t p) = false))) ∨ (p < t.length → sfig (tg t p) = false ∧ tg t p ≠ nI 32))
    (hgo : ∀ p' k', p < p' → p' ≤ t.length → tAt t p' (O ++ [(c, N)], false, c, N, bg, k') → zwp (d + 4) M9_readsOrder 0 0 Q 113 [.ref 667, .int (bI b), .int c, .int t3, .int t4] [] 0 0 (zpn m p' g))
    (hbad : ∀ p' g', tBad t p' → Q (.int (bI false)) (zpn m p' g')) : zwp (d + 4) M9_readsOrder 0 0 Q 92 [.ref 667, .int (bI b), .int c, .int t3, .int t4] [] 0 0 (zpn m p g) := by
  have hT2 := hT.2.1
  refine zr_aload_n dX9_readsOrder_92 rfl ?_
  refine zr_cV0 rfl dX9_readsOrder_93 cv_9_239 (MI.ob hM ⟨rfl, rfl⟩) (Nat.le_of_ble_eq_true rfl) (here_ok hM hT hp hq (fun p1 k1 a1 a2 a3 a4 a5 a6 => ?_))
  refine zr_bipush (v := nI 59) dX9_readsOrder_96 rfl ?_
  dsimp only at a3
  refine zr_icmp_eq (tgt := 103) dX9_readsOrder_98 (by decide) (fun hc_98 => ?_) (fun hc_98 => ?_)
  · have hl1 : p1 < t.length := tc_m1 (by rw [hc_98]; decide)
    have h59 : tg t p1 = nI 59 := by
      unfold tc at hc_98
      rw [if_pos hl1] at hc_98
      exact hc_98
    have e11 : zI (zpn m p1 g) 667 11 = nI p1 := zpn_p
    refine zr_aload_n dX9_readsOrder_103 rfl ?_
    refine zr_dup dX9_readsOrder_104 rfl ?_
    refine zr_getI dX9_readsOrder_105 fd_9_232 rfl (MI.ob hM ⟨rfl, rfl⟩) ?_
    rw [e11]
    refine zr_iconst (v := nI 1) dX9_readsOrder_108 rfl ?_
    refine zr_iaddN dX9_readsOrder_109 ?_
    refine zr_putI dX9_readsOrder_110 fd_9_232 rfl (MI.ob hM ⟨rfl, rfl⟩) ?_
    rw [zpn_sp]
    refine hgo (p1 + 1) k1 (by omega) (by omega) (a3.step ?_)
    rw [h59]
    exact tst_e hl
  · refine zr_iconst (v := bI false) dX9_readsOrder_101 rfl ?_
    refine zr_zreturnB dX9_readsOrder_102 rfl (Nat.le_refl _) (Nat.le_refl _) ?_
    refine hbad p1 g ⟨_, a3, a2, ?_⟩
    by_cases hl1 : p1 < t.length
    · refine Or.inl ⟨hl1, ?_⟩
      by_cases hf : sfig (tg t p1) = true
      · refine tst_fn hf (Or.inr ?_)
        rcases hJ with ⟨z1, z2⟩ | z1
        · refine ⟨?_, z1⟩
          rcases a4 with ⟨z3, z4⟩ | ⟨-, z4⟩
          · rcases z2 with z5 | z5
            · exact z4.trans z5
            · subst z3
              rw [z5 hl1] at hf
              cases hf
          · exact z4
        · exfalso
          rcases a4 with ⟨z3, z4⟩ | ⟨z3, -⟩
          · subst z3
            rw [(z1 hl1).1] at hf
            cases hf
          · exact (z1 (by omega)).2 (a5 z3)
      · refine tst_en (a6 hl1) (Bool.eq_false_iff.mpr hf) (fun z => ?_)
        exfalso
        refine hc_98 ?_
        unfold tc
        rw [if_pos hl1]
        exact z
    · exact Or.inr ⟨by omega, rfl⟩
theorem readsOrder_53 {O : List sO} {N : Nat → Int32} {k : Nat} {t3 t4 : Int32} (hM : MI m) (hT : RT (zI m 667 10) (zI m 674) t) (hp : p ≤ t.length) (hc : olet c) (hq : tAt t p (O, true, c, N, oleast c, k)) (hk0 : k = 0 ∨ (p < t.length → sfig (tg t p) = false))
    (hg : ∀ j, j < oleast c → g j = N j) (hN : ∀ j, oleast c ≤ j → N j = -1)
    (hgo : ∀ p' g' N' b' k', p < p' → p' ≤ t.length → tAt t p' (O ++ [(c, N')], false, c, N', b', k') → (∀ j, j < oneed c → g' j = N' j) → zwp (d + 4) M9_readsOrder 0 0 Q 113 [.ref 667, .int (bI b), .int c, .int t3, .int t4] [] 0 0 (zpn m p' g'))
    (hbad : ∀ p' g', tBad t p' → Q (.int (bI false)) (zpn m p' g')) : zwp (d + 4) M9_readsOrder 0 0 Q 53 [.ref 667, .int (bI b), .int c, .int t3, .int t4] [] 0 0 (zpn m p g) := by
  have hT2 := hT.2.1
  refine zr_iload_n dX9_readsOrder_53 rfl ?_
  refine zr_bipush (v := nI 122) dX9_readsOrder_54 rfl ?_
  refine zr_icmp_ne (tgt := 92) dX9_readsOrder_56 (by decide) (fun hc_56 => ?_) (fun hc_56 => ?_)
  · first
    | (refine readsOrder_92 hM hT b3 b4 (show oleast (nI 122) ≤ 2 by decide) (Or.inl ⟨rfl, Or.inr b5⟩) (fun p' k' c1 c2 c3 => hgo p' _ _ _ k' (by omega) c2 c3 (fun j hj => ?_)) hbad
       have hj2 : j < 2 := hj
       match j, hj2 with
       | 0, _ => rw [fu_n _ _ (by decide), fu_n _ _ (by decide), fu_n _ _ (by decide)]; exact hg 0 (by decide)
       | 1, _ => rw [fu_s, fu_s])
    | (refine readsOrder_92 hM hT a2 a3 (Nat.le_refl _) (Or.inr (fun z => ⟨hnf z, a6 z⟩)) (fun p' k' c1 c2 c3 => hgo p' _ _ _ k' (Nat.lt_of_le_of_lt a1 c1) c2 c3 (fun j hj => ?_)) hbad
       have hj2 : j < 2 := hj
       match j, hj2 with
       | 0, _ => rw [fu_n _ _ (by decide)]; exact hg 0 (by decide)
       | 1, _ => rw [fu_s]; exact (hN 1 (by decide)).symm)
    | (have e : oleast c = oneed c := if_neg hc_56
       exact readsOrder_92 hM hT hp hq (Nat.le_refl _) (Or.inl ⟨e, hk0⟩) (fun p' k' a1 a2 a3 => hgo p' g N _ k' a1 a2 a3 (fun j hj => hg j (by omega))) hbad)
    | fail "none"
  · subst hc_56
    refine zr_aload_n dX9_readsOrder_59 rfl ?_
    refine zr_getR dX9_readsOrder_60 fd_9_33 rfl (MI.ob hM ⟨rfl, rfl⟩) (MI.r12 hM ⟨rfl, rfl⟩) (by decide) ?_
    refine zr_iconst (v := nI 1) dX9_readsOrder_63 rfl ?_
    refine zr_iconst (v := -1) dX9_readsOrder_64 rfl ?_
    refine zr_iastoreN (j := 1) dX9_readsOrder_65 (MI.a675 hM ⟨rfl, rfl⟩) (by decide) (by decide) ?_
    rw [zpn_sg]
    refine zr_aload_n dX9_readsOrder_66 rfl ?_
    refine zr_cV0 rfl dX9_readsOrder_67 cv_9_239 (MI.ob hM ⟨rfl, rfl⟩) (Nat.le_of_ble_eq_true rfl) (here_ok hM hT hp hq (fun p1 k1 a1 a2 a3 a4 a5 a6 => ?_))
    dsimp only at a3
    have e11 : ∀ x, zI (zpn m p1 x) 667 11 = nI p1 := fun x => zpn_p
    have hk1 : k1 = 0 ∨ (p1 < t.length → sfig (tg t p1) = false) := by
      rcases a4 with ⟨z1, z2⟩ | ⟨-, z2⟩
      · subst z1
        rw [z2]
        exact hk0
      · exact Or.inl z2
    refine zr_pop dX9_readsOrder_70 rfl ?_
    refine zr_aload_n dX9_readsOrder_71 rfl ?_
    refine zr_aload_n dX9_readsOrder_72 rfl ?_
    refine zr_getI dX9_readsOrder_73 fd_9_232 rfl (MI.ob hM ⟨rfl, rfl⟩) ?_
    rw [e11]
    refine zr_cV1 rfl dX9_readsOrder_76 cv_9_242 (MI.ob hM ⟨rfl, rfl⟩) (Nat.le_of_ble_eq_true rfl) (isFigure_ok hM hT (by omega) ?_)
    refine zr_if_eqB (tgt := 92) dX9_readsOrder_79 (by decide) (fun hc_79 => ?_) (fun hc_79 => ?_)
    · have hnf : p1 < t.length → sfig (tg t p1) = false := fun z => by simpa [z] using hc_79
      first
      | (refine readsOrder_92 hM hT b3 b4 (show oleast (nI 122) ≤ 2 by decide) (Or.inl ⟨rfl, Or.inr b5⟩) (fun p' k' c1 c2 c3 => hgo p' _ _ _ k' (by omega) c2 c3 (fun j hj => ?_)) hbad
         have hj2 : j < 2 := hj
         match j, hj2 with
         | 0, _ => rw [fu_n _ _ (by decide), fu_n _ _ (by decide), fu_n _ _ (by decide)]; exact hg 0 (by decide)
         | 1, _ => rw [fu_s, fu_s])
      | (refine readsOrder_92 hM hT a2 a3 (Nat.le_refl _) (Or.inr (fun z => ⟨hnf z, a6 z⟩)) (fun p' k' c1 c2 c3 => hgo p' _ _ _ k' (Nat.lt_of_le_of_lt a1 c1) c2 c3 (fun j hj => ?_)) hbad
         have hj2 : j < 2 := hj
         match j, hj2 with
         | 0, _ => rw [fu_n _ _ (by decide)]; exact hg 0 (by decide)
         | 1, _ => rw [fu_s]; exact (hN 1 (by decide)).symm)
      | (have e : oleast c = oneed c := if_neg hc_56
         exact readsOrder_92 hM hT hp hq (Nat.le_refl _) (Or.inl ⟨e, hk0⟩) (fun p' k' a1 a2 a3 => hgo p' g N _ k' a1 a2 a3 (fun j hj => hg j (by omega))) hbad)
      | fail "none"
    · have hf : p1 < t.length ∧ sfig (tg t p1) = true := by simpa using hc_79
      refine zr_aload_n dX9_readsOrder_82 rfl ?_
      refine zr_iconst (v := nI 1) dX9_readsOrder_83 rfl ?_
      refine zr_cV1 rfl dX9_readsOrder_84 cv_9_248 (MI.ob hM ⟨rfl, rfl⟩) (Nat.le_of_ble_eq_true rfl) (takes_b (to := 1) hM hT a2 a3 rfl rfl (show 1 < oneed (nI 122) by decide) hk1 (Or.inr hf) (fun r p2 v b1 b2 => ?_))
      refine zr_if_neB (tgt := 92) dX9_readsOrder_87 (by decide) (fun hc_87 => ?_) (fun hc_87 => ?_)
      · obtain ⟨b0, b3, ⟨k2, b4⟩, b5⟩ := b1 hc_87
        dsimp only at b4
        first
        | (refine readsOrder_92 hM hT b3 b4 (show oleast (nI 122) ≤ 2 by decide) (Or.inl ⟨rfl, Or.inr b5⟩) (fun p' k' c1 c2 c3 => hgo p' _ _ _ k' (by omega) c2 c3 (fun j hj => ?_)) hbad
           have hj2 : j < 2 := hj
           match j, hj2 with
           | 0, _ => rw [fu_n _ _ (by decide), fu_n _ _ (by decide), fu_n _ _ (by decide)]; exact hg 0 (by decide)
           | 1, _ => rw [fu_s, fu_s])
        | (refine readsOrder_92 hM hT a2 a3 (Nat.le_refl _) (Or.inr (fun z => ⟨hnf z, a6 z⟩)) (fun p' k' c1 c2 c3 => hgo p' _ _ _ k' (Nat.lt_of_le_of_lt a1 c1) c2 c3 (fun j hj => ?_)) hbad
           have hj2 : j < 2 := hj
           match j, hj2 with
           | 0, _ => rw [fu_n _ _ (by decide)]; exact hg 0 (by decide)
           | 1, _ => rw [fu_s]; exact (hN 1 (by decide)).symm)
        | (have e : oleast c = oneed c := if_neg hc_56
           exact readsOrder_92 hM hT hp hq (Nat.le_refl _) (Or.inl ⟨e, hk0⟩) (fun p' k' a1 a2 a3 => hgo p' g N _ k' a1 a2 a3 (fun j hj => hg j (by omega))) hbad)
        | fail "none"
      · refine zr_iconst (v := bI false) dX9_readsOrder_90 rfl ?_
        refine zr_zreturnB dX9_readsOrder_91 rfl (Nat.le_refl _) (Nat.le_refl _) ?_
        exact hbad _ _ (b2 hc_87)
end
