/-! ===== the reference: an order, from its beginning ===== -/
section
variable {d : Nat} {Q : Value → zM → Prop} {m : zM} {g : Nat → Int32} {p : Nat} {t : List Int32} {q : sT} {b : Bool} {c : Int32}
theorem readsOrder_30 {O : List sO} {p0 : Nat} (hM : MI m) (hT : RT (zI m 667 10) (zI m 674) t) (hc : olet c)
    (hgo : ∀ p' g' N' b' k' x3 x4, p0 < p' → p' ≤ t.length → tAt t p' (O ++ [(c, N')], false, c, N', b', k') → (∀ j, j < oneed c → g' j = N' j) → zwp (d + 4) M9_readsOrder 0 0 Q 113 [.ref 667, .int (bI b), .int c, .int x3, .int x4] [] 0 0 (zpn m p' g'))
    (hbad : ∀ p' g', tBad t p' → Q (.int (bI false)) (zpn m p' g')) : ∀ f i p g N k, oleast c - i < f → i ≤ oleast c → p0 ≤ p → p ≤ t.length → tAt t p (O, true, c, N, i, k) → (k = 0 ∨ (p < t.length → sfig (tg t p) = false)) → (∀ j, j < i → g j = N j) → (∀ j, i ≤ j → N j = -1) →
    zwp (d + 4) M9_readsOrder 0 0 Q 30 [.ref 667, .int (bI b), .int c, .int (nI (oleast c)), .int (nI i)] [] 0 0 (zpn m p g) := by
  have hT2 := hT.2.1
  have hl5 : oleast c ≤ 5 := Nat.le_trans (oleast_le c) (oneed_5 c)
  have hln := oleast_le c
  intro f
  induction f with
  | zero => intro i p g N k h1; omega
  | succ f ih =>
    intro i p g N k h1 h2 h0 hp hq hk0 hg hN
    refine zr_iload dX9_readsOrder_30 rfl ?_
    refine zr_iload_n dX9_readsOrder_32 rfl ?_
    refine zr_icmp_geN (tgt := 53) dX9_readsOrder_33 (by decide) (by omega) (by omega) (fun hc_33 => ?_) (fun hc_33 => ?_)
    · have e : i = oleast c := by omega
      subst e
      exact readsOrder_53 hM hT hp hc hq hk0 hg hN (fun p' g' N' b' k' z1 z2 z3 z4 => hgo p' g' N' b' k' _ _ (by omega) z2 z3 z4) hbad
    · refine zr_aload_n dX9_readsOrder_36 rfl ?_
      refine zr_iload dX9_readsOrder_37 rfl ?_
      refine zr_cV1 rfl dX9_readsOrder_39 cv_9_248 (MI.ob hM ⟨rfl, rfl⟩) (Nat.le_of_ble_eq_true rfl) (takes_b (to := i) hM hT hp hq rfl rfl (Nat.lt_of_lt_of_le hc_33 hln) hk0 (Or.inl hc_33) (fun r p2 v b1 b2 => ?_))
      refine zr_if_neB (tgt := 47) dX9_readsOrder_42 (by decide) (fun hc_42 => ?_) (fun hc_42 => ?_)
      · obtain ⟨b0, b3, ⟨k2, b4⟩, b5⟩ := b1 hc_42
        dsimp only at b4
        refine zr_iincN dX9_readsOrder_47 rfl (by decide) rfl ?_
        dsimp only [zset]
        refine zr_goto (tgt := 30) dX9_readsOrder_50 (by decide) ?_
        refine ih (i + 1) p2 _ _ k2 (by omega) (by omega) (by omega) b3 b4 (Or.inr b5) (fun j hj => ?_) (fun j hj => ?_)
        · by_cases e : j = i
          · subst e; rw [fu_s, fu_s]
          · rw [fu_n _ _ e, fu_n _ _ e]; exact hg j (by omega)
        · rw [fu_n _ _ (by omega)]; exact hN j (by omega)
      · refine zr_iconst (v := bI false) dX9_readsOrder_45 rfl ?_
        refine zr_zreturnB dX9_readsOrder_46 rfl (Nat.le_refl _) (Nat.le_refl _) ?_
        exact hbad _ _ (b2 hc_42)
theorem readsOrder_0 (hM : MI m) (hT : RT (zI m 667 10) (zI m 674) t) (hp : p ≤ t.length) (hq : tAt t p q) (hio : q.2.1 = false) (hpre : q.1 = [] ∨ (p < t.length ∧ tg t p ≠ nI 32))
    (hgo : ∀ p' g' c N' b' k' x3 x4, p < p' → p' ≤ t.length → olet c → tAt t p' (q.1 ++ [(c, N')], false, c, N', b', k') → (∀ j, j < oneed c → g' j = N' j) → zwp (d + 4) M9_readsOrder 0 0 Q 113 [.ref 667, .int (bI b), .int c, .int x3, .int x4] [] 0 0 (zpn m p' g'))
    (hbad : ∀ p' g', tBad t p' → Q (.int (bI false)) (zpn m p' g')) : zwp (d + 4) M9_readsOrder 0 0 Q 0 [.ref 667, .int (bI b), zU, zU, zU] [] 0 0 (zpn m p g) := by
  have hT2 := hT.2.1
  refine zr_aload_n dX9_readsOrder_0 rfl ?_
  refine zr_cV0 rfl dX9_readsOrder_1 cv_9_239 (MI.ob hM ⟨rfl, rfl⟩) (Nat.le_of_ble_eq_true rfl) (here_ok hM hT hp hq (fun p1 k1 a1 a2 a3 a4 a5 a6 => ?_))
  rw [hio] at a3
  refine zr_istore_n dX9_readsOrder_4 (by decide) rfl ?_
  dsimp only [zset]
  refine zr_iload_n dX9_readsOrder_5 rfl ?_
  refine zr_cS1 rfl dX9_readsOrder_6 cv_9_245 (Nat.le_of_ble_eq_true rfl) (numbersOf_ok ?_)
  refine zr_istore_n dX9_readsOrder_9 (by decide) rfl ?_
  dsimp only [zset]
  refine zr_iload_n dX9_readsOrder_10 rfl ?_
  refine zr_iconst (v := -1) dX9_readsOrder_11 rfl ?_
  refine zr_icmp_ne (tgt := 17) dX9_readsOrder_12 (by decide) (fun hc_12 => ?_) (fun hc_12 => ?_)
  · have hlt : olb (tc t p1) = true := by
      rw [← Bool.not_eq_false]
      intro z
      rw [if_neg (by rw [z]; decide)] at hc_12
      exact hc_12 rfl
    obtain ⟨hl, etc⟩ := tc_olb hlt
    have e11 : zI (zpn m p1 g) 667 11 = nI p1 := zpn_p
    rw [if_pos hlt]
    generalize hcc : tc t p1 = c at *
    refine zr_aload_n dX9_readsOrder_17 rfl ?_
    refine zr_dup dX9_readsOrder_18 rfl ?_
    refine zr_getI dX9_readsOrder_19 fd_9_232 rfl (MI.ob hM ⟨rfl, rfl⟩) ?_
    rw [e11]
    refine zr_iconst (v := nI 1) dX9_readsOrder_22 rfl ?_
    refine zr_iaddN dX9_readsOrder_23 ?_
    refine zr_putI dX9_readsOrder_24 fd_9_232 rfl (MI.ob hM ⟨rfl, rfl⟩) ?_
    rw [zpn_sp]
    refine zr_iconst (v := nI 0) dX9_readsOrder_27 rfl ?_
    refine zr_istore dX9_readsOrder_28 (by decide) rfl ?_
    dsimp only [zset]
    refine readsOrder_30 (p0 := p) hM hT (olb_iff.mp hlt) (fun p' g' N' b' k' x3 x4 z1 z2 z3 z4 => hgo p' g' c N' b' k' x3 x4 z1 z2 (olb_iff.mp hlt) z3 z4) hbad _ 0 (p1 + 1) g (fun _ => -1) 0 (Nat.lt_succ_self _) (Nat.zero_le _) (by omega) (by omega) (a3.step ?_) (Or.inl rfl) (fun j hj => absurd hj (Nat.not_lt_zero j)) (fun j hj => rfl)
    rw [← etc]
    exact tst_l hlt
  · have hlf : olb (tc t p1) = false := by
      rw [← Bool.not_eq_true]
      intro z
      rw [if_pos z] at hc_12
      exact nI_ne_m1 (by have := Nat.le_trans (oleast_le (tc t p1)) (oneed_5 (tc t p1)); omega) hc_12
    refine zr_iconst (v := bI false) dX9_readsOrder_15 rfl ?_
    refine zr_zreturnB dX9_readsOrder_16 rfl (Nat.le_refl _) (Nat.le_refl _) ?_
    refine hbad p1 g ⟨_, a3, a2, ?_⟩
    by_cases hl : p1 < t.length
    · refine Or.inl ⟨hl, tst_ln (a6 hl) ?_⟩
      unfold tc at hlf
      rw [if_pos hl] at hlf
      exact hlf
    · refine Or.inr ⟨by omega, ?_⟩
      rcases hpre with z | ⟨z1, z2⟩
      · show (false || q.1.isEmpty) = true
        rw [z]
        rfl
      · exfalso
        rcases a4 with ⟨z3, -⟩ | ⟨z3, -⟩
        · omega
        · exact z2 (a5 z3)
/-- only read -/
theorem readsOrder_f (hM : MI m) (hT : RT (zI m 667 10) (zI m 674) t) (hp : p ≤ t.length) (hq : tAt t p q) (hio : q.2.1 = false) (hpre : q.1 = [] ∨ (p < t.length ∧ tg t p ≠ nI 32))
    (hk : ∀ r p' g', (r = true → p < p' ∧ p' ≤ t.length ∧ ∃ q', tAt t p' q' ∧ q'.2.1 = false ∧ q'.1 ≠ []) → (r = false → tBad t p') → Q (.int (bI r)) (zpn m p' g')) : zC (d + 4) M9_readsOrder 0 0 [.ref 667, .int (bI false)] (zpn m p g) Q := by
  refine zenterP (Or.inl (by decide +kernel)) rfl (fun h => by cases h) (Nat.le_of_ble_eq_true rfl) ?_
  show zwp _ _ _ _ _ 0 [_, _, zU, zU, zU] [] 0 0 _
  refine readsOrder_0 hM hT hp hq hio hpre (fun p' g' c N' b' k' x3 x4 z1 z2 z3 z4 z5 => ?_) (fun p' g' z => hk false p' g' (fun z => by cases z) (fun _ => z))
  refine zr_iload_n dX9_readsOrder_113 rfl ?_
  refine zr_if_eqB (tgt := 144) dX9_readsOrder_114 (by decide) (fun hc_114 => ?_) (fun hc_114 => absurd hc_114 (by decide))
  refine zr_iconst (v := bI true) dX9_readsOrder_144 rfl ?_
  refine zr_zreturnB dX9_readsOrder_145 rfl (Nat.le_refl _) (Nat.le_refl _) ?_
  exact hk true p' g' (fun _ => ⟨z1, z2, _, z4, rfl, by simp⟩) (fun z => by cases z)
/-- read and done -/
theorem readsOrder_t {s : sS} (hM : MI m) (hT : RT (zI m 667 10) (zI m 674) t) (hp : p ≤ t.length) (hq : tAt t p q) (hio : q.2.1 = false) (hpre : q.1 = [] ∨ (p < t.length ∧ tg t p ≠ nI 32)) (hgood : ∀ p', ¬ tBad t p') (hR : RS m s) (hs : sOK s) (hF : fT s)
    (hk : ∀ p' g' c N' q', p < p' → p' ≤ t.length → olet c → tAt t p' q' → q'.2.1 = false → q'.1 = q.1 ++ [(c, N')] → (oc c N' s < 0 → Q (.int (bI true)) (zsI (zpn m p' g') 667 13 (oc c N' s))) ∧ (oc c N' s = 0 → ∀ m', zkc (zsI (zpn m p' g') 667 13 0) m' → RS m' (od c N' s).2 → Q (.int (bI true)) m')) : zC (d + 10) M9_readsOrder 0 0 [.ref 667, .int (bI true)] (zpn m p g) Q := by
  refine zenterP (Or.inl (by decide +kernel)) rfl (fun h => by cases h) (Nat.le_of_ble_eq_true rfl) ?_
  show zwp _ _ _ _ _ 0 [_, _, zU, zU, zU] [] 0 0 _
  refine readsOrder_0 (d := d + 6) hM hT hp hq hio hpre (fun p' g' c N' b' k' x3 x4 z1 z2 z3 z4 z5 => ?_) (fun p' g' z => absurd z (hgood p'))
  have hk := hk p' g' c N' _ z1 z2 z3 z4 rfl rfl
  have hRz : RS (zpn m p' g') s := ⟨hM.of rfl rfl, by rw [zpn_n (by decide) (by decide)]; exact hR.2.1, hR.2.2⟩
  have hRy : ∀ v, RS (zsI (zpn m p' g') 667 13 v) s := fun v => ⟨hM.of rfl rfl, by rw [zsI_rw, zrow_n _ _ (by decide)]; exact hRz.2.1, hR.2.2⟩
  have hx : ∀ k, k < oneed c → zI (zpn m p' g') 675 k = N' k := fun k h => by rw [zpn_g]; exact z5 k h
  have hy : ∀ v k, k < oneed c → zI (zsI (zpn m p' g') 667 13 v) 675 k = N' k := fun v k h => by rw [zsI_rw, zrow_n _ _ (by decide)]; exact hx k h
  have e13 : ∀ v, zI (zsI (zpn m p' g') 667 13 v) 667 13 = v := fun v => by rw [zsI_rw, zrow_s, fu_s]
  refine zr_iload_n dX9_readsOrder_113 rfl ?_
  refine zr_if_eqB (tgt := 144) dX9_readsOrder_114 (by decide) (fun hc_114 => absurd hc_114 (by decide)) (fun hc_114 => ?_)
  refine zr_aload_n dX9_readsOrder_117 rfl ?_
  refine zr_aload_n dX9_readsOrder_118 rfl ?_
  refine zr_iload_n dX9_readsOrder_119 rfl ?_
  refine zr_cV1 rfl dX9_readsOrder_120 cv_9_251 (MI.ob hM ⟨rfl, rfl⟩) (Nat.le_of_ble_eq_true rfl) (can_m (x := N') z3 hx hRz ?_)
  refine zr_putI dX9_readsOrder_123 fd_9_254 rfl (MI.ob hM ⟨rfl, rfl⟩) ?_
  refine zr_aload_n dX9_readsOrder_126 rfl ?_
  refine zr_getI dX9_readsOrder_127 fd_9_254 rfl (MI.ob hM ⟨rfl, rfl⟩) ?_
  rw [e13]
  refine zr_if_ne (tgt := 141) dX9_readsOrder_130 (by decide) (fun hc_130 => ?_) (fun hc_130 => ?_)
  · have hlt : oc c N' s < 0 := by
      rcases oc_v (s := s) c N' with z | z
      · exact absurd z hc_130
      · exact z.lt
    refine zr_iconst (v := nI 0) dX9_readsOrder_141 rfl ?_
    refine zr_istore dX9_readsOrder_142 (by decide) rfl ?_
    dsimp only [zset]
    refine zr_iconst (v := bI true) dX9_readsOrder_144 rfl ?_
    refine zr_zreturnB dX9_readsOrder_145 rfl (Nat.le_refl _) (Nat.le_refl _) ?_
    first
    | exact hk.1 hlt
    | exact hk.2 hc_130 m' y1 y2
  · rw [hc_130]
    refine zr_aload_n dX9_readsOrder_133 rfl ?_
    refine zr_iload_n dX9_readsOrder_134 rfl ?_
    refine zr_cV1 rfl dX9_readsOrder_135 cv_9_257 (MI.ob hM ⟨rfl, rfl⟩) (Nat.le_of_ble_eq_true rfl) (does_m (x := N') z3 (hy _) (hRy _) hs hF hc_130 (fun m' y1 y2 => ?_))
    refine zr_goto (tgt := 142) dX9_readsOrder_138 (by decide) ?_
    refine zr_istore dX9_readsOrder_142 (by decide) rfl ?_
    dsimp only [zset]
    refine zr_iconst (v := bI true) dX9_readsOrder_144 rfl ?_
    refine zr_zreturnB dX9_readsOrder_145 rfl (Nat.le_refl _) (Nat.le_refl _) ?_
    first
    | exact hk.1 hlt
    | exact hk.2 hc_130 m' y1 y2
end
