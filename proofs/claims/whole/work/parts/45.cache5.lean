/-! ===== the class: a cache becomes another ===== -/
section
variable {d : Nat} {Q : Value → zM → Prop} {m m' : zM} {C D i a b : Nat} {l l0 : List sR}
theorem zEb_n {c : Nat} (h : c ≠ a) : zI (zEb m a b) c = zI m c := by
  funext j
  unfold zEb
  rw [zI_n _ _ (Or.inl h), zI_n _ _ (Or.inl h), zI_n _ _ (Or.inl h), zI_n _ _ (Or.inl h), zI_n _ _ (Or.inl h)]
theorem zEb_s {k : Nat} (hk : k < 5) : zI (zEb m a b) a k = zI m b k := by
  unfold zEb
  match k, hk with
  | 0, _ => rw [zI_n _ _ (Or.inr (by decide)), zI_n _ _ (Or.inr (by decide)), zI_n _ _ (Or.inr (by decide)), zI_n _ _ (Or.inr (by decide)), zI_s]
  | 1, _ => rw [zI_n _ _ (Or.inr (by decide)), zI_n _ _ (Or.inr (by decide)), zI_n _ _ (Or.inr (by decide)), zI_s]
  | 2, _ => rw [zI_n _ _ (Or.inr (by decide)), zI_n _ _ (Or.inr (by decide)), zI_s]
  | 3, _ => rw [zI_n _ _ (Or.inr (by decide)), zI_s]
  | 4, _ => rw [zI_s]
theorem zEb_o {lo hi : Nat} (h1 : lo ≤ a) (h2 : a < hi) : zout lo hi m (zEb m a b) := ⟨rfl, fun c hc => ⟨zEb_n (by omega), rfl, rfl, rfl⟩⟩
theorem Cbec_ok (hC : CC m C l0) (hD : CC m D l) (hd : C + 8 ≤ D ∨ D + 8 ≤ C) (hk : ∀ m', CC m' C l → zout C (C + 8) m m' → Q .null m') : zC (d + 2) M0_become 0 0 [.ref C, .ref D] m Q := by
  have hsD := hD.2.2.2.2.1
  have h6 := hD.2.2.2.2.2.1
  have hrD := hD.2.2.1
  have loop : ∀ c i m1, l.length - i < c → i ≤ l.length → zout C (C + 8) m m1 → (∀ x, zR m1 x = zR m x) → zI m1 C 1 = nI l.length → (∀ x, x < i → ∀ k, k < 5 → zI m1 (zR m (C + 1) x) k = zg l x k) → zwp (d + 2) M0_become 0 0 Q 10 [.ref C, .ref D, .int (nI i)] [] 0 0 m1 := by
    intro c
    induction c with
    | zero => intro i m1 h1; omega
    | succ c ih =>
      intro i m1 h1 h2 ho hR hs he
      have hD1 : CC m1 D l := hD.out ho (by omega)
      have hrC : zR m1 C 0 = C + 1 := by rw [hR]; exact hC.2.2.1
      have hrD1 : zR m1 D 0 = D + 1 := by rw [hR]; exact hrD
      refine zr_iload_n dX0_become_10 rfl ?_
      refine zr_aload_n dX0_become_11 rfl ?_
      refine zr_getI dX0_become_12 fd_0_18 rfl (hC.ob ho.1) ?_
      rw [hs]
      refine zr_icmp_geN (tgt := 39) dX0_become_15 (by decide) (by omega) (by omega) (fun hc_15 => ?_) (fun hc_15 => ?_)
      · refine zr_return dX0_become_39 rfl (Nat.le_refl _) (Nat.le_refl _) ?_
        have e : i = l.length := by omega
        subst e
        refine hk m1 ?_ ho
        obtain ⟨q1, q2, q3, q4, q5, q6, q7⟩ := hC
        exact ⟨ho.1.trans q1, q2, hrC, by rw [hR]; exact q4, hs, h6, fun x hx k hk => by rw [hR]; exact he x hx k hk⟩
      · refine zr_aload_n dX0_become_18 rfl ?_
        refine zr_getR dX0_become_19 fd_0_11 rfl (hC.ob ho.1) hrC (by omega) ?_
        refine zr_iload_n dX0_become_22 rfl ?_
        refine zr_aaloadN dX0_become_23 (hC.ar ho.1) (by decide) (by decide) (by omega) (by decide) (show zR m1 (C + 1) i = zR m (C + 1) i by rw [hR]) (hC.nz (by omega)) ?_
        refine zr_aload_n dX0_become_24 rfl ?_
        refine zr_getR dX0_become_25 fd_0_11 rfl (hD1.ob rfl) hrD1 (by omega) ?_
        refine zr_iload_n dX0_become_28 rfl ?_
        refine zr_aaloadN dX0_become_29 (hD1.ar rfl) (by decide) (by decide) (by omega) (by decide) (show zR m1 (D + 1) i = zR m (D + 1) i by rw [hR]) (hD.nz (by omega)) ?_
        refine zr_cV1v rfl dX0_become_30 cv_0_22 (hC.eo (by omega) ho.1) (Nat.le_of_ble_eq_true rfl) (Ebec_ok (hC.eo (by omega) ho.1) (hD.eo (by omega) ho.1) ?_ ?_)
        · have p1 := hC.2.2.2.1.1 i (by omega)
          have p2 := hD.2.2.2.1.1 i (by omega)
          omega
        refine zr_iincN dX0_become_33 rfl (by decide) rfl ?_
        dsimp only [zset]
        refine zr_goto (tgt := 10) dX0_become_36 (by decide) ?_
        have p1 := hC.2.2.2.1.1 i (by omega)
        refine ih (i + 1) _ (by omega) (by omega) (ho.tr (zEb_o (by omega) (by omega))) (fun x => hR x) ?_ (fun x hx k hk => ?_)
        · rw [zEb_n (by omega)]; exact hs
        · by_cases e : x = i
          · subst e
            rw [zEb_s hk]
            have := hD1.at hc_15 hk
            rw [hR] at this
            exact this
          · rw [zEb_n (fun z => e (hC.2.2.2.1.2 _ _ (by omega) (by omega) z))]
            exact he x (by omega) k hk
  refine zenterP (Or.inl (by decide +kernel)) rfl (fun h => by cases h) (Nat.le_of_ble_eq_true rfl) ?_
  show zwp _ _ _ _ _ 0 [_, _, zU] [] 0 0 _
  refine zr_aload_n dX0_become_0 rfl ?_
  refine zr_aload_n dX0_become_1 rfl ?_
  refine zr_getI dX0_become_2 fd_0_18 rfl (hD.ob rfl) ?_
  rw [hsD]
  refine zr_putI dX0_become_5 fd_0_18 rfl (hC.ob rfl) ?_
  refine zr_iconst (v := nI 0) dX0_become_8 rfl ?_
  refine zr_istore_n dX0_become_9 (by decide) rfl ?_
  dsimp only [zset]
  exact loop _ 0 _ (Nat.lt_succ_self _) (Nat.zero_le _) (zout.sI (by omega) (by omega)) (fun x => rfl) (zI_s _ _ _ _) (fun x hx => absurd hx (Nat.not_lt_zero x))
end
