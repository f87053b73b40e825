/-! ===== the class: a cache changes ===== -/
/-- a row of references -/
def zrwR (m : zM) (a : Nat) (g : Nat → Nat) : zM := (m.1, (fun x j => if x = a then g j else m.2.1 x j), m.2.2)
theorem zrwR_s (m : zM) (a : Nat) (g : Nat → Nat) : zR (zrwR m a g) a = g := by funext j; simp [zR, zrwR]
theorem zrwR_n (m : zM) {a b : Nat} (g : Nat → Nat) (h : b ≠ a) : zR (zrwR m a g) b = zR m b := by funext j; simp [zR, zrwR, h]
theorem zrwR_id (m : zM) (a : Nat) : zrwR m a (zR m a) = m := by
  unfold zrwR
  refine Prod.ext rfl (Prod.ext ?_ rfl)
  funext x j
  simp only [zR]
  by_cases h : x = a
  · rw [if_pos h, h]
  · rw [if_neg h]
theorem zsR_rwR (m : zM) (a j : Nat) (g : Nat → Nat) (v : Nat) : zsR (zrwR m a g) a j v = zrwR m a (fu g j v) := by
  unfold zrwR zsR
  refine Prod.ext rfl (Prod.ext ?_ rfl)
  funext x k
  by_cases h : x = a <;> simp [zu, fu, h]
theorem zsI_rwR (m : zM) (a b k : Nat) (g : Nat → Nat) (v : Int32) : zsI (zrwR m a g) b k v = zrwR (zsI m b k v) a g := rfl
theorem zout.rwR {lo hi a : Nat} {m : zM} {g : Nat → Nat} (h1 : lo ≤ a) (h2 : a < hi) : zout lo hi m (zrwR m a g) := ⟨rfl, fun b hb => ⟨rfl, zrwR_n m g (by omega), rfl, rfl⟩⟩
/-- those from i to j come one place nearer -/
def rot (f : Nat → Nat) (i j : Nat) : Nat → Nat := fun x => if i ≤ x ∧ x < j then f (x + 1) else f x
theorem rot_0 (f : Nat → Nat) (i : Nat) : rot f i i = f := by
  funext x
  unfold rot
  rw [if_neg (by omega)]
theorem rot_s (f : Nat → Nat) {i j : Nat} (h : i ≤ j) : fu (rot f i j) j (f (j + 1)) = rot f i (j + 1) := by
  funext x
  unfold fu rot
  by_cases e : x = j
  · subst e
    rw [if_pos rfl, if_pos (by omega)]
  · rw [if_neg e]
    by_cases h2 : i ≤ x ∧ x < j
    · rw [if_pos h2, if_pos (by omega)]
    · rw [if_neg h2, if_neg (by omega)]
/-- the whole round: the i-th of n goes behind the others -/
def rotn (f : Nat → Nat) (i n : Nat) : Nat → Nat := fu (rot f i (n - 1)) (n - 1) (f i)
theorem rotn_lt {f : Nat → Nat} {i n x : Nat} (hx : x < n - 1) : rotn f i n x = f (if x < i then x else x + 1) := by
  unfold rotn
  rw [fu_n _ _ (by omega)]
  unfold rot
  by_cases h : x < i
  · rw [if_neg (by omega), if_pos h]
  · rw [if_pos (by omega), if_neg h]
theorem rotn_pm {f : Nat → Nat} {b N i n : Nat} (hi : i < n) (hn : n ≤ N) (h : zpm f b N) : zpm (rotn f i n) b N := by
  have key : ∀ x, x < N → ∃ y, y < N ∧ rotn f i n x = f y ∧ ((x < n - 1 ∧ y = if x < i then x else x + 1) ∨ (x = n - 1 ∧ y = i) ∨ (n ≤ x ∧ y = x)) := by
    intro x hx
    by_cases h1 : x < n - 1
    · refine ⟨if x < i then x else x + 1, ?_, rotn_lt h1, Or.inl ⟨h1, rfl⟩⟩
      split <;> omega
    · by_cases h2 : x = n - 1
      · refine ⟨i, by omega, ?_, Or.inr (Or.inl ⟨h2, rfl⟩)⟩
        unfold rotn
        rw [h2, fu_s]
      · refine ⟨x, hx, ?_, Or.inr (Or.inr ⟨by omega, rfl⟩)⟩
        unfold rotn
        rw [fu_n _ _ h2]
        unfold rot
        rw [if_neg (by omega)]
  refine ⟨fun x hx => ?_, fun x y hx hy e => ?_⟩
  · obtain ⟨y, y1, y2, -⟩ := key x hx
    rw [y2]
    exact h.1 y y1
  · obtain ⟨x', x1, x2, x3⟩ := key x hx
    obtain ⟨y', y1, y2, y3⟩ := key y hy
    rw [x2, y2] at e
    have e' := h.2 _ _ x1 y1 e
    subst e'
    rcases x3 with ⟨a1, a2⟩ | ⟨a1, a2⟩ | ⟨a1, a2⟩ <;> rcases y3 with ⟨b1, b2⟩ | ⟨b1, b2⟩ | ⟨b1, b2⟩
    all_goals (repeat' split at a2) <;> (repeat' split at b2) <;> omega
section
variable {d : Nat} {Q : Value → zM → Prop} {m : zM} {C i : Nat} {l : List sR} {n k q t : Int32}
theorem CC.rot (hC : CC m C l) (hi : i < l.length) : CC (zrwR (zsI m C 1 (nI (l.length - 1))) (C + 1) (rotn (zR m (C + 1)) i l.length)) C (l.eraseIdx i) := by
  obtain ⟨h1, h2, h3, h4, h5, h6, h7⟩ := hC
  have hl : (l.eraseIdx i).length = l.length - 1 := List.length_eraseIdx_of_lt hi
  refine ⟨h1, h2, ?_, ?_, ?_, by rw [hl]; omega, fun x hx k hk => ?_⟩
  · rw [zrwR_n _ _ (by omega)]; exact h3
  · rw [zrwR_s]; exact rotn_pm hi h6 h4
  · rw [hl]
    exact zI_s m C 1 _
  · rw [hl] at hx
    rw [zrwR_s, rotn_lt hx]
    have hne : ∀ y, y < 6 → zR m (C + 1) y ≠ C := fun y hy => by have := h4.1 y hy; omega
    have e : zI (zrwR (zsI m C 1 (nI (l.length - 1))) (C + 1) (rotn (zR m (C + 1)) i l.length)) (zR m (C + 1) (if x < i then x else x + 1)) k = zI m (zR m (C + 1) (if x < i then x else x + 1)) k := zI_n m _ (Or.inl (hne _ (by split <;> omega)))
    rw [e, h7 _ (by split <;> omega) k hk]
    have := zat_erase (l := l) (j := i) (i := x) (k := k)
    unfold zat at this
    rw [this]
    split <;> rfl
theorem removeAt_no (hC : CC m C l) (hn : n < 0) (hk : Q .null m) : zC (d + 1) M0_removeAt 0 0 [.ref C, .int n] m Q := by
  refine zenterP (Or.inl (by decide +kernel)) rfl (fun h => by cases h) (Nat.le_of_ble_eq_true rfl) ?_
  show zwp _ _ _ _ _ 0 [_, _, zU, zU] [] 0 0 _
  refine zr_iload_n dX0_removeAt_0 rfl ?_
  refine zr_if_lt (tgt := 12) dX0_removeAt_1 (by decide) (fun hc_1 => ?_) (fun hc_1 => absurd hn hc_1)
  refine zr_return dX0_removeAt_12 rfl (Nat.le_refl _) (Nat.le_refl _) ?_
  exact hk
theorem removeAt_ok (hC : CC m C l) (hi : i < l.length) (hk : ∀ m', CC m' C (l.eraseIdx i) → zout C (C + 8) m m' → Q .null m') : zC (d + 1) M0_removeAt 0 0 [.ref C, .int (nI i)] m Q := by
  have hr := hC.2.2.1
  have hs := hC.2.2.2.2.1
  have h6 := hC.2.2.2.2.2.1
  have loop : ∀ c j, l.length - 1 - j < c → i ≤ j → j ≤ l.length - 1 → zwp (d + 1) M0_removeAt 0 0 Q 22 [.ref C, .int (nI i), .ref (zR m (C + 1) i), .int (nI j)] [] 0 0 (zrwR m (C + 1) (rot (zR m (C + 1)) i j)) := by
    intro c
    induction c with
    | zero => intro j h1; omega
    | succ c ih =>
      intro j h1 h2 h3
      have hs2 : ∀ g, zI (zrwR m (C + 1) g) C 1 = nI l.length := fun g => hs
      have hr2 : ∀ g, zR (zrwR m (C + 1) g) C 0 = C + 1 := fun g => by rw [zrwR_n _ _ (by omega)]; exact hr
      refine zr_iload_n dX0_removeAt_22 rfl ?_
      refine zr_aload_n dX0_removeAt_23 rfl ?_
      refine zr_getI dX0_removeAt_24 fd_0_18 rfl (hC.ob rfl) ?_
      rw [hs2]
      refine zr_iconst (v := nI 1) dX0_removeAt_27 rfl ?_
      refine zr_isubN dX0_removeAt_28 (by omega) ?_
      refine zr_icmp_geN (tgt := 52) dX0_removeAt_29 (by decide) (by omega) (by omega) (fun hc_29 => ?_) (fun hc_29 => ?_)
      · have e : j = l.length - 1 := by omega
        subst e
        refine zr_aload_n dX0_removeAt_52 rfl ?_
        refine zr_dup dX0_removeAt_53 rfl ?_
        refine zr_getI dX0_removeAt_54 fd_0_18 rfl (hC.ob rfl) ?_
        rw [hs2]
        refine zr_iconst (v := nI 1) dX0_removeAt_57 rfl ?_
        refine zr_isubN dX0_removeAt_58 (by omega) ?_
        refine zr_putI dX0_removeAt_59 fd_0_18 rfl (hC.ob rfl) ?_
        refine zr_aload_n dX0_removeAt_62 rfl ?_
        refine zr_getR dX0_removeAt_63 fd_0_11 rfl (hC.ob rfl) (show zR (zsI (zrwR m (C + 1) (rot (zR m (C + 1)) i (l.length - 1))) C 1 (nI (l.length - 1))) C 0 = C + 1 from hr2 _) (by omega) ?_
        refine zr_aload_n dX0_removeAt_66 rfl ?_
        refine zr_getI dX0_removeAt_67 fd_0_18 rfl (hC.ob rfl) ?_
        rw [zI_s]
        refine zr_aload_n dX0_removeAt_70 rfl ?_
        refine zr_aastoreN dX0_removeAt_71 (hC.ar rfl) (by decide) (by decide) (by omega) (by decide) (hC.eo (by omega) rfl) ?_
        refine zr_return dX0_removeAt_72 rfl (Nat.le_refl _) (Nat.le_refl _) ?_
        rw [zsI_rwR, zsR_rwR]
        exact hk _ (hC.rot hi) (zout.tr (m' := zsI m C 1 (nI (l.length - 1))) (zout.sI (by omega) (by omega)) (zout.rwR (by omega) (by omega)))
      · refine zr_aload_n dX0_removeAt_32 rfl ?_
        refine zr_getR dX0_removeAt_33 fd_0_11 rfl (hC.ob rfl) (hr2 _) (by omega) ?_
        refine zr_iload_n dX0_removeAt_36 rfl ?_
        refine zr_aload_n dX0_removeAt_37 rfl ?_
        refine zr_getR dX0_removeAt_38 fd_0_11 rfl (hC.ob rfl) (hr2 _) (by omega) ?_
        refine zr_iload_n dX0_removeAt_41 rfl ?_
        refine zr_iconst (v := nI 1) dX0_removeAt_42 rfl ?_
        refine zr_iaddN dX0_removeAt_43 ?_
        refine zr_aaloadN dX0_removeAt_44 (hC.ar rfl) (by decide) (by decide) (by omega) (by decide) (show zR (zrwR m (C + 1) (rot (zR m (C + 1)) i j)) (C + 1) (j + 1) = zR m (C + 1) (j + 1) by rw [zrwR_s]; unfold rot; rw [if_neg (by omega)]) (hC.nz (by omega)) ?_
        refine zr_aastoreN dX0_removeAt_45 (hC.ar rfl) (by decide) (by decide) (by omega) (by decide) (hC.eo (by omega) rfl) ?_
        rw [zsR_rwR, rot_s _ h2]
        refine zr_iincN dX0_removeAt_46 rfl (by decide) rfl ?_
        dsimp only [zset]
        refine zr_goto (tgt := 22) dX0_removeAt_49 (by decide) ?_
        exact ih (j + 1) (by omega) (by omega) (by omega)
  refine zenterP (Or.inl (by decide +kernel)) rfl (fun h => by cases h) (Nat.le_of_ble_eq_true rfl) ?_
  show zwp _ _ _ _ _ 0 [_, _, zU, zU] [] 0 0 _
  refine zr_iload_n dX0_removeAt_0 rfl ?_
  refine zr_if_lt (tgt := 12) dX0_removeAt_1 (by decide) (fun hc_1 => absurd hc_1 (nI_pos (by omega))) (fun hc_1 => ?_)
  refine zr_iload_n dX0_removeAt_4 rfl ?_
  refine zr_aload_n dX0_removeAt_5 rfl ?_
  refine zr_getI dX0_removeAt_6 fd_0_18 rfl (hC.ob rfl) ?_
  rw [hs]
  refine zr_icmp_ltN (tgt := 13) dX0_removeAt_9 (by decide) (by omega) (by omega) (fun hc_9 => ?_) (fun hc_9 => absurd hi (by omega))
  refine zr_aload_n dX0_removeAt_13 rfl ?_
  refine zr_getR dX0_removeAt_14 fd_0_11 rfl (hC.ob rfl) hr (by omega) ?_
  refine zr_iload_n dX0_removeAt_17 rfl ?_
  refine zr_aaloadN dX0_removeAt_18 (hC.ar rfl) (by decide) (by decide) (by omega) (by decide) rfl (hC.nz (by omega)) ?_
  refine zr_astore_n dX0_removeAt_19 (by decide) rfl ?_
  dsimp only [zset]
  refine zr_iload_n dX0_removeAt_20 rfl ?_
  refine zr_istore_n dX0_removeAt_21 (by decide) rfl ?_
  dsimp only [zset]
  have := loop _ i (Nat.lt_succ_self _) (Nat.le_refl _) (by omega)
  rw [rot_0, zrwR_id] at this
  exact this
end
