/-! ===== answers that are no refusals ===== -/
theorem nE_01 {v : Int32} (h : v = 0 ∨ v = 1) : ¬ oE v := by rcases h with rfl | rfl <;> (unfold oE; decide)
theorem nE_m1 : ¬ oE (-1) := by unfold oE; decide
section
variable {s : sS} {h r k i n q : Int32}
theorem record_ne (hs : sOK s) (hv : sV s) (e : (sisR s h r && sin k 0 7) = true) : ¬ oE (srecth s (hN h) (hN r) (hN k)) := by
  have n6 := hs.1
  rw [Bool.and_eq_true] at e
  obtain ⟨e1, e2⟩ := e
  unfold sisR at e1
  rw [Bool.and_eq_true] at e1
  obtain ⟨a, a1, rfl⟩ := sisH_of n6 e1.1
  rw [nI_clamp (show a < 2 ^ 31 by omega)] at e1
  have h5 := (hs.2 a a1).2.2.1
  obtain ⟨j, j1, rfl⟩ := sisX_of (by omega) e1.2
  obtain ⟨p, p1, p2, rfl⟩ := sin_of (a := 0) (b := 7) e2 rfl rfl (by decide) (by decide)
  rw [hN_nI (show a < 2 ^ 31 by omega), hN_nI (show j < 2 ^ 31 by omega), hN_nI (show p < 2 ^ 31 by omega)]
  obtain ⟨⟨v0, w0, z0⟩, ⟨v1, w1, z1⟩, ⟨v3, w3, z3⟩, z5⟩ := hv.rec a1 j1
  obtain ⟨⟨v4, w4, z4⟩, ⟨v2, w2, z2⟩, z6, -⟩ := hs.rec a1 j1
  rcases (show p = 0 ∨ p = 1 ∨ p = 2 ∨ p = 3 ∨ p = 4 ∨ p = 5 ∨ p = 6 ∨ p = 7 by omega) with rfl | rfl | rfl | rfl | rfl | rfl | rfl | rfl
  · show ¬ oE (zg (s.2.2.2 a).2.2.1 j 0); rw [z0]; exact nE_nI (by omega)
  · show ¬ oE (zg (s.2.2.2 a).2.2.1 j 1); rw [z1]; exact nE_nI (by omega)
  · show ¬ oE (zg (s.2.2.2 a).2.2.1 j 2); rw [z2]; exact nE_nI (by omega)
  · show ¬ oE (zg (s.2.2.2 a).2.2.1 j 3); rw [z3]; exact nE_nI (by omega)
  · show ¬ oE (zg (s.2.2.2 a).2.2.1 j 4); rw [z4]; exact nE_nI (by omega)
  · exact nE_01 z5
  · exact nE_01 z6
  · exact nE_01 (bI_01 _)
theorem i_or6 {o j : Nat} (ho : o < 6) (hj : j < 2 ^ o) : nI j ||| (1 <<< (nI o &&& 31)) = nI (j + 2 ^ o) := by
  have hj2 : j < 64 := Nat.lt_of_lt_of_le hj (Nat.pow_le_pow_right (by decide) (show o ≤ 6 by omega))
  have : ∀ o : Fin 6, ∀ j : Fin 64, j.val < 2 ^ o.val → nI j.val ||| (1 <<< (nI o.val &&& 31)) = nI (j.val + 2 ^ o.val) := by decide +kernel
  exact this ⟨o, ho⟩ ⟨j, hj2⟩ hj
theorem sstood_nI {a : Nat} : ∀ o, o ≤ 6 → ∃ j, j < 2 ^ o ∧ sstood s a o = nI j
  | 0, _ => ⟨0, by decide, rfl⟩
  | o + 1, ho => by
    obtain ⟨j, j1, j2⟩ := sstood_nI (a := a) o (by omega)
    rw [sstood, j2]
    split
    · exact ⟨j + 2 ^ o, by rw [Nat.pow_succ]; omega, i_or6 (by omega) j1⟩
    · exact ⟨j, by rw [Nat.pow_succ]; omega, Int32.or_zero⟩
theorem of_ne (hs : sOK s) (e : (sisH s h && sin k 0 5) = true) : ¬ oE (sof s (hN h) (hN k)) := by
  have n6 := hs.1
  rw [Bool.and_eq_true] at e
  obtain ⟨e1, e2⟩ := e
  obtain ⟨a, a1, rfl⟩ := sisH_of n6 e1
  obtain ⟨p, p1, p2, rfl⟩ := sin_of (a := 0) (b := 5) e2 rfl rfl (by decide) (by decide)
  rw [hN_nI (show a < 2 ^ 31 by omega), hN_nI (show p < 2 ^ 31 by omega)]
  obtain ⟨z1, z2, z3, z4, -⟩ := hs.2 a a1
  rcases (show p = 0 ∨ p = 1 ∨ p = 2 ∨ p = 3 ∨ p = 4 ∨ p = 5 by omega) with rfl | rfl | rfl | rfl | rfl | rfl
  · exact nE_nI (by omega)
  · exact nE_01 z1
  · show ¬ oE (s.2.2.2 a).2.1
    rcases z2 with z | ⟨b, b1, z⟩
    · rw [z]; exact nE_m1
    · rw [z]; exact nE_nI (by omega)
  · exact nE_nI (by omega)
  · refine nE_nI ?_
    have := cntN_le (fun i => sown (zg (s.2.2.2 a).2.2.1 i)) (s.2.2.2 a).2.2.1.length
    unfold sownN
    omega
  · show ¬ oE (sstood s a s.2.2.1)
    obtain ⟨j, j1, j2⟩ := sstood_nI (s := s) (a := a) s.2.2.1 n6
    rw [j2]
    have : 2 ^ s.2.2.1 ≤ 2 ^ 6 := Nat.pow_le_pow_right (by decide) n6
    exact nE_nI (by omega)
theorem entry_ne (hs : sOK s) (hv : sV s) (e : (sisH s h && (decide (0 ≤ i) && sin k 0 4)) = true) : ¬ oE (if i < nI (s.2.2.2 (hN h)).2.2.2.length then sentr s (hN h) (hN i) (hN k) else -1) := by
  have n6 := hs.1
  rw [Bool.and_eq_true, Bool.and_eq_true, decide_eq_true_eq] at e
  obtain ⟨e1, e2, e3⟩ := e
  obtain ⟨a, a1, rfl⟩ := sisH_of n6 e1
  obtain ⟨j, j1, rfl⟩ := nI_of (Int32.not_lt.mpr e2)
  obtain ⟨p, p1, p2, rfl⟩ := sin_of (a := 0) (b := 4) e3 rfl rfl (by decide) (by decide)
  rw [hN_nI (show a < 2 ^ 31 by omega), hN_nI (show p < 2 ^ 31 by omega), hN_nI j1]
  have h6 := (hs.2 a a1).2.2.2.1
  split
  · rename_i hl
    have j6 := (nI_ltI j1 (by omega)).mp hl
    obtain ⟨⟨v0, w0, z0⟩, ⟨v1, w1, z1⟩, ⟨v3, w3, z3⟩⟩ := (hv a a1).2 _ (zg_mem j6)
    obtain ⟨⟨v2, w2, z2⟩, ⟨v4, w4, w4', z4⟩⟩ := (hs.2 a a1).2.2.2.2.2.1 _ (zg_mem j6)
    have sz : ∀ y : Int32, y - (0 : Int32) = y := Int32.sub_zero
    rcases (show p = 0 ∨ p = 1 ∨ p = 2 ∨ p = 3 ∨ p = 4 by omega) with rfl | rfl | rfl | rfl | rfl
    · unfold sentr; rw [if_neg (by decide), sz]; show ¬ oE (zg (s.2.2.2 a).2.2.2 j 0); rw [z0]; exact nE_nI (by omega)
    · unfold sentr; rw [if_neg (by decide), sz]; show ¬ oE (zg (s.2.2.2 a).2.2.2 j 1); rw [z1]; exact nE_nI (by omega)
    · unfold sentr; rw [if_neg (by decide), sz]; show ¬ oE (zg (s.2.2.2 a).2.2.2 j 2); rw [z2]; exact nE_nI (by omega)
    · unfold sentr; rw [if_neg (by decide), sz]; show ¬ oE (zg (s.2.2.2 a).2.2.2 j 3); rw [z3]; exact nE_nI (by omega)
    · show ¬ oE (zg (s.2.2.2 a).2.2.2 j 4 - s.1 1); rw [z4]; exact nE_nI (by omega)
  · exact nE_m1
theorem snewest_v {l : List sR} (hl : ∀ e ∈ l, ∃ j, j < 256 ∧ e 2 = nI j) : ∀ c, c ≤ l.length → ¬ oE (snewest l n k c)
  | 0, _ => nE_m1
  | c + 1, hc => by
    rw [snewest]
    split
    · obtain ⟨j, j1, j2⟩ := hl _ (zg_mem (show c < l.length by omega))
      rw [j2]; exact nE_nI (by omega)
    · exact snewest_v hl c (by omega)
theorem smost_v {l : List sR} {t : Int32} (hl : ∀ e ∈ l, ∃ j, j ≤ 60 ∧ e 4 - t = nI j) : ∀ c, c ≤ l.length → ¬ oE (smost l n k t c)
  | 0, _ => nE_m1
  | c + 1, hc => by
    rw [smost]
    split
    · split
      · obtain ⟨j, j1, j2⟩ := hl _ (zg_mem (show c < l.length by omega))
        rw [j2]; exact nE_nI (by omega)
      · exact smost_v hl c (by omega)
    · exact smost_v hl c (by omega)
theorem finds_ne (hs : sOK s) (e : (sisH s h && (sisN n q && sin k 0 2)) = true) : ¬ oE (sfinds s (hN h) n q (hN k)) := by
  have n6 := hs.1
  rw [Bool.and_eq_true, Bool.and_eq_true] at e
  obtain ⟨e1, e2, e3⟩ := e
  obtain ⟨a, a1, rfl⟩ := sisH_of n6 e1
  obtain ⟨p, p1, p2, rfl⟩ := sin_of (a := 0) (b := 2) e3 rfl rfl (by decide) (by decide)
  rw [hN_nI (show a < 2 ^ 31 by omega), hN_nI (show p < 2 ^ 31 by omega)]
  obtain ⟨-, -, -, z4, -, z6, -⟩ := hs.2 a a1
  rcases (show p = 0 ∨ p = 1 ∨ p = 2 by omega) with rfl | rfl | rfl
  · exact snewest_v (fun e he => (z6 e he).1) _ (Nat.le_refl _)
  · refine nE_nI ?_
    have := cntN_le (fun i => snam (zg (s.2.2.2 a).2.2.2 i) n q) (s.2.2.2 a).2.2.2.length
    omega
  · exact smost_v (fun e he => by obtain ⟨-, j, -, j2, j3⟩ := z6 e he; exact ⟨j, j2, j3⟩) _ (Nat.le_refl _)
theorem sfdata_v {a : Nat} (hl : ∀ e ∈ (s.2.2.2 a).2.2.1, ∃ j, j < 256 ∧ e 2 = nI j) : ∀ c, c ≤ (s.2.2.2 a).2.2.1.length → ¬ oE (sfdata s a n q c)
  | 0, _ => nE_m1
  | c + 1, hc => by
    rw [sfdata]
    split
    · exact sfdata_v hl c (by omega)
    · split
      · obtain ⟨j, j1, j2⟩ := hl _ (zg_mem (show c < (s.2.2.2 a).2.2.1.length by omega))
        rw [j2]; exact nE_nI (by omega)
      · exact nE_m1
theorem owner_ne (hs : sOK s) (e : (sisN n q && sin k 0 2) = true) : ¬ oE (sowner s n q (hN k)) := by
  have n6 := hs.1
  rw [Bool.and_eq_true] at e
  obtain ⟨e1, e2⟩ := e
  obtain ⟨p, p1, p2, rfl⟩ := sin_of (a := 0) (b := 2) e2 rfl rfl (by decide) (by decide)
  rw [hN_nI (show p < 2 ^ 31 by omega)]
  have hc := cntN_le (shas s n q) s.2.2.1
  rcases sfirst_of (s := s) (n := n) (k := q) s.2.2.1 n6 with ⟨f1, f2⟩ | ⟨f, f1, f2, f3, f4⟩
  · rcases (show p = 0 ∨ p = 1 ∨ p = 2 by omega) with rfl | rfl | rfl
    · show ¬ oE (sfirst s n q s.2.2.1); rw [f1]; exact nE_m1
    · show ¬ oE (sdata s n q s.2.2.1); rw [f2]; exact nE_m1
    · exact nE_nI (by omega)
  · rcases (show p = 0 ∨ p = 1 ∨ p = 2 by omega) with rfl | rfl | rfl
    · show ¬ oE (sfirst s n q s.2.2.1); rw [f2]; exact nE_nI (by omega)
    · show ¬ oE (sdata s n q s.2.2.1); rw [f4]
      exact sfdata_v (fun e he => ((hs.2 f f1).2.2.2.2.1 e he).2.1) _ (Nat.le_refl _)
    · exact nE_nI (by omega)
theorem i_sub {a b : Nat} (h : b ≤ a) : nI a - nI b = nI (a - b) := by
  obtain ⟨c, rfl⟩ : ∃ c, a = b + c := ⟨a - b, by omega⟩
  rw [← nI_add, i_addsub, show b + c - b = c by omega]
theorem sall_v {p : Nat} (hs : sOK s) (hp : p ≤ 3) : ∀ c, c ≤ s.2.2.1 → ∃ j, j ≤ 6 * c ∧ sall s p c = nI j
  | 0, _ => ⟨0, Nat.le_refl _, rfl⟩
  | c + 1, hc => by
    obtain ⟨j, j1, j2⟩ := sall_v hs hp c (by omega)
    obtain ⟨z1, -, z3, z4, -⟩ := hs.2 c (by omega)
    have : ∃ i, i ≤ 6 ∧ sallh s p c = nI i := by
      have c1 := cntN_le (fun i => sown (zg (s.2.2.2 c).2.2.1 i)) (s.2.2.2 c).2.2.1.length
      have c2 := cntN_le (fun i => !sownd s (zg (s.2.2.2 c).2.2.2 i)) (s.2.2.2 c).2.2.2.length
      rcases (show p = 0 ∨ p = 1 ∨ p = 2 ∨ p = 3 by omega) with rfl | rfl | rfl | rfl
      · exact ⟨_, z4, rfl⟩
      · exact ⟨sstale s c, by unfold sstale; omega, rfl⟩
      · exact ⟨(s.2.2.2 c).2.2.1.length - sownN (s.2.2.2 c).2.2.1, by omega, i_sub c1⟩
      · rcases z1 with z | z
        · exact ⟨0, by omega, z⟩
        · exact ⟨1, by omega, z⟩
    obtain ⟨i, i1, i2⟩ := this
    refine ⟨j + i, by omega, ?_⟩
    rw [sall, j2, i2, nI_add]
theorem all_ne (hs : sOK s) (e : sin k 0 3 = true) : ¬ oE (sall s (hN k) s.2.2.1) := by
  have n6 := hs.1
  obtain ⟨p, p1, p2, rfl⟩ := sin_of (a := 0) (b := 3) e rfl rfl (by decide) (by decide)
  rw [hN_nI (show p < 2 ^ 31 by omega)]
  obtain ⟨j, j1, j2⟩ := sall_v hs p2 s.2.2.1 (Nat.le_refl _)
  rw [j2]
  exact nE_nI (by omega)
end
