/-! ===== the reference: its cells, its row 'all' as a link, and the methods that only look ===== -/
/-- the reference's object stands at 667, its arrays behind it -/
def MI (m : zM) : Prop := zn m = 676 ∧ zR m 667 0 = 668 ∧ zR m 667 2 = 669 ∧ zR m 667 3 = 670 ∧ zR m 667 4 = 671 ∧ zR m 667 7 = 672 ∧ zR m 667 8 = 673 ∧ zR m 667 9 = 674 ∧ zR m 667 12 = 675
theorem MI.of {m m' : zM} (h : MI m) (h1 : m'.2.1 = m.2.1) (h2 : m'.2.2.2.2 = m.2.2.2.2) : MI m' := by
  unfold MI zn zR at h ⊢
  rw [h1, h2]
  exact h
section
variable {m m' : zM}
theorem MI.mv (h : MI m) (e : m'.2 = m.2) : MI m' := h.of (by rw [e]) (by rw [e])
theorem MI.n6 (h : MI m) (e : m'.2 = m.2) : zn m' = 676 := (h.mv e).1
theorem MI.ob (h : MI m) (e : m'.2 = m.2) : zOb m' 667 9 := ⟨rfl, by decide, by rw [h.n6 e]; decide⟩
theorem MI.r0 (h : MI m) (e : m'.2 = m.2) : zR m' 667 0 = 668 := (h.mv e).2.1
theorem MI.r2 (h : MI m) (e : m'.2 = m.2) : zR m' 667 2 = 669 := (h.mv e).2.2.1
theorem MI.r3 (h : MI m) (e : m'.2 = m.2) : zR m' 667 3 = 670 := (h.mv e).2.2.2.1
theorem MI.r4 (h : MI m) (e : m'.2 = m.2) : zR m' 667 4 = 671 := (h.mv e).2.2.2.2.1
theorem MI.r7 (h : MI m) (e : m'.2 = m.2) : zR m' 667 7 = 672 := (h.mv e).2.2.2.2.2.1
theorem MI.r8 (h : MI m) (e : m'.2 = m.2) : zR m' 667 8 = 673 := (h.mv e).2.2.2.2.2.2.1
theorem MI.r9 (h : MI m) (e : m'.2 = m.2) : zR m' 667 9 = 674 := (h.mv e).2.2.2.2.2.2.2.1
theorem MI.r12 (h : MI m) (e : m'.2 = m.2) : zR m' 667 12 = 675 := (h.mv e).2.2.2.2.2.2.2.2
theorem MI.a668 (h : MI m) (e : m'.2 = m.2) : zAr m' 668 12 424 := ⟨rfl, by decide, by rw [h.n6 e]; decide⟩
theorem MI.a669 (h : MI m) (e : m'.2 = m.2) : zAr m' 669 12 2120 := ⟨rfl, by decide, by rw [h.n6 e]; decide⟩
theorem MI.a670 (h : MI m) (e : m'.2 = m.2) : zAr m' 670 11 5 := ⟨rfl, by decide, by rw [h.n6 e]; decide⟩
theorem MI.a671 (h : MI m) (e : m'.2 = m.2) : zAr m' 671 12 424 := ⟨rfl, by decide, by rw [h.n6 e]; decide⟩
theorem MI.a672 (h : MI m) (e : m'.2 = m.2) : zAr m' 672 12 3 := ⟨rfl, by decide, by rw [h.n6 e]; decide⟩
theorem MI.a673 (h : MI m) (e : m'.2 = m.2) : zAr m' 673 14 256 := ⟨rfl, by decide, by rw [h.n6 e]; decide⟩
theorem MI.a674 (h : MI m) (e : m'.2 = m.2) : zAr m' 674 12 120 := ⟨rfl, by decide, by rw [h.n6 e]; decide⟩
theorem MI.a675 (h : MI m) (e : m'.2 = m.2) : zAr m' 675 12 5 := ⟨rfl, by decide, by rw [h.n6 e]; decide⟩
end
/-- the memory with a row of ints set -/
def zrow (m : zM) (a : Nat) (g : Nat → Int32) : zM := (fun x j => if x = a then g j else m.1 x j, m.2)
theorem zrow_s (m : zM) (a : Nat) (g : Nat → Int32) : zI (zrow m a g) a = g := by funext j; simp [zI, zrow]
theorem zrow_n (m : zM) {a b : Nat} (g : Nat → Int32) (h : b ≠ a) : zI (zrow m a g) b = zI m b := by funext j; simp [zI, zrow, h]
theorem zrow_id (m : zM) (a : Nat) : zrow m a (zI m a) = m := by
  unfold zrow
  refine Prod.ext ?_ rfl
  funext x j
  simp only [zI]
  by_cases h : x = a
  · rw [if_pos h, h]
  · rw [if_neg h]
theorem zrow_zrow (m : zM) (a : Nat) (g g' : Nat → Int32) : zrow (zrow m a g) a g' = zrow m a g' := by
  unfold zrow
  refine Prod.ext ?_ rfl
  funext x j
  by_cases h : x = a <;> simp [h]
theorem zrow_comm (m : zM) {a b : Nat} (g g' : Nat → Int32) (h : a ≠ b) : zrow (zrow m a g) b g' = zrow (zrow m b g') a g := by
  unfold zrow
  refine Prod.ext ?_ rfl
  funext x j
  by_cases h1 : x = a
  · have : ¬ x = b := fun z => h (h1.symm.trans z)
    simp [h1, h]
  · by_cases h2 : x = b <;> simp [h1, h2]
    intro h3; exact absurd h3.symm h
theorem zsI_row (m : zM) (a j : Nat) (g : Nat → Int32) (v : Int32) : zsI (zrow m a g) a j v = zrow m a (fu g j v) := by
  unfold zrow zsI
  refine Prod.ext ?_ rfl
  funext x k
  by_cases h : x = a <;> simp [zu, fu, h]
theorem zsI_rw (m : zM) (a j : Nat) (v : Int32) : zsI m a j v = zrow m a (fu (zI m a) j v) := by
  have := zsI_row m a j (zI m a) v
  rwa [zrow_id] at this
section
variable {d : Nat} {M : zMeth} {mc ms : Nat} {Q : Value → zM → Prop} {pc : Nat} {ls st : List Value} {uc us : Nat} {m : zM} {f : Nat → Int32}
theorem zr_ialoadA {j : Nat} (hd : decode M.2.2.1 pc = .ok (.iaload, 1)) (ha : zAr (zrow m 668 f) 668 12 424) (hj : j < 424) (kk : zwp d M mc ms Q (pc + 1) ls (.int (f j) :: st) uc us (zrow m 668 f)) : zwp d M mc ms Q pc ls (.int (nI j) :: .ref 668 :: st) uc us (zrow m 668 f) :=
  zr_ialoadN hd ha hj (by decide) (by rw [zrow_s]; exact kk)
theorem zr_iastoreA {j : Nat} {v : Int32} (hd : decode M.2.2.1 pc = .ok (.iastore, 1)) (ha : zAr (zrow m 668 f) 668 12 424) (hj : j < 424) (kk : zwp d M mc ms Q (pc + 1) ls st uc us (zrow m 668 (fu f j v))) : zwp d M mc ms Q pc ls (.int v :: .int (nI j) :: .ref 668 :: st) uc us (zrow m 668 f) :=
  zr_iastoreN hd ha hj (by decide) (by rw [zsI_row]; exact kk)
end
/-! the row 'all' as a link -/
def RAh (f : Nat → Int32) (h : Nat) (x : sH) : Prop :=
  f (10 + 4 * h) = x.1 ∧ f (10 + 4 * h + 1) = x.2.1 ∧ f (10 + 4 * h + 2) = nI x.2.2.1.length ∧ f (10 + 4 * h + 3) = nI x.2.2.2.length ∧ x.2.2.1.length ≤ 5 ∧ x.2.2.2.length ≤ 6 ∧
  (∀ r, r < x.2.2.1.length → ∀ k, k < 7 → f (34 + 7 * (5 * h + r) + k) = zat x.2.2.1 r k) ∧ ∀ i, i < x.2.2.2.length → ∀ k, k < 5 → f (244 + 5 * (6 * h + i) + k) = zat x.2.2.2 i k
def RA (f : Nat → Int32) (s : sS) : Prop := f 0 = nI s.2.2.1 ∧ s.2.2.1 ≤ 6 ∧ (∀ k, 1 ≤ k → k ≤ 6 → f k = s.1 k) ∧ ∀ h, h < s.2.2.1 → RAh f h (s.2.2.2 h)
section
variable {f g : Nat → Int32} {s : sS} {h : Nat}
theorem RA.h6 (hA : RA f s) (hh : h < s.2.2.1) : h < 6 := Nat.lt_of_lt_of_le hh hA.2.1
theorem RA.awk (hA : RA f s) (hh : h < s.2.2.1) : f (10 + 4 * h) = (s.2.2.2 h).1 := (hA.2.2.2 h hh).1
theorem RA.prx (hA : RA f s) (hh : h < s.2.2.1) : f (10 + 4 * h + 1) = (s.2.2.2 h).2.1 := (hA.2.2.2 h hh).2.1
theorem RA.cnt (hA : RA f s) (hh : h < s.2.2.1) : f (10 + 4 * h + 2) = nI (s.2.2.2 h).2.2.1.length := (hA.2.2.2 h hh).2.2.1
theorem RA.siz (hA : RA f s) (hh : h < s.2.2.1) : f (10 + 4 * h + 3) = nI (s.2.2.2 h).2.2.2.length := (hA.2.2.2 h hh).2.2.2.1
theorem RA.c5 (hA : RA f s) (hh : h < s.2.2.1) : (s.2.2.2 h).2.2.1.length ≤ 5 := (hA.2.2.2 h hh).2.2.2.2.1
theorem RA.s6 (hA : RA f s) (hh : h < s.2.2.1) : (s.2.2.2 h).2.2.2.length ≤ 6 := (hA.2.2.2 h hh).2.2.2.2.2.1
theorem RA.rec (hA : RA f s) (hh : h < s.2.2.1) {r : Nat} (hr : r < (s.2.2.2 h).2.2.1.length) : ∀ k, k < 7 → f (34 + 7 * (5 * h + r) + k) = (s.2.2.2 h).2.2.1.getD r z0 k := (hA.2.2.2 h hh).2.2.2.2.2.2.1 r hr
theorem RA.ent (hA : RA f s) (hh : h < s.2.2.1) {i : Nat} (hi : i < (s.2.2.2 h).2.2.2.length) : ∀ k, k < 5 → f (244 + 5 * (6 * h + i) + k) = (s.2.2.2 h).2.2.2.getD i z0 k := (hA.2.2.2 h hh).2.2.2.2.2.2.2 i hi
/-- the places of a host -/
def hreg (h j : Nat) : Prop := (10 + 4 * h ≤ j ∧ j < 14 + 4 * h) ∨ (34 + 35 * h ≤ j ∧ j < 69 + 35 * h) ∨ (244 + 30 * h ≤ j ∧ j < 274 + 30 * h)
theorem RAh.off {x : sH} (hx : RAh f h x) (hg : ∀ j, hreg h j → g j = f j) : RAh g h x := by
  obtain ⟨h1, h2, h3, h4, h5, h6, h7, h8⟩ := hx
  refine ⟨by rw [hg _ (by unfold hreg; omega)]; exact h1, by rw [hg _ (by unfold hreg; omega)]; exact h2, by rw [hg _ (by unfold hreg; omega)]; exact h3, by rw [hg _ (by unfold hreg; omega)]; exact h4, h5, h6, fun r hr k hk => ?_, fun i hi k hk => ?_⟩
  · rw [hg _ (by unfold hreg; omega)]; exact h7 r hr k hk
  · rw [hg _ (by unfold hreg; omega)]; exact h8 i hi k hk
theorem hreg_ne {h h' j : Nat} (h1 : h < 6) (h2 : h' < 6) (hn : h' ≠ h) (hj : hreg h' j) : ¬ hreg h j := by unfold hreg at *; omega
theorem RA.host {x : sH} (hA : RA f s) (hh : h < s.2.2.1) (hg : ∀ j, ¬ hreg h j → g j = f j) (hx : RAh g h x) : RA g (shst s h x) := by
  obtain ⟨h1, h2, h3, h4⟩ := hA
  refine ⟨by rw [hg 0 (by unfold hreg; omega)]; exact h1, h2, fun k hk1 hk2 => by rw [hg k (by unfold hreg; omega)]; exact h3 k hk1 hk2, fun h' hh' => ?_⟩
  have hh'' : h' < s.2.2.1 := hh'
  show RAh g h' (fu s.2.2.2 h x h')
  by_cases e : h' = h
  · subst e; rw [fu_s]; exact hx
  · rw [fu_n _ _ e]
    exact (h4 h' hh'').off (fun j hj => hg j (hreg_ne (by omega) (by omega) e hj))
theorem RA.sc (hA : RA f s) {k : Nat} (h1 : 1 ≤ k) (h6 : k ≤ 6) (v : Int32) : RA (fu f k v) (scnt s k v) := by
  obtain ⟨a1, a2, a3, a4⟩ := hA
  refine ⟨by rw [fu_n _ _ (by omega)]; exact a1, a2, fun j hj1 hj2 => ?_, fun h hh => ?_⟩
  · show fu f k v j = fu s.1 k v j
    unfold fu
    split
    · rfl
    · exact a3 j hj1 hj2
  · refine (a4 h hh).off (fun j hj => fu_n _ _ ?_)
    unfold hreg at hj
    omega
end
/-! the methods that only look -/
section
variable {d : Nat} {Q : Value → zM → Prop} {m : zM} {f : Nat → Int32} {s : sS}
theorem lg_lt {x y : Int64} : lg_cmp x y < 0 ↔ x < y := by
  have := lg_cmp_ge x y
  rw [← Int32.not_le, this, Int64.not_le]
theorem lg_gt {x y : Int64} : 0 < lg_cmp x y ↔ y < x := by
  unfold lg_cmp
  by_cases h1 : x > y
  · simp [h1]
  · by_cases h2 : x = y <;> simp [h1, h2]
end
