/-! ===== the reference: its cells, its row 'all' as a link, and the methods that only look ===== -/
/-- the reference's object stands at 667, its arrays behind it -/
def MI (m : zM) : Prop := zn m = 676 ∧ zR m 667 0 = 668 ∧ zR m 667 2 = 669 ∧ zR m 667 3 = 670 ∧ zR m 667 4 = 671 ∧ zR m 667 7 = 672 ∧ zR m 667 8 = 673 ∧ zR m 667 9 = 674 ∧ zR m 667 12 = 675
theorem MI.of {m m' : zM} (h : MI m) (h1 : m'.2.1 = m.2.1) (h2 : m'.2.2.2.2 = m.2.2.2.2) : MI m' := by
  unfold MI zn zR at h ⊢
  rw [h1, h2]
  exact h
section
variable {m m' : zM}
theorem MI.mv (h : MI m) (e : m'.2.1 = m.2.1 ∧ m'.2.2.2.2 = m.2.2.2.2) : MI m' := h.of e.1 e.2
theorem MI.n6 (h : MI m) (e : m'.2.1 = m.2.1 ∧ m'.2.2.2.2 = m.2.2.2.2) : zn m' = 676 := (h.mv e).1
theorem MI.ob (h : MI m) (e : m'.2.1 = m.2.1 ∧ m'.2.2.2.2 = m.2.2.2.2) : zOb m' 667 9 := ⟨rfl, by decide, by rw [h.n6 e]; decide⟩
theorem MI.r0 (h : MI m) (e : m'.2.1 = m.2.1 ∧ m'.2.2.2.2 = m.2.2.2.2) : zR m' 667 0 = 668 := (h.mv e).2.1
theorem MI.r2 (h : MI m) (e : m'.2.1 = m.2.1 ∧ m'.2.2.2.2 = m.2.2.2.2) : zR m' 667 2 = 669 := (h.mv e).2.2.1
theorem MI.r3 (h : MI m) (e : m'.2.1 = m.2.1 ∧ m'.2.2.2.2 = m.2.2.2.2) : zR m' 667 3 = 670 := (h.mv e).2.2.2.1
theorem MI.r4 (h : MI m) (e : m'.2.1 = m.2.1 ∧ m'.2.2.2.2 = m.2.2.2.2) : zR m' 667 4 = 671 := (h.mv e).2.2.2.2.1
theorem MI.r7 (h : MI m) (e : m'.2.1 = m.2.1 ∧ m'.2.2.2.2 = m.2.2.2.2) : zR m' 667 7 = 672 := (h.mv e).2.2.2.2.2.1
theorem MI.r8 (h : MI m) (e : m'.2.1 = m.2.1 ∧ m'.2.2.2.2 = m.2.2.2.2) : zR m' 667 8 = 673 := (h.mv e).2.2.2.2.2.2.1
theorem MI.r9 (h : MI m) (e : m'.2.1 = m.2.1 ∧ m'.2.2.2.2 = m.2.2.2.2) : zR m' 667 9 = 674 := (h.mv e).2.2.2.2.2.2.2.1
theorem MI.r12 (h : MI m) (e : m'.2.1 = m.2.1 ∧ m'.2.2.2.2 = m.2.2.2.2) : zR m' 667 12 = 675 := (h.mv e).2.2.2.2.2.2.2.2
theorem MI.a668 (h : MI m) (e : m'.2.1 = m.2.1 ∧ m'.2.2.2.2 = m.2.2.2.2) : zAr m' 668 12 424 := ⟨rfl, by decide, by rw [h.n6 e]; decide⟩
theorem MI.a669 (h : MI m) (e : m'.2.1 = m.2.1 ∧ m'.2.2.2.2 = m.2.2.2.2) : zAr m' 669 12 2120 := ⟨rfl, by decide, by rw [h.n6 e]; decide⟩
theorem MI.a670 (h : MI m) (e : m'.2.1 = m.2.1 ∧ m'.2.2.2.2 = m.2.2.2.2) : zAr m' 670 11 5 := ⟨rfl, by decide, by rw [h.n6 e]; decide⟩
theorem MI.a671 (h : MI m) (e : m'.2.1 = m.2.1 ∧ m'.2.2.2.2 = m.2.2.2.2) : zAr m' 671 12 424 := ⟨rfl, by decide, by rw [h.n6 e]; decide⟩
theorem MI.a672 (h : MI m) (e : m'.2.1 = m.2.1 ∧ m'.2.2.2.2 = m.2.2.2.2) : zAr m' 672 12 3 := ⟨rfl, by decide, by rw [h.n6 e]; decide⟩
theorem MI.a673 (h : MI m) (e : m'.2.1 = m.2.1 ∧ m'.2.2.2.2 = m.2.2.2.2) : zAr m' 673 14 256 := ⟨rfl, by decide, by rw [h.n6 e]; decide⟩
theorem MI.a674 (h : MI m) (e : m'.2.1 = m.2.1 ∧ m'.2.2.2.2 = m.2.2.2.2) : zAr m' 674 12 120 := ⟨rfl, by decide, by rw [h.n6 e]; decide⟩
theorem MI.a675 (h : MI m) (e : m'.2.1 = m.2.1 ∧ m'.2.2.2.2 = m.2.2.2.2) : zAr m' 675 12 5 := ⟨rfl, by decide, by rw [h.n6 e]; decide⟩
end
/-- the memory with a row of ints set -/
def zrow (m : zM) (a : Nat) (g : Nat → Int32) : zM := (fun x j => if x = a then g j else m.1 x j, m.2)
theorem zrow_s (m : zM) (a : Nat) (g : Nat → Int32) : zI (zrow m a g) a = g := by funext j; simp [zI, zrow]
theorem zrow_n (m : zM) {a b : Nat} (g : Nat → Int32) (h : b ≠ a) : zI (zrow m a g) b = zI m b := by funext j; simp [zI, zrow, h]
theorem zrow_id (m : zM) (a : Nat) : zrow m a (zI m a) = m := by
  unfold zrow
  refine Prod.ext ?_ rfl
  funext x j
  simp only [zI]
  by_cases h : x = a
  · rw [if_pos h, h]
  · rw [if_neg h]
theorem zrow_zrow (m : zM) (a : Nat) (g g' : Nat → Int32) : zrow (zrow m a g) a g' = zrow m a g' := by
  unfold zrow
  refine Prod.ext ?_ rfl
  funext x j
  by_cases h : x = a <;> simp [h]
theorem zrow_comm (m : zM) {a b : Nat} (g g' : Nat → Int32) (h : a ≠ b) : zrow (zrow m a g) b g' = zrow (zrow m b g') a g := by
  unfold zrow
  refine Prod.ext ?_ rfl
  funext x j
  by_cases h1 : x = a
  · have : ¬ x = b := fun z => h (h1.symm.trans z)
    simp [h1, h]
  · by_cases h2 : x = b <;> simp [h1, h2]
    intro h3; exact absurd h3.symm h
theorem zsI_row (m : zM) (a j : Nat) (g : Nat → Int32) (v : Int32) : zsI (zrow m a g) a j v = zrow m a (fu g j v) := by
  unfold zrow zsI
  refine Prod.ext ?_ rfl
  funext x k
  by_cases h : x = a <;> simp [zu, fu, h]
theorem zsI_rw (m : zM) (a j : Nat) (v : Int32) : zsI m a j v = zrow m a (fu (zI m a) j v) := by
  have := zsI_row m a j (zI m a) v
  rwa [zrow_id] at this
section
variable {d : Nat} {M : zMeth} {mc ms : Nat} {Q : Value → zM → Prop} {pc : Nat} {ls st : List Value} {uc us : Nat} {m : zM} {f : Nat → Int32}
theorem zr_ialoadA {j : Nat} (hd : decode M.2.2.1 pc = .ok (.iaload, 1)) (ha : zAr (zrow m 668 f) 668 12 424) (hj : j < 424) (kk : zwp d M mc ms Q (pc + 1) ls (.int (f j) :: st) uc us (zrow m 668 f)) : zwp d M mc ms Q pc ls (.int (nI j) :: .ref 668 :: st) uc us (zrow m 668 f) :=
  zr_ialoadN hd ha hj (by decide) (by rw [zrow_s]; exact kk)
theorem zr_iastoreA {j : Nat} {v : Int32} (hd : decode M.2.2.1 pc = .ok (.iastore, 1)) (ha : zAr (zrow m 668 f) 668 12 424) (hj : j < 424) (kk : zwp d M mc ms Q (pc + 1) ls st uc us (zrow m 668 (fu f j v))) : zwp d M mc ms Q pc ls (.int v :: .int (nI j) :: .ref 668 :: st) uc us (zrow m 668 f) :=
  zr_iastoreN hd ha hj (by decide) (by rw [zsI_row]; exact kk)
end
/-! the row 'all' as a link -/
def RAh (f : Nat → Int32) (h : Nat) (x : sH) : Prop :=
  f (10 + 4 * h) = x.1 ∧ f (10 + 4 * h + 1) = x.2.1 ∧ f (10 + 4 * h + 2) = nI x.2.2.1.length ∧ f (10 + 4 * h + 3) = nI x.2.2.2.length ∧ x.2.2.1.length ≤ 5 ∧ x.2.2.2.length ≤ 6 ∧
  (∀ r, r < x.2.2.1.length → ∀ k, k < 7 → f (34 + 7 * (5 * h + r) + k) = zat x.2.2.1 r k) ∧ ∀ i, i < x.2.2.2.length → ∀ k, k < 5 → f (244 + 5 * (6 * h + i) + k) = zat x.2.2.2 i k
def RA (f : Nat → Int32) (s : sS) : Prop := f 0 = nI s.2.2.1 ∧ s.2.2.1 ≤ 6 ∧ (∀ k, 1 ≤ k → k ≤ 6 → f k = s.1 k) ∧ ∀ h, h < s.2.2.1 → RAh f h (s.2.2.2 h)
section
variable {f g : Nat → Int32} {s : sS} {h : Nat}
theorem RA.h6 (hA : RA f s) (hh : h < s.2.2.1) : h < 6 := Nat.lt_of_lt_of_le hh hA.2.1
theorem RA.awk (hA : RA f s) (hh : h < s.2.2.1) : f (10 + 4 * h) = (s.2.2.2 h).1 := (hA.2.2.2 h hh).1
theorem RA.prx (hA : RA f s) (hh : h < s.2.2.1) : f (10 + 4 * h + 1) = (s.2.2.2 h).2.1 := (hA.2.2.2 h hh).2.1
theorem RA.cnt (hA : RA f s) (hh : h < s.2.2.1) : f (10 + 4 * h + 2) = nI (s.2.2.2 h).2.2.1.length := (hA.2.2.2 h hh).2.2.1
theorem RA.siz (hA : RA f s) (hh : h < s.2.2.1) : f (10 + 4 * h + 3) = nI (s.2.2.2 h).2.2.2.length := (hA.2.2.2 h hh).2.2.2.1
theorem RA.c5 (hA : RA f s) (hh : h < s.2.2.1) : (s.2.2.2 h).2.2.1.length ≤ 5 := (hA.2.2.2 h hh).2.2.2.2.1
theorem RA.s6 (hA : RA f s) (hh : h < s.2.2.1) : (s.2.2.2 h).2.2.2.length ≤ 6 := (hA.2.2.2 h hh).2.2.2.2.2.1
theorem RA.rec (hA : RA f s) (hh : h < s.2.2.1) {r : Nat} (hr : r < (s.2.2.2 h).2.2.1.length) : ∀ k, k < 7 → f (34 + 7 * (5 * h + r) + k) = zg (s.2.2.2 h).2.2.1 r k := (hA.2.2.2 h hh).2.2.2.2.2.2.1 r hr
theorem RA.ent (hA : RA f s) (hh : h < s.2.2.1) {i : Nat} (hi : i < (s.2.2.2 h).2.2.2.length) : ∀ k, k < 5 → f (244 + 5 * (6 * h + i) + k) = zg (s.2.2.2 h).2.2.2 i k := (hA.2.2.2 h hh).2.2.2.2.2.2.2 i hi
/-- the places of a host -/
def hreg (h j : Nat) : Prop := (10 + 4 * h ≤ j ∧ j < 14 + 4 * h) ∨ (34 + 35 * h ≤ j ∧ j < 69 + 35 * h) ∨ (244 + 30 * h ≤ j ∧ j < 274 + 30 * h)
theorem RAh.off {x : sH} (hx : RAh f h x) (hg : ∀ j, hreg h j → g j = f j) : RAh g h x := by
  obtain ⟨h1, h2, h3, h4, h5, h6, h7, h8⟩ := hx
  refine ⟨by rw [hg _ (by unfold hreg; omega)]; exact h1, by rw [hg _ (by unfold hreg; omega)]; exact h2, by rw [hg _ (by unfold hreg; omega)]; exact h3, by rw [hg _ (by unfold hreg; omega)]; exact h4, h5, h6, fun r hr k hk => ?_, fun i hi k hk => ?_⟩
  · rw [hg _ (by unfold hreg; omega)]; exact h7 r hr k hk
  · rw [hg _ (by unfold hreg; omega)]; exact h8 i hi k hk
theorem hreg_ne {h h' j : Nat} (h1 : h < 6) (h2 : h' < 6) (hn : h' ≠ h) (hj : hreg h' j) : ¬ hreg h j := by unfold hreg at *; omega
theorem RA.host {x : sH} (hA : RA f s) (hh : h < s.2.2.1) (hg : ∀ j, ¬ hreg h j → g j = f j) (hx : RAh g h x) : RA g (shst s h x) := by
  obtain ⟨h1, h2, h3, h4⟩ := hA
  refine ⟨by rw [hg 0 (by unfold hreg; omega)]; exact h1, h2, fun k hk1 hk2 => by rw [hg k (by unfold hreg; omega)]; exact h3 k hk1 hk2, fun h' hh' => ?_⟩
  have hh'' : h' < s.2.2.1 := hh'
  show RAh g h' (fu s.2.2.2 h x h')
  by_cases e : h' = h
  · subst e; rw [fu_s]; exact hx
  · rw [fu_n _ _ e]
    exact (h4 h' hh'').off (fun j hj => hg j (hreg_ne (by omega) (by omega) e hj))
theorem RA.sc (hA : RA f s) {k : Nat} (h1 : 1 ≤ k) (h6 : k ≤ 6) (v : Int32) : RA (fu f k v) (scnt s k v) := by
  obtain ⟨a1, a2, a3, a4⟩ := hA
  refine ⟨by rw [fu_n _ _ (by omega)]; exact a1, a2, fun j hj1 hj2 => ?_, fun h hh => ?_⟩
  · show fu f k v j = fu s.1 k v j
    unfold fu
    split
    · rfl
    · exact a3 j hj1 hj2
  · refine (a4 h hh).off (fun j hj => fu_n _ _ ?_)
    unfold hreg at hj
    omega
end
/-! the methods that only look -/
section
variable {d : Nat} {Q : Value → zM → Prop} {m : zM} {f : Nat → Int32} {s : sS}
theorem lg_lt {x y : Int64} : lg_cmp x y < 0 ↔ x < y := by
  have := lg_cmp_ge x y
  rw [← Int32.not_le, this, Int64.not_le]
theorem lg_gt {x y : Int64} : 0 < lg_cmp x y ↔ y < x := by
  unfold lg_cmp
  by_cases h1 : x > y
  · simp [h1]
  · by_cases h2 : x = y <;> simp [h1, h2]
theorem in_ok {v lo hi : Int64} (hk : Q (.int (bI (decide (lo ≤ v) && decide (v ≤ hi)))) m) : zC (d + 1) M9_in 0 0 [.long v, .long lo, .long hi] m Q := by
  refine zenterP (Or.inl (by decide +kernel)) rfl (fun h => by cases h) (Nat.le_of_ble_eq_true rfl) ?_
  show zwp _ _ _ _ _ 0 [_, _, _, _, _, _] [] 0 0 _
  refine zr_lload_n dX9_in_0 rfl ?_
  refine zr_lload_n dX9_in_1 rfl ?_
  refine zr_lcmp dX9_in_2 ?_
  refine zr_if_lt (tgt := 17) dX9_in_3 (by decide) (fun hc_3 => ?_) (fun hc_3 => ?_)
  · refine zr_iconst (v := nI 0) dX9_in_17 rfl ?_
    refine zr_z0 dX9_in_18 rfl (Nat.le_refl _) (Nat.le_refl _) ?_ hk
    (try rw [lg_lt] at hc_3); (try rw [lg_gt] at hc_10); simp [← Int64.not_lt, *]
  · refine zr_lload_n dX9_in_6 rfl ?_
    refine zr_lload dX9_in_7 rfl ?_
    refine zr_lcmp dX9_in_9 ?_
    refine zr_if_gt (tgt := 17) dX9_in_10 (by decide) (fun hc_10 => ?_) (fun hc_10 => ?_)
    · refine zr_iconst (v := nI 0) dX9_in_17 rfl ?_
      refine zr_z0 dX9_in_18 rfl (Nat.le_refl _) (Nat.le_refl _) ?_ hk
      (try rw [lg_lt] at hc_3); (try rw [lg_gt] at hc_10); simp [← Int64.not_lt, *]
    · refine zr_iconst (v := nI 1) dX9_in_13 rfl ?_
      refine zr_goto (tgt := 18) dX9_in_14 (by decide) ?_
      refine zr_z1 dX9_in_18 rfl (Nat.le_refl _) (Nat.le_refl _) ?_ hk
      (try rw [lg_lt] at hc_3); (try rw [lg_gt] at hc_10); simp [← Int64.not_lt, *]
theorem nI0 : nI 0 = 0 := rfl
theorem nI1 : nI 1 = 1 := rfl
theorem nI2 : nI 2 = 2 := rfl
theorem nI3 : nI 3 = 3 := rfl
theorem nI4 : nI 4 = 4 := rfl
theorem nI5 : nI 5 = 5 := rfl
theorem nI6 : nI 6 = 6 := rfl
theorem nI7 : nI 7 = 7 := rfl
theorem in32_ok {x lo hi : Int32} {lo' hi' : Int64} (e1 : lo.toInt64 = lo') (e2 : hi.toInt64 = hi') (hk : Q (.int (bI (sin x lo hi))) m) : zC (d + 1) M9_in 0 0 [.long x.toInt64, .long lo', .long hi'] m Q := by
  refine in_ok ?_
  rw [← e1, ← e2]
  have : (decide (lo.toInt64 ≤ x.toInt64) && decide (x.toInt64 ≤ hi.toInt64)) = sin x lo hi := by
    unfold sin
    simp only [Int64.le_iff_toInt_le, Int32.le_iff_toInt_le, Int32.toInt_toInt64]
  rw [this]
  exact hk
theorem sisH_in {s : sS} {h : Int32} (h6 : s.2.2.1 ≤ 6) : sin h 0 (nI s.2.2.1 - nI 1) = sisH s h := by
  unfold sin sisH
  congr 1
  simp only [Int32.le_iff_toInt_le, Int32.lt_iff_toInt_lt, pk_sub_toInt (show s.2.2.1 < 2 ^ 30 by omega) (show 1 < 2 ^ 30 by omega), nI_toInt (show s.2.2.1 < 2 ^ 31 by omega)]
  rw [decide_eq_decide]
  omega
theorem sisX_of {n : Nat} {h : Int32} (h6 : n < 2 ^ 31) (hh : (decide (0 ≤ h) && decide (h < nI n)) = true) : ∃ k, k < n ∧ h = nI k := by
  simp only [Bool.and_eq_true, decide_eq_true_eq] at hh
  obtain ⟨j, hj, rfl⟩ := nI_of (x := h) (by rw [Int32.not_lt]; exact hh.1)
  exact ⟨j, (nI_ltI hj h6).mp hh.2, rfl⟩
theorem sisH_of {h : Int32} (h6 : s.2.2.1 ≤ 6) (hh : sisH s h = true) : ∃ k, k < s.2.2.1 ∧ h = nI k := sisX_of (by omega) hh
theorem sisH_nI {k : Nat} (h6 : s.2.2.1 ≤ 6) (hk : k < s.2.2.1) : sisH s (nI k) = true := by
  unfold sisH
  rw [Bool.and_eq_true, decide_eq_true_eq, decide_eq_true_eq]
  exact ⟨nI_pos' (by omega), nI_lt hk (by omega)⟩
theorem isHost_ok {h : Int32} (hM : MI m) (hA : RA f s) (hk : Q (.int (bI (sisH s h))) (zrow m 668 f)) : zC (d + 2) M9_isHost 0 0 [.ref 667, .int h] (zrow m 668 f) Q := by
  refine zenterP (Or.inl (by decide +kernel)) rfl (fun h => by cases h) (Nat.le_of_ble_eq_true rfl) ?_
  show zwp _ _ _ _ _ 0 [_, _] [] 0 0 _
  refine zr_iload_n dX9_isHost_0 rfl ?_
  refine zr_i2l dX9_isHost_1 ?_
  refine zr_lconst (v := 0) dX9_isHost_2 rfl ?_
  refine zr_aload_n dX9_isHost_3 rfl ?_
  refine zr_getR dX9_isHost_4 fd_9_7 rfl (MI.ob hM ⟨rfl, rfl⟩) (MI.r0 hM ⟨rfl, rfl⟩) (by decide) ?_
  refine zr_iconst (v := nI 0) dX9_isHost_7 rfl ?_
  refine zr_ialoadA dX9_isHost_8 (MI.a668 hM ⟨rfl, rfl⟩) (by omega) ?_
  rw [hA.1]
  refine zr_iconst (v := nI 1) dX9_isHost_9 rfl ?_
  refine zr_isub dX9_isHost_10 ?_
  refine zr_i2l dX9_isHost_11 ?_
  refine zr_cS3 rfl dX9_isHost_12 cv_9_47 (Nat.le_of_ble_eq_true rfl) (in32_ok (lo := 0) rfl rfl ?_)
  refine zr_zreturnB dX9_isHost_15 rfl (Nat.le_refl _) (Nat.le_refl _) ?_
  rw [sisH_in hA.2.1]; exact hk
theorem isAwake_ok {h : Nat} {x : sH} (hM : MI m) (hh : h < 6) (hx : f (10 + 4 * h) = x.1) (hk : Q (.int (bI (sawk x))) (zrow m 668 f)) : zC (d + 1) M9_isAwake 0 0 [.ref 667, .int (nI h)] (zrow m 668 f) Q := by
  refine zenterP (Or.inl (by decide +kernel)) rfl (fun h => by cases h) (Nat.le_of_ble_eq_true rfl) ?_
  show zwp _ _ _ _ _ 0 [_, _] [] 0 0 _
  refine zr_aload_n dX9_isAwake_0 rfl ?_
  refine zr_getR dX9_isAwake_1 fd_9_7 rfl (MI.ob hM ⟨rfl, rfl⟩) (MI.r0 hM ⟨rfl, rfl⟩) (by decide) ?_
  refine zr_bipush (v := nI 10) dX9_isAwake_4 rfl ?_
  refine zr_iconst (v := nI 4) dX9_isAwake_6 rfl ?_
  refine zr_iload_n dX9_isAwake_7 rfl ?_
  refine zr_imulN dX9_isAwake_8 ?_
  refine zr_iaddN dX9_isAwake_9 ?_
  refine zr_ialoadA dX9_isAwake_10 (MI.a668 hM ⟨rfl, rfl⟩) (by omega) ?_
  refine zr_iconst (v := nI 1) dX9_isAwake_11 rfl ?_
  refine zr_icmp_ne (tgt := 19) dX9_isAwake_12 (by decide) (fun hc_12 => ?_) (fun hc_12 => ?_)
  · refine zr_iconst (v := nI 0) dX9_isAwake_19 rfl ?_
    refine zr_z0 dX9_isAwake_20 rfl (Nat.le_refl _) (Nat.le_refl _) ?_ hk
    simpa [sawk, ← hx, nI1] using hc_12
  · refine zr_iconst (v := nI 1) dX9_isAwake_15 rfl ?_
    refine zr_goto (tgt := 20) dX9_isAwake_16 (by decide) ?_
    refine zr_z1 dX9_isAwake_20 rfl (Nat.le_refl _) (Nat.le_refl _) ?_ hk
    simpa [sawk, ← hx, nI1] using hc_12
theorem proxy_ok {h : Nat} {x : Int32} (hM : MI m) (hh : h < 6) (hx : f (10 + 4 * h + 1) = x) (hk : Q (.int x) (zrow m 668 f)) : zC (d + 1) M9_proxy 0 0 [.ref 667, .int (nI h)] (zrow m 668 f) Q := by
  subst hx
  refine zenterP (Or.inl (by decide +kernel)) rfl (fun h => by cases h) (Nat.le_of_ble_eq_true rfl) ?_
  show zwp _ _ _ _ _ 0 [_, _] [] 0 0 _
  refine zr_aload_n dX9_proxy_0 rfl ?_
  refine zr_getR dX9_proxy_1 fd_9_7 rfl (MI.ob hM ⟨rfl, rfl⟩) (MI.r0 hM ⟨rfl, rfl⟩) (by decide) ?_
  refine zr_bipush (v := nI 10) dX9_proxy_4 rfl ?_
  refine zr_iconst (v := nI 4) dX9_proxy_6 rfl ?_
  refine zr_iload_n dX9_proxy_7 rfl ?_
  refine zr_imulN dX9_proxy_8 ?_
  refine zr_iaddN dX9_proxy_9 ?_
  refine zr_iconst (v := nI 1) dX9_proxy_10 rfl ?_
  refine zr_iaddN dX9_proxy_11 ?_
  refine zr_ialoadA dX9_proxy_12 (MI.a668 hM ⟨rfl, rfl⟩) (by omega) ?_
  refine zr_ireturn dX9_proxy_13 rfl (Nat.le_refl _) (Nat.le_refl _) ?_
  exact hk
theorem records_ok {h : Nat} {x : Int32} (hM : MI m) (hh : h < 6) (hx : f (10 + 4 * h + 2) = x) (hk : Q (.int x) (zrow m 668 f)) : zC (d + 1) M9_records 0 0 [.ref 667, .int (nI h)] (zrow m 668 f) Q := by
  subst hx
  refine zenterP (Or.inl (by decide +kernel)) rfl (fun h => by cases h) (Nat.le_of_ble_eq_true rfl) ?_
  show zwp _ _ _ _ _ 0 [_, _] [] 0 0 _
  refine zr_aload_n dX9_records_0 rfl ?_
  refine zr_getR dX9_records_1 fd_9_7 rfl (MI.ob hM ⟨rfl, rfl⟩) (MI.r0 hM ⟨rfl, rfl⟩) (by decide) ?_
  refine zr_bipush (v := nI 10) dX9_records_4 rfl ?_
  refine zr_iconst (v := nI 4) dX9_records_6 rfl ?_
  refine zr_iload_n dX9_records_7 rfl ?_
  refine zr_imulN dX9_records_8 ?_
  refine zr_iaddN dX9_records_9 ?_
  refine zr_iconst (v := nI 2) dX9_records_10 rfl ?_
  refine zr_iaddN dX9_records_11 ?_
  refine zr_ialoadA dX9_records_12 (MI.a668 hM ⟨rfl, rfl⟩) (by omega) ?_
  refine zr_ireturn dX9_records_13 rfl (Nat.le_refl _) (Nat.le_refl _) ?_
  exact hk
theorem entries_ok {h : Nat} {x : Int32} (hM : MI m) (hh : h < 6) (hx : f (10 + 4 * h + 3) = x) (hk : Q (.int x) (zrow m 668 f)) : zC (d + 1) M9_entries 0 0 [.ref 667, .int (nI h)] (zrow m 668 f) Q := by
  subst hx
  refine zenterP (Or.inl (by decide +kernel)) rfl (fun h => by cases h) (Nat.le_of_ble_eq_true rfl) ?_
  show zwp _ _ _ _ _ 0 [_, _] [] 0 0 _
  refine zr_aload_n dX9_entries_0 rfl ?_
  refine zr_getR dX9_entries_1 fd_9_7 rfl (MI.ob hM ⟨rfl, rfl⟩) (MI.r0 hM ⟨rfl, rfl⟩) (by decide) ?_
  refine zr_bipush (v := nI 10) dX9_entries_4 rfl ?_
  refine zr_iconst (v := nI 4) dX9_entries_6 rfl ?_
  refine zr_iload_n dX9_entries_7 rfl ?_
  refine zr_imulN dX9_entries_8 ?_
  refine zr_iaddN dX9_entries_9 ?_
  refine zr_iconst (v := nI 3) dX9_entries_10 rfl ?_
  refine zr_iaddN dX9_entries_11 ?_
  refine zr_ialoadA dX9_entries_12 (MI.a668 hM ⟨rfl, rfl⟩) (by omega) ?_
  refine zr_ireturn dX9_entries_13 rfl (Nat.le_refl _) (Nat.le_refl _) ?_
  exact hk
theorem at_ok {h r : Nat} (hk : Q (.int (nI (34 + 7 * (5 * h + r)))) m) : zC (d + 1) M9_at 0 0 [.int (nI h), .int (nI r)] m Q := by
  refine zenterP (Or.inl (by decide +kernel)) rfl (fun h => by cases h) (Nat.le_of_ble_eq_true rfl) ?_
  show zwp _ _ _ _ _ 0 [_, _] [] 0 0 _
  refine zr_bipush (v := nI 34) dX9_at_0 rfl ?_
  refine zr_bipush (v := nI 7) dX9_at_2 rfl ?_
  refine zr_iconst (v := nI 5) dX9_at_4 rfl ?_
  refine zr_iload_n dX9_at_5 rfl ?_
  refine zr_imulN dX9_at_6 ?_
  refine zr_iload_n dX9_at_7 rfl ?_
  refine zr_iaddN dX9_at_8 ?_
  refine zr_imulN dX9_at_9 ?_
  refine zr_iaddN dX9_at_10 ?_
  refine zr_ireturn dX9_at_11 rfl (Nat.le_refl _) (Nat.le_refl _) ?_
  exact hk
theorem kept_ok {h r : Nat} (hk : Q (.int (nI (244 + 5 * (6 * h + r)))) m) : zC (d + 1) M9_kept 0 0 [.int (nI h), .int (nI r)] m Q := by
  refine zenterP (Or.inl (by decide +kernel)) rfl (fun h => by cases h) (Nat.le_of_ble_eq_true rfl) ?_
  show zwp _ _ _ _ _ 0 [_, _] [] 0 0 _
  refine zr_sipush (v := nI 244) dX9_kept_0 rfl ?_
  refine zr_iconst (v := nI 5) dX9_kept_3 rfl ?_
  refine zr_bipush (v := nI 6) dX9_kept_4 rfl ?_
  refine zr_iload_n dX9_kept_6 rfl ?_
  refine zr_imulN dX9_kept_7 ?_
  refine zr_iload_n dX9_kept_8 rfl ?_
  refine zr_iaddN dX9_kept_9 ?_
  refine zr_imulN dX9_kept_10 ?_
  refine zr_iaddN dX9_kept_11 ?_
  refine zr_ireturn dX9_kept_12 rfl (Nat.le_refl _) (Nat.le_refl _) ?_
  exact hk
theorem areOne_ok {a b : Nat} {x y : sR} (hM : MI m) (ha : a + 2 < 424) (hb : b + 2 < 424) (hx : ∀ k, k < 3 → f (a + k) = x k) (hy : ∀ k, k < 3 → f (b + k) = y k) (hk : Q (.int (bI (sone x y))) (zrow m 668 f)) : zC (d + 1) M9_areOne 0 0 [.ref 667, .int (nI a), .int (nI b)] (zrow m 668 f) Q := by
  refine zenterP (Or.inl (by decide +kernel)) rfl (fun h => by cases h) (Nat.le_of_ble_eq_true rfl) ?_
  show zwp _ _ _ _ _ 0 [_, _, _] [] 0 0 _
  refine zr_aload_n dX9_areOne_0 rfl ?_
  refine zr_getR dX9_areOne_1 fd_9_7 rfl (MI.ob hM ⟨rfl, rfl⟩) (MI.r0 hM ⟨rfl, rfl⟩) (by decide) ?_
  refine zr_iload_n dX9_areOne_4 rfl ?_
  refine zr_iconst (v := nI 0) dX9_areOne_5 rfl ?_
  refine zr_iaddN dX9_areOne_6 ?_
  refine zr_ialoadA dX9_areOne_7 (MI.a668 hM ⟨rfl, rfl⟩) (by omega) ?_
  refine zr_aload_n dX9_areOne_8 rfl ?_
  refine zr_getR dX9_areOne_9 fd_9_7 rfl (MI.ob hM ⟨rfl, rfl⟩) (MI.r0 hM ⟨rfl, rfl⟩) (by decide) ?_
  refine zr_iload_n dX9_areOne_12 rfl ?_
  refine zr_iconst (v := nI 0) dX9_areOne_13 rfl ?_
  refine zr_iaddN dX9_areOne_14 ?_
  refine zr_ialoadA dX9_areOne_15 (MI.a668 hM ⟨rfl, rfl⟩) (by omega) ?_
  refine zr_icmp_ne (tgt := 42) dX9_areOne_16 (by decide) (fun hc_16 => ?_) (fun hc_16 => ?_)
  · refine zr_iconst (v := nI 0) dX9_areOne_42 rfl ?_
    refine zr_z0 dX9_areOne_43 rfl (Nat.le_refl _) (Nat.le_refl _) ?_ hk
    simp only [hx 0 (by decide), hy 0 (by decide), hx 1 (by decide), hy 1 (by decide)] at *; simp [sone, *]
  · refine zr_aload_n dX9_areOne_19 rfl ?_
    refine zr_getR dX9_areOne_20 fd_9_7 rfl (MI.ob hM ⟨rfl, rfl⟩) (MI.r0 hM ⟨rfl, rfl⟩) (by decide) ?_
    refine zr_iload_n dX9_areOne_23 rfl ?_
    refine zr_iconst (v := nI 1) dX9_areOne_24 rfl ?_
    refine zr_iaddN dX9_areOne_25 ?_
    refine zr_ialoadA dX9_areOne_26 (MI.a668 hM ⟨rfl, rfl⟩) (by omega) ?_
    refine zr_aload_n dX9_areOne_27 rfl ?_
    refine zr_getR dX9_areOne_28 fd_9_7 rfl (MI.ob hM ⟨rfl, rfl⟩) (MI.r0 hM ⟨rfl, rfl⟩) (by decide) ?_
    refine zr_iload_n dX9_areOne_31 rfl ?_
    refine zr_iconst (v := nI 1) dX9_areOne_32 rfl ?_
    refine zr_iaddN dX9_areOne_33 ?_
    refine zr_ialoadA dX9_areOne_34 (MI.a668 hM ⟨rfl, rfl⟩) (by omega) ?_
    refine zr_icmp_ne (tgt := 42) dX9_areOne_35 (by decide) (fun hc_35 => ?_) (fun hc_35 => ?_)
    · refine zr_iconst (v := nI 0) dX9_areOne_42 rfl ?_
      refine zr_z0 dX9_areOne_43 rfl (Nat.le_refl _) (Nat.le_refl _) ?_ hk
      simp only [hx 0 (by decide), hy 0 (by decide), hx 1 (by decide), hy 1 (by decide)] at *; simp [sone, *]
    · refine zr_iconst (v := nI 1) dX9_areOne_38 rfl ?_
      refine zr_goto (tgt := 43) dX9_areOne_39 (by decide) ?_
      refine zr_z1 dX9_areOne_43 rfl (Nat.le_refl _) (Nat.le_refl _) ?_ hk
      simp only [hx 0 (by decide), hy 0 (by decide), hx 1 (by decide), hy 1 (by decide)] at *; simp [sone, *]
theorem areSame_ok {a b : Nat} {x y : sR} (hM : MI m) (ha : a + 2 < 424) (hb : b + 2 < 424) (hx : ∀ k, k < 3 → f (a + k) = x k) (hy : ∀ k, k < 3 → f (b + k) = y k) (hk : Q (.int (bI (ssame x y))) (zrow m 668 f)) : zC (d + 2) M9_areSame 0 0 [.ref 667, .int (nI a), .int (nI b)] (zrow m 668 f) Q := by
  refine zenterP (Or.inl (by decide +kernel)) rfl (fun h => by cases h) (Nat.le_of_ble_eq_true rfl) ?_
  show zwp _ _ _ _ _ 0 [_, _, _] [] 0 0 _
  refine zr_aload_n dX9_areSame_0 rfl ?_
  refine zr_iload_n dX9_areSame_1 rfl ?_
  refine zr_iload_n dX9_areSame_2 rfl ?_
  refine zr_cV2 rfl dX9_areSame_3 cv_9_51 (MI.ob hM ⟨rfl, rfl⟩) (Nat.le_of_ble_eq_true rfl) (areOne_ok hM ha hb hx hy ?_)
  refine zr_if_eqB (tgt := 32) dX9_areSame_6 (by decide) (fun hc_6 => ?_) (fun hc_6 => ?_)
  · refine zr_iconst (v := nI 0) dX9_areSame_32 rfl ?_
    refine zr_z0 dX9_areSame_33 rfl (Nat.le_refl _) (Nat.le_refl _) ?_ hk
    (try simp only [hx 2 (by decide), hy 2 (by decide)] at *); simp [ssame, *]
  · refine zr_aload_n dX9_areSame_9 rfl ?_
    refine zr_getR dX9_areSame_10 fd_9_7 rfl (MI.ob hM ⟨rfl, rfl⟩) (MI.r0 hM ⟨rfl, rfl⟩) (by decide) ?_
    refine zr_iload_n dX9_areSame_13 rfl ?_
    refine zr_iconst (v := nI 2) dX9_areSame_14 rfl ?_
    refine zr_iaddN dX9_areSame_15 ?_
    refine zr_ialoadA dX9_areSame_16 (MI.a668 hM ⟨rfl, rfl⟩) (by omega) ?_
    refine zr_aload_n dX9_areSame_17 rfl ?_
    refine zr_getR dX9_areSame_18 fd_9_7 rfl (MI.ob hM ⟨rfl, rfl⟩) (MI.r0 hM ⟨rfl, rfl⟩) (by decide) ?_
    refine zr_iload_n dX9_areSame_21 rfl ?_
    refine zr_iconst (v := nI 2) dX9_areSame_22 rfl ?_
    refine zr_iaddN dX9_areSame_23 ?_
    refine zr_ialoadA dX9_areSame_24 (MI.a668 hM ⟨rfl, rfl⟩) (by omega) ?_
    refine zr_icmp_ne (tgt := 32) dX9_areSame_25 (by decide) (fun hc_25 => ?_) (fun hc_25 => ?_)
    · refine zr_iconst (v := nI 0) dX9_areSame_32 rfl ?_
      refine zr_z0 dX9_areSame_33 rfl (Nat.le_refl _) (Nat.le_refl _) ?_ hk
      (try simp only [hx 2 (by decide), hy 2 (by decide)] at *); simp [ssame, *]
    · refine zr_iconst (v := nI 1) dX9_areSame_28 rfl ?_
      refine zr_goto (tgt := 33) dX9_areSame_29 (by decide) ?_
      refine zr_z1 dX9_areSame_33 rfl (Nat.le_refl _) (Nat.le_refl _) ?_ hk
      (try simp only [hx 2 (by decide), hy 2 (by decide)] at *); simp [ssame, *]
theorem isName_ok {n k : Int32} (hk : Q (.int (bI (sisN n k))) m) : zC (d + 2) M9_isName 0 0 [.int n, .int k] m Q := by
  refine zenterP (Or.inl (by decide +kernel)) rfl (fun h => by cases h) (Nat.le_of_ble_eq_true rfl) ?_
  show zwp _ _ _ _ _ 0 [_, _] [] 0 0 _
  refine zr_iload_n dX9_isName_0 rfl ?_
  refine zr_i2l dX9_isName_1 ?_
  refine zr_lconst (v := 0) dX9_isName_2 rfl ?_
  refine zr_ldc2 dX9_isName_3 kc_9_106 ?_
  refine zr_cS3 rfl dX9_isName_6 cv_9_47 (Nat.le_of_ble_eq_true rfl) (in32_ok (lo := 0) (hi := 15) rfl rfl ?_)
  refine zr_if_eqB (tgt := 28) dX9_isName_9 (by decide) (fun hc_9 => ?_) (fun hc_9 => ?_)
  · refine zr_iconst (v := nI 0) dX9_isName_28 rfl ?_
    refine zr_z0 dX9_isName_29 rfl (Nat.le_refl _) (Nat.le_refl _) ?_ hk
    simp [sisN, *]
  · refine zr_iload_n dX9_isName_12 rfl ?_
    refine zr_i2l dX9_isName_13 ?_
    refine zr_lconst (v := 0) dX9_isName_14 rfl ?_
    refine zr_ldc2 dX9_isName_15 kc_9_108 ?_
    refine zr_cS3 rfl dX9_isName_18 cv_9_47 (Nat.le_of_ble_eq_true rfl) (in32_ok (lo := 0) (hi := 3) rfl rfl ?_)
    refine zr_if_eqB (tgt := 28) dX9_isName_21 (by decide) (fun hc_21 => ?_) (fun hc_21 => ?_)
    · refine zr_iconst (v := nI 0) dX9_isName_28 rfl ?_
      refine zr_z0 dX9_isName_29 rfl (Nat.le_refl _) (Nat.le_refl _) ?_ hk
      simp [sisN, *]
    · refine zr_iconst (v := nI 1) dX9_isName_24 rfl ?_
      refine zr_goto (tgt := 29) dX9_isName_25 (by decide) ?_
      refine zr_z1 dX9_isName_29 rfl (Nat.le_refl _) (Nat.le_refl _) ?_ hk
      simp [sisN, *]
end
