/-! ===== floats: the rate stays small, and is no NaN ===== -/
theorem fs_pos {a : UInt32} (h : a.toNat < 2 ^ 31) : FP.Core.fieldS FP.Core.b32 a.toNat = false := by
  rw [FP.Core.fieldS_mag FP.Core.b32 (FP.Core.lt_full32 a), FP.Core.half_b32]
  exact decide_eq_false (by omega)
/-- a float that is not negative and finite, in units -/
theorem fs_fin {a : UInt32} (h : a.toNat < 2139095040) : ∃ c q, FP.Core.val32 a = .fin false c q ∧ FP.Core.fits FP.Core.b32 (.fin false c q) ∧ FP.Core.inUnits c q (-149) = FP.Core.unitsOf FP.Core.b32 a.toNat := by
  have hm : FP.Core.mag FP.Core.b32 a.toNat = a.toNat := by rw [FP.Core.mag_toNat32]; omega
  obtain ⟨c, q, h1, h2⟩ := FP.Core.decode_fin (f := FP.Core.b32) (n := a.toNat) (by rw [hm, FP.Core.infBits_b32]; exact h)
  rw [fs_pos (by omega)] at h1
  refine ⟨c, q, h1, ?_, ?_⟩
  · have := FP.Core.val32_fits a
    rwa [show FP.Core.val32 a = .fin false c q from h1] at this
  · rw [hm] at h2
    exact h2
/-- a rounded value's bits -/
theorem fs_le {a : UInt32} {A m : Nat} {e : Int} (k : Nat) (hv : FP.Core.val32 a = FP.Core.roundRatio FP.Core.b32 false A 1 e) (hm : m < 2139095040) (he : -149 - (k : Int) ≤ e)
    (h : FP.Core.inUnits A e (-149 - (k : Int)) ≤ FP.Core.unitsOf FP.Core.b32 m * 2 ^ k) : a.toNat ≤ m := by
  have h1 := FP.Core.mag_le FP.Core.good_b32 (n := a.toNat) (m := m) (s := false) (A := A) (B := 1) (e := e) (e0 := -149 - (k : Int)) hv (by decide) (by rw [FP.Core.qmin_b32]; omega) he (by
    rw [FP.Core.qmin_b32, Nat.mul_one, show (-149 - (-149 - (k : Int))).toNat = k by omega]
    exact h)
  rw [FP.Core.mag_toNat32] at h1
  have hn : FP.Core.val32 a ≠ .nan := by rw [hv]; exact FP.Core.roundRatio_ne_nan _ _ _ _ _
  have h2 := FP.Core.sgn_bits32 hn
  rw [hv, FP.Core.sgn_roundRatio] at h2
  have h3 : ¬ 2 ^ 31 ≤ a.toNat := fun z => by rw [decide_eq_true z] at h2; cases h2
  omega
theorem fs_units {a b : Nat} (h : a ≤ b) : FP.Core.unitsOf FP.Core.b32 a ≤ FP.Core.unitsOf FP.Core.b32 b := FP.Core.unitsOf_le_iff.mpr h
theorem fs_u154 : FP.Core.unitsOf FP.Core.b32 1291845632 = 2 ^ 176 := by decide +kernel
theorem fs_u153 : FP.Core.unitsOf FP.Core.b32 1287651328 = 12582912 * 2 ^ 152 := by decide +kernel
theorem fs_u152 : FP.Core.unitsOf FP.Core.b32 1275068416 = 2 ^ 174 := by decide +kernel
theorem fs_mul {a b : UInt32} {d m M : Nat} (k : Nat) (ha : a.toNat ≤ M) (hM : M < 2139095040) (hb : FP.Core.val32 b = .fin false d (-(k : Int))) (hm : m < 2139095040) (h : FP.Core.unitsOf FP.Core.b32 M * d ≤ FP.Core.unitsOf FP.Core.b32 m * 2 ^ k) : (FP.fmul a b).toNat ≤ m := by
  obtain ⟨c, q, h1, h2, h3⟩ := fs_fin (a := a) (by omega)
  have hv : FP.Core.val32 (FP.Core.fmul a b) = FP.Core.roundRatio FP.Core.b32 false (c * d) 1 (q + -(k : Int)) := by
    rw [FP.Core.val32_fmul, h1, hb]
    rfl
  have hq : (-149 : Int) ≤ q := h2.2.1
  refine fs_le k hv hm (by omega) ?_
  refine Nat.le_trans ?_ h
  show c * d * 2 ^ (q + -(k : Int) - (-149 - (k : Int))).toNat ≤ _
  rw [show (q + -(k : Int) - (-149 - (k : Int))).toNat = (q - -149).toNat by omega, Nat.mul_right_comm]
  have h4 : c * 2 ^ (q - -149).toNat = FP.Core.unitsOf FP.Core.b32 a.toNat := h3
  rw [h4]
  exact Nat.mul_le_mul_right _ (fs_units ha)
theorem fs_add {a b : UInt32} {m M N : Nat} (ha : a.toNat ≤ M) (hM : M < 2139095040) (hb : b.toNat ≤ N) (hN : N < 2139095040) (hm : m < 2139095040) (h : FP.Core.unitsOf FP.Core.b32 M + FP.Core.unitsOf FP.Core.b32 N ≤ FP.Core.unitsOf FP.Core.b32 m) : (FP.fadd a b).toNat ≤ m := by
  obtain ⟨c, q, h1, h2, h3⟩ := fs_fin (a := a) (by omega)
  obtain ⟨d, r, g1, g2, g3⟩ := fs_fin (a := b) (by omega)
  have hq : (-149 : Int) ≤ q := h2.2.1
  have hr : (-149 : Int) ≤ r := g2.2.1
  have hs : FP.Core.exactSum (.fin false c q) (.fin false d r) = .fin false (FP.Core.inUnits c q (min q r) + FP.Core.inUnits d r (min q r)) (min q r) := by
    have e1 : FP.Core.sumUnits false c q false d r (min q r) = ((FP.Core.inUnits c q (min q r) + FP.Core.inUnits d r (min q r) : Nat) : Int) := by
      unfold FP.Core.sumUnits FP.Core.signed
      simp
    unfold FP.Core.exactSum
    dsimp only
    rw [e1]
    congr 1
    unfold FP.Core.sumSign
    split
    · rfl
    · exact decide_eq_false (by omega)
  have hv : FP.Core.val32 (FP.Core.fadd a b) = FP.Core.roundRatio FP.Core.b32 false (FP.Core.inUnits c q (min q r) + FP.Core.inUnits d r (min q r)) 1 (min q r) := by
    rw [FP.Core.val32_fadd, h1, g1, hs]
    rfl
  refine fs_le 0 hv hm (by omega) ?_
  rw [Nat.pow_zero, Nat.mul_one]
  refine Nat.le_trans ?_ h
  refine Nat.le_trans ?_ (Nat.add_le_add (fs_units ha) (fs_units hb))
  rw [← h3, ← g3, FP.Core.inUnits_move c (q := q) (e := -149) (r := min q r) (by omega) (by omega), FP.Core.inUnits_move d (q := r) (e := -149) (r := min q r) (by omega) (by omega)]
  show (FP.Core.inUnits c q (min q r) + FP.Core.inUnits d r (min q r)) * 2 ^ (min q r - (-149 - ((0 : Nat) : Int))).toNat ≤ _
  rw [show (-149 - ((0 : Nat) : Int)) = (-149 : Int) by omega, Nat.add_mul]
  exact Nat.le_refl _
theorem fs_i2f {v : Int32} {d : Nat} (hv : v.toInt = d) (hd : d ≤ 2 ^ 27) : (FP.i2f v).toNat ≤ 1291845632 := by
  have h1 : FP.Core.val32 (FP.Core.i2f v) = FP.Core.roundRatio FP.Core.b32 false d 1 0 := by
    rw [FP.Core.val32_i2f, hv]
    have : FP.Core.ofInt (d : Int) = .fin false d 0 := by
      unfold FP.Core.ofInt
      rw [decide_eq_false (by omega), Int.natAbs_natCast]
    rw [this]
    rfl
  refine fs_le 0 h1 (by decide) (by decide) ?_
  rw [fs_u154, Nat.pow_zero, Nat.mul_one]
  show d * 2 ^ (149 : Nat) ≤ _
  calc d * 2 ^ 149 ≤ 2 ^ 27 * 2 ^ 149 := Nat.mul_le_mul_right _ hd
    _ = 2 ^ 176 := by decide
theorem fs_nn {a : UInt32} (h : a.toNat ≤ 1291845632) : vf_n32 a := by
  unfold vf_n32
  rw [UInt32.le_iff_toNat_le, FP.Core.mask_toNat32]
  show _ ≤ 2139095040
  omega
theorem fs_075 : FP.Core.val32 1061158912 = .fin false 12582912 (-((24 : Nat) : Int)) := by decide +kernel
theorem fs_025 : FP.Core.val32 1048576000 = .fin false 8388608 (-((25 : Nat) : Int)) := by decide +kernel
theorem fs_rate {x : UInt32} {v : Int32} {d : Nat} (hx : x.toNat ≤ 1291845632) (hv : v.toInt = d) (hd : d ≤ 2 ^ 27) :
    (vf_n32 (FP.fmul x 1061158912) ∧ vf_n32 (FP.fmul (FP.i2f v) 1048576000) ∧ vf_n32 (FP.fadd (FP.fmul x 1061158912) (FP.fmul (FP.i2f v) 1048576000))) ∧ (FP.fadd (FP.fmul x 1061158912) (FP.fmul (FP.i2f v) 1048576000)).toNat ≤ 1291845632 := by
  have h1 : (FP.fmul x 1061158912).toNat ≤ 1287651328 := fs_mul 24 hx (by decide) fs_075 (by decide) (by rw [fs_u154, fs_u153]; decide)
  have h2 : (FP.fmul (FP.i2f v) 1048576000).toNat ≤ 1275068416 := fs_mul 25 (fs_i2f hv hd) (by decide) fs_025 (by decide) (by rw [fs_u154, fs_u152]; decide)
  have h3 : (FP.fadd (FP.fmul x 1061158912) (FP.fmul (FP.i2f v) 1048576000)).toNat ≤ 1291845632 := fs_add h1 (by decide) h2 (by decide) (by decide) (by rw [fs_u154, fs_u153, fs_u152]; decide)
  exact ⟨⟨fs_nn (by omega), fs_nn (by omega), fs_nn h3⟩, h3⟩
/-! doubles: c units of 2 ^ (j - 1074) -/
def dV (y : UInt64) (c j : Nat) : Prop := ∃ C Q, FP.Core.val64 y = .fin false C Q ∧ FP.Core.fits FP.Core.b64 (.fin false C Q) ∧ C * 2 ^ (Q + 1074).toNat = c * 2 ^ j
theorem dV.round {y : UInt64} {A c j : Nat} {e : Int} (hv : FP.Core.val64 y = FP.Core.roundRatio FP.Core.b64 false A 1 e) (hc : c < 2 ^ 53) (hj : j ≤ 2000) (k : Nat) (he : -1074 - (k : Int) ≤ e) (h : A * 2 ^ (e + 1074 + k).toNat = c * 2 ^ (j + k)) : dV y c j := by
  have hcg : FP.Core.roundRatio FP.Core.b64 false A 1 e = FP.Core.roundRatio FP.Core.b64 false c 1 ((j : Int) - 1074) := by
    refine FP.Core.roundRatio_congr (by decide) (by decide) ?_
    rw [Nat.mul_one, Nat.mul_one]
    by_cases hh : (j : Int) - 1074 ≤ e
    · have e1 : (e + 1074 + k).toNat = (e - ((j : Int) - 1074)).toNat + (j + k) := by omega
      rw [e1, Nat.pow_add, ← Nat.mul_assoc] at h
      rw [show ((j : Int) - 1074 - e).toNat = 0 by omega, Nat.pow_zero, Nat.mul_one]
      exact Nat.eq_of_mul_eq_mul_right (Nat.two_pow_pos _) h
    · have e1 : j + k = ((j : Int) - 1074 - e).toNat + (e + 1074 + k).toNat := by omega
      rw [e1, Nat.pow_add, ← Nat.mul_assoc] at h
      rw [show (e - ((j : Int) - 1074)).toNat = 0 by omega, Nat.pow_zero, Nat.mul_one]
      exact Nat.eq_of_mul_eq_mul_right (Nat.two_pow_pos _) h
  obtain ⟨C, Q, h1, h2⟩ := FP.Core.round_exact FP.Core.good_b64 false (c := c) (q := (j : Int) - 1074) hc (by rw [FP.Core.qmin_b64]; omega) (by show (j : Int) - 1074 ≤ 971; omega)
  have h3 : FP.Core.val64 y = .fin false C Q := by rw [hv, hcg]; exact h1
  refine ⟨C, Q, h3, ?_, ?_⟩
  · have := FP.Core.val64_fits y
    rwa [h3] at this
  · have h4 : C * 2 ^ (Q - -1074).toNat = c * 2 ^ ((j : Int) - 1074 - -1074).toNat := h2
    rw [show (Q + 1074).toNat = (Q - -1074).toNat by omega, h4, show ((j : Int) - 1074 - -1074).toNat = j by omega]
theorem dV.mul {y b : UInt64} {c j : Nat} (k : Nat) (h : dV y c j) (hb : FP.Core.val64 b = .fin false (2 ^ 52) (-(k : Int))) (hc : c < 2 ^ 53) {j' : Nat} (hj : j' + k = j + 52) (hj2 : j' ≤ 2000) : dV (FP.dmul y b) c j' := by
  obtain ⟨C, Q, h1, h2, h3⟩ := h
  have hQ : (-1074 : Int) ≤ Q := h2.2.1
  have hv : FP.Core.val64 (FP.Core.dmul y b) = FP.Core.roundRatio FP.Core.b64 false (C * 2 ^ 52) 1 (Q + -(k : Int)) := by
    rw [FP.Core.val64_dmul, h1, hb]
    rfl
  refine dV.round hv hc hj2 k (by omega) ?_
  rw [show (Q + -(k : Int) + 1074 + k).toNat = (Q + 1074).toNat by omega, Nat.mul_right_comm, h3, Nat.mul_assoc, ← Nat.pow_add, ← hj]
theorem dV.mulU {y b : UInt64} {c j : Nat} (k : Nat) (h : dV y c j) (hb : FP.Core.val64 b = .fin false (2 ^ 52) (-(k : Int))) (hc : c < 2 ^ 53) {j' : Nat} (hj : j' + k = j + 52) (hj2 : j' ≤ 2000) : dV (FP.dmul y b) c j' := h.mul k hb hc hj hj2
theorem dV.fin {y : UInt64} {c j : Nat} (h : dV y c j) : FP.Core.DFin y := by
  obtain ⟨C, Q, h1, h2, h3⟩ := h
  exact ⟨_, _, _, h1⟩
theorem dV.nn {y : UInt64} {c j : Nat} (h : dV y c j) : vf_n64 y := by
  have := (FP.Core.fin_bits y).mp h.fin
  unfold vf_n64
  rw [UInt64.le_iff_toNat_le, FP.Core.mask_toNat]
  show _ ≤ 9218868437227405312
  omega
theorem dV.zval {y : UInt64} {c j : Nat} (h : dV y c j) : FP.Core.val64 y ≠ .nan ∧ FP.Core.zval FP.Core.b64 (FP.Core.val64 y) = ((c * 2 ^ j : Nat) : Int) := by
  obtain ⟨C, Q, h1, h2, h3⟩ := h
  rw [h1]
  refine ⟨FP.Core.Datum.noConfusion, ?_⟩
  show ((C * 2 ^ (Q - -1074).toNat : Nat) : Int) = _
  rw [show (Q - -1074).toNat = (Q + 1074).toNat by omega, h3]
theorem dV.cmp {x y : UInt64} {c j c' j' : Nat} (h : dV x c j) (h' : dV y c' j') : FP.dcmp x y = some (compare ((c * 2 ^ j : Nat) : Int) ((c' * 2 ^ j' : Nat) : Int)) := by
  show FP.Core.dcmp x y = _
  rw [FP.Core.dcmp_zval h.zval.1 h'.zval.1, h.zval.2, h'.zval.2]
theorem dv_2 : dV 4611686018427387904 1 1075 := ⟨2 ^ 52, -51, by decide +kernel, by unfold FP.Core.fits; decide +kernel, by decide +kernel⟩
theorem dv_1 : dV FP.dconst1 1 1074 := ⟨2 ^ 52, -52, by decide +kernel, by unfold FP.Core.fits; decide +kernel, by decide +kernel⟩
theorem dv_c2 : FP.Core.val64 4611686018427387904 = .fin false (2 ^ 52) (-((51 : Nat) : Int)) := by decide +kernel
theorem dv_ch : FP.Core.val64 4602678819172646912 = .fin false (2 ^ 52) (-((53 : Nat) : Int)) := by decide +kernel
theorem dv_c23 : FP.Core.val64 4710765210229538816 = .fin false (2 ^ 52) (-((29 : Nat) : Int)) := by decide +kernel
/-- the parts of a float's bits -/
theorem fs_parts {a : UInt32} (h : a.toNat ≤ 1291845632) : ∃ t c : Nat, t ≤ 153 ∧ c < 2 ^ 24 ∧ (t = 0 ∨ 2 ^ 23 ≤ c) ∧ a.toNat = t * 2 ^ 23 + c ∧ FP.Core.unitsOf FP.Core.b32 a.toNat = c * 2 ^ t := by
  have ht : FP.Core.b32.tails = 8388608 := FP.Core.tails_b32
  by_cases h1 : a.toNat < 8388608
  · refine ⟨0, a.toNat, by omega, by omega, Or.inl rfl, by omega, ?_⟩
    unfold FP.Core.unitsOf
    rw [ht, if_pos h1, Nat.pow_zero, Nat.mul_one]
  · refine ⟨a.toNat / 8388608 - 1, 8388608 + a.toNat % 8388608, by omega, by omega, Or.inr (by omega), by omega, ?_⟩
    unfold FP.Core.unitsOf
    rw [ht, if_neg h1]
theorem dV.f2d {a : UInt32} {t c : Nat} (h : a.toNat ≤ 1291845632) (ht : t ≤ 153) (hc : c < 2 ^ 24) (hu : FP.Core.unitsOf FP.Core.b32 a.toNat = c * 2 ^ t) : dV (FP.f2d a) c (t + 925) := by
  obtain ⟨C, Q, h1, h2, h3⟩ := fs_fin (a := a) (by omega)
  have hQ : (-149 : Int) ≤ Q := h2.2.1
  have hn : FP.Core.fIsNaN a = false := by
    rw [FP.Core.notNaN_iff32, h1]
    exact FP.Core.Datum.noConfusion
  have hv : FP.Core.val64 (FP.f2d a) = FP.Core.roundRatio FP.Core.b64 false C 1 Q := by
    unfold FP.f2d
    rw [hn]
    show FP.Core.val64 (FP.Core.f2d a) = _
    rw [FP.Core.val64_f2d, h1]
    rfl
  refine dV.round hv (by omega) (by omega) 0 (by omega) ?_
  have h4 : C * 2 ^ (Q - -149).toNat = c * 2 ^ t := h3.trans hu
  rw [show (Q + 1074 + ((0 : Nat) : Int)).toNat = (Q - -149).toNat + 925 by omega, Nat.pow_add, ← Nat.mul_assoc, h4, Nat.mul_assoc, ← Nat.pow_add, Nat.add_zero]
theorem dV.d2i {y : UInt64} {c : Nat} (h : dV y c 1074) (hc : c < 2 ^ 24) : FP.d2i y = Int32.ofInt c := by
  obtain ⟨C, Q, h1, h2, h3⟩ := id h
  show FP.Core.toI (FP.Core.val64 y) = _
  unfold FP.Core.toI
  rw [FP.Core.toInt_zmag FP.Core.good_b64 (FP.Core.val64_fits y) h.zval.1 (by decide +kernel) (by decide +kernel) (by decide), h1]
  have e1 : FP.Core.zmag FP.Core.b64 (.fin false C Q) = c * 2 ^ 1074 := by
    show C * 2 ^ (Q - -1074).toNat = _
    rw [show (Q - -1074).toNat = (Q + 1074).toNat by omega, h3]
  rw [e1, show (-FP.Core.b64.qmin).toNat = 1074 by decide, Nat.mul_div_cancel _ (Nat.two_pow_pos _)]
  congr 1
  show max (-2 ^ 31) (min (2 ^ 31 - 1) (c : Int)) = c
  omega
