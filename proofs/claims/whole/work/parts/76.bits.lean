theorem pw_1 {c j a b : Nat} (h1 : 2 ^ a ≤ c) (h2 : c * 2 ^ j < 1 * 2 ^ b) : a + j < b := by
  rw [Nat.one_mul] at h2
  have h3 : 2 ^ (a + j) ≤ c * 2 ^ j := by rw [Nat.pow_add]; exact Nat.mul_le_mul_right _ h1
  exact (Nat.pow_lt_pow_iff_right (by decide)).mp (Nat.lt_of_le_of_lt h3 h2)
theorem pw_2 {c j a b : Nat} (h1 : c < 2 ^ a) (h2 : ¬ c * 2 ^ j < 1 * 2 ^ b) : b < a + j := by
  rw [Nat.one_mul, Nat.not_lt] at h2
  have h3 : c * 2 ^ j < 2 ^ (a + j) := by rw [Nat.pow_add]; exact Nat.mul_lt_mul_of_pos_right h1 (Nat.two_pow_pos _)
  exact (Nat.pow_lt_pow_iff_right (by decide)).mp (Nat.lt_of_le_of_lt h2 h3)
theorem u_nI (x : UInt32) : x.toInt32 = nI x.toNat := by
  apply Int32.toBitVec_inj.mp
  show x.toBitVec = BitVec.ofNat 32 x.toBitVec.toNat
  rw [BitVec.ofNat_toNat, BitVec.setWidth_eq]
theorem i_shl23 {t : Nat} (ht : t ≤ 153) : nI t <<< (nI 23 &&& 31) = nI (t * 2 ^ 23) := by
  have : ∀ t : Fin 154, nI t.val <<< (nI 23 &&& 31) = nI (t.val * 2 ^ 23) := by decide +kernel
  exact this ⟨t, by omega⟩
theorem dV.lt {x y : UInt64} {c j c' j' : Nat} {op : ClassFile.CmpOp} (h : dV x c j) (h' : dV y c' j') : Op.cmpValue (FP.dcmp x y) op < 0 ↔ c * 2 ^ j < c' * 2 ^ j' := by
  rw [h.cmp h']
  generalize c * 2 ^ j = a
  generalize c' * 2 ^ j' = b
  rcases Nat.lt_trichotomy a b with z | z | z
  · have e : compare (a : Int) (b : Int) = .lt := FP.Core.compare_lt_iff _ _ |>.mpr (by omega)
    rw [e]
    exact ⟨fun _ => z, fun _ => (by show (-1 : Int32) < 0; decide)⟩
  · have e : compare (a : Int) (b : Int) = .eq := FP.Core.compare_eq_iff _ _ |>.mpr (by omega)
    rw [e]
    exact ⟨fun w => absurd w (by show ¬ ((0 : Int32) < 0); decide), fun w => absurd w (by omega)⟩
  · have e : compare (a : Int) (b : Int) = .gt := FP.Core.compare_gt_iff _ _ |>.mpr (by omega)
    rw [e]
    exact ⟨fun w => absurd w (by show ¬ ((1 : Int32) < 0); decide), fun w => absurd w (by omega)⟩
section
variable {d : Nat} {Q : Value → zM → Prop} {m m' : zM} {w : sW} {s : sS} {x : UInt32}
theorem bits_56 {y : UInt64} {t c : Nat} (ht : t ≤ 153) (hc : c < 2 ^ 24) (hx : x.toNat = t * 2 ^ 23 + c) (hy : dV y c 1051) (hk : Q (.int x.toInt32) m) : zwp (d + 1) M8_bitsOf 0 0 Q 56 [.float x, .double y, zU, .int (nI (t + 1))] [] 0 0 m := by
  have h1 := hy.mul 29 dv_c23 (j' := 1074) (by omega) (by omega) (by omega)
  refine zr_iload_n dX8_bitsOf_56 rfl ?_
  refine zr_iconst (v := nI 1) dX8_bitsOf_57 rfl ?_
  refine zr_isubN dX8_bitsOf_58 (by omega) ?_
  refine zr_bipush (v := nI 23) dX8_bitsOf_59 rfl ?_
  refine zr_ishl dX8_bitsOf_61 ?_
  rw [show t + 1 - 1 = t by omega, i_shl23 ht]
  refine zr_dload_n dX8_bitsOf_62 rfl ?_
  refine zr_ldc2d dX8_bitsOf_63 kc_8_200 ?_
  refine zr_dmul dX8_bitsOf_66 h1.nn ?_
  refine zr_d2i dX8_bitsOf_67 ?_
  rw [h1.d2i hc, show Int32.ofInt (c : Int) = nI c from rfl]
  refine zr_iadd dX8_bitsOf_68 ?_
  rw [nI_add, ← hx, ← u_nI]
  refine zr_ireturn dX8_bitsOf_69 rfl (Nat.le_refl _) (Nat.le_refl _) ?_
  exact hk
theorem bits_33 {t c : Nat} (ht : t ≤ 153) (hc : c < 2 ^ 24) (hn : t = 0 ∨ 2 ^ 23 ≤ c) (hx : x.toNat = t * 2 ^ 23 + c) (hk : Q (.int x.toInt32) m) : ∀ cc j k y, k < cc → dV y c j → j + k = t + 1052 → 1 ≤ k → j ≤ 1051 → zwp (d + 1) M8_bitsOf 0 0 Q 33 [.float x, .double y, zU, .int (nI k)] [] 0 0 m := by
  intro cc
  induction cc with
  | zero => intro j k y h1; omega
  | succ cc ih =>
    intro j k y h1 hy hjk hk1 hj
    have hl := hy.lt (op := .g) dv_1
    refine zr_dload_n dX8_bitsOf_33 rfl ?_
    refine zr_dconst1 dX8_bitsOf_34 ?_
    refine zr_dcmp dX8_bitsOf_35 ?_
    refine zr_if_ge (tgt := 56) dX8_bitsOf_36 (by decide) (fun hc_36 => ?_) (fun hc_36 => ?_)
    · have e1 : ¬ c * 2 ^ j < 1 * 2 ^ 1074 := fun z => absurd (hl.mpr z) (Int32.not_lt.mpr hc_36)
      have e2 := pw_2 hc e1
      have e3 : j = 1051 := by omega
      subst e3
      have e4 : k = t + 1 := by omega
      subst e4
      exact bits_56 ht hc hx hy hk
    · have e1 : c * 2 ^ j < 1 * 2 ^ 1074 := hl.mp (Int32.not_le.mp hc_36)
      refine zr_iload_n dX8_bitsOf_39 rfl ?_
      refine zr_iconst (v := nI 1) dX8_bitsOf_40 rfl ?_
      refine zr_icmp_leN (tgt := 56) dX8_bitsOf_41 (by decide) (by omega) (by omega) (fun hc_41 => ?_) (fun hc_41 => ?_)
      · have e4 : k = t + 1 := by omega
        have e3 : j = 1051 := by omega
        subst e3
        subst e4
        exact bits_56 ht hc hx hy hk
      · have hj2 : j ≤ 1050 := by
          rcases hn with z | z
          · omega
          · have := pw_1 z e1
            omega
        have h2 := hy.mul 51 dv_c2 (j' := j + 1) (by omega) (by omega) (by omega)
        obtain ⟨k', rfl⟩ : ∃ k', k = k' + 1 := ⟨k - 1, by omega⟩
        refine zr_dload_n dX8_bitsOf_44 rfl ?_
        refine zr_ldc2d dX8_bitsOf_45 kc_8_196 ?_
        refine zr_dmul dX8_bitsOf_48 h2.nn ?_
        refine zr_dstore_n dX8_bitsOf_49 (by decide) rfl ?_
        dsimp only [zset]
        refine zr_idecN dX8_bitsOf_50 rfl (by decide) rfl ?_
        dsimp only [zset]
        refine zr_goto (tgt := 33) dX8_bitsOf_53 (by decide) ?_
        exact ih (j + 1) k' _ (by omega) h2 (by omega) (by omega) (by omega)
theorem bits_6 {t c : Nat} (ht : t ≤ 153) (hc : c < 2 ^ 24) (hn : t = 0 ∨ 2 ^ 23 ≤ c) (hx : x.toNat = t * 2 ^ 23 + c) (hk : Q (.int x.toInt32) m) : ∀ cc j k y, j < cc → dV y c j → j + k = t + 1052 → 1 ≤ k → 127 ≤ k → j ≤ 2000 → zwp (d + 1) M8_bitsOf 0 0 Q 6 [.float x, .double y, zU, .int (nI k)] [] 0 0 m := by
  intro cc
  induction cc with
  | zero => intro j k y h1; omega
  | succ cc ih =>
    intro j k y h1 hy hjk hk1 hk2 hj0
    have hl := hy.lt (op := .l) dv_2
    refine zr_dload_n dX8_bitsOf_6 rfl ?_
    refine zr_ldc2d dX8_bitsOf_7 kc_8_196 ?_
    refine zr_dcmp dX8_bitsOf_10 ?_
    refine zr_if_lt (tgt := 33) dX8_bitsOf_11 (by decide) (fun hc_11 => ?_) (fun hc_11 => ?_)
    · have e1 : c * 2 ^ j < 1 * 2 ^ 1075 := hl.mp hc_11
      have e2 : j ≤ 1051 := by
        rcases hn with z | z
        · omega
        · have := pw_1 z e1
          omega
      exact bits_33 ht hc hn hx hk _ j k y (Nat.lt_succ_self _) hy hjk hk1 e2
    · have e1 : ¬ c * 2 ^ j < 1 * 2 ^ 1075 := fun z => hc_11 (hl.mpr z)
      have e2 := pw_2 hc e1
      have h2 := hy.mul 53 dv_ch (j' := j - 1) (by omega) (by omega) (by omega)
      refine zr_iload_n dX8_bitsOf_14 rfl ?_
      refine zr_sipush (v := nI 254) dX8_bitsOf_15 rfl ?_
      refine zr_icmp_geN (tgt := 33) dX8_bitsOf_18 (by decide) (by omega) (by omega) (fun hc_18 => by omega) (fun hc_18 => ?_)
      refine zr_dload_n dX8_bitsOf_21 rfl ?_
      refine zr_ldc2d dX8_bitsOf_22 kc_8_198 ?_
      refine zr_dmul dX8_bitsOf_25 h2.nn ?_
      refine zr_dstore_n dX8_bitsOf_26 (by decide) rfl ?_
      dsimp only [zset]
      refine zr_iincN dX8_bitsOf_27 rfl (by decide) rfl ?_
      dsimp only [zset]
      refine zr_goto (tgt := 6) dX8_bitsOf_30 (by decide) ?_
      exact ih (j - 1) (k + 1) _ (by omega) h2 (by omega) (by omega) (by omega) (by omega)
theorem bitsOf_ok (h : x.toNat ≤ 1291845632) (hk : Q (.int x.toInt32) m) : zC (d + 1) M8_bitsOf 0 0 [.float x] m Q := by
  obtain ⟨t, c, h1, h2, h3, h4, h5⟩ := fs_parts h
  have hy := dV.f2d h h1 h2 h5
  refine zenterP (Or.inl (by decide +kernel)) rfl (fun h => by cases h) (Nat.le_of_ble_eq_true rfl) ?_
  show zwp _ _ _ _ _ 0 [_, zU, zU, zU] [] 0 0 _
  refine zr_fload_n dX8_bitsOf_0 rfl ?_
  refine zr_f2d dX8_bitsOf_1 hy.nn ?_
  refine zr_dstore_n dX8_bitsOf_2 (by decide) rfl ?_
  dsimp only [zset]
  refine zr_bipush (v := nI 127) dX8_bitsOf_3 rfl ?_
  refine zr_istore_n dX8_bitsOf_5 (by decide) rfl ?_
  dsimp only [zset]
  exact bits_6 h1 h2 h3 h4 hk _ (t + 925) 127 _ (Nat.lt_succ_self _) hy (by omega) (by omega) (by omega) (by omega)
theorem rate_c (hR : RC m w) (h : w.1.2.1.toNat ≤ 1291845632) (hk : Q (.int w.1.2.1.toInt32) m) : zC (d + 2) M8_rate 0 0 [.ref 2] m Q := by
  refine zenterP (Or.inl (by decide +kernel)) rfl (fun h => by cases h) (Nat.le_of_ble_eq_true rfl) ?_
  show zwp _ _ _ _ _ 0 [_] [] 0 0 _
  refine zr_aload_n dX8_rate_0 rfl ?_
  refine zr_getR dX8_rate_1 fd_8_12 rfl (hR.1.ob rfl) hR.link (by decide) ?_
  refine zr_getF dX8_rate_4 fd_8_70 rfl (hR.2.1.1.ob rfl) ?_
  rw [hR.2.1.2.1.2.2.2.2.2.2.2]
  refine zr_cS1 rfl dX8_rate_7 cv_8_74 (Nat.le_of_ble_eq_true rfl) (bitsOf_ok h ?_)
  refine zr_ireturn dX8_rate_10 rfl (Nat.le_refl _) (Nat.le_refl _) ?_
  exact hk
end
