/-! ===== the class: sets of data ===== -/
theorem db_has {W : Int64} {k : Nat} (hk : k < 64) : ((W.toUInt64 >>> ((nI k).toInt64.toUInt64 &&& Int64.toUInt64 63)).toInt64 &&& 1 = 1) ↔ W.toBitVec.getLsbD k = true := by
  have e : (nI k).toInt64.toUInt64 &&& Int64.toUInt64 63 = UInt64.ofNat k := by
    have : ∀ k : Fin 64, (nI k.val).toInt64.toUInt64 &&& Int64.toUInt64 63 = UInt64.ofNat k.val := by decide +kernel
    exact this ⟨k, hk⟩
  rw [e, ← Int64.toBitVec_inj]
  have e2 : ((W.toUInt64 >>> UInt64.ofNat k).toInt64 &&& 1).toBitVec = (W.toBitVec >>> k) &&& 1#64 := by
    show (W.toBitVec >>> (BitVec.ofNat 64 k % 64)) &&& 1#64 = _
    congr 1
    have hh : (BitVec.ofNat 64 k % 64).toNat = k := by simp; omega
    show W.toBitVec >>> (BitVec.ofNat 64 k % 64).toNat = _
    rw [hh]
  rw [e2, show (1 : Int64).toBitVec = 1#64 from rfl, BitVec.and_one_eq_setWidth_ofBool_getLsbD]
  simp only [BitVec.getLsbD_ushiftRight, Nat.add_zero]
  cases W.toBitVec.getLsbD k <;> decide
theorem db_add {W : Int64} {k i : Nat} (hk : k < 64) (hi : i < 64) : (W ||| ((1 : Int64) <<< ((nI k).toInt64 &&& 63))).toBitVec.getLsbD i = (W.toBitVec.getLsbD i || decide (i = k)) := by
  have e : ∀ k i : Fin 64, ((1 : Int64) <<< ((nI k).toInt64 &&& 63)).toBitVec.getLsbD i.val = decide (i.val = k.val) := by decide +kernel
  rw [Int64.toBitVec_or, BitVec.getLsbD_or, e ⟨k, hk⟩ ⟨i, hi⟩]
theorem nI_256 {j : Nat} (hj : j < 256) : nI j / nI 64 = nI (j / 64) ∧ nI j - nI j / nI 64 * nI 64 = nI (j % 64) := by
  have : ∀ j : Fin 256, nI j / nI 64 = nI (j / 64) ∧ nI j - nI j / nI 64 * nI 64 = nI (j % 64) := by decide +kernel
  exact this ⟨j, hj⟩
theorem lg_eq {x y : Int64} : lg_cmp x y = 0 ↔ x = y := by
  unfold lg_cmp
  by_cases h2 : x = y
  · simp [h2]
  · by_cases h1 : x > y <;> simp [h1, h2]
theorem zL_s (m : zM) (a k : Nat) (v : Int64) : zL (zsL m a k v) a k = v := by simp [zL, zsL, zu]
theorem zL_n (m : zM) {a k b j : Nat} (v : Int64) (h : b ≠ a ∨ j ≠ k) : zL (zsL m a k v) b j = zL m b j := by
  simp only [zL, zsL, zu]
  rw [if_neg (by omega)]
def DC (m : zM) (L : Nat) (p : Int32 → Bool) : Prop := ∀ j, j < 256 → (zL m (L + 93) (j / 64)).toBitVec.getLsbD (j % 64) = p (nI j)
section
variable {d : Nat} {Q : Value → zM → Prop} {m m' : zM} {L : Nat} {s : sS} {p : Int32 → Bool}
theorem DC.out {lo hi : Nat} (h : DC m L p) (ho : zout lo hi m m') (hd : L + 94 ≤ lo ∨ hi ≤ L + 93) : DC m' L p := fun j hj => by
  rw [(ho.2 (L + 93) (by omega)).2.2.1]
  exact h j hj
theorem LK.dout (h : LK m L s) (ho : zout (L + 93) (L + 94) m m') : LK m' L s := by
  obtain ⟨h1, ⟨n1, n2, n3, n4, n5, n6, n7, n8⟩, h3, h4, h5⟩ := h
  refine ⟨h1.of ho.1 (ho.R (by omega)) (ho.R (by omega)) (ho.R (by omega)), ?_, h3, fun k hk => ?_, fun k hk => (h5 k hk).out ho (by have := hb_in (L := L) (h := k) (by omega); omega)⟩
  · unfold LN
    rw [ho.I (by omega), (ho.2 L (by omega)).2.2.2]
    exact ⟨n1, n2, n3, n4, n5, n6, n7, n8⟩
  · obtain ⟨x, hx⟩ := h4 k hk
    exact ⟨x, hx.out ho (by have := hb_in (L := L) hk; omega)⟩
theorem Dempty_ok (hR : LR m L) (hk : ∀ m', zout (L + 93) (L + 94) m m' → DC m' L (fun _ => false) → Q .null m') : zC (d + 1) M1_empty 0 0 [.ref (L + 92)] m Q := by
  have loop : ∀ c i m1, 4 - i < c → i ≤ 4 → zout (L + 93) (L + 94) m m1 → (∀ j, j < i → zL m1 (L + 93) j = 0) → zwp (d + 1) M1_empty 0 0 Q 2 [.ref (L + 92), .int (nI i)] [] 0 0 m1 := by
    intro c
    induction c with
    | zero => intro i m1 h1; omega
    | succ c ih =>
      intro i m1 h1 h2 ho h3
      have hR1 : LR m1 L := hR.of ho.1 (ho.R (by omega)) (ho.R (by omega)) (ho.R (by omega))
      refine zr_iload_n dX1_empty_2 rfl ?_
      refine zr_aload_n dX1_empty_3 rfl ?_
      refine zr_getR dX1_empty_4 fd_1_9 rfl (hR1.dob rfl) hR1.2.2.2.2.2 (by omega) ?_
      refine zr_alen dX1_empty_7 (hR1.dar rfl) (by decide) (by decide) ?_
      refine zr_icmp_geN (tgt := 24) dX1_empty_8 (by decide) (by omega) (by omega) (fun hc_8 => ?_) (fun hc_8 => ?_)
      · refine zr_return dX1_empty_24 rfl (Nat.le_refl _) (Nat.le_refl _) ?_
        refine hk m1 ho (fun j hj => ?_)
        rw [h3 _ (by omega)]
        simp
      · refine zr_aload_n dX1_empty_11 rfl ?_
        refine zr_getR dX1_empty_12 fd_1_9 rfl (hR1.dob rfl) hR1.2.2.2.2.2 (by omega) ?_
        refine zr_iload_n dX1_empty_15 rfl ?_
        refine zr_lconst (v := 0) dX1_empty_16 rfl ?_
        refine zr_lastoreN dX1_empty_17 (hR1.dar rfl) (by omega) (by decide) ?_
        refine zr_iincN dX1_empty_18 rfl (by decide) rfl ?_
        dsimp only [zset]
        refine zr_goto (tgt := 2) dX1_empty_21 (by decide) ?_
        refine ih (i + 1) _ (by omega) (by omega) (ho.tr (zout.sL (by omega) (by omega))) (fun j hj => ?_)
        by_cases e : j = i
        · subst e; rw [zL_s]
        · rw [zL_n _ _ (Or.inr e)]; exact h3 j (by omega)
  refine zenterP (Or.inl (by decide +kernel)) rfl (fun h => by cases h) (Nat.le_of_ble_eq_true rfl) ?_
  show zwp _ _ _ _ _ 0 [_, zU] [] 0 0 _
  refine zr_iconst (v := nI 0) dX1_empty_0 rfl ?_
  refine zr_istore_n dX1_empty_1 (by decide) rfl ?_
  dsimp only [zset]
  exact loop _ 0 m (Nat.lt_succ_self _) (Nat.zero_le _) zout.rf (fun j hj => absurd hj (Nat.not_lt_zero j))
theorem sin_255 {j : Nat} (hj : j < 256) : sin (nI j) (nI 0) (nI 255) = true := by
  have : ∀ j : Fin 256, sin (nI j) (nI 0) (nI 255) = true := by decide +kernel
  exact this ⟨j, hj⟩
theorem Dadd_ok {j : Nat} (hR : LR m L) (hj : j < 256) (hD : DC m L p) (hk : ∀ m', zout (L + 93) (L + 94) m m' → DC m' L (fun x => p x || x == nI j) → Q .null m') : zC (d + 2) M1_add 0 0 [.ref (L + 92), .int (nI j)] m Q := by
  refine zenterP (Or.inl (by decide +kernel)) rfl (fun h => by cases h) (Nat.le_of_ble_eq_true rfl) ?_
  show zwp _ _ _ _ _ 0 [_, _] [] 0 0 _
  refine zr_iload_n dX1_add_0 rfl ?_
  refine zr_iconst (v := nI 0) dX1_add_1 rfl ?_
  refine zr_sipush (v := nI 255) dX1_add_2 rfl ?_
  refine zr_cSN3 rfl dX1_add_5 cv_1_15 (Nat.le_of_ble_eq_true rfl) (within_ok ?_)
  refine zr_if_eqB (tgt := 29) dX1_add_8 (by decide) (fun hc_8 => absurd (hc_8.symm.trans (sin_255 hj)) (by decide)) (fun hc_8 => ?_)
  refine zr_aload_n dX1_add_11 rfl ?_
  refine zr_getR dX1_add_12 fd_1_9 rfl (hR.dob rfl) hR.2.2.2.2.2 (by omega) ?_
  refine zr_iload_n dX1_add_15 rfl ?_
  refine zr_bipush (v := nI 64) dX1_add_16 rfl ?_
  refine zr_idiv dX1_add_18 (by decide) ?_
  rw [(nI_256 hj).1]
  refine zr_dup2 dX1_add_19 rfl rfl ?_
  refine zr_laloadN dX1_add_20 (hR.dar rfl) (by omega) (by decide) ?_
  refine zr_lconst (v := 1) dX1_add_21 rfl ?_
  refine zr_iload_n dX1_add_22 rfl ?_
  refine zr_bipush (v := nI 64) dX1_add_23 rfl ?_
  refine zr_irem dX1_add_25 (by decide) ?_
  rw [(nI_256 hj).2]
  refine zr_lshl dX1_add_26 ?_
  refine zr_lor dX1_add_27 ?_
  refine zr_lastoreN dX1_add_28 (hR.dar rfl) (by omega) (by decide) ?_
  refine zr_return dX1_add_29 rfl (Nat.le_refl _) (Nat.le_refl _) ?_
  refine hk _ (zout.sL (by omega) (by omega)) (fun i hi => ?_)
  by_cases e : i / 64 = j / 64
  · rw [e, zL_s, db_add (by omega) (by omega), ← e, hD i hi]
    congr 1
    rw [Bool.eq_iff_iff, decide_eq_true_iff, beq_iff_eq, nI_eq (by omega) (by omega)]
    omega
  · rw [zL_n _ _ (Or.inr e), hD i hi]
    have : (nI i == nI j) = false := by
      rw [beq_eq_false_iff_ne, Ne, nI_eq (by omega) (by omega)]
      intro z
      exact e (by rw [z])
    dsimp only
    rw [this, Bool.or_false]
theorem Dhas_ok {j : Nat} (hR : LR m L) (hj : j < 256) (hD : DC m L p) (hk : Q (.int (bI (p (nI j)))) m) : zC (d + 2) M1_has 0 0 [.ref (L + 92), .int (nI j)] m Q := by
  rw [← hD j hj] at hk
  refine zenterP (Or.inl (by decide +kernel)) rfl (fun h => by cases h) (Nat.le_of_ble_eq_true rfl) ?_
  show zwp _ _ _ _ _ 0 [_, _] [] 0 0 _
  refine zr_iload_n dX1_has_0 rfl ?_
  refine zr_iconst (v := nI 0) dX1_has_1 rfl ?_
  refine zr_sipush (v := nI 255) dX1_has_2 rfl ?_
  refine zr_cSN3 rfl dX1_has_5 cv_1_15 (Nat.le_of_ble_eq_true rfl) (within_ok ?_)
  refine zr_if_eqB (tgt := 36) dX1_has_8 (by decide) (fun hc_8 => absurd (hc_8.symm.trans (sin_255 hj)) (by decide)) (fun hc_8 => ?_)
  refine zr_aload_n dX1_has_11 rfl ?_
  refine zr_getR dX1_has_12 fd_1_9 rfl (hR.dob rfl) hR.2.2.2.2.2 (by omega) ?_
  refine zr_iload_n dX1_has_15 rfl ?_
  refine zr_bipush (v := nI 64) dX1_has_16 rfl ?_
  refine zr_idiv dX1_has_18 (by decide) ?_
  rw [(nI_256 hj).1]
  refine zr_laloadN dX1_has_19 (hR.dar rfl) (by omega) (by decide) ?_
  refine zr_iload_n dX1_has_20 rfl ?_
  refine zr_bipush (v := nI 64) dX1_has_21 rfl ?_
  refine zr_irem dX1_has_23 (by decide) ?_
  rw [(nI_256 hj).2]
  refine zr_lushr dX1_has_24 ?_
  refine zr_lconst (v := 1) dX1_has_25 rfl ?_
  refine zr_land dX1_has_26 ?_
  refine zr_lconst (v := 1) dX1_has_27 rfl ?_
  refine zr_lcmp dX1_has_28 ?_
  refine zr_if_ne (tgt := 36) dX1_has_29 (by decide) (fun hc_29 => ?_) (fun hc_29 => ?_)
  · refine zr_iconst (v := nI 0) dX1_has_36 rfl ?_
    refine zr_z0 dX1_has_37 rfl (Nat.le_refl _) (Nat.le_refl _) ?_ hk
    have h0 := db_has (W := zL m (L + 93) (j / 64)) (k := j % 64) (by omega)
    first
    | (have := h0.mp (lg_eq.mp hc_29)
       simp [this]; done)
    | (have h9 := fun z => hc_29 (lg_eq.mpr (h0.mpr z))
       exact Bool.eq_false_iff.mpr h9)
    | fail "none"
  · refine zr_iconst (v := nI 1) dX1_has_32 rfl ?_
    refine zr_goto (tgt := 37) dX1_has_33 (by decide) ?_
    refine zr_z1 dX1_has_37 rfl (Nat.le_refl _) (Nat.le_refl _) ?_ hk
    have h0 := db_has (W := zL m (L + 93) (j / 64)) (k := j % 64) (by omega)
    first
    | (have := h0.mp (lg_eq.mp hc_29)
       simp [this]; done)
    | (have h9 := fun z => hc_29 (lg_eq.mpr (h0.mpr z))
       exact Bool.eq_false_iff.mpr h9)
    | fail "none"
end
