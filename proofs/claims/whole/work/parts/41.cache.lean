/-! ===== the class: caches ===== -/
/-- the first place where p holds, among the first i; or none -/
def sidx (l : List sR) (p : sR → Bool) : Nat → Option Nat
  | 0 => none
  | i + 1 => match sidx l p i with
    | some j => some j
    | none => if p (zg l i) then some i else none
def oN (o : Option Nat) : Int32 := match o with
  | some j => nI j
  | none => -1
theorem sidx_none {l : List sR} {p : sR → Bool} {n : Nat} (h : sidx l p n = none) : ∀ i, i < n → p (zg l i) = false := by
  induction n with
  | zero => intro i hi; omega
  | succ n ih =>
    intro i hi
    rw [sidx] at h
    split at h
    · cases h
    · rename_i h2
      split at h
      · cases h
      · rename_i h3
        by_cases e : i = n
        · subst e; exact Bool.eq_false_iff.mpr h3
        · exact ih h2 i (by omega)
theorem sidx_some {l : List sR} {p : sR → Bool} {n j : Nat} (h : sidx l p n = some j) : j < n ∧ p (zg l j) = true ∧ ∀ i, i < j → p (zg l i) = false := by
  induction n with
  | zero => cases h
  | succ n ih =>
    rw [sidx] at h
    split at h
    · rename_i k h2
      injection h with h
      subst h
      obtain ⟨i1, i2, i3⟩ := ih h2
      exact ⟨by omega, i2, i3⟩
    · rename_i h2
      split at h
      · rename_i h3
        injection h with h
        subst h
        exact ⟨by omega, h3, sidx_none h2⟩
      · cases h
theorem sidx_mk {l : List sR} {p : sR → Bool} {n j : Nat} (hj : j < n) (hp : p (zg l j) = true) (hm : ∀ i, i < j → p (zg l i) = false) : sidx l p n = some j := by
  cases h : sidx l p n with
  | none => rw [sidx_none h j hj] at hp; cases hp
  | some k =>
    obtain ⟨h1, h2, h3⟩ := sidx_some h
    congr 1
    by_cases e : k < j
    · rw [hm k e] at h2; cases h2
    · by_cases e2 : j < k
      · rw [h3 j e2] at hp; cases hp
      · omega
theorem sidx_no {l : List sR} {p : sR → Bool} {n : Nat} (hm : ∀ i, i < n → p (zg l i) = false) : sidx l p n = none := by
  cases h : sidx l p n with
  | none => rfl
  | some k =>
    obtain ⟨h1, h2, h3⟩ := sidx_some h
    rw [hm k h1] at h2
    cases h2
theorem nI_bI (a : Nat) (b : Bool) : nI a + bI b = nI (a + if b = true then 1 else 0) := by
  cases b
  · exact nI_add a 0
  · exact nI_add a 1
def skey (n k q : Int32) (e : sR) : Bool := snam e n k && e 2 == q
section
variable {d : Nat} {Q : Value → zM → Prop} {m : zM} {C : Nat} {l : List sR} {n k q t : Int32}
theorem indexOf_ok (hC : CC m C l) (hk : Q (.int (oN (sidx l (skey n k q) l.length))) m) : zC (d + 1) M0_indexOf 0 0 [.ref C, .int n, .int k, .int q] m Q := by
  have hr := hC.2.2.1
  have hs := hC.2.2.2.2.1
  have h6 := hC.2.2.2.2.2.1
  have loop : ∀ c i t5, l.length - i < c → i ≤ l.length → (∀ j, j < i → skey n k q (zg l j) = false) → zwp (d + 1) M0_indexOf 0 0 Q 3 [.ref C, .int n, .int k, .int q, .int (nI i), t5] [] 0 0 m := by
    intro c
    induction c with
    | zero => intro i t5 h1; omega
    | succ c ih =>
      intro i t5 h1 h2 h3
      refine zr_iload dX0_indexOf_3 rfl ?_
      refine zr_aload_n dX0_indexOf_5 rfl ?_
      refine zr_getI dX0_indexOf_6 fd_0_18 rfl (hC.ob rfl) ?_
      rw [hs]
      refine zr_icmp_geN (tgt := 57) dX0_indexOf_9 (by decide) (by omega) (by omega) (fun hc_9 => ?_) (fun hc_9 => ?_)
      · refine zr_iconst (v := -1) dX0_indexOf_57 rfl ?_
        refine zr_ireturn dX0_indexOf_58 rfl (Nat.le_refl _) (Nat.le_refl _) ?_
        rw [sidx_no (fun j hj => h3 j (by omega))] at hk
        exact hk
      · refine zr_aload_n dX0_indexOf_12 rfl ?_
        refine zr_getR dX0_indexOf_13 fd_0_11 rfl (hC.ob rfl) hr (by omega) ?_
        refine zr_iload dX0_indexOf_16 rfl ?_
        refine zr_aaloadN dX0_indexOf_18 (hC.ar rfl) (by decide) (by decide) (by omega) (by decide) rfl (hC.nz (by omega)) ?_
        refine zr_astore dX0_indexOf_19 (by decide) rfl ?_
        dsimp only [zset]
        refine zr_aload dX0_indexOf_21 rfl ?_
        refine zr_getI dX0_indexOf_23 fd_0_26 rfl (hC.eo (by omega) rfl) ?_
        rw [hC.at hc_9 (by decide)]
        refine zr_iload_n dX0_indexOf_26 rfl ?_
        refine zr_icmp_ne (tgt := 51) dX0_indexOf_27 (by decide) (fun hc_27 => ?_) (fun hc_27 => ?_)
        · refine zr_iincN dX0_indexOf_51 rfl (by decide) rfl ?_
          dsimp only [zset]
          refine zr_goto (tgt := 3) dX0_indexOf_54 (by decide) ?_
          refine ih (i + 1) _ (by omega) (by omega) (fun j hj => ?_)
          by_cases e : j = i
          · subst e
            simp [skey, snam, *]
          · exact h3 j (by omega)
        · refine zr_aload dX0_indexOf_30 rfl ?_
          refine zr_getI dX0_indexOf_32 fd_0_29 rfl (hC.eo (by omega) rfl) ?_
          rw [hC.at hc_9 (by decide)]
          refine zr_iload_n dX0_indexOf_35 rfl ?_
          refine zr_icmp_ne (tgt := 51) dX0_indexOf_36 (by decide) (fun hc_36 => ?_) (fun hc_36 => ?_)
          · refine zr_iincN dX0_indexOf_51 rfl (by decide) rfl ?_
            dsimp only [zset]
            refine zr_goto (tgt := 3) dX0_indexOf_54 (by decide) ?_
            refine ih (i + 1) _ (by omega) (by omega) (fun j hj => ?_)
            by_cases e : j = i
            · subst e
              simp [skey, snam, *]
            · exact h3 j (by omega)
          · refine zr_aload dX0_indexOf_39 rfl ?_
            refine zr_getI dX0_indexOf_41 fd_0_32 rfl (hC.eo (by omega) rfl) ?_
            rw [hC.at hc_9 (by decide)]
            refine zr_iload_n dX0_indexOf_44 rfl ?_
            refine zr_icmp_ne (tgt := 51) dX0_indexOf_45 (by decide) (fun hc_45 => ?_) (fun hc_45 => ?_)
            · refine zr_iincN dX0_indexOf_51 rfl (by decide) rfl ?_
              dsimp only [zset]
              refine zr_goto (tgt := 3) dX0_indexOf_54 (by decide) ?_
              refine ih (i + 1) _ (by omega) (by omega) (fun j hj => ?_)
              by_cases e : j = i
              · subst e
                simp [skey, snam, *]
              · exact h3 j (by omega)
            · refine zr_iload dX0_indexOf_48 rfl ?_
              refine zr_ireturn dX0_indexOf_50 rfl (Nat.le_refl _) (Nat.le_refl _) ?_
              rw [sidx_mk hc_9 (by simp [skey, snam, hc_27, hc_36, hc_45]) h3] at hk
              exact hk
  refine zenterP (Or.inl (by decide +kernel)) rfl (fun h => by cases h) (Nat.le_of_ble_eq_true rfl) ?_
  show zwp _ _ _ _ _ 0 [_, _, _, _, zU, zU] [] 0 0 _
  refine zr_iconst (v := nI 0) dX0_indexOf_0 rfl ?_
  refine zr_istore dX0_indexOf_1 (by decide) rfl ?_
  dsimp only [zset]
  exact loop _ 0 _ (Nat.lt_succ_self _) (Nat.zero_le _) (fun j hj => absurd hj (Nat.not_lt_zero j))
theorem newest_ok (hC : CC m C l) (hk : Q (.int (snewest l n k l.length)) m) : zC (d + 2) M0_newestData 0 0 [.ref C, .int n, .int k] m Q := by
  have hr := hC.2.2.1
  have hs := hC.2.2.2.2.1
  have h6 := hC.2.2.2.2.2.1
  have loop : ∀ i, i ≤ l.length → snewest l n k i = snewest l n k l.length → zwp (d + 2) M0_newestData 0 0 Q 7 [.ref C, .int n, .int k, .int (nI i - nI 1)] [] 0 0 m := by
    intro i
    induction i with
    | zero =>
      intro h1 h2
      refine zr_iload_n dX0_newestData_7 rfl ?_
      refine zr_if_lt (tgt := 41) dX0_newestData_8 (by decide) (fun hc_8 => ?_) (fun hc_8 => absurd nI_0m hc_8)
      refine zr_iconst (v := -1) dX0_newestData_41 rfl ?_
      refine zr_ireturn dX0_newestData_42 rfl (Nat.le_refl _) (Nat.le_refl _) ?_
      rw [← h2] at hk
      exact hk
    | succ i ih =>
      intro h1 h2
      rw [nI_pr]
      refine zr_iload_n dX0_newestData_7 rfl ?_
      refine zr_if_lt (tgt := 41) dX0_newestData_8 (by decide) (fun hc_8 => absurd hc_8 (nI_pos (by omega))) (fun hc_8 => ?_)
      refine zr_aload_n dX0_newestData_11 rfl ?_
      refine zr_getR dX0_newestData_12 fd_0_11 rfl (hC.ob rfl) hr (by omega) ?_
      refine zr_iload_n dX0_newestData_15 rfl ?_
      refine zr_aaloadN dX0_newestData_16 (hC.ar rfl) (by decide) (by decide) (by omega) (by decide) rfl (hC.nz (by omega)) ?_
      refine zr_iload_n dX0_newestData_17 rfl ?_
      refine zr_iload_n dX0_newestData_18 rfl ?_
      refine zr_cV2 rfl dX0_newestData_19 cv_0_63 (hC.eo (by omega) rfl) (Nat.le_of_ble_eq_true rfl) (Eisn_ok (e := zg l i) (hC.eo (by omega) rfl) (hC.at (by omega) (by decide)) (hC.at (by omega) (by decide)) ?_)
      refine zr_if_eqB (tgt := 35) dX0_newestData_22 (by decide) (fun hc_22 => ?_) (fun hc_22 => ?_)
      · refine zr_iinc (v := nI i - nI 1) dX0_newestData_35 rfl (nI_m1 i) (by decide) rfl ?_
        dsimp only [zset]
        refine zr_goto (tgt := 7) dX0_newestData_38 (by decide) ?_
        refine ih (by omega) ?_
        rw [← h2, snewest, if_neg (by rw [hc_22]; decide)]
      · refine zr_aload_n dX0_newestData_25 rfl ?_
        refine zr_getR dX0_newestData_26 fd_0_11 rfl (hC.ob rfl) hr (by omega) ?_
        refine zr_iload_n dX0_newestData_29 rfl ?_
        refine zr_aaloadN dX0_newestData_30 (hC.ar rfl) (by decide) (by decide) (by omega) (by decide) rfl (hC.nz (by omega)) ?_
        refine zr_getI dX0_newestData_31 fd_0_32 rfl (hC.eo (by omega) rfl) ?_
        rw [hC.at (by omega) (by decide)]
        refine zr_ireturn dX0_newestData_34 rfl (Nat.le_refl _) (Nat.le_refl _) ?_
        rw [← h2, snewest, if_pos hc_22] at hk
        exact hk
  refine zenterP (Or.inl (by decide +kernel)) rfl (fun h => by cases h) (Nat.le_of_ble_eq_true rfl) ?_
  show zwp _ _ _ _ _ 0 [_, _, _, zU] [] 0 0 _
  refine zr_aload_n dX0_newestData_0 rfl ?_
  refine zr_getI dX0_newestData_1 fd_0_18 rfl (hC.ob rfl) ?_
  rw [hs]
  refine zr_iconst (v := nI 1) dX0_newestData_4 rfl ?_
  refine zr_isub dX0_newestData_5 ?_
  refine zr_istore_n dX0_newestData_6 (by decide) rfl ?_
  dsimp only [zset]
  exact loop _ (Nat.le_refl _) rfl
theorem countOf_ok (hC : CC m C l) (hk : Q (.int (nI (cntN (fun i => snam (zg l i) n k) l.length))) m) : zC (d + 2) M0_countOf 0 0 [.ref C, .int n, .int k] m Q := by
  have hr := hC.2.2.1
  have hs := hC.2.2.2.2.1
  have h6 := hC.2.2.2.2.2.1
  have loop : ∀ c i, l.length - i < c → i ≤ l.length → zwp (d + 2) M0_countOf 0 0 Q 5 [.ref C, .int n, .int k, .int (nI (cntN (fun i => snam (zg l i) n k) i)), .int (nI i)] [] 0 0 m := by
    intro c
    induction c with
    | zero => intro i h1; omega
    | succ c ih =>
      intro i h1 h2
      refine zr_iload dX0_countOf_5 rfl ?_
      refine zr_aload_n dX0_countOf_7 rfl ?_
      refine zr_getI dX0_countOf_8 fd_0_18 rfl (hC.ob rfl) ?_
      rw [hs]
      refine zr_icmp_geN (tgt := 38) dX0_countOf_11 (by decide) (by omega) (by omega) (fun hc_11 => ?_) (fun hc_11 => ?_)
      · refine zr_iload_n dX0_countOf_38 rfl ?_
        refine zr_ireturn dX0_countOf_39 rfl (Nat.le_refl _) (Nat.le_refl _) ?_
        have e : i = l.length := by omega
        subst e
        exact hk
      · refine zr_iload_n dX0_countOf_14 rfl ?_
        refine zr_aload_n dX0_countOf_15 rfl ?_
        refine zr_getR dX0_countOf_16 fd_0_11 rfl (hC.ob rfl) hr (by omega) ?_
        refine zr_iload dX0_countOf_19 rfl ?_
        refine zr_aaloadN dX0_countOf_21 (hC.ar rfl) (by decide) (by decide) (by omega) (by decide) rfl (hC.nz (by omega)) ?_
        refine zr_iload_n dX0_countOf_22 rfl ?_
        refine zr_iload_n dX0_countOf_23 rfl ?_
        refine zr_cV2 rfl dX0_countOf_24 cv_0_63 (hC.eo (by omega) rfl) (Nat.le_of_ble_eq_true rfl) (Eisn_ok (e := zg l i) (hC.eo (by omega) rfl) (hC.at (by omega) (by decide)) (hC.at (by omega) (by decide)) ?_)
        refine zr_cSN1 rfl dX0_countOf_27 cv_0_72 (Nat.le_of_ble_eq_true rfl) (oneIf_ok ?_)
        refine zr_iadd dX0_countOf_30 ?_
        refine zr_istore_n dX0_countOf_31 (by decide) rfl ?_
        dsimp only [zset]
        refine zr_iincN dX0_countOf_32 rfl (by decide) rfl ?_
        dsimp only [zset]
        refine zr_goto (tgt := 5) dX0_countOf_35 (by decide) ?_
        rw [nI_bI]
        exact ih (i + 1) (by omega) (by omega)
  refine zenterP (Or.inl (by decide +kernel)) rfl (fun h => by cases h) (Nat.le_of_ble_eq_true rfl) ?_
  show zwp _ _ _ _ _ 0 [_, _, _, zU, zU] [] 0 0 _
  refine zr_iconst (v := nI 0) dX0_countOf_0 rfl ?_
  refine zr_istore_n dX0_countOf_1 (by decide) rfl ?_
  dsimp only [zset]
  refine zr_iconst (v := nI 0) dX0_countOf_2 rfl ?_
  refine zr_istore dX0_countOf_3 (by decide) rfl ?_
  dsimp only [zset]
  exact loop _ 0 (Nat.lt_succ_self _) (Nat.zero_le _)
theorem longest_ok (hC : CC m C l) (hk : Q (.int (smost l n k t l.length)) m) : zC (d + 2) M0_longestLeft 0 0 [.ref C, .int n, .int k, .int t] m Q := by
  have hr := hC.2.2.1
  have hs := hC.2.2.2.2.1
  have h6 := hC.2.2.2.2.2.1
  have loop : ∀ c i, l.length - i < c → i ≤ l.length → zwp (d + 2) M0_longestLeft 0 0 Q 6 [.ref C, .int n, .int k, .int t, .int (smost l n k t i), .int (nI i)] [] 0 0 m := by
    intro c
    induction c with
    | zero => intro i h1; omega
    | succ c ih =>
      intro i h1 h2
      refine zr_iload dX0_longestLeft_6 rfl ?_
      refine zr_aload_n dX0_longestLeft_8 rfl ?_
      refine zr_getI dX0_longestLeft_9 fd_0_18 rfl (hC.ob rfl) ?_
      rw [hs]
      refine zr_icmp_geN (tgt := 55) dX0_longestLeft_12 (by decide) (by omega) (by omega) (fun hc_12 => ?_) (fun hc_12 => ?_)
      · refine zr_iload dX0_longestLeft_55 rfl ?_
        refine zr_ireturn dX0_longestLeft_57 rfl (Nat.le_refl _) (Nat.le_refl _) ?_
        have e : i = l.length := by omega
        subst e
        exact hk
      · refine zr_aload_n dX0_longestLeft_15 rfl ?_
        refine zr_getR dX0_longestLeft_16 fd_0_11 rfl (hC.ob rfl) hr (by omega) ?_
        refine zr_iload dX0_longestLeft_19 rfl ?_
        refine zr_aaloadN dX0_longestLeft_21 (hC.ar rfl) (by decide) (by decide) (by omega) (by decide) rfl (hC.nz (by omega)) ?_
        refine zr_iload_n dX0_longestLeft_22 rfl ?_
        refine zr_iload_n dX0_longestLeft_23 rfl ?_
        refine zr_cV2 rfl dX0_longestLeft_24 cv_0_63 (hC.eo (by omega) rfl) (Nat.le_of_ble_eq_true rfl) (Eisn_ok (e := zg l i) (hC.eo (by omega) rfl) (hC.at (by omega) (by decide)) (hC.at (by omega) (by decide)) ?_)
        refine zr_if_eqB (tgt := 49) dX0_longestLeft_27 (by decide) (fun hc_27 => ?_) (fun hc_27 => ?_)
        · refine zr_iincN dX0_longestLeft_49 rfl (by decide) rfl ?_
          dsimp only [zset]
          refine zr_goto (tgt := 6) dX0_longestLeft_52 (by decide) ?_
          have := ih (i + 1) (by omega) (by omega)
          rw [smost, hc_27] at this
          exact this
        · refine zr_iload dX0_longestLeft_30 rfl ?_
          refine zr_aload_n dX0_longestLeft_32 rfl ?_
          refine zr_getR dX0_longestLeft_33 fd_0_11 rfl (hC.ob rfl) hr (by omega) ?_
          refine zr_iload dX0_longestLeft_36 rfl ?_
          refine zr_aaloadN dX0_longestLeft_38 (hC.ar rfl) (by decide) (by decide) (by omega) (by decide) rfl (hC.nz (by omega)) ?_
          refine zr_getI dX0_longestLeft_39 fd_0_35 rfl (hC.eo (by omega) rfl) ?_
          rw [hC.at (by omega) (by decide)]
          refine zr_iload_n dX0_longestLeft_42 rfl ?_
          refine zr_isub dX0_longestLeft_43 ?_
          refine zr_mmax dX0_longestLeft_44 mm_0_76 mm2_0_76 mm3_0_76 mm4_0_76 (Nat.le_of_ble_eq_true rfl) (Nat.le_refl _) (Nat.le_refl _) ?_
          refine zr_istore dX0_longestLeft_47 (by decide) rfl ?_
          dsimp only [zset]
          refine zr_iincN dX0_longestLeft_49 rfl (by decide) rfl ?_
          dsimp only [zset]
          refine zr_goto (tgt := 6) dX0_longestLeft_52 (by decide) ?_
          have := ih (i + 1) (by omega) (by omega)
          rw [smost, hc_27] at this
          exact this
  refine zenterP (Or.inl (by decide +kernel)) rfl (fun h => by cases h) (Nat.le_of_ble_eq_true rfl) ?_
  show zwp _ _ _ _ _ 0 [_, _, _, _, zU, zU] [] 0 0 _
  refine zr_iconst (v := -1) dX0_longestLeft_0 rfl ?_
  refine zr_istore dX0_longestLeft_1 (by decide) rfl ?_
  dsimp only [zset]
  refine zr_iconst (v := nI 0) dX0_longestLeft_3 rfl ?_
  refine zr_istore dX0_longestLeft_4 (by decide) rfl ?_
  dsimp only [zset]
  exact loop _ 0 (Nat.lt_succ_self _) (Nat.zero_le _)
end
