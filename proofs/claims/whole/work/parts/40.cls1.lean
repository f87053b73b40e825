/-! ===== the class: cells, frames, records, entries, caches ===== -/
theorem zI_s (m : zM) (a k : Nat) (v : Int32) : zI (zsI m a k v) a k = v := by simp [zI, zsI, zu]
theorem zI_n (m : zM) {a k b j : Nat} (v : Int32) (h : b ≠ a ∨ j ≠ k) : zI (zsI m a k v) b j = zI m b j := by
  simp only [zI, zsI, zu]
  rw [if_neg (by omega)]
theorem zR_s (m : zM) (a k v : Nat) : zR (zsR m a k v) a k = v := by simp [zR, zsR, zu]
theorem zR_n (m : zM) {a k b j : Nat} (v : Nat) (h : b ≠ a ∨ j ≠ k) : zR (zsR m a k v) b j = zR m b j := by
  simp only [zR, zsR, zu]
  rw [if_neg (by omega)]
/-- what is outside of lo .. hi stands as it was -/
def zout (lo hi : Nat) (m m' : zM) : Prop := zn m' = zn m ∧ ∀ a, a < lo ∨ hi ≤ a → zI m' a = zI m a ∧ zR m' a = zR m a ∧ zL m' a = zL m a ∧ zF m' a = zF m a
section
variable {lo hi lo' hi' a k : Nat} {m m' m'' : zM}
theorem zout.rf : zout lo hi m m := ⟨rfl, fun _ _ => ⟨rfl, rfl, rfl, rfl⟩⟩
theorem zout.tr (h : zout lo hi m m') (h' : zout lo hi m' m'') : zout lo hi m m'' := ⟨h'.1.trans h.1, fun a ha => ⟨(h'.2 a ha).1.trans (h.2 a ha).1, (h'.2 a ha).2.1.trans (h.2 a ha).2.1, (h'.2 a ha).2.2.1.trans (h.2 a ha).2.2.1, (h'.2 a ha).2.2.2.trans (h.2 a ha).2.2.2⟩⟩
theorem zout.wd (h : zout lo hi m m') (h1 : lo' ≤ lo) (h2 : hi ≤ hi') : zout lo' hi' m m' := ⟨h.1, fun a ha => h.2 a (by omega)⟩
theorem zout.sI {v : Int32} (h1 : lo ≤ a) (h2 : a < hi) : zout lo hi m (zsI m a k v) := ⟨rfl, fun b hb => ⟨funext fun j => zI_n m v (Or.inl (by omega)), rfl, rfl, rfl⟩⟩
theorem zout.sR {v : Nat} (h1 : lo ≤ a) (h2 : a < hi) : zout lo hi m (zsR m a k v) := ⟨rfl, fun b hb => ⟨rfl, funext fun j => zR_n m v (Or.inl (by omega)), rfl, rfl⟩⟩
theorem zout.sL {v : Int64} (h1 : lo ≤ a) (h2 : a < hi) : zout lo hi m (zsL m a k v) := ⟨rfl, fun b hb => ⟨rfl, rfl, funext fun j => by simp only [zL, zsL, zu]; rw [if_neg (by omega)], rfl⟩⟩
theorem zout.sF {v : UInt32} (h1 : lo ≤ a) (h2 : a < hi) : zout lo hi m (zsF m a k v) := ⟨rfl, fun b hb => ⟨rfl, rfl, rfl, funext fun j => by simp only [zF, zsF, zu]; rw [if_neg (by omega)]⟩⟩
theorem zout.I (h : zout lo hi m m') (ha : a < lo ∨ hi ≤ a) : zI m' a = zI m a := (h.2 a ha).1
theorem zout.R (h : zout lo hi m m') (ha : a < lo ∨ hi ≤ a) : zR m' a = zR m a := (h.2 a ha).2.1
end
/-- n cells from b on, in some order -/
def zpm (f : Nat → Nat) (b n : Nat) : Prop := (∀ i, i < n → b ≤ f i ∧ f i < b + n) ∧ ∀ i j, i < n → j < n → f i = f j → i = j
/-- the lay of a cache: itself, its array, its six entries -/
def LC (C : Nat) : Prop := 2 ≤ C ∧ C + 8 ≤ 676 ∧ (zLay C).1 = 0 ∧ zLay (C + 1) = (15, 6) ∧ ∀ j, j < 6 → (zLay (C + 2 + j)).1 = 2
def CC (m : zM) (C : Nat) (l : List sR) : Prop := zn m = 676 ∧ LC C ∧ zR m C 0 = C + 1 ∧ zpm (zR m (C + 1)) (C + 2) 6 ∧ zI m C 1 = nI l.length ∧ l.length ≤ 6 ∧ ∀ i, i < l.length → ∀ k, k < 5 → zI m (zR m (C + 1) i) k = zg l i k
section
variable {m m' : zM} {C i : Nat} {l : List sR}
theorem CC.ob (h : CC m C l) (e : zn m' = zn m) : zOb m' C 0 := ⟨h.2.1.2.2.1, h.2.1.1, by rw [e, h.1]; have := h.2.1.2.1; omega⟩
theorem CC.ar (h : CC m C l) (e : zn m' = zn m) : zAr m' (C + 1) 15 6 := ⟨h.2.1.2.2.2.1, by have := h.2.1.1; omega, by rw [e, h.1]; have := h.2.1.2.1; omega⟩
theorem LC.eo (h : LC C) {a : Nat} (h1 : C + 2 ≤ a) (h2 : a < C + 2 + 6) : (zLay a).1 = 2 := by
  have := h.2.2.2.2 (a - (C + 2)) (by omega)
  rwa [show C + 2 + (a - (C + 2)) = a by omega] at this
theorem CC.eo (h : CC m C l) (hi : i < 6) (e : zn m' = zn m) : zOb m' (zR m (C + 1) i) 2 := by
  have hp := h.2.2.2.1.1 i hi
  exact ⟨h.2.1.eo hp.1 hp.2, by have := h.2.1.1; omega, by rw [e, h.1]; have := h.2.1.2.1; omega⟩
theorem CC.nz (h : CC m C l) (hi : i < 6) : zR m (C + 1) i ≠ 0 := by have := h.2.2.2.1.1 i hi; omega
theorem CC.at (h : CC m C l) (hi : i < l.length) {k : Nat} (hk : k < 5) : zI m (zR m (C + 1) i) k = zg l i k := h.2.2.2.2.2.2 i hi k hk
theorem CC.off (h : CC m C l) (hz : zn m' = zn m) (hI : ∀ a, C ≤ a → a < C + 8 → zI m' a = zI m a) (hR : ∀ a, C ≤ a → a < C + 8 → zR m' a = zR m a) : CC m' C l := by
  obtain ⟨h1, h2, h3, h4, h5, h6, h7⟩ := h
  refine ⟨hz.trans h1, h2, by rw [hR C (by omega) (by omega)]; exact h3, by rw [hR (C + 1) (by omega) (by omega)]; exact h4, by rw [hI C (by omega) (by omega)]; exact h5, h6, fun i hi k hk => ?_⟩
  rw [hR (C + 1) (by omega) (by omega), hI _ (by have := h4.1 i (by omega); omega) (by have := h4.1 i (by omega); omega)]
  exact h7 i hi k hk
theorem CC.out {lo hi : Nat} (h : CC m C l) (ho : zout lo hi m m') (hd : C + 8 ≤ lo ∨ hi ≤ C) : CC m' C l := h.off ho.1 (fun a h1 h2 => ho.I (by omega)) (fun a h1 h2 => ho.R (by omega))
end
def oEb (x : Int32) : Bool := x == -2 || (x == -3 || x == -4)
theorem oEb_iff {x : Int32} : oEb x = true ↔ oE x := by simp [oEb, oE]
section
variable {d : Nat} {Q : Value → zM → Prop} {m : zM} {a b : Nat} {n k : Int32}
theorem oneIf_ok {v : Bool} (hk : Q (.int (bI v)) m) : zC (d + 1) M8_oneIf 0 0 [.int (bI v)] m Q := by
  refine zenterP (Or.inl (by decide +kernel)) rfl (fun h => by cases h) (Nat.le_of_ble_eq_true rfl) ?_
  show zwp _ _ _ _ _ 0 [_] [] 0 0 _
  refine zr_iload_n dX8_oneIf_0 rfl ?_
  refine zr_if_eqB (tgt := 8) dX8_oneIf_1 (by decide) (fun hc_1 => ?_) (fun hc_1 => ?_)
  · refine zr_iconst (v := bI false) dX8_oneIf_8 rfl ?_
    refine zr_ireturn dX8_oneIf_9 rfl (Nat.le_refl _) (Nat.le_refl _) ?_
    rw [hc_1] at hk
    exact hk
  · refine zr_iconst (v := bI true) dX8_oneIf_4 rfl ?_
    refine zr_goto (tgt := 9) dX8_oneIf_5 (by decide) ?_
    refine zr_ireturn dX8_oneIf_9 rfl (Nat.le_refl _) (Nat.le_refl _) ?_
    rw [hc_1] at hk
    exact hk
theorem within_ok {x lo hi : Int32} (hk : Q (.int (bI (sin x lo hi))) m) : zC (d + 1) M8_within 0 0 [.int x, .int lo, .int hi] m Q := by
  refine zenterP (Or.inl (by decide +kernel)) rfl (fun h => by cases h) (Nat.le_of_ble_eq_true rfl) ?_
  show zwp _ _ _ _ _ 0 [_, _, _] [] 0 0 _
  refine zr_iload_n dX8_within_0 rfl ?_
  refine zr_iload_n dX8_within_1 rfl ?_
  refine zr_icmp_lt (tgt := 14) dX8_within_2 (by decide) (fun hc_2 => ?_) (fun hc_2 => ?_)
  · refine zr_iconst (v := nI 0) dX8_within_14 rfl ?_
    refine zr_z0 dX8_within_15 rfl (Nat.le_refl _) (Nat.le_refl _) ?_ hk
    simp [sin, ← Int32.not_lt, *]
  · refine zr_iload_n dX8_within_5 rfl ?_
    refine zr_iload_n dX8_within_6 rfl ?_
    refine zr_icmp_gt (tgt := 14) dX8_within_7 (by decide) (fun hc_7 => ?_) (fun hc_7 => ?_)
    · refine zr_iconst (v := nI 0) dX8_within_14 rfl ?_
      refine zr_z0 dX8_within_15 rfl (Nat.le_refl _) (Nat.le_refl _) ?_ hk
      simp [sin, ← Int32.not_lt, *]
    · refine zr_iconst (v := nI 1) dX8_within_10 rfl ?_
      refine zr_goto (tgt := 15) dX8_within_11 (by decide) ?_
      refine zr_z1 dX8_within_15 rfl (Nat.le_refl _) (Nat.le_refl _) ?_ hk
      simp [sin, ← Int32.not_lt, *]
theorem isError_ok {x : Int32} (hk : Q (.int (bI (oEb x))) m) : zC (d + 1) M8_isError 0 0 [.int x] m Q := by
  refine zenterP (Or.inl (by decide +kernel)) rfl (fun h => by cases h) (Nat.le_of_ble_eq_true rfl) ?_
  show zwp _ _ _ _ _ 0 [_] [] 0 0 _
  refine zr_iload_n dX8_isError_0 rfl ?_
  refine zr_bipush (v := -2) dX8_isError_1 rfl ?_
  refine zr_icmp_eq (tgt := 18) dX8_isError_3 (by decide) (fun hc_3 => ?_) (fun hc_3 => ?_)
  · refine zr_iconst (v := nI 1) dX8_isError_18 rfl ?_
    refine zr_goto (tgt := 23) dX8_isError_19 (by decide) ?_
    refine zr_z1 dX8_isError_23 rfl (Nat.le_refl _) (Nat.le_refl _) ?_ hk
    simp [oEb, *]
  · refine zr_iload_n dX8_isError_6 rfl ?_
    refine zr_bipush (v := -3) dX8_isError_7 rfl ?_
    refine zr_icmp_eq (tgt := 18) dX8_isError_9 (by decide) (fun hc_9 => ?_) (fun hc_9 => ?_)
    · refine zr_iconst (v := nI 1) dX8_isError_18 rfl ?_
      refine zr_goto (tgt := 23) dX8_isError_19 (by decide) ?_
      refine zr_z1 dX8_isError_23 rfl (Nat.le_refl _) (Nat.le_refl _) ?_ hk
      simp [oEb, *]
    · refine zr_iload_n dX8_isError_12 rfl ?_
      refine zr_bipush (v := -4) dX8_isError_13 rfl ?_
      refine zr_icmp_ne (tgt := 22) dX8_isError_15 (by decide) (fun hc_15 => ?_) (fun hc_15 => ?_)
      · refine zr_iconst (v := nI 0) dX8_isError_22 rfl ?_
        refine zr_z0 dX8_isError_23 rfl (Nat.le_refl _) (Nat.le_refl _) ?_ hk
        simp [oEb, *]
      · refine zr_iconst (v := nI 1) dX8_isError_18 rfl ?_
        refine zr_goto (tgt := 23) dX8_isError_19 (by decide) ?_
        refine zr_z1 dX8_isError_23 rfl (Nat.le_refl _) (Nat.le_refl _) ?_ hk
        simp [oEb, *]
/-! entries and records -/
theorem Eisn_ok (ho : zOb m a 2) {e : sR} (h0 : zI m a 0 = e 0) (h1 : zI m a 1 = e 1) (hk : Q (.int (bI (snam e n k))) m) : zC (d + 1) M2_isNamed 0 0 [.ref a, .int n, .int k] m Q := by
  refine zenterP (Or.inl (by decide +kernel)) rfl (fun h => by cases h) (Nat.le_of_ble_eq_true rfl) ?_
  show zwp _ _ _ _ _ 0 [_, _, _] [] 0 0 _
  refine zr_aload_n dX2_isNamed_0 rfl ?_
  refine zr_getI dX2_isNamed_1 fd_2_7 rfl ho ?_
  rw [h0]
  refine zr_iload_n dX2_isNamed_4 rfl ?_
  refine zr_icmp_ne (tgt := 20) dX2_isNamed_5 (by decide) (fun hc_5 => ?_) (fun hc_5 => ?_)
  · refine zr_iconst (v := nI 0) dX2_isNamed_20 rfl ?_
    refine zr_z0 dX2_isNamed_21 rfl (Nat.le_refl _) (Nat.le_refl _) ?_ hk
    simp [snam, *]
  · refine zr_aload_n dX2_isNamed_8 rfl ?_
    refine zr_getI dX2_isNamed_9 fd_2_13 rfl ho ?_
    rw [h1]
    refine zr_iload_n dX2_isNamed_12 rfl ?_
    refine zr_icmp_ne (tgt := 20) dX2_isNamed_13 (by decide) (fun hc_13 => ?_) (fun hc_13 => ?_)
    · refine zr_iconst (v := nI 0) dX2_isNamed_20 rfl ?_
      refine zr_z0 dX2_isNamed_21 rfl (Nat.le_refl _) (Nat.le_refl _) ?_ hk
      simp [snam, *]
    · refine zr_iconst (v := nI 1) dX2_isNamed_16 rfl ?_
      refine zr_goto (tgt := 21) dX2_isNamed_17 (by decide) ?_
      refine zr_z1 dX2_isNamed_21 rfl (Nat.le_refl _) (Nat.le_refl _) ?_ hk
      simp [snam, *]
theorem Risn_ok (ho : zOb m a 6) {e : sR} (h0 : zI m a 0 = e 0) (h1 : zI m a 1 = e 1) (hk : Q (.int (bI (snam e n k))) m) : zC (d + 1) M6_isNamed 0 0 [.ref a, .int n, .int k] m Q := by
  refine zenterP (Or.inl (by decide +kernel)) rfl (fun h => by cases h) (Nat.le_of_ble_eq_true rfl) ?_
  show zwp _ _ _ _ _ 0 [_, _, _] [] 0 0 _
  refine zr_aload_n dX6_isNamed_0 rfl ?_
  refine zr_getI dX6_isNamed_1 fd_6_9 rfl ho ?_
  rw [h0]
  refine zr_iload_n dX6_isNamed_4 rfl ?_
  refine zr_icmp_ne (tgt := 20) dX6_isNamed_5 (by decide) (fun hc_5 => ?_) (fun hc_5 => ?_)
  · refine zr_iconst (v := nI 0) dX6_isNamed_20 rfl ?_
    refine zr_z0 dX6_isNamed_21 rfl (Nat.le_refl _) (Nat.le_refl _) ?_ hk
    simp [snam, *]
  · refine zr_aload_n dX6_isNamed_8 rfl ?_
    refine zr_getI dX6_isNamed_9 fd_6_15 rfl ho ?_
    rw [h1]
    refine zr_iload_n dX6_isNamed_12 rfl ?_
    refine zr_icmp_ne (tgt := 20) dX6_isNamed_13 (by decide) (fun hc_13 => ?_) (fun hc_13 => ?_)
    · refine zr_iconst (v := nI 0) dX6_isNamed_20 rfl ?_
      refine zr_z0 dX6_isNamed_21 rfl (Nat.le_refl _) (Nat.le_refl _) ?_ hk
      simp [snam, *]
    · refine zr_iconst (v := nI 1) dX6_isNamed_16 rfl ?_
      refine zr_goto (tgt := 21) dX6_isNamed_17 (by decide) ?_
      refine zr_z1 dX6_isNamed_21 rfl (Nat.le_refl _) (Nat.le_refl _) ?_ hk
      simp [snam, *]
theorem Rown_ok (ho : zOb m a 6) {e : sR} (h4 : zI m a 4 = e 4) (hk : Q (.int (bI (sown e))) m) : zC (d + 1) M6_isOwned 0 0 [.ref a] m Q := by
  refine zenterP (Or.inl (by decide +kernel)) rfl (fun h => by cases h) (Nat.le_of_ble_eq_true rfl) ?_
  show zwp _ _ _ _ _ 0 [_] [] 0 0 _
  refine zr_aload_n dX6_isOwned_0 rfl ?_
  refine zr_getI dX6_isOwned_1 fd_6_24 rfl ho ?_
  rw [h4]
  refine zr_iconst (v := nI 3) dX6_isOwned_4 rfl ?_
  refine zr_icmp_ne (tgt := 12) dX6_isOwned_5 (by decide) (fun hc_5 => ?_) (fun hc_5 => ?_)
  · refine zr_iconst (v := nI 0) dX6_isOwned_12 rfl ?_
    refine zr_z0 dX6_isOwned_13 rfl (Nat.le_refl _) (Nat.le_refl _) ?_ hk
    first
    | (have : ¬ e 4 = 3 := hc_5
       simp [sown, this]; done)
    | (have : e 4 = 3 := hc_5
       simp [sown, this]; done)
  · refine zr_iconst (v := nI 1) dX6_isOwned_8 rfl ?_
    refine zr_goto (tgt := 13) dX6_isOwned_9 (by decide) ?_
    refine zr_z1 dX6_isOwned_13 rfl (Nat.le_refl _) (Nat.le_refl _) ?_ hk
    first
    | (have : ¬ e 4 = 3 := hc_5
       simp [sown, this]; done)
    | (have : e 4 = 3 := hc_5
       simp [sown, this]; done)
theorem Rrst_ok (ho : zOb m a 6) (hk : Q .null (zsI (zsI m a 4 (nI 0)) a 5 n)) : zC (d + 1) M6_restart 0 0 [.ref a, .int n] m Q := by
  refine zenterP (Or.inl (by decide +kernel)) rfl (fun h => by cases h) (Nat.le_of_ble_eq_true rfl) ?_
  show zwp _ _ _ _ _ 0 [_, _] [] 0 0 _
  refine zr_aload_n dX6_restart_0 rfl ?_
  refine zr_iconst (v := nI 0) dX6_restart_1 rfl ?_
  refine zr_putI dX6_restart_2 fd_6_24 rfl ho ?_
  refine zr_aload_n dX6_restart_5 rfl ?_
  refine zr_iload_n dX6_restart_6 rfl ?_
  refine zr_putI dX6_restart_7 fd_6_27 rfl ho ?_
  refine zr_return dX6_restart_10 rfl (Nat.le_refl _) (Nat.le_refl _) ?_
  exact hk
/-- a copied entry -/
def zEb (m : zM) (a b : Nat) : zM := zsI (zsI (zsI (zsI (zsI m a 0 (zI m b 0)) a 1 (zI m b 1)) a 2 (zI m b 2)) a 3 (zI m b 3)) a 4 (zI m b 4)
def zRb (m : zM) (a b : Nat) : zM := zsI (zsI (zsI (zsI (zsI (zsI (zsI m a 0 (zI m b 0)) a 1 (zI m b 1)) a 2 (zI m b 2)) a 3 (zI m b 3)) a 4 (zI m b 4)) a 5 (zI m b 5)) a 6 (zI m b 6)
theorem Ebec_ok (ho : zOb m a 2) (hb : zOb m b 2) (hne : b ≠ a) (hk : Q .null (zEb m a b)) : zC (d + 1) M2_become 0 0 [.ref a, .ref b] m Q := by
  refine zenterP (Or.inl (by decide +kernel)) rfl (fun h => by cases h) (Nat.le_of_ble_eq_true rfl) ?_
  show zwp _ _ _ _ _ 0 [_, _] [] 0 0 _
  refine zr_aload_n dX2_become_0 rfl ?_
  refine zr_aload_n dX2_become_1 rfl ?_
  refine zr_getI dX2_become_2 fd_2_7 rfl hb ?_
  refine zr_putI dX2_become_5 fd_2_7 rfl ho ?_
  refine zr_aload_n dX2_become_8 rfl ?_
  refine zr_aload_n dX2_become_9 rfl ?_
  refine zr_getI dX2_become_10 fd_2_13 rfl hb ?_
  simp only [zI_n _ _ (Or.inl hne)]
  refine zr_putI dX2_become_13 fd_2_13 rfl ho ?_
  refine zr_aload_n dX2_become_16 rfl ?_
  refine zr_aload_n dX2_become_17 rfl ?_
  refine zr_getI dX2_become_18 fd_2_16 rfl hb ?_
  simp only [zI_n _ _ (Or.inl hne)]
  refine zr_putI dX2_become_21 fd_2_16 rfl ho ?_
  refine zr_aload_n dX2_become_24 rfl ?_
  refine zr_aload_n dX2_become_25 rfl ?_
  refine zr_getI dX2_become_26 fd_2_19 rfl hb ?_
  simp only [zI_n _ _ (Or.inl hne)]
  refine zr_putI dX2_become_29 fd_2_19 rfl ho ?_
  refine zr_aload_n dX2_become_32 rfl ?_
  refine zr_aload_n dX2_become_33 rfl ?_
  refine zr_getI dX2_become_34 fd_2_22 rfl hb ?_
  simp only [zI_n _ _ (Or.inl hne)]
  refine zr_putI dX2_become_37 fd_2_22 rfl ho ?_
  refine zr_return dX2_become_40 rfl (Nat.le_refl _) (Nat.le_refl _) ?_
  exact hk
theorem Rbec_ok (ho : zOb m a 6) (hb : zOb m b 6) (hne : b ≠ a) (hso : zI m b 6 = 0 ∨ zI m b 6 = 1) (hk : Q .null (zRb m a b)) : zC (d + 1) M6_become 0 0 [.ref a, .ref b] m Q := by
  refine zenterP (Or.inl (by decide +kernel)) rfl (fun h => by cases h) (Nat.le_of_ble_eq_true rfl) ?_
  show zwp _ _ _ _ _ 0 [_, _] [] 0 0 _
  refine zr_aload_n dX6_become_0 rfl ?_
  refine zr_aload_n dX6_become_1 rfl ?_
  refine zr_getI dX6_become_2 fd_6_9 rfl hb ?_
  refine zr_putI dX6_become_5 fd_6_9 rfl ho ?_
  refine zr_aload_n dX6_become_8 rfl ?_
  refine zr_aload_n dX6_become_9 rfl ?_
  refine zr_getI dX6_become_10 fd_6_15 rfl hb ?_
  simp only [zI_n _ _ (Or.inl hne)]
  refine zr_putI dX6_become_13 fd_6_15 rfl ho ?_
  refine zr_aload_n dX6_become_16 rfl ?_
  refine zr_aload_n dX6_become_17 rfl ?_
  refine zr_getI dX6_become_18 fd_6_18 rfl hb ?_
  simp only [zI_n _ _ (Or.inl hne)]
  refine zr_putI dX6_become_21 fd_6_18 rfl ho ?_
  refine zr_aload_n dX6_become_24 rfl ?_
  refine zr_aload_n dX6_become_25 rfl ?_
  refine zr_getI dX6_become_26 fd_6_21 rfl hb ?_
  simp only [zI_n _ _ (Or.inl hne)]
  refine zr_putI dX6_become_29 fd_6_21 rfl ho ?_
  refine zr_aload_n dX6_become_32 rfl ?_
  refine zr_aload_n dX6_become_33 rfl ?_
  refine zr_getI dX6_become_34 fd_6_24 rfl hb ?_
  simp only [zI_n _ _ (Or.inl hne)]
  refine zr_putI dX6_become_37 fd_6_24 rfl ho ?_
  refine zr_aload_n dX6_become_40 rfl ?_
  refine zr_aload_n dX6_become_41 rfl ?_
  refine zr_getI dX6_become_42 fd_6_27 rfl hb ?_
  simp only [zI_n _ _ (Or.inl hne)]
  refine zr_putI dX6_become_45 fd_6_27 rfl ho ?_
  refine zr_aload_n dX6_become_48 rfl ?_
  refine zr_aload_n dX6_become_49 rfl ?_
  refine zr_getI dX6_become_50 fd_6_30 rfl hb ?_
  simp only [zI_n _ _ (Or.inl hne)]
  refine zr_putZ dX6_become_53 fd_6_30 rfl ho hso ?_
  refine zr_return dX6_become_56 rfl (Nat.le_refl _) (Nat.le_refl _) ?_
  exact hk
end
