/-! ===== the text: its orders, and the reference's reading ===== -/
abbrev sO : Type := Int32 × (Nat → Int32)
/-- the orders that ended; whether one has begun; its letter, numbers, how many have begun; the figures of the last -/
abbrev sT : Type := List sO × Bool × Int32 × (Nat → Int32) × Nat × Nat
def olb (c : Int32) : Bool := c == nI 104 || (c == nI 116 || (c == nI 122 || (c == nI 119 || (c == nI 103 || (c == nI 97 || (c == nI 99 || c == nI 115))))))
def oleast (c : Int32) : Nat := if c = nI 122 then 1 else oneed c
def sfig (c : Int32) : Bool := sin c 48 57
def tst (q : sT) (c : Int32) : Option sT :=
  if c = nI 32 then some (q.1, q.2.1, q.2.2.1, q.2.2.2.1, q.2.2.2.2.1, 0)
  else if q.2.1 = false then (if olb c = true then some (q.1, true, c, (fun _ => -1), 0, 0) else none)
  else if sfig c = true then
    (if q.2.2.2.2.2 = 3 ∨ (q.2.2.2.2.2 = 0 ∧ q.2.2.2.2.1 = oneed q.2.2.1) then none
     else if q.2.2.2.2.2 = 0 then some (q.1, true, q.2.2.1, fu q.2.2.2.1 q.2.2.2.2.1 (0 * 10 + (c - 48)), q.2.2.2.2.1 + 1, 1)
     else some (q.1, true, q.2.2.1, fu q.2.2.2.1 (q.2.2.2.2.1 - 1) (q.2.2.2.1 (q.2.2.2.2.1 - 1) * 10 + (c - 48)), q.2.2.2.2.1, q.2.2.2.2.2 + 1))
  else if c = nI 59 ∧ oleast q.2.2.1 ≤ q.2.2.2.2.1 then some (q.1 ++ [(q.2.2.1, q.2.2.2.1)], false, q.2.2.1, q.2.2.2.1, q.2.2.2.2.1, q.2.2.2.2.2) else none
def tg (t : List Int32) (i : Nat) : Int32 := t.getD i 0
def tScan (t : List Int32) : Nat → Nat × Option sT
  | 0 => (0, some ([], false, 0, (fun _ => -1), 0, 0))
  | i + 1 => match tScan t i with
    | (p, none) => (p, none)
    | (_, some q) => match tst q (tg t i) with
      | none => (i, none)
      | some q' => (i + 1, some q')
def tEnd (t : List Int32) : Nat × Option (List sO) :=
  match tScan t t.length with
  | (p, none) => (p, none)
  | (p, some q) => if q.2.1 || q.1.isEmpty then (t.length, none) else (p, some q.1)
def tAt (t : List Int32) (p : Nat) (q : sT) : Prop := tScan t p = (p, some q)
/-- the text's fault is there -/
def tBad (t : List Int32) (p : Nat) : Prop := ∃ q, tAt t p q ∧ p ≤ t.length ∧ ((p < t.length ∧ tst q (tg t p) = none) ∨ (p = t.length ∧ (q.2.1 || q.1.isEmpty) = true))
theorem tAt.step {t : List Int32} {p : Nat} {q q' : sT} (h : tAt t p q) (h' : tst q (tg t p) = some q') : tAt t (p + 1) q' := by
  unfold tAt at h ⊢
  rw [tScan, h]
  dsimp only
  rw [h']
theorem tScan_none {t : List Int32} {p k : Nat} (h : (tScan t k) = (p, none)) : ∀ j, k ≤ j → tScan t j = (p, none) := by
  intro j hj
  induction j with
  | zero => have : k = 0 := by omega
            subst this; exact h
  | succ j ih =>
    by_cases e : k = j + 1
    · subst e; exact h
    · rw [tScan, ih (by omega)]
theorem tBad.fin {t : List Int32} {p : Nat} (h : tBad t p) : tEnd t = (p, none) := by
  obtain ⟨q, h1, h2, h3⟩ := h
  rcases h3 with ⟨h4, h5⟩ | ⟨h4, h5⟩
  · have : tScan t (p + 1) = (p, none) := by
      unfold tAt at h1
      rw [tScan, h1]
      dsimp only
      rw [h5]
    unfold tEnd
    rw [tScan_none this _ h4]
  · subst h4
    unfold tEnd
    unfold tAt at h1
    rw [h1]
    dsimp only
    rw [if_pos h5]
theorem olb_iff {c : Int32} : olb c = true ↔ olet c := by
  unfold olb olet
  simp only [Bool.or_eq_true, beq_iff_eq]
/-- the reference's memory while it reads -/
def zpn (m : zM) (p : Nat) (g : Nat → Int32) : zM := zrow (zrow m 675 g) 667 (fu (zI m 667) 11 (nI p))
section
variable {d : Nat} {Q : Value → zM → Prop} {m : zM} {g : Nat → Int32} {p : Nat} {t : List Int32}
theorem zpn_p : zI (zpn m p g) 667 11 = nI p := by unfold zpn; rw [zrow_s, fu_s]
theorem zpn_f {k : Nat} (h : k ≠ 11) : zI (zpn m p g) 667 k = zI m 667 k := by unfold zpn; rw [zrow_s, fu_n _ _ h]
theorem zpn_g : zI (zpn m p g) 675 = g := by unfold zpn; rw [zrow_n _ _ (by decide), zrow_s]
theorem zpn_n {a : Nat} (h : a ≠ 667) (h' : a ≠ 675) : zI (zpn m p g) a = zI m a := by unfold zpn; rw [zrow_n _ _ h, zrow_n _ _ h']
theorem zpn_sp {p' : Nat} : zsI (zpn m p g) 667 11 (nI p') = zpn m p' g := by
  unfold zpn
  rw [zsI_row]
  congr 1
  funext j
  unfold fu
  split <;> rfl
theorem zpn_sg {k : Nat} {v : Int32} : zsI (zpn m p g) 675 k v = zpn m p (fu g k v) := by
  unfold zpn
  rw [zrow_comm _ _ _ (by decide), zsI_row, zrow_comm _ _ _ (by decide)]
theorem RT.at {n : Int32} {f : Nat → Int32} (h : RT n f t) (hp : p < t.length) : f p = tg t p := h.2.2 p _ (by rw [List.getElem?_eq_getElem hp]; unfold tg; rw [List.getD_eq_getElem?_getD, List.getElem?_eq_getElem hp]; rfl)
def tc (t : List Int32) (p : Nat) : Int32 := if p < t.length then tg t p else -1
theorem here_ok (hM : MI m) (hT : RT (zI m 667 10) (zI m 674) t) {q : sT} (hp : p ≤ t.length) (hq : tAt t p q)
    (hk : ∀ p' k, p ≤ p' → p' ≤ t.length → tAt t p' (q.1, q.2.1, q.2.2.1, q.2.2.2.1, q.2.2.2.2.1, k) → ((p' = p ∧ k = q.2.2.2.2.2) ∨ (p < p' ∧ k = 0)) → (p < p' → tg t p = nI 32) → (p' < t.length → tg t p' ≠ nI 32) → Q (.int (tc t p')) (zpn m p' g)) : zC (d + 1) M9_here 0 0 [.ref 667] (zpn m p g) Q := by
  have hT1 := hT.1
  have hT2 := hT.2.1
  refine zenterP (Or.inl (by decide +kernel)) rfl (fun h => by cases h) (Nat.le_of_ble_eq_true rfl) ?_
  show zwp _ _ _ _ _ 0 [_] [] 0 0 _
  have loop : ∀ c p q, t.length - p < c → p ≤ t.length → tAt t p q → (∀ p' k, p ≤ p' → p' ≤ t.length → tAt t p' (q.1, q.2.1, q.2.2.1, q.2.2.2.1, q.2.2.2.2.1, k) → ((p' = p ∧ k = q.2.2.2.2.2) ∨ (p < p' ∧ k = 0)) → (p < p' → tg t p = nI 32) → (p' < t.length → tg t p' ≠ nI 32) → Q (.int (tc t p')) (zpn m p' g)) → zwp (d + 1) M9_here 0 0 Q 0 [.ref 667] [] 0 0 (zpn m p g) := by
    intro c
    induction c with
    | zero => intro p q h1; omega
    | succ c ih =>
      intro p q h1 h2 hq hk
      have e11 : zI (zpn m p g) 667 11 = nI p := zpn_p
      have e10 : zI (zpn m p g) 667 10 = nI t.length := by rw [zpn_f (by decide), hT1]
      refine zr_aload_n dX9_here_0 rfl ?_
      refine zr_getI dX9_here_1 fd_9_232 rfl (MI.ob hM ⟨rfl, rfl⟩) ?_
      rw [e11]
      refine zr_aload_n dX9_here_4 rfl ?_
      refine zr_getI dX9_here_5 fd_9_229 rfl (MI.ob hM ⟨rfl, rfl⟩) ?_
      rw [e10]
      refine zr_icmp_geN (tgt := 38) dX9_here_8 (by decide) (by omega) (by omega) (fun hc_8 => ?_) (fun hc_8 => ?_)
      · refine zr_aload_n dX9_here_38 rfl ?_
        refine zr_getI dX9_here_39 fd_9_232 rfl (MI.ob hM ⟨rfl, rfl⟩) ?_
        rw [e11]
        refine zr_aload_n dX9_here_42 rfl ?_
        refine zr_getI dX9_here_43 fd_9_229 rfl (MI.ob hM ⟨rfl, rfl⟩) ?_
        rw [e10]
        refine zr_icmp_geN (tgt := 61) dX9_here_46 (by decide) (by omega) (by omega) (fun hc_46 => ?_) (fun hc_46 => ?_)
        · refine zr_iconst (v := -1) dX9_here_61 rfl ?_
          refine zr_ireturn dX9_here_62 rfl (Nat.le_refl _) (Nat.le_refl _) ?_
          have hh := hk p q.2.2.2.2.2 (Nat.le_refl _) h2 hq (Or.inl ⟨rfl, rfl⟩) (fun z => absurd z (Nat.lt_irrefl _))
          unfold tc at hh
          first
          | (exfalso; omega)
          | (rw [if_neg (by omega)] at hh; exact hh (fun z => absurd z (by omega)))
          | (rw [if_pos (by omega)] at hh; exact hh (fun _ => hc_22))
        · refine zr_aload_n dX9_here_49 rfl ?_
          refine zr_getR dX9_here_50 fd_9_30 rfl (MI.ob hM ⟨rfl, rfl⟩) (MI.r9 hM ⟨rfl, rfl⟩) (by decide) ?_
          refine zr_aload_n dX9_here_53 rfl ?_
          refine zr_getI dX9_here_54 fd_9_232 rfl (MI.ob hM ⟨rfl, rfl⟩) ?_
          rw [e11]
          refine zr_ialoadN dX9_here_57 (MI.a674 hM ⟨rfl, rfl⟩) (by omega) (by decide) ?_
          rw [zpn_n (by decide) (by decide), hT.at hc_46]
          refine zr_goto (tgt := 62) dX9_here_58 (by decide) ?_
          refine zr_ireturn dX9_here_62 rfl (Nat.le_refl _) (Nat.le_refl _) ?_
          have hh := hk p q.2.2.2.2.2 (Nat.le_refl _) h2 hq (Or.inl ⟨rfl, rfl⟩) (fun z => absurd z (Nat.lt_irrefl _))
          unfold tc at hh
          first
          | (exfalso; omega)
          | (rw [if_neg (by omega)] at hh; exact hh (fun z => absurd z (by omega)))
          | (rw [if_pos (by omega)] at hh; exact hh (fun _ => hc_22))
      · refine zr_aload_n dX9_here_11 rfl ?_
        refine zr_getR dX9_here_12 fd_9_30 rfl (MI.ob hM ⟨rfl, rfl⟩) (MI.r9 hM ⟨rfl, rfl⟩) (by decide) ?_
        refine zr_aload_n dX9_here_15 rfl ?_
        refine zr_getI dX9_here_16 fd_9_232 rfl (MI.ob hM ⟨rfl, rfl⟩) ?_
        rw [e11]
        refine zr_ialoadN dX9_here_19 (MI.a674 hM ⟨rfl, rfl⟩) (by omega) (by decide) ?_
        rw [zpn_n (by decide) (by decide), hT.at hc_8]
        refine zr_bipush (v := nI 32) dX9_here_20 rfl ?_
        refine zr_icmp_ne (tgt := 38) dX9_here_22 (by decide) (fun hc_22 => ?_) (fun hc_22 => ?_)
        · refine zr_aload_n dX9_here_38 rfl ?_
          refine zr_getI dX9_here_39 fd_9_232 rfl (MI.ob hM ⟨rfl, rfl⟩) ?_
          rw [e11]
          refine zr_aload_n dX9_here_42 rfl ?_
          refine zr_getI dX9_here_43 fd_9_229 rfl (MI.ob hM ⟨rfl, rfl⟩) ?_
          rw [e10]
          refine zr_icmp_geN (tgt := 61) dX9_here_46 (by decide) (by omega) (by omega) (fun hc_46 => ?_) (fun hc_46 => ?_)
          · refine zr_iconst (v := -1) dX9_here_61 rfl ?_
            refine zr_ireturn dX9_here_62 rfl (Nat.le_refl _) (Nat.le_refl _) ?_
            have hh := hk p q.2.2.2.2.2 (Nat.le_refl _) h2 hq (Or.inl ⟨rfl, rfl⟩) (fun z => absurd z (Nat.lt_irrefl _))
            unfold tc at hh
            first
            | (exfalso; omega)
            | (rw [if_neg (by omega)] at hh; exact hh (fun z => absurd z (by omega)))
            | (rw [if_pos (by omega)] at hh; exact hh (fun _ => hc_22))
          · refine zr_aload_n dX9_here_49 rfl ?_
            refine zr_getR dX9_here_50 fd_9_30 rfl (MI.ob hM ⟨rfl, rfl⟩) (MI.r9 hM ⟨rfl, rfl⟩) (by decide) ?_
            refine zr_aload_n dX9_here_53 rfl ?_
            refine zr_getI dX9_here_54 fd_9_232 rfl (MI.ob hM ⟨rfl, rfl⟩) ?_
            rw [e11]
            refine zr_ialoadN dX9_here_57 (MI.a674 hM ⟨rfl, rfl⟩) (by omega) (by decide) ?_
            rw [zpn_n (by decide) (by decide), hT.at hc_46]
            refine zr_goto (tgt := 62) dX9_here_58 (by decide) ?_
            refine zr_ireturn dX9_here_62 rfl (Nat.le_refl _) (Nat.le_refl _) ?_
            have hh := hk p q.2.2.2.2.2 (Nat.le_refl _) h2 hq (Or.inl ⟨rfl, rfl⟩) (fun z => absurd z (Nat.lt_irrefl _))
            unfold tc at hh
            first
            | (exfalso; omega)
            | (rw [if_neg (by omega)] at hh; exact hh (fun z => absurd z (by omega)))
            | (rw [if_pos (by omega)] at hh; exact hh (fun _ => hc_22))
        · refine zr_aload_n dX9_here_25 rfl ?_
          refine zr_dup dX9_here_26 rfl ?_
          refine zr_getI dX9_here_27 fd_9_232 rfl (MI.ob hM ⟨rfl, rfl⟩) ?_
          rw [e11]
          refine zr_iconst (v := nI 1) dX9_here_30 rfl ?_
          refine zr_iaddN dX9_here_31 ?_
          refine zr_putI dX9_here_32 fd_9_232 rfl (MI.ob hM ⟨rfl, rfl⟩) ?_
          rw [zpn_sp]
          refine zr_goto (tgt := 0) dX9_here_35 (by decide) ?_
          refine ih (p + 1) (q.1, q.2.1, q.2.2.1, q.2.2.2.1, q.2.2.2.2.1, 0) (by omega) (by omega) (hq.step (by unfold tst; rw [if_pos hc_22])) (fun p' k a1 a2 a3 a4 a5 a6 => hk p' k (by omega) a2 a3 (Or.inr ⟨by omega, by rcases a4 with ⟨-, z⟩ | ⟨-, z⟩ <;> exact z⟩) (fun _ => hc_22) a6)
  exact loop _ p q (Nat.lt_succ_self _) hp hq hk
theorem isFigure_ok {x : Nat} (hM : MI m) (hT : RT (zI m 667 10) (zI m 674) t) (hx : x < 2 ^ 31) (hk : Q (.int (bI (decide (x < t.length) && sfig (tg t x)))) (zpn m p g)) : zC (d + 2) M9_isFigure 0 0 [.ref 667, .int (nI x)] (zpn m p g) Q := by
  have hT1 := hT.1
  have hT2 := hT.2.1
  have e10 : zI (zpn m p g) 667 10 = nI t.length := by rw [zpn_f (by decide), hT1]
  refine zenterP (Or.inl (by decide +kernel)) rfl (fun h => by cases h) (Nat.le_of_ble_eq_true rfl) ?_
  show zwp _ _ _ _ _ 0 [_, _] [] 0 0 _
  refine zr_iload_n dX9_isFigure_0 rfl ?_
  refine zr_aload_n dX9_isFigure_1 rfl ?_
  refine zr_getI dX9_isFigure_2 fd_9_229 rfl (MI.ob hM ⟨rfl, rfl⟩) ?_
  rw [e10]
  refine zr_icmp_geN (tgt := 31) dX9_isFigure_5 (by decide) (by omega) (by omega) (fun hc_5 => ?_) (fun hc_5 => ?_)
  · refine zr_iconst (v := nI 0) dX9_isFigure_31 rfl ?_
    refine zr_z0 dX9_isFigure_32 rfl (Nat.le_refl _) (Nat.le_refl _) ?_ hk
    first
    | (have : ¬ x < t.length := by omega
       simp [this]; done)
    | (simp [hc_5, sfig, hc_24]; done)
  · refine zr_aload_n dX9_isFigure_8 rfl ?_
    refine zr_getR dX9_isFigure_9 fd_9_30 rfl (MI.ob hM ⟨rfl, rfl⟩) (MI.r9 hM ⟨rfl, rfl⟩) (by decide) ?_
    refine zr_iload_n dX9_isFigure_12 rfl ?_
    refine zr_ialoadN dX9_isFigure_13 (MI.a674 hM ⟨rfl, rfl⟩) (by omega) (by decide) ?_
    rw [zpn_n (by decide) (by decide), hT.at hc_5]
    refine zr_i2l dX9_isFigure_14 ?_
    refine zr_ldc2 dX9_isFigure_15 kc_9_235 ?_
    refine zr_ldc2 dX9_isFigure_18 kc_9_237 ?_
    refine zr_cS3 rfl dX9_isFigure_21 cv_9_47 (Nat.le_of_ble_eq_true rfl) (in32_ok (lo := 48) (hi := 57) rfl rfl ?_)
    refine zr_if_eqB (tgt := 31) dX9_isFigure_24 (by decide) (fun hc_24 => ?_) (fun hc_24 => ?_)
    · refine zr_iconst (v := nI 0) dX9_isFigure_31 rfl ?_
      refine zr_z0 dX9_isFigure_32 rfl (Nat.le_refl _) (Nat.le_refl _) ?_ hk
      first
      | (have : ¬ x < t.length := by omega
         simp [this]; done)
      | (simp [hc_5, sfig, hc_24]; done)
    · refine zr_iconst (v := nI 1) dX9_isFigure_27 rfl ?_
      refine zr_goto (tgt := 32) dX9_isFigure_28 (by decide) ?_
      refine zr_z1 dX9_isFigure_32 rfl (Nat.le_refl _) (Nat.le_refl _) ?_ hk
      first
      | (have : ¬ x < t.length := by omega
         simp [this]; done)
      | (simp [hc_5, sfig, hc_24]; done)
theorem numbersOf_ok {c : Int32} (hk : Q (.int (if olb c then nI (oleast c) else -1)) m) : zC (d + 1) M9_numbersOf 0 0 [.int c] m Q := by
  refine zenterP (Or.inl (by decide +kernel)) rfl (fun h => by cases h) (Nat.le_of_ble_eq_true rfl) ?_
  show zwp _ _ _ _ _ 0 [_] [] 0 0 _
  by_cases hl : olet c
  · rw [if_pos (olb_iff.mpr hl)] at hk
    rcases hl with rfl | rfl | rfl | rfl | rfl | rfl | rfl | rfl
    · refine zr_iload_n dX9_numbersOf_0 rfl ?_
      refine zr_tableIn (off := 119) (tgt := 120) dX9_numbersOf_1 (by decide) (by decide) rfl (by decide) ?_
      refine zr_iconst (v := nI 0) dX9_numbersOf_120 rfl ?_
      refine zr_ireturn dX9_numbersOf_121 rfl (Nat.le_refl _) (Nat.le_refl _) ?_
      exact hk
    · refine zr_iload_n dX9_numbersOf_0 rfl ?_
      refine zr_tableIn (off := 121) (tgt := 122) dX9_numbersOf_1 (by decide) (by decide) rfl (by decide) ?_
      refine zr_iconst (v := nI 1) dX9_numbersOf_122 rfl ?_
      refine zr_ireturn dX9_numbersOf_123 rfl (Nat.le_refl _) (Nat.le_refl _) ?_
      exact hk
    · refine zr_iload_n dX9_numbersOf_0 rfl ?_
      refine zr_tableIn (off := 121) (tgt := 122) dX9_numbersOf_1 (by decide) (by decide) rfl (by decide) ?_
      refine zr_iconst (v := nI 1) dX9_numbersOf_122 rfl ?_
      refine zr_ireturn dX9_numbersOf_123 rfl (Nat.le_refl _) (Nat.le_refl _) ?_
      exact hk
    · refine zr_iload_n dX9_numbersOf_0 rfl ?_
      refine zr_tableIn (off := 121) (tgt := 122) dX9_numbersOf_1 (by decide) (by decide) rfl (by decide) ?_
      refine zr_iconst (v := nI 1) dX9_numbersOf_122 rfl ?_
      refine zr_ireturn dX9_numbersOf_123 rfl (Nat.le_refl _) (Nat.le_refl _) ?_
      exact hk
    · refine zr_iload_n dX9_numbersOf_0 rfl ?_
      refine zr_tableIn (off := 123) (tgt := 124) dX9_numbersOf_1 (by decide) (by decide) rfl (by decide) ?_
      refine zr_iconst (v := nI 2) dX9_numbersOf_124 rfl ?_
      refine zr_ireturn dX9_numbersOf_125 rfl (Nat.le_refl _) (Nat.le_refl _) ?_
      exact hk
    · refine zr_iload_n dX9_numbersOf_0 rfl ?_
      refine zr_tableIn (off := 125) (tgt := 126) dX9_numbersOf_1 (by decide) (by decide) rfl (by decide) ?_
      refine zr_iconst (v := nI 3) dX9_numbersOf_126 rfl ?_
      refine zr_ireturn dX9_numbersOf_127 rfl (Nat.le_refl _) (Nat.le_refl _) ?_
      exact hk
    · refine zr_iload_n dX9_numbersOf_0 rfl ?_
      refine zr_tableIn (off := 127) (tgt := 128) dX9_numbersOf_1 (by decide) (by decide) rfl (by decide) ?_
      refine zr_iconst (v := nI 5) dX9_numbersOf_128 rfl ?_
      refine zr_ireturn dX9_numbersOf_129 rfl (Nat.le_refl _) (Nat.le_refl _) ?_
      exact hk
    · refine zr_iload_n dX9_numbersOf_0 rfl ?_
      refine zr_tableIn (off := 127) (tgt := 128) dX9_numbersOf_1 (by decide) (by decide) rfl (by decide) ?_
      refine zr_iconst (v := nI 5) dX9_numbersOf_128 rfl ?_
      refine zr_ireturn dX9_numbersOf_129 rfl (Nat.le_refl _) (Nat.le_refl _) ?_
      exact hk
  · rw [if_neg (fun z => hl (olb_iff.mp z))] at hk
    refine zr_iload_n dX9_numbersOf_0 rfl ?_
    by_cases h1 : c.toInt < 97 ∨ 122 < c.toInt
    · refine zr_tableOut (tgt := 130) dX9_numbersOf_1 h1 (by decide) ?_
      refine zr_iconst (v := -1) dX9_numbersOf_130 rfl ?_
      refine zr_ireturn dX9_numbersOf_131 rfl (Nat.le_refl _) (Nat.le_refl _) ?_
      exact hk
    · have ho : ∃ j : Nat, j < 26 ∧ c = nI (97 + j) := by
        refine ⟨(c.toInt - 97).toNat, by omega, ?_⟩
        apply Int32.toInt_inj.mp
        rw [nI_toInt (by omega)]
        omega
      obtain ⟨j, hj, rfl⟩ := ho
      have hoff : (#[125, 129, 127, 129, 129, 129, 123, 119, 129, 129, 129, 129, 129, 129, 129, 129, 129, 129, 127, 121, 129, 129, 121, 129, 129, 121] : Array Int)[((nI (97 + j)).toInt - 97).toNat]? = some 129 := by
        rw [nI_toInt (by omega), show ((97 + j : Nat) : Int) - 97 = (j : Int) by omega, Int.toNat_natCast]
        revert hl
        match j, hj with
        | 0, _ | 1, _ | 2, _ | 3, _ | 4, _ | 5, _ | 6, _ | 7, _ | 8, _ | 9, _ | 10, _ | 11, _ | 12, _ | 13, _ | 14, _ | 15, _ | 16, _ | 17, _ | 18, _ | 19, _ | 20, _ | 21, _ | 22, _ | 23, _ | 24, _ | 25, _ => intro hl; first | rfl | exact absurd (by unfold olet; decide) hl
        | k + 26, h => exact absurd h (by omega)
      refine zr_tableIn (off := 129) (tgt := 130) dX9_numbersOf_1 (fun z => h1 (Or.inl z)) (fun z => h1 (Or.inr z)) hoff (by decide) ?_
      refine zr_iconst (v := -1) dX9_numbersOf_130 rfl ?_
      refine zr_ireturn dX9_numbersOf_131 rfl (Nat.le_refl _) (Nat.le_refl _) ?_
      exact hk
end
