/-! ===== what always holds of the whole ===== -/
def sF (N : Nat) (s : sS) : Prop := ∃ a b, s.1 2 = nI a ∧ s.1 6 = nI b ∧ b ≤ a ∧ a ≤ N ∧ s.2.1.toNat ≤ 1291845632
def sG (N : Nat) (s : sS) : Prop := sOK s ∧ sV s ∧ sF N s
def wI (N : Nat) (w : sW) : Prop := sG N w.1 ∧ (∀ s ∈ w.2.1, sG N s) ∧ w.2.2.1.length ≤ 120 ∧ ∀ c ∈ w.2.2.1, ∃ j, j < 128 ∧ c = nI j
section
variable {N M b : Nat} {s s' : sS} {w w' : sW} {c : Int32} {x : Nat → Int32}
theorem sF.mono (h : sF N s) (hm : N ≤ M) : sF M s := by
  obtain ⟨a, b, h1, h2, h3, h4, h5⟩ := h
  exact ⟨a, b, h1, h2, h3, by omega, h5⟩
theorem sG.mono (h : sG N s) (hm : N ≤ M) : sG M s := ⟨h.1, h.2.1, h.2.2.mono hm⟩
theorem wI.mono (h : wI N w) (hm : N ≤ M) : wI M w := ⟨h.1.mono hm, fun s hs => (h.2.1 s hs).mono hm, h.2.2⟩
theorem sF.inc (h : sF N s) (hi : sinc b s s') (hr : s'.2.1 = s.2.1) : sF (N + b) s' := by
  obtain ⟨a, e, h1, h2, h3, h4, h5⟩ := h
  obtain ⟨⟨j, j1, j2⟩, j3⟩ := hi
  exact ⟨a + j, e, by rw [j2, h1, nI_add], by rw [j3, h2], by omega, by omega, by rw [hr]; exact h5⟩
theorem sF.rate (h : sF N s) (hN : N ≤ 2 ^ 27) : fOK s ∧ sF N (srate s) := by
  obtain ⟨a, e, h1, h2, h3, h4, h5⟩ := h
  have hv : (s.1 2 - s.1 6).toInt = ((a - e : Nat) : Int) := by rw [h1, h2, i_sub h3, nI_toInt (by omega)]
  obtain ⟨f1, f2⟩ := fs_rate (v := s.1 2 - s.1 6) h5 hv (by omega)
  refine ⟨f1, a, a, ?_, ?_, Nat.le_refl _, h4, f2⟩
  · show fu s.1 6 (s.1 2) 2 = _
    rw [fu_n _ _ (by decide)]; exact h1
  · show fu s.1 6 (s.1 2) 6 = _
    rw [fu_s]; exact h1
theorem sF.tick0 (h : sF N s) (hs : sOK s) : sF (N + 30) (stick0 s) := h.inc (sinc_tick0 hs) stick0_rate
theorem sF.ticks (h : sF N s) (hs : sOK s) : ∀ n, N + 30 * n ≤ 2 ^ 27 → sF (N + 30 * n) (sticks s n)
  | 0, _ => h
  | n + 1, hn => by
    have h1 := (h.ticks hs n (by omega)).tick0 (hs.ticks n)
    exact ((h1.mono (show N + 30 * n + 30 ≤ N + 30 * (n + 1) by omega)).rate hn).2
theorem sF.fT (h : sF N s) (hs : sOK s) (hN : N + 1800 ≤ 2 ^ 27) : fT s := fun i hi => by
  have h1 := (h.ticks hs i (by omega)).tick0 (hs.ticks i)
  exact (h1.rate (by omega)).1
theorem od_rate (hc : olet c) (ht : c ≠ nI 116) : (od c x s).2.2.1 = s.2.1 := by
  rcases hc with rfl | rfl | rfl | rfl | rfl | rfl | rfl | rfl
  · rfl
  · exact absurd rfl ht
  · rfl
  · rw [od_w]; exact swake_rate
  · rw [od_g]; exact sleave_rate
  · rw [od_a]; exact sask_rate
  · rw [od_c]; exact srecordNow_rate
  · rw [od_s]; exact srecordNow_rate
theorem sG.od (h : sG N s) (hc : olet c) (h0 : oc c x s = 0) (hN : N + 1800 ≤ 2 ^ 27) : sG (N + 1800) (od c x s).2 := by
  refine ⟨h.1.od hc h0, h.2.1.od h.1 hc h0, ?_⟩
  by_cases ht : c = nI 116
  · subst ht
    have hsn : sin (x 0) 1 60 = true := by
      cases z : sin (x 0) 1 60
      · have e0 : oc (nI 116) x s = -2 := by
          show (if sin (x 0) 1 60 = true then (0 : Int32) else -2) = -2
          rw [z]; rfl
        rw [e0] at h0
        exact absurd h0 (by decide)
      · rfl
    obtain ⟨i, i1, i2, i3⟩ := sin_of (a := 1) (b := 60) hsn rfl rfl (by decide) (by decide)
    rw [od_t, i3, hN_nI (by omega)]
    exact (h.2.2.ticks h.1 i (by omega)).mono (by omega)
  · exact (h.2.2.inc (sinc_od h.1 hc ht h0) (od_rate hc ht)).mono (by omega)
theorem sG.fX {K : Nat} (hK : K = 1800) (os : List sO) : ∀ (s : sS) (N : Nat), sG N s → (∀ o ∈ os, olet o.1) → N + (os.length * K + K) ≤ 2 ^ 27 → fX os s := by
  induction os with
  | nil => exact fun s N h _ hN => h.2.2.fT h.1 (by rw [List.length_nil, Nat.zero_mul] at hN; omega)
  | cons o os ih =>
    intro s N h ho hN
    rw [List.length_cons, Nat.succ_mul] at hN
    exact ⟨h.2.2.fT h.1 (by omega), fun h0 => ih _ (N + 1800) (h.od (ho o (List.mem_cons_self ..)) h0 (by omega)) (fun o' h' => ho o' (List.mem_cons_of_mem _ h')) (by omega)⟩
theorem sG.exec {K : Nat} (hK : K = 1800) (os : List sO) : ∀ (s : sS) (N k : Nat), sG N s → (∀ o ∈ os, olet o.1) → N + os.length * K ≤ 2 ^ 27 → sG (N + os.length * K) (sexec k os s).2 := by
  induction os with
  | nil => exact fun s N k h _ hN => h.mono (by omega)
  | cons o os ih =>
    intro s N k h ho hN
    rw [List.length_cons, Nat.succ_mul] at hN ⊢
    rw [sexec]
    split
    · exact h.mono (by omega)
    · rename_i hn
      have h1 := h.od (ho o (List.mem_cons_self ..)) (oc_0 hn) (by omega)
      exact (ih _ (N + 1800) (k + 1) h1 (fun o' h' => ho o' (List.mem_cons_of_mem _ h')) (by omega)).mono (by omega)
theorem tScan_tI {t : List Int32} : ∀ i q, (tScan t i).2 = some q → tI q i
  | 0, q, hq => by
    injection hq with hq
    subst hq
    exact ⟨Nat.zero_le _, fun z => by cases z⟩
  | i + 1, q, hq => by
    rw [tScan] at hq
    cases hs : tScan t i with
    | mk p r =>
      rw [hs] at hq
      cases r with
      | none => cases hq
      | some q0 =>
        have h0 := tScan_tI (t := t) i q0 (by rw [hs])
        dsimp only at hq
        cases he : tst q0 (tg t i) with
        | none => rw [he] at hq; cases hq
        | some q1 =>
          rw [he] at hq
          injection hq with hq
          subst hq
          exact h0.step he
theorem tEnd_60 {t : List Int32} {p : Nat} {os : List sO} (h : tEnd t = (p, some os)) : 2 * os.length ≤ t.length := by
  unfold tEnd at h
  cases hs : tScan t t.length with
  | mk p r =>
    rw [hs] at h
    cases r with
    | none => cases h
    | some q =>
      have h0 := (tScan_tI (t := t) t.length q (by rw [hs])).1
      dsimp only at h
      split at h
      · cases h
      · injection h with _ h
        injection h with h
        rw [← h]
        exact h0
theorem wI.fX (h : wI N w) (hN : N + 120000 ≤ 2 ^ 27) : ∀ os, tEnd w.2.2.1 = (w.2.2.1.length, some os) → fX os w.1 := fun os he => by
  have h1 := tEnd_60 he
  have h2 := h.2.2.1
  have h3 := (tEnd_inv (t := w.2.2.1)).2 os (by rw [he])
  obtain ⟨K, hK⟩ : ∃ K, K = 1800 := ⟨_, rfl⟩
  have h5 := Nat.mul_le_mul_right K (show os.length ≤ 60 by omega)
  exact sG.fX hK os w.1 N h.1 h3.2 (by omega)
theorem wI.tx (h : wI N w) : ∀ j, j < w.2.2.1.length → tg w.2.2.1 j ≠ -1 := fun j hj => by
  obtain ⟨i, i1, i2⟩ := h.2.2.2 _ (List.mem_of_getElem? (tg_get hj))
  rw [i2]
  exact nI_ne_m1 (by omega)
theorem wI.cg (h : wI N w) (h1 : w'.1 = w.1) (h2 : w'.2.1 = w.2.1) (h3 : w'.2.2.1 = w.2.2.1) : wI N w' := by
  unfold wI
  rw [h1, h2, h3]
  exact h
theorem skeep_mem {l : List sS} {t : sS} (h : t ∈ skeep l s) : t ∈ l ∨ t = s := by
  unfold skeep at h
  rcases List.mem_append.mp h with z | z
  · split at z
    · exact Or.inl (List.mem_of_mem_drop z)
    · exact Or.inl z
  · exact Or.inr (List.mem_singleton.mp z)
theorem wI.keep (h : wI N w) (hm : N ≤ M) (hs : sG M s) : wI M (s, skeep w.2.1 w.1, w.2.2) := by
  refine ⟨hs, fun t ht => ?_, h.2.2⟩
  rcases skeep_mem ht with z | z
  · exact (h.2.1 t z).mono hm
  · rw [z]; exact h.1.mono hm
theorem wI.step (h : wI N w) (hc : olet c) (hN : N + 120000 ≤ 2 ^ 27) : wI (N + 120000) (wstep w c x).2 := by
  by_cases h0 : oc c x w.1 < 0
  · rw [wstep_no h0]
    exact (h.cg rfl rfl rfl).mono (by omega)
  · rw [wstep_yes (oc_0 h0)]
    exact h.keep (by omega) ((h.1.od hc (oc_0 h0) (by omega)).mono (by omega))
theorem wI.ask (h : wI N w) {ok : Bool} {v : Int32} : wI N (wask w ok v).2 := by
  unfold wask
  split
  · exact h
  · exact h.cg rfl rfl rfl
theorem wI.type (h : wI N w) : wI N (wtype w c).2 := by
  unfold wtype
  split
  · rename_i hc
    split
    · exact h.cg rfl rfl rfl
    · rename_i hl
      obtain ⟨j, -, j2, j3⟩ := sin_of (a := 0) (b := 127) hc rfl rfl (by decide) (by decide)
      refine ⟨h.1, h.2.1, ?_, fun y hy => ?_⟩
      · show (w.2.2.1 ++ [c]).length ≤ 120
        rw [List.length_append, List.length_singleton]
        have := h.2.2.1
        omega
      · rcases List.mem_append.mp hy with z | z
        · exact h.2.2.2 y z
        · exact ⟨j, by omega, by rw [List.mem_singleton.mp z]; exact j3⟩
  · exact h.cg rfl rfl rfl
theorem wI.clear (h : wI N w) : wI N (wclear w).2 := ⟨h.1, h.2.1, Nat.zero_le _, fun y hy => by cases hy⟩
theorem wI.why (h : wI N w) : wI N (wwhy w c).2 := by
  unfold wwhy
  split
  · exact h
  · exact h.cg rfl rfl rfl
theorem wI.back (h : wI N w) : wI N (wback w).2 := by
  unfold wback
  split
  · exact h.cg rfl rfl rfl
  · rename_i h0
    refine ⟨?_, fun s hs => h.2.1 s (List.dropLast_subset _ hs), h.2.2⟩
    cases hl : w.2.1 with
    | nil => rw [hl] at h0; exact absurd rfl h0
    | cons a l =>
      refine h.2.1 _ ?_
      rw [hl]
      exact List.getLast_mem (List.cons_ne_nil a l)
theorem wI.reads (h : wI N w) (hN : N + 120000 ≤ 2 ^ 27) : wI (N + 120000) (wreads w).2 := by
  unfold wreads
  cases he : tEnd w.2.2.1 with
  | mk p r =>
    cases r with
    | none => exact h.mono (by omega)
    | some os =>
      dsimp only
      have h1 := tEnd_60 he
      have h2 := h.2.2.1
      have h3 := (tEnd_inv (t := w.2.2.1)).2 os (by rw [he])
      have h4 := sG.exec (K := 1800) rfl os w.1 N 0 h.1 h3.2 (by omega)
      cases hx : sexec 0 os w.1 with
      | mk o s =>
        rw [hx] at h4
        cases o with
        | none => exact h.keep (by omega) (h4.mono (by omega))
        | some ke => exact (h.cg rfl rfl rfl).mono (by omega)
end
