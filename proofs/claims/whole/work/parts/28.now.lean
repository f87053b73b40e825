/-! ===== steps: whether they may be done, and what they do ===== -/
def hN (x : Int32) : Nat := x.toNatClampNeg
/-- whether: h host, t ticks, z sleeps, w wakes, g leaves, a asks, c claims, s shares -/
def oc (c : Int32) (x : Nat → Int32) (s : sS) : Int32 :=
  if c = nI 104 then scanHost s else if c = nI 116 then (if sin (x 0) 1 60 then 0 else -2) else if c = nI 122 then scanSleep s (x 0) (x 1) else if c = nI 119 then scanWake s (x 0)
  else if c = nI 103 then scanLeave s (x 0) (x 1) else if c = nI 97 then scanAsk s (x 0) (x 1) (x 2) else scanRecord s (x 0) (x 1) (x 2) (x 3) (x 4)
def od (c : Int32) (x : Nat → Int32) (s : sS) : Int32 × sS :=
  if c = nI 104 then (nI s.2.2.1, shostNow s) else if c = nI 116 then ((sticks s (hN (x 0))).1 2 - s.1 2, sticks s (hN (x 0)))
  else if c = nI 122 then (nI (sownN (s.2.2.2 (hN (x 0))).2.2.1), ssleep s (hN (x 0)) (x 1)) else if c = nI 119 then ((swake s (hN (x 0))).1 2 - s.1 2, swake s (hN (x 0)))
  else if c = nI 103 then (nI ((s.2.2.2 (hN (x 0))).2.2.1.length - 1), sleave s (hN (x 0)) (hN (x 1))) else if c = nI 97 then ((sask s (hN (x 0)) (x 1) (x 2)).1 2 - s.1 2, sask s (hN (x 0)) (x 1) (x 2))
  else (nI (s.2.2.2 (hN (x 0))).2.2.1.length, srecordNow s (hN (x 0)) (srec (x 1) (x 2) (x 3) (x 4) (decide (c = nI 99))) (decide (c = nI 99)))
def olet (c : Int32) : Prop := c = nI 104 ∨ c = nI 116 ∨ c = nI 122 ∨ c = nI 119 ∨ c = nI 103 ∨ c = nI 97 ∨ c = nI 99 ∨ c = nI 115
def oneed (c : Int32) : Nat := if c = nI 104 then 0 else if c = nI 116 then 1 else if c = nI 122 then 2 else if c = nI 119 then 1 else if c = nI 103 then 2 else if c = nI 97 then 3 else 5
def wref (w : sW) (why : Int32) : sW := (w.1, w.2.1, w.2.2.1, fu w.2.2.2.1 (hN (-2 - why)) (w.2.2.2.1 (hN (-2 - why)) + 1), w.2.2.2.2)
def wstep (w : sW) (c : Int32) (x : Nat → Int32) : Int32 × sW := if oc c x w.1 < 0 then (oc c x w.1, wref w (oc c x w.1)) else ((od c x w.1).1, ((od c x w.1).2, skeep w.2.1 w.1, w.2.2))
def wask (w : sW) (ok : Bool) (v : Int32) : Int32 × sW := if ok then (v, w) else (-2, wref w (-2))
def fT (s : sS) : Prop := ∀ i, i < 60 → fOK (stick0 (sticks s i))
def oE (v : Int32) : Prop := v = -2 ∨ v = -3 ∨ v = -4
theorem oE.lt {v : Int32} (h : oE v) : v < 0 := by rcases h with rfl | rfl | rfl <;> decide
section
variable {s : sS}
theorem oc_v (c : Int32) (x : Nat → Int32) : oc c x s = 0 ∨ oE (oc c x s) := by
  unfold oc oE scanHost scanSleep scanWake scanLeave scanAsk scanRecord
  repeat' split
  all_goals simp
theorem oc_0 {c : Int32} {x : Nat → Int32} (h : ¬ oc c x s < 0) : oc c x s = 0 := by
  rcases oc_v (s := s) c x with h1 | h1
  · exact h1
  · exact absurd h1.lt h
theorem oc_e {c : Int32} {x : Nat → Int32} (h : oc c x s < 0) : oE (oc c x s) := by
  rcases oc_v (s := s) c x with h1 | h1
  · rw [h1] at h; exact absurd h (by decide)
  · exact h1
theorem scanHost_0 (h6 : s.2.2.1 ≤ 6) (h : scanHost s = 0) : s.2.2.1 < 6 := by
  unfold scanHost at h
  split at h
  · exact absurd h (by decide)
  · omega
theorem sin_of {x lo hi : Int32} {a b : Nat} (h : sin x lo hi = true) (hl : lo = nI a) (hh : hi = nI b) (ha : a < 2 ^ 31) (hb : b < 2 ^ 31) : ∃ j, a ≤ j ∧ j ≤ b ∧ x = nI j := by
  subst hl hh
  unfold sin at h
  simp only [Bool.and_eq_true, decide_eq_true_eq] at h
  obtain ⟨j, hj, rfl⟩ := nI_of (x := x) (by rw [Int32.not_lt]; exact Int32.le_trans (nI_pos' ha) h.1)
  exact ⟨j, (nI_leI ha hj).mp h.1, (nI_leI hj hb).mp h.2, rfl⟩
theorem scanRecord_0 {h n k q l : Int32} (h6 : s.2.2.1 ≤ 6) (e : scanRecord s h n k q l = 0) : ∃ i, i < s.2.2.1 ∧ h = nI i ∧ sisN n k = true ∧ sin q 0 255 = true ∧ sin l 2 60 = true ∧ sawk (s.2.2.2 i) = true ∧ (s.2.2.2 i).2.2.1.any (fun a => snam a n k) = false ∧ (s.2.2.2 i).2.2.1.length ≠ 5 := by
  unfold scanRecord at e
  split at e
  · exact absurd e (by decide)
  · rename_i c1
    simp only [Bool.or_eq_true, Bool.not_eq_true', not_or, Bool.not_eq_false] at c1
    obtain ⟨i, hi, rfl⟩ := sisH_of h6 c1.1.1.1
    rw [nI_clamp (show i < 2 ^ 31 by omega)] at e
    split at e
    · exact absurd e (by decide)
    · rename_i c2
      simp only [Bool.or_eq_true, Bool.not_eq_true', not_or, Bool.not_eq_false] at c2
      split at e
      · exact absurd e (by decide)
      · rename_i c3
        exact ⟨i, hi, rfl, c1.1.1.2, c1.1.2, c1.2, c2.1, Bool.eq_false_iff.mpr c2.2, c3⟩
theorem scanLeave_0 {h r : Int32} (hs : sOK s) (e : scanLeave s h r = 0) : ∃ i, i < s.2.2.1 ∧ h = nI i ∧ (∃ j, j < (s.2.2.2 i).2.2.1.length ∧ r = nI j) ∧ sawk (s.2.2.2 i) = true := by
  unfold scanLeave at e
  split at e
  · exact absurd e (by decide)
  · rename_i c1
    simp only [Bool.not_eq_true', Bool.not_eq_false] at c1
    unfold sisR at c1
    rw [Bool.and_eq_true] at c1
    obtain ⟨i, hi, rfl⟩ := sisH_of hs.1 c1.1
    rw [nI_clamp (show i < 2 ^ 31 by have := hs.1; omega)] at e c1
    have h5 := (hs.2 i hi).2.2.1
    obtain ⟨j, hj, rfl⟩ := sisX_of (by omega) c1.2
    split at e
    · rename_i c2
      exact ⟨i, hi, rfl, ⟨j, hj, rfl⟩, c2⟩
    · exact absurd e (by decide)
theorem scanAsk_0 {h n k : Int32} (h6 : s.2.2.1 ≤ 6) (e : scanAsk s h n k = 0) : ∃ i, i < s.2.2.1 ∧ h = nI i ∧ sisN n k = true ∧ sawk (s.2.2.2 i) = true := by
  unfold scanAsk at e
  split at e
  · exact absurd e (by decide)
  · rename_i c1
    simp only [Bool.or_eq_true, Bool.not_eq_true', not_or, Bool.not_eq_false] at c1
    obtain ⟨i, hi, rfl⟩ := sisH_of h6 c1.1
    rw [nI_clamp (show i < 2 ^ 31 by omega)] at e
    split at e
    · rename_i c2
      exact ⟨i, hi, rfl, c1.2, c2⟩
    · exact absurd e (by decide)
theorem scanWake_0 {h : Int32} (h6 : s.2.2.1 ≤ 6) (e : scanWake s h = 0) : ∃ i, i < s.2.2.1 ∧ h = nI i ∧ sawk (s.2.2.2 i) = false := by
  unfold scanWake at e
  split at e
  · exact absurd e (by decide)
  · rename_i c1
    simp only [Bool.not_eq_true', Bool.not_eq_false] at c1
    obtain ⟨i, hi, rfl⟩ := sisH_of h6 c1
    rw [nI_clamp (show i < 2 ^ 31 by omega)] at e
    split at e
    · exact absurd e (by decide)
    · rename_i c2
      exact ⟨i, hi, rfl, Bool.eq_false_iff.mpr c2⟩
theorem scanSleep_0 {h q : Int32} (h6 : s.2.2.1 ≤ 6) (e : scanSleep s h q = 0) : ∃ i, i < s.2.2.1 ∧ h = nI i ∧ (q = -1 ∨ ∃ j, j < s.2.2.1 ∧ q = nI j) := by
  unfold scanSleep at e
  split at e
  · exact absurd e (by decide)
  · rename_i c1
    simp only [Bool.or_eq_true, Bool.and_eq_true, Bool.not_eq_true', not_or, Bool.not_eq_false, not_and, bne_iff_ne] at c1
    obtain ⟨i, hi, rfl⟩ := sisH_of h6 c1.1.1
    refine ⟨i, hi, rfl, ?_⟩
    by_cases e1 : q = -1
    · exact Or.inl e1
    · obtain ⟨j, hj, rfl⟩ := sisH_of h6 (c1.1.2 e1)
      exact Or.inr ⟨j, hj, rfl⟩
/-! the rate stays, but at ticks -/
theorem shostNow_rate : (shostNow s).2.1 = s.2.1 := rfl
theorem ssleep_rate {h : Nat} {q : Int32} : (ssleep s h q).2.1 = s.2.1 := rfl
theorem swake_rate {h : Nat} : (swake s h).2.1 = s.2.1 := (fR_shp (s := swake0 s h) (fun r s => swakeR_shp) _).2.1
theorem sask_rate {h : Nat} {n k : Int32} : (sask s h n k).2.1 = s.2.1 := (fR_shpq (fun r q => saskH_shp) (sknown (s.2.2.2 h).2.2.2 n k (s.1 1) (s.2.2.2 h).2.2.2.length, s) _).2.1
theorem srecordNow_rate {h : Nat} {a : sR} {b : Bool} : (srecordNow s h a b).2.1 = s.2.1 := by
  unfold srecordNow
  split <;> rfl
theorem sleave_rate {h r : Nat} : (sleave s h r).2.1 = s.2.1 := by
  unfold sleave
  dsimp only
  split <;> rfl
end
/-! the reference's link, in any memory -/
def RS (m : zM) (s : sS) : Prop := MI m ∧ RA (zI m 668) s ∧ zF m 667 1 = s.2.1
def zkc (m m' : zM) : Prop := m'.2.1 = m.2.1 ∧ m'.2.2.2.2 = m.2.2.2.2 ∧ zL m' = zL m ∧ (∀ a, a ≠ 668 → a ≠ 673 → zI m' a = zI m a) ∧ (∀ a, a ≠ 667 → zF m' a = zF m a) ∧ ∀ j, j ≠ 1 → zF m' 667 j = zF m 667 j
section
variable {d : Nat} {Q : Value → zM → Prop} {m m' : zM} {s s' : sS} {w : sW}
theorem RM.rs (h : RM m w) : RS m w.1 := ⟨h.1, h.2.1, h.2.2.1⟩
theorem zkc.lo (h : zkc m m') : zlo m m' := fun a ha => ⟨h.2.2.2.1 a (by omega) (by omega), by unfold zR; rw [h.1], by rw [h.2.2.1], h.2.2.2.2.1 a (by omega)⟩
theorem zkp.lo (h : zkp m m') : zlo m m' := fun a ha => ⟨h.2.2.2.1 a (by omega) (by omega), by unfold zR; rw [h.1], by rw [h.2.2.1], h.2.2.2.2.2 a (by omega)⟩
theorem zkc_row {g : Nat → Int32} : zkc m (zrow m 668 g) := ⟨rfl, rfl, rfl, fun a h _ => zrow_n m g h, fun _ _ => rfl, fun _ _ => rfl⟩
theorem zkc_hd {hd g : Nat → Int32} : zkc m (zhd m hd g) := ⟨rfl, rfl, rfl, fun a h h' => by unfold zhd; rw [zrow_n _ g h, zrow_n _ hd h'], fun _ _ => rfl, fun _ _ => rfl⟩
theorem zkc_rowF {g : Nat → Int32} {q : UInt32} : zkc m (zrow (zsF m 667 1 q) 668 g) := ⟨rfl, rfl, rfl, fun a h _ => (zrow_n _ g h).trans rfl, fun a h => by rw [zF_I, zsF_rw, zrwF_n _ _ h], fun j h => by rw [zF_I, zsF_rw, zrwF_s, fu_n _ _ h]⟩
theorem RM.cur (h : RM m w) (hk : zkc m m') (hs : RS m' s') : RM m' (s', w.2) := by
  obtain ⟨k1, k2, k3, k4, k5, k6⟩ := hk
  obtain ⟨-, -, -, a4, a5, a6, a7, a8⟩ := h
  refine ⟨hs.1, hs.2.1, hs.2.2, ?_, ?_, fun k hk => ?_, ?_, ?_⟩
  · rw [k4 667 (by decide) (by decide), k4 669 (by decide) (by decide), k5 670 (by decide)]; exact a4
  · rw [k4 667 (by decide) (by decide), k4 674 (by decide) (by decide)]; exact a5
  · rw [k4 672 (by decide) (by decide)]; exact a6 k hk
  · rw [k4 667 (by decide) (by decide)]; exact a7
  · rw [k4 667 (by decide) (by decide)]; exact a8
theorem RM.kept (h : RM m w) (hk : zkp m m') (hp : RP (zI m' 667 6) (zI m' 669) (zF m' 670) (skeep w.2.1 w.1)) : RM m' (w.1, skeep w.2.1 w.1, w.2.2) := by
  obtain ⟨k1, k2, k3, k4, k5, k6⟩ := hk
  obtain ⟨a1, a2, a3, a4, a5, a6, a7, a8⟩ := h
  refine ⟨a1.of k1 k2, ?_, ?_, hp, ?_, fun k hk => ?_, ?_, ?_⟩
  · rw [k4 668 (by decide) (by decide)]; exact a2
  · rw [k6 667 (by decide)]; exact a3
  · rw [k5 10 (by decide), k4 674 (by decide) (by decide)]; exact a5
  · rw [k4 672 (by decide) (by decide)]; exact a6 k hk
  · rw [k5 14 (by decide)]; exact a7
  · rw [k5 15 (by decide)]; exact a8
theorem RM.refu {k : Nat} (hk3 : k < 3) (h : RM m w) : RM (zrow m 672 (fu (zI m 672) k (zI m 672 k + nI 1))) (w.1, w.2.1, w.2.2.1, fu w.2.2.2.1 k (w.2.2.2.1 k + 1), w.2.2.2.2) := by
  obtain ⟨a1, a2, a3, a4, a5, a6, a7, a8⟩ := h
  refine ⟨a1.of rfl rfl, ?_, a3, ?_, ?_, fun j hj => ?_, ?_, ?_⟩
  · rw [zrow_n _ _ (by decide)]; exact a2
  · rw [zrow_n _ _ (by decide), zrow_n _ _ (by decide)]; exact a4
  · rw [zrow_n _ _ (by decide), zrow_n _ _ (by decide)]; exact a5
  · rw [zrow_s, a6 k hk3]
    show fu (zI m 672) k (w.2.2.2.1 k + nI 1) j = fu w.2.2.2.1 k (w.2.2.2.1 k + 1) j
    by_cases e : j = k
    · subst e; rw [fu_s, fu_s]; rfl
    · rw [fu_n _ _ e, fu_n _ _ e]; exact a6 j hj
  · rw [zrow_n _ _ (by decide)]; exact a7
  · rw [zrow_n _ _ (by decide)]; exact a8
theorem refuses_m {why : Int32} (hw : oE why) (hR : RM m w) (hk : ∀ m', RM m' (wref w why) → zlo m m' → Q (.int why) m') : zC (d + 1) M9_refuses 0 0 [.ref 667, .int why] m Q := by
  have : ∃ k, k < 3 ∧ -2 - why = nI k ∧ hN (-2 - why) = k := by
    rcases hw with rfl | rfl | rfl
    · exact ⟨0, by decide, rfl, rfl⟩
    · exact ⟨1, by decide, rfl, rfl⟩
    · exact ⟨2, by decide, rfl, rfl⟩
  obtain ⟨k, k3, k1, k2⟩ := this
  refine refuses_ok hR.1 k3 k1 (hk _ ?_ (zlo.row (by decide)))
  unfold wref
  rw [k2]
  exact hR.refu k3
theorem keep_m (hR : RM m w) (hk : ∀ m', RM m' (w.1, skeep w.2.1 w.1, w.2.2) → zlo m m' → Q .null m') : zC (d + 1) M9_keep 0 0 [.ref 667] m Q :=
  keep_ok hR.1 hR.2.2.2.1 hR.2.1 hR.2.2.1 (fun m' h1 h2 => hk m' (hR.kept h1 h2) h1.lo)
theorem zCg {M : zMeth} {mc ms : Nat} {as : List Value} (h : zC d M mc ms as (zrow m 668 (zI m 668)) Q) : zC d M mc ms as m Q := by rwa [zrow_id] at h
/-! what is done, in any memory -/
theorem RS.mk' {g : Nat → Int32} (h : RS m s) (hg : RA g s') (hr : s'.2.1 = s.2.1) : RS (zrow m 668 g) s' := ⟨h.1.of rfl rfl, by rw [zrow_s]; exact hg, by rw [hr]; exact h.2.2⟩
theorem hostNow_g (hR : RS m s) (hn : s.2.2.1 < 6) (hk : ∀ m', zkc m m' → RS m' (shostNow s) → Q (.int (nI s.2.2.1)) m') : zC (d + 1) M9_hostNow 0 0 [.ref 667] m Q :=
  zCg (hostNow_ok hR.1 hR.2.1 hn (fun g hg => hk _ zkc_row (hR.mk' hg rfl)))
theorem recordNow_g {h : Nat} {name kind data life : Int32} {sole : Bool} (hR : RS m s) (hh : h < s.2.2.1) (h4 : (s.2.2.2 h).2.2.1.length < 5) (hk : ∀ m', zkc m m' → RS m' (srecordNow s h (srec name kind data life sole) sole) → Q (.int (nI (s.2.2.2 h).2.2.1.length)) m') : zC (d + 6) M9_recordNow 0 0 [.ref 667, .int (nI h), .int name, .int kind, .int data, .int life, .int (bI sole)] m Q :=
  zCg (recordNow_ok hR.1 hR.2.1 hh h4 (fun g hg => hk _ zkc_row (hR.mk' hg srecordNow_rate)))
theorem leaveNow_g {h r : Nat} (hR : RS m s) (hh : h < s.2.2.1) (hr : r < (s.2.2.2 h).2.2.1.length) (hk : ∀ m', zkc m m' → RS m' (sleave s h r) → Q (.int (nI ((s.2.2.2 h).2.2.1.length - 1))) m') : zC (d + 4) M9_leaveNow 0 0 [.ref 667, .int (nI h), .int (nI r)] m Q :=
  zCg (leaveNow_ok hR.1 hR.2.1 hh hr (fun g hg => hk _ zkc_row (hR.mk' hg sleave_rate)))
theorem sleepNow_g {h : Nat} {q : Int32} (hR : RS m s) (hh : h < s.2.2.1) (hk : ∀ m', zkc m m' → RS m' (ssleep s h q) → Q (.int (nI (sownN (s.2.2.2 h).2.2.1))) m') : zC (d + 3) M9_sleepNow 0 0 [.ref 667, .int (nI h), .int q] m Q :=
  zCg (sleepNow_ok hR.1 hR.2.1 hh (fun g hg => hk _ zkc_row (hR.mk' hg rfl)))
theorem wakeNow_g {h : Nat} (hR : RS m s) (hs : sOK s) (hh : h < s.2.2.1) (hk : ∀ m', zkc m m' → RS m' (swake s h) → Q (.int ((swake s h).1 2 - s.1 2)) m') : zC (d + 6) M9_wakeNow 0 0 [.ref 667, .int (nI h)] m Q :=
  zCg (wakeNow_ok hR.1 hR.2.1 hs hh (fun g hg => hk _ zkc_row (hR.mk' hg swake_rate)))
theorem askNow_g {h : Nat} {n k : Int32} (hR : RS m s) (hs : sOK s) (hh : h < s.2.2.1) (hk : ∀ m', zkc m m' → RS m' (sask s h n k) → Q (.int ((sask s h n k).1 2 - s.1 2)) m') : zC (d + 6) M9_askNow 0 0 [.ref 667, .int (nI h), .int n, .int k] m Q :=
  zCg (askNow_ok hR.1 hR.2.1 hs hh (fun hd g hg => hk _ zkc_hd ⟨hR.1.of rfl rfl, by unfold zhd; rw [zrow_s]; exact hg, by rw [sask_rate]; exact hR.2.2⟩))
theorem tickNow_g {n : Nat} (hR : RS m s) (hs : sOK s) (hn : n ≤ 60) (hF : fT s) (hk : ∀ m', zkc m m' → RS m' (sticks s n) → Q (.int ((sticks s n).1 2 - s.1 2)) m') : zC (d + 8) M9_tickNow 0 0 [.ref 667, .int (nI n)] m Q := by
  have h := tickNow_ok (d := d) (Q := Q) hR.1 hR.2.1 hs (show n < 65536 by omega) (fun i hi => hF i (by omega)) (fun g hg => hk _ zkc_rowF ⟨hR.1.of rfl rfl, by rw [zrow_s]; exact hg, by rw [zF_I, zsF_rw, zrwF_s, fu_s]⟩)
  rw [← hR.2.2] at h
  have e : zsF m 667 1 (zF m 667 1) = m := by
    rw [zsF_rw]
    have : fu (zF m 667) 1 (zF m 667 1) = zF m 667 := by
      funext j
      unfold fu
      split
      · rename_i z; rw [z]
      · rfl
    rw [this, zrwF_id]
  rw [e] at h
  exact zCg h
end
