/-! ===== how much is said in a step ===== -/
def sinc (b : Nat) (s s' : sS) : Prop := (∃ j, j ≤ b ∧ s'.1 2 = s.1 2 + nI j) ∧ s'.1 6 = s.1 6
section
variable {s s' s'' : sS} {h r o b a n : Nat} {x : sR}
theorem nI_z (v : Int32) : v + nI 0 = v := Int32.add_zero v
theorem sinc.rf : sinc b s s := ⟨⟨0, Nat.zero_le _, (nI_z _).symm⟩, rfl⟩
theorem sinc.of (h2 : s'.1 2 = s.1 2) (h6 : s'.1 6 = s.1 6) : sinc b s s' := ⟨⟨0, Nat.zero_le _, by rw [nI_z]; exact h2⟩, h6⟩
theorem sinc.tr (h1 : sinc a s s') (h2 : sinc b s' s'') : sinc (a + b) s s'' := by
  obtain ⟨⟨i, i1, i2⟩, i3⟩ := h1
  obtain ⟨⟨j, j1, j2⟩, j3⟩ := h2
  exact ⟨⟨i + j, by omega, by rw [j2, i2, i_assoc]⟩, j3.trans i3⟩
theorem sinc.wd (h1 : sinc a s s') (h2 : a ≤ b) : sinc b s s' := by
  obtain ⟨⟨i, i1, i2⟩, i3⟩ := h1
  exact ⟨⟨i, by omega, i2⟩, i3⟩
theorem sinc_says : sinc 1 s (ssays s b x) := ⟨⟨1, Nat.le_refl _, rfl⟩, rfl⟩
theorem sinc_sc {k : Nat} {v : Int32} (h2 : k ≠ 2) (h6 : k ≠ 6) : sinc 0 s (scnt s k v) := sinc.of (fu_n _ _ (fun z => h2 z.symm)) (fu_n _ _ (fun z => h6 z.symm))
theorem sinc_set : sinc 0 s (ssetr s h r x) := sinc.of rfl rfl
theorem sinc_adv : sinc 1 s (sadv s h r) := by
  unfold sadv
  dsimp only
  have h3 : sinc 0 s (scnt s 3 (s.1 3 + 1)) := sinc_sc (by decide) (by decide)
  split
  · exact sinc.rf
  split
  · exact sinc_set.wd (by decide)
  split
  · exact ((h3.tr sinc_set).tr (sinc_sc (by decide) (by decide))).wd (by decide)
  split
  · exact (h3.tr sinc_set).wd (by decide)
  split
  · exact ((h3.tr sinc_set).tr sinc_says).wd (by decide)
  · exact (h3.tr sinc_set).wd (by decide)
theorem sinc_fR {f : Nat → sS → sS} (hf : ∀ i s, sinc b s (f i s)) : ∀ n, sinc (b * n) s (fR f n s)
  | 0 => sinc.rf
  | n + 1 => ((sinc_fR hf n).tr (hf n _)).wd (by rw [Nat.mul_succ]; exact Nat.le_refl _)
theorem sinc_advH (h5 : (s.2.2.2 h).2.2.1.length ≤ 5) : sinc 5 s (sadvH s h) := (sinc_fR (fun i s => sinc_adv) _).wd (by omega)
theorem sinc_advHs (hs : sOK s) : ∀ k, k ≤ s.2.2.1 → sinc (5 * k) s (fR (fun h s => sadvH s h) k s)
  | 0, _ => sinc.rf
  | k + 1, hk => by
    have hok := hs.advH k (by omega)
    have sh : sShp s (fR (fun h s => sadvH s h) k s) := fR_shp (fun h s => sadvH_shp) k
    have h5 := (hok.2 k (by rw [sh.1]; omega)).2.2.1
    exact ((sinc_advHs hs k (by omega)).tr (sinc_advH h5)).wd (by omega)
theorem sinc_ages : sinc 0 s (sages s n) := sinc.of rfl rfl
theorem sinc_tick0 (hs : sOK s) : sinc 30 s (stick0 s) := by
  have n6 := hs.1
  have hs2 := hs.ages
  have := sinc_ages.tr (sinc_advHs hs2 s.2.2.1 (Nat.le_refl _))
  exact this.wd (by omega)
theorem stick_eq : stick s = srate (stick0 s) := rfl
theorem stick_2 (hs : sOK s) : ∃ j, j ≤ 30 ∧ (stick s).1 2 = s.1 2 + nI j := by
  obtain ⟨⟨j, j1, j2⟩, -⟩ := sinc_tick0 hs
  refine ⟨j, j1, ?_⟩
  show (stick0 s).1 2 = _
  exact j2
theorem sticks_2 (hs : sOK s) : ∀ n, ∃ j, j ≤ 30 * n ∧ (sticks s n).1 2 = s.1 2 + nI j
  | 0 => ⟨0, Nat.le_refl _, (nI_z _).symm⟩
  | n + 1 => by
    obtain ⟨i, i1, i2⟩ := sticks_2 hs n
    obtain ⟨j, j1, j2⟩ := stick_2 (hs.ticks n)
    refine ⟨i + j, by omega, ?_⟩
    show (stick (sticks s n)).1 2 = _
    rw [j2, i2, i_assoc]
theorem sinc_wakeR : sinc 1 s (swakeR h r s) := by
  unfold swakeR
  dsimp only
  split
  · split
    · exact sinc_set.wd (by decide)
    · exact sinc_says
  · exact sinc.rf
theorem sinc_wake (hs : sOK s) (hh : h < s.2.2.1) : sinc 5 s (swake s h) := by
  have h5 := (hs.2 h hh).2.2.1
  have h1 : sinc 0 s (swake0 s h) := sinc.of rfl rfl
  exact (h1.tr (sinc_fR (s := swake0 s h) (fun i s => sinc_wakeR) (s.2.2.2 h).2.2.1.length)).wd (by omega)
theorem sinc_askR {q : sQ} {n k : Int32} : sinc 1 q.2 (saskR n k b o r q).2 := by
  unfold saskR
  dsimp only
  split
  · split
    · exact (sinc_sc (by decide) (by decide)).wd (by decide)
    · exact sinc_says
  · exact sinc.rf
theorem sinc_fRq {f : Nat → sQ → sQ} (hf : ∀ i q, sinc b q.2 (f i q).2) {q : sQ} : ∀ n, sinc (b * n) q.2 (fR f n q).2
  | 0 => sinc.rf
  | n + 1 => ((sinc_fRq hf n).tr (hf n _)).wd (by rw [Nat.mul_succ]; exact Nat.le_refl _)
theorem sinc_askH {q : sQ} {n k : Int32} (h5 : (q.2.2.2.2 o).2.2.1.length ≤ 5) : sinc 5 q.2 (saskH n k h o q).2 := by
  unfold saskH
  split
  · exact (sinc_fRq (fun i q => sinc_askR) _).wd (by omega)
  · exact sinc.rf
theorem sinc_askHs {q : sQ} {n k : Int32} (hs : sOK q.2) : ∀ c, c ≤ q.2.2.2.1 → sinc (5 * c) q.2 (fR (saskH n k h) c q).2
  | 0, _ => sinc.rf
  | c + 1, hc => by
    have hok := hs.askHs (n := n) (k := k) (h := h) c (by omega)
    have sh := fR_shpq (f := saskH n k h) (fun r q => saskH_shp) q c
    have h5 := (hok.2 c (by rw [sh.1]; omega)).2.2.1
    exact ((sinc_askHs hs c (by omega)).tr (sinc_askH h5)).wd (by omega)
theorem sinc_ask {n k : Int32} (hs : sOK s) : sinc 30 s (sask s h n k) := by
  have n6 := hs.1
  exact (sinc_askHs (q := (sknown (s.2.2.2 h).2.2.2 n k (s.1 1) (s.2.2.2 h).2.2.2.length, s)) hs s.2.2.1 (Nat.le_refl _)).wd (by omega)
theorem sinc_record {sole : Bool} : sinc 1 s (srecordNow s h x sole) := by
  unfold srecordNow
  split
  · exact sinc.of rfl rfl
  · have h1 : sinc 0 s (sadd s h x) := sinc.of rfl rfl
    exact (h1.tr sinc_says).wd (by decide)
theorem sinc_leave : sinc 1 s (sleave s h r) := by
  unfold sleave
  dsimp only
  split
  · exact ⟨⟨1, Nat.le_refl _, rfl⟩, rfl⟩
  · exact sinc.of rfl rfl
theorem sinc_od {c : Int32} {x : Nat → Int32} (hs : sOK s) (hc : olet c) (ht : c ≠ nI 116) (h0 : oc c x s = 0) : sinc 30 s (od c x s).2 := by
  rcases hc with rfl | rfl | rfl | rfl | rfl | rfl | rfl | rfl
  · exact sinc.of rfl rfl
  · exact absurd rfl ht
  · exact sinc.of rfl rfl
  · obtain ⟨i, i1, i2, -⟩ := scanWake_0 hs.1 h0
    rw [od_w, i2, hN_nI (show i < 2 ^ 31 by have := hs.1; omega)]
    exact (sinc_wake hs i1).wd (by decide)
  · rw [od_g]; exact sinc_leave.wd (by decide)
  · rw [od_a]; exact sinc_ask hs
  · rw [od_c]; dsimp only; exact sinc.wd (a := 1) (b := 30) sinc_record (by decide)
  · rw [od_s]; dsimp only; exact sinc.wd (a := 1) (b := 30) sinc_record (by decide)
theorem nE_nI {j : Nat} (hj : j < 2 ^ 31) : ¬ oE (nI j) := by
  intro z
  have := nI_pos' hj
  rcases z with z | z | z <;> (rw [z] at this; exact absurd this (by decide))
theorem i_addsub' (v : Int32) (j : Nat) : v + nI j - v = nI j := i_addsub v (nI j)
theorem nE_inc (h : ∃ j, j ≤ b ∧ s'.1 2 = s.1 2 + nI j) (hb : b < 2 ^ 31) : ¬ oE (s'.1 2 - s.1 2) := by
  obtain ⟨j, j1, j2⟩ := h
  rw [j2, i_addsub']
  exact nE_nI (by omega)
theorem od_ne {c : Int32} {x : Nat → Int32} (hs : sOK s) (hc : olet c) (h0 : oc c x s = 0) : ¬ oE (od c x s).1 := by
  have n6 := hs.1
  rcases hc with rfl | rfl | rfl | rfl | rfl | rfl | rfl | rfl
  · rw [od_h]; exact nE_nI (by omega)
  · have hsn : sin (x 0) 1 60 = true := by
      cases z : sin (x 0) 1 60
      · have e0 : oc (nI 116) x s = -2 := by
          show (if sin (x 0) 1 60 = true then (0 : Int32) else -2) = -2
          rw [z]; rfl
        rw [e0] at h0
        exact absurd h0 (by decide)
      · rfl
    obtain ⟨i, i1, i2, i3⟩ := sin_of (a := 1) (b := 60) hsn rfl rfl (by decide) (by decide)
    rw [od_t, i3, hN_nI (by omega)]
    exact nE_inc (sticks_2 hs i) (by omega)
  · rw [od_z]
    refine nE_nI ?_
    have := cntN_le (fun i => sown (zg (s.2.2.2 (hN (x 0))).2.2.1 i)) (s.2.2.2 (hN (x 0))).2.2.1.length
    obtain ⟨i, i1, i2, -⟩ := scanSleep_0 n6 h0
    have e : hN (x 0) = i := by rw [i2]; exact hN_nI (by omega)
    have h5 := (hs.2 i i1).2.2.1
    rw [e] at this ⊢
    unfold sownN
    omega
  · obtain ⟨i, i1, i2, -⟩ := scanWake_0 n6 h0
    rw [od_w, i2, hN_nI (show i < 2 ^ 31 by omega)]
    exact nE_inc (sinc_wake hs i1).1 (by decide)
  · rw [od_g]
    obtain ⟨i, i1, i2, -⟩ := scanLeave_0 hs h0
    have h5 := (hs.2 i i1).2.2.1
    rw [i2, hN_nI (show i < 2 ^ 31 by omega)]
    exact nE_nI (by omega)
  · rw [od_a]; exact nE_inc (sinc_ask hs).1 (by decide)
  · rw [od_c]
    obtain ⟨i, i1, i2, -⟩ := scanRecord_0 n6 h0
    have h5 := (hs.2 i i1).2.2.1
    rw [i2, hN_nI (show i < 2 ^ 31 by omega)]
    exact nE_nI (by omega)
  · rw [od_s]
    obtain ⟨i, i1, i2, -⟩ := scanRecord_0 n6 h0
    have h5 := (hs.2 i i1).2.2.1
    rw [i2, hN_nI (show i < 2 ^ 31 by omega)]
    exact nE_nI (by omega)
end
