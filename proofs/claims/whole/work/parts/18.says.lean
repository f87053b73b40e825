/-! ===== the reference: says, and the small changes ===== -/
section
variable {s : sS} {b h : Nat} {r : sR}
theorem sS_ext {a c : sS} (h1 : a.1 = c.1) (h2 : a.2.1 = c.2.1) (h3 : a.2.2.1 = c.2.2.1) (h4 : ∀ h, a.2.2.2 h = c.2.2.2 h) : a = c := by
  obtain ⟨a1, a2, a3, a4⟩ := a
  obtain ⟨c1, c2, c3, c4⟩ := c
  simp only at h1 h2 h3 h4
  rw [h1, h2, h3, funext h4]
theorem sheard_0 : sheard s b r 0 = s := sS_ext rfl rfl rfl (fun h => by simp [sheard])
theorem sheard_at : (sheard s b r h).2.2.2 h = s.2.2.2 h := by show (if h < h ∧ h ≠ b then _ else _) = _; rw [if_neg (by omega)]
theorem sheard_s (hb : ¬ h = b) : shst (sheard s b r h) h (shear (s.1 1) (s.2.2.2 h) r) = sheard s b r (h + 1) := by
  refine sS_ext rfl rfl rfl (fun j => ?_)
  show fu (sheard s b r h).2.2.2 h _ j = (if j < h + 1 ∧ j ≠ b then _ else _)
  by_cases e : j = h
  · subst e
    rw [fu_s, if_pos ⟨by omega, hb⟩]
  · rw [fu_n _ _ e]
    show (if j < h ∧ j ≠ b then _ else _) = _
    by_cases e2 : j < h ∧ j ≠ b
    · rw [if_pos e2, if_pos ⟨by omega, e2.2⟩]
    · rw [if_neg e2, if_neg (by omega)]
theorem sheard_b (hb : h = b) : sheard s b r (h + 1) = sheard s b r h := by
  refine sS_ext rfl rfl rfl (fun j => ?_)
  show (if j < h + 1 ∧ j ≠ b then _ else _) = (if j < h ∧ j ≠ b then _ else _)
  by_cases e2 : j < h ∧ j ≠ b
  · rw [if_pos e2, if_pos ⟨by omega, e2.2⟩]
  · rw [if_neg e2, if_neg (by omega)]
end
section
variable {d : Nat} {Q : Value → zM → Prop} {m : zM} {f0 : Nat → Int32} {s : sS} {b p : Nat} {rc : sR}
theorem says_loop (hM : MI m) (hA0 : RA f0 s) (hb : b < 65536) (hp1 : 34 ≤ p) (hp2 : p + 6 < 244) (hrc : ∀ k, k < 7 → f0 (p + k) = rc k) (hk : ∀ g, RA g (ssays s b rc) → Q .null (zrow m 668 g)) : ∀ c h f, s.2.2.1 - h < c → h ≤ s.2.2.1 → RA f (sheard s b rc h) → (∀ j, 34 ≤ j → j < 244 → f j = f0 j) →
    zwp (d + 5) M9_says 0 0 Q 2 [.ref 667, .int (nI b), .int (nI p), .int (nI h)] [] 0 0 (zrow m 668 f) := by
  have h6 := hA0.2.1
  intro c
  induction c with
  | zero => intro h f h1; omega
  | succ c ih =>
    intro h f h1 h2 hA hf
    have frc : ∀ k, k < 7 → f (p + k) = rc k := fun k hk => (hf _ (by omega) (by omega)).trans (hrc k hk)
    refine zr_iload_n dX9_says_2 rfl ?_
    refine zr_aload_n dX9_says_3 rfl ?_
    refine zr_getR dX9_says_4 fd_9_7 rfl (MI.ob hM ⟨rfl, rfl⟩) (MI.r0 hM ⟨rfl, rfl⟩) (by decide) ?_
    refine zr_iconst (v := nI 0) dX9_says_7 rfl ?_
    refine zr_ialoadA dX9_says_8 (MI.a668 hM ⟨rfl, rfl⟩) (by omega) ?_
    rw [hA.1, show (sheard s b rc h).2.2.1 = s.2.2.1 from rfl]
    refine zr_icmp_geN (tgt := 29) dX9_says_9 (by decide) (by omega) (by omega) (fun hc_9 => ?_) (fun hc_9 => ?_)
    · refine zr_aload_n dX9_says_29 rfl ?_
      refine zr_getR dX9_says_30 fd_9_7 rfl (MI.ob hM ⟨rfl, rfl⟩) (MI.r0 hM ⟨rfl, rfl⟩) (by decide) ?_
      refine zr_iconst (v := nI 2) dX9_says_33 rfl ?_
      refine zr_dup2 dX9_says_34 rfl rfl ?_
      refine zr_ialoadA dX9_says_35 (MI.a668 hM ⟨rfl, rfl⟩) (by omega) ?_
      refine zr_iconst (v := nI 1) dX9_says_36 rfl ?_
      refine zr_iadd dX9_says_37 ?_
      refine zr_iastoreA dX9_says_38 (MI.a668 hM ⟨rfl, rfl⟩) (by omega) ?_
      refine zr_return dX9_says_39 rfl (Nat.le_refl _) (Nat.le_refl _) ?_
      have e : h = s.2.2.1 := by omega
      refine hk _ ?_
      have := hA.sc (k := 2) (by decide) (by decide) (f 2 + nI 1)
      rw [hA.2.2.1 2 (by decide) (by decide), e] at this
      rw [hA.2.2.1 2 (by decide) (by decide), e]
      exact this
    · refine zr_iload_n dX9_says_12 rfl ?_
      refine zr_iload_n dX9_says_13 rfl ?_
      refine zr_icmp_eqN (tgt := 23) dX9_says_14 (by decide) (by omega) (by omega) (fun hc_14 => ?_) (fun hc_14 => ?_)
      · refine zr_iincN dX9_says_23 rfl (by decide) rfl ?_
        dsimp only [zset]
        refine zr_goto (tgt := 2) dX9_says_26 (by decide) ?_
        first
        | (refine ih (h + 1) f (by omega) (by omega) ?_ hf
           rw [sheard_b hc_14]; exact hA)
        | (refine ih (h + 1) g (by omega) (by omega) ?_ (fun j h3 h4 => (hg1 j (by unfold creg; have := hA.h6 hc_9; omega)).trans (hf j h3 h4))
           rw [sheard_at] at hg2
           rw [← sheard_s hc_14]
           exact hA.host hc_9 (fun j hj => hg1 j (fun z => hj (creg_hreg z))) hg2)
      · refine zr_aload_n dX9_says_17 rfl ?_
        refine zr_iload_n dX9_says_18 rfl ?_
        refine zr_iload_n dX9_says_19 rfl ?_
        refine zr_cV2v rfl dX9_says_20 cv_9_90 (MI.ob hM ⟨rfl, rfl⟩) (Nat.le_of_ble_eq_true rfl) (hears_ok (s := sheard s b rc h) hM hA hc_9 hp1 hp2 frc (fun g hg1 hg2 => ?_))
        refine zr_iincN dX9_says_23 rfl (by decide) rfl ?_
        dsimp only [zset]
        refine zr_goto (tgt := 2) dX9_says_26 (by decide) ?_
        first
        | (refine ih (h + 1) f (by omega) (by omega) ?_ hf
           rw [sheard_b hc_14]; exact hA)
        | (refine ih (h + 1) g (by omega) (by omega) ?_ (fun j h3 h4 => (hg1 j (by unfold creg; have := hA.h6 hc_9; omega)).trans (hf j h3 h4))
           rw [sheard_at] at hg2
           rw [← sheard_s hc_14]
           exact hA.host hc_9 (fun j hj => hg1 j (fun z => hj (creg_hreg z))) hg2)
theorem says_ok {f : Nat → Int32} (hM : MI m) (hA : RA f s) (hb : b < 65536) (hp1 : 34 ≤ p) (hp2 : p + 6 < 244) (hrc : ∀ k, k < 7 → f (p + k) = rc k) (hk : ∀ g, RA g (ssays s b rc) → Q .null (zrow m 668 g)) : zC (d + 5) M9_says 0 0 [.ref 667, .int (nI b), .int (nI p)] (zrow m 668 f) Q := by
  refine zenterP (Or.inl (by decide +kernel)) rfl (fun h => by cases h) (Nat.le_of_ble_eq_true rfl) ?_
  show zwp _ _ _ _ _ 0 [_, _, _, zU] [] 0 0 _
  refine zr_iconst (v := nI 0) dX9_says_0 rfl ?_
  refine zr_istore_n dX9_says_1 (by decide) rfl ?_
  dsimp only [zset]
  exact says_loop hM hA hb hp1 hp2 hrc hk _ 0 f (Nat.lt_succ_self _) (Nat.zero_le _) (by rw [sheard_0]; exact hA) (fun _ _ _ => rfl)
theorem hostNow_ok {f : Nat → Int32} (hM : MI m) (hA : RA f s) (hn : s.2.2.1 < 6) (hk : ∀ g, RA g (shostNow s) → Q (.int (nI s.2.2.1)) (zrow m 668 g)) : zC (d + 1) M9_hostNow 0 0 [.ref 667] (zrow m 668 f) Q := by
  refine zenterP (Or.inl (by decide +kernel)) rfl (fun h => by cases h) (Nat.le_of_ble_eq_true rfl) ?_
  show zwp _ _ _ _ _ 0 [_, zU] [] 0 0 _
  refine zr_aload_n dX9_hostNow_0 rfl ?_
  refine zr_getR dX9_hostNow_1 fd_9_7 rfl (MI.ob hM ⟨rfl, rfl⟩) (MI.r0 hM ⟨rfl, rfl⟩) (by decide) ?_
  refine zr_iconst (v := nI 0) dX9_hostNow_4 rfl ?_
  refine zr_ialoadA dX9_hostNow_5 (MI.a668 hM ⟨rfl, rfl⟩) (by omega) ?_
  rw [hA.1]
  refine zr_istore_n dX9_hostNow_6 (by decide) rfl ?_
  dsimp only [zset]
  refine zr_aload_n dX9_hostNow_7 rfl ?_
  refine zr_getR dX9_hostNow_8 fd_9_7 rfl (MI.ob hM ⟨rfl, rfl⟩) (MI.r0 hM ⟨rfl, rfl⟩) (by decide) ?_
  refine zr_bipush (v := nI 10) dX9_hostNow_11 rfl ?_
  refine zr_iconst (v := nI 4) dX9_hostNow_13 rfl ?_
  refine zr_iload_n dX9_hostNow_14 rfl ?_
  refine zr_imulN dX9_hostNow_15 ?_
  refine zr_iaddN dX9_hostNow_16 ?_
  refine zr_iconst (v := nI 1) dX9_hostNow_17 rfl ?_
  refine zr_iastoreA dX9_hostNow_18 (MI.a668 hM ⟨rfl, rfl⟩) (by omega) ?_
  refine zr_aload_n dX9_hostNow_19 rfl ?_
  refine zr_getR dX9_hostNow_20 fd_9_7 rfl (MI.ob hM ⟨rfl, rfl⟩) (MI.r0 hM ⟨rfl, rfl⟩) (by decide) ?_
  refine zr_bipush (v := nI 10) dX9_hostNow_23 rfl ?_
  refine zr_iconst (v := nI 4) dX9_hostNow_25 rfl ?_
  refine zr_iload_n dX9_hostNow_26 rfl ?_
  refine zr_imulN dX9_hostNow_27 ?_
  refine zr_iaddN dX9_hostNow_28 ?_
  refine zr_iconst (v := nI 1) dX9_hostNow_29 rfl ?_
  refine zr_iaddN dX9_hostNow_30 ?_
  refine zr_iconst (v := -1) dX9_hostNow_31 rfl ?_
  refine zr_iastoreA dX9_hostNow_32 (MI.a668 hM ⟨rfl, rfl⟩) (by omega) ?_
  refine zr_aload_n dX9_hostNow_33 rfl ?_
  refine zr_getR dX9_hostNow_34 fd_9_7 rfl (MI.ob hM ⟨rfl, rfl⟩) (MI.r0 hM ⟨rfl, rfl⟩) (by decide) ?_
  refine zr_bipush (v := nI 10) dX9_hostNow_37 rfl ?_
  refine zr_iconst (v := nI 4) dX9_hostNow_39 rfl ?_
  refine zr_iload_n dX9_hostNow_40 rfl ?_
  refine zr_imulN dX9_hostNow_41 ?_
  refine zr_iaddN dX9_hostNow_42 ?_
  refine zr_iconst (v := nI 2) dX9_hostNow_43 rfl ?_
  refine zr_iaddN dX9_hostNow_44 ?_
  refine zr_iconst (v := nI 0) dX9_hostNow_45 rfl ?_
  refine zr_iastoreA dX9_hostNow_46 (MI.a668 hM ⟨rfl, rfl⟩) (by omega) ?_
  refine zr_aload_n dX9_hostNow_47 rfl ?_
  refine zr_getR dX9_hostNow_48 fd_9_7 rfl (MI.ob hM ⟨rfl, rfl⟩) (MI.r0 hM ⟨rfl, rfl⟩) (by decide) ?_
  refine zr_bipush (v := nI 10) dX9_hostNow_51 rfl ?_
  refine zr_iconst (v := nI 4) dX9_hostNow_53 rfl ?_
  refine zr_iload_n dX9_hostNow_54 rfl ?_
  refine zr_imulN dX9_hostNow_55 ?_
  refine zr_iaddN dX9_hostNow_56 ?_
  refine zr_iconst (v := nI 3) dX9_hostNow_57 rfl ?_
  refine zr_iaddN dX9_hostNow_58 ?_
  refine zr_iconst (v := nI 0) dX9_hostNow_59 rfl ?_
  refine zr_iastoreA dX9_hostNow_60 (MI.a668 hM ⟨rfl, rfl⟩) (by omega) ?_
  refine zr_aload_n dX9_hostNow_61 rfl ?_
  refine zr_getR dX9_hostNow_62 fd_9_7 rfl (MI.ob hM ⟨rfl, rfl⟩) (MI.r0 hM ⟨rfl, rfl⟩) (by decide) ?_
  refine zr_iconst (v := nI 0) dX9_hostNow_65 rfl ?_
  refine zr_dup2 dX9_hostNow_66 rfl rfl ?_
  refine zr_ialoadA dX9_hostNow_67 (MI.a668 hM ⟨rfl, rfl⟩) (by omega) ?_
  simp only [fu_n _ _ (show (0 : Nat) ≠ 10 + 4 * s.2.2.1 by omega), fu_n _ _ (show (0 : Nat) ≠ 10 + 4 * s.2.2.1 + 1 by omega), fu_n _ _ (show (0 : Nat) ≠ 10 + 4 * s.2.2.1 + 2 by omega), fu_n _ _ (show (0 : Nat) ≠ 10 + 4 * s.2.2.1 + 3 by omega)]
  rw [hA.1]
  refine zr_iconst (v := nI 1) dX9_hostNow_68 rfl ?_
  refine zr_iaddN dX9_hostNow_69 ?_
  refine zr_iastoreA dX9_hostNow_70 (MI.a668 hM ⟨rfl, rfl⟩) (by omega) ?_
  refine zr_iload_n dX9_hostNow_71 rfl ?_
  refine zr_ireturn dX9_hostNow_72 rfl (Nat.le_refl _) (Nat.le_refl _) ?_
  refine hk _ ⟨by rw [fu_s]; rfl, by show s.2.2.1 + 1 ≤ 6; omega, fun k h1 h2 => ?_, fun h hh => ?_⟩
  · rw [fu_n _ _ (by omega), fu_n _ _ (by omega), fu_n _ _ (by omega), fu_n _ _ (by omega), fu_n _ _ (by omega)]
    exact hA.2.2.1 k h1 h2
  · have hh' : h < s.2.2.1 + 1 := hh
    show RAh _ h (fu s.2.2.2 s.2.2.1 (1, -1, [], []) h)
    by_cases e : h = s.2.2.1
    · subst e
      rw [fu_s]
      refine ⟨?_, ?_, ?_, ?_, by simp, by simp, fun r hr => by simp at hr, fun r hr => by simp at hr⟩
      · rw [fu_n _ _ (by omega), fu_n _ _ (by omega), fu_n _ _ (by omega), fu_n _ _ (by omega), fu_s]; rfl
      · rw [fu_n _ _ (by omega), fu_n _ _ (by omega), fu_n _ _ (by omega), fu_s]
      · rw [fu_n _ _ (by omega), fu_n _ _ (by omega), fu_s]; rfl
      · rw [fu_n _ _ (by omega), fu_s]; rfl
    · rw [fu_n _ _ e]
      refine (hA.2.2.2 h (by omega)).off (fun j hj => ?_)
      unfold hreg at hj
      rw [fu_n _ _ (by omega), fu_n _ _ (by omega), fu_n _ _ (by omega), fu_n _ _ (by omega), fu_n _ _ (by omega)]
/-- a host's record row is set -/
theorem RA.setr {f : Nat → Int32} (hA : RA f s) {h r : Nat} (hh : h < s.2.2.1) (hr : r < (s.2.2.2 h).2.2.1.length) {k : Nat} (hk : k < 7) (v : Int32) : RA (fu f (34 + 7 * (5 * h + r) + k) v) (ssetr s h r (fu (zg (s.2.2.2 h).2.2.1 r) k v)) := by
  have h6 := hA.h6 hh
  obtain ⟨a1, a2, a3, a4, a5, a6, a7, a8⟩ := hA.2.2.2 h hh
  refine hA.host hh (fun j hj => fu_n _ _ (by unfold hreg at hj; omega)) ⟨by rw [fu_n _ _ (by omega)]; exact a1, by rw [fu_n _ _ (by omega)]; exact a2, by rw [fu_n _ _ (by omega), List.length_set]; exact a3, by rw [fu_n _ _ (by omega)]; exact a4, by rw [List.length_set]; exact a5, a6, fun r' hr' k' hk' => ?_, fun i hi k' hk' => ?_⟩
  · rw [List.length_set] at hr'
    rw [zat_set hr]
    by_cases e : r' = r
    · subst e
      rw [if_pos rfl]
      by_cases e2 : k' = k
      · subst e2; rw [fu_s, fu_s]
      · rw [fu_n _ _ (by omega), fu_n _ _ e2]
        exact a7 r' hr k' hk'
    · rw [if_neg e, fu_n _ _ (by omega)]
      exact a7 r' hr' k' hk'
  · rw [fu_n _ _ (by omega)]
    exact a8 i hi k' hk'
theorem sleepNow_ok {f : Nat → Int32} {h : Nat} {q : Int32} (hM : MI m) (hA : RA f s) (hh : h < s.2.2.1) (hk : ∀ g, RA g (ssleep s h q) → Q (.int (nI (sownN (s.2.2.2 h).2.2.1))) (zrow m 668 g)) : zC (d + 3) M9_sleepNow 0 0 [.ref 667, .int (nI h), .int q] (zrow m 668 f) Q := by
  have h6 := hA.h6 hh
  have hA2 : RA (fu (fu f (10 + 4 * h) (nI 0)) (10 + 4 * h + 1) q) (ssleep s h q) := by
    obtain ⟨a1, a2, a3, a4, a5, a6, a7, a8⟩ := hA.2.2.2 h hh
    refine hA.host hh (fun j hj => ?_) ⟨by rw [fu_n _ _ (by omega), fu_s]; rfl, by rw [fu_s], by rw [fu_n _ _ (by omega), fu_n _ _ (by omega)]; exact a3, by rw [fu_n _ _ (by omega), fu_n _ _ (by omega)]; exact a4, a5, a6, fun r hr k hk => ?_, fun i hi k hk => ?_⟩
    · unfold hreg at hj
      rw [fu_n _ _ (by omega), fu_n _ _ (by omega)]
    · rw [fu_n _ _ (by omega), fu_n _ _ (by omega)]; exact a7 r hr k hk
    · rw [fu_n _ _ (by omega), fu_n _ _ (by omega)]; exact a8 i hi k hk
  have e : ((ssleep s h q).2.2.2 h).2.2.1 = (s.2.2.2 h).2.2.1 := by
    show (fu s.2.2.2 h (0, q, (s.2.2.2 h).2.2.1, (s.2.2.2 h).2.2.2) h).2.2.1 = _
    rw [fu_s]
  refine zenterP (Or.inl (by decide +kernel)) rfl (fun h => by cases h) (Nat.le_of_ble_eq_true rfl) ?_
  show zwp _ _ _ _ _ 0 [_, _, _] [] 0 0 _
  refine zr_aload_n dX9_sleepNow_0 rfl ?_
  refine zr_getR dX9_sleepNow_1 fd_9_7 rfl (MI.ob hM ⟨rfl, rfl⟩) (MI.r0 hM ⟨rfl, rfl⟩) (by decide) ?_
  refine zr_bipush (v := nI 10) dX9_sleepNow_4 rfl ?_
  refine zr_iconst (v := nI 4) dX9_sleepNow_6 rfl ?_
  refine zr_iload_n dX9_sleepNow_7 rfl ?_
  refine zr_imulN dX9_sleepNow_8 ?_
  refine zr_iaddN dX9_sleepNow_9 ?_
  refine zr_iconst (v := nI 0) dX9_sleepNow_10 rfl ?_
  refine zr_iastoreA dX9_sleepNow_11 (MI.a668 hM ⟨rfl, rfl⟩) (by omega) ?_
  refine zr_aload_n dX9_sleepNow_12 rfl ?_
  refine zr_getR dX9_sleepNow_13 fd_9_7 rfl (MI.ob hM ⟨rfl, rfl⟩) (MI.r0 hM ⟨rfl, rfl⟩) (by decide) ?_
  refine zr_bipush (v := nI 10) dX9_sleepNow_16 rfl ?_
  refine zr_iconst (v := nI 4) dX9_sleepNow_18 rfl ?_
  refine zr_iload_n dX9_sleepNow_19 rfl ?_
  refine zr_imulN dX9_sleepNow_20 ?_
  refine zr_iaddN dX9_sleepNow_21 ?_
  refine zr_iconst (v := nI 1) dX9_sleepNow_22 rfl ?_
  refine zr_iaddN dX9_sleepNow_23 ?_
  refine zr_iload_n dX9_sleepNow_24 rfl ?_
  refine zr_iastoreA dX9_sleepNow_25 (MI.a668 hM ⟨rfl, rfl⟩) (by omega) ?_
  refine zr_aload_n dX9_sleepNow_26 rfl ?_
  refine zr_iload_n dX9_sleepNow_27 rfl ?_
  refine zr_cV1 rfl dX9_sleepNow_28 cv_9_151 (MI.ob hM ⟨rfl, rfl⟩) (Nat.le_of_ble_eq_true rfl) (owned_ok hM hA2 (show h < (ssleep s h q).2.2.1 from hh) ?_)
  refine zr_ireturn dX9_sleepNow_31 rfl (Nat.le_refl _) (Nat.le_refl _) ?_
  rw [e]; exact hk _ hA2
end
