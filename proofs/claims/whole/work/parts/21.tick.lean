/-! ===== the reference: ticks ===== -/
section
variable {s : sS} {o : Nat}
theorem sages_0 : sages s 0 = scnt s 1 (s.1 1 + 1) := sS_ext rfl rfl rfl (fun h => by simp [sages, scnt])
theorem sages_at : (sages s o).2.2.2 o = s.2.2.2 o := by simp [sages]
theorem sages_s : shst (sages s o) o (saged (s.1 1 + 1) (s.2.2.2 o)) = sages s (o + 1) := by
  refine sS_ext rfl rfl rfl (fun j => ?_)
  show fu (sages s o).2.2.2 o _ j = (if j < o + 1 then _ else _)
  by_cases e : j = o
  · subst e
    rw [fu_s, if_pos (by omega)]
  · rw [fu_n _ _ e]
    show (if j < o then _ else _) = _
    by_cases e2 : j < o
    · rw [if_pos e2, if_pos (by omega)]
    · rw [if_neg e2, if_neg (by omega)]
end
section
variable {d : Nat} {Q : Value → zM → Prop} {m : zM} {s : sS}
theorem ages_loop (hM : MI m) (h6 : s.2.2.1 ≤ 6) (hl : ∀ o, o < s.2.2.1 → (s.2.2.2 o).2.2.2.length ≤ 6) (hk : ∀ g, RA g (sages s s.2.2.1) → Q .null (zrow m 668 g)) : ∀ c o f t2, s.2.2.1 - o < c → o ≤ s.2.2.1 → RA f (sages s o) →
    zwp (d + 3) M9_ages 0 0 Q 12 [.ref 667, .int (nI o), t2] [] 0 0 (zrow m 668 f) := by
  intro c
  induction c with
  | zero => intro o f t2 h1; omega
  | succ c ih =>
    intro o f t2 h1 h2 hA
    have inner : o < s.2.2.1 → ∀ i g, i ≤ (s.2.2.2 o).2.2.2.length → (∀ j, ¬ creg o j → g j = f j) → RAh g o (sca (s.2.2.2 o) (bk (fun e => decide (s.1 1 + 1 < e 4)) (s.2.2.2 o).2.2.2 i)) →
        zwp (d + 3) M9_ages 0 0 Q 30 [.ref 667, .int (nI o), .int (nI i - nI 1)] [] 0 0 (zrow m 668 g) := by
      intro ho i
      have o6 : o < 6 := by omega
      have hl := hl o ho
      induction i with
      | zero =>
        intro g hi hg hx
        rw [bk_0] at hx
        refine zr_iload_n dX9_ages_30 rfl ?_
        refine zr_if_lt (tgt := 67) dX9_ages_31 (by decide) (fun hc_31 => ?_) (fun hc_31 => absurd nI_0m hc_31)
        refine zr_iincN dX9_ages_67 rfl (by decide) rfl ?_
        dsimp only [zset]
        refine zr_goto (tgt := 12) dX9_ages_70 (by decide) ?_
        refine ih (o + 1) g _ (by omega) (by omega) ?_
        rw [← sages_s]
        exact hA.host ho (fun j hj => hg j (fun z => hj (creg_hreg z))) hx
      | succ i ih2 =>
        intro g hi hg hx
        rw [nI_pr]
        have g1 : g 1 = s.1 1 + 1 := (hg 1 (by unfold creg; omega)).trans ((hA.2.2.1 1 (by decide) (by decide)).trans (by simp [sages, fu]))
        have hlen : i < (bk (fun e => decide (s.1 1 + 1 < e 4)) (s.2.2.2 o).2.2.2 (i + 1)).length := Nat.lt_of_lt_of_le (Nat.lt_succ_self i) (bk_llt hi)
        have he : ∀ k, k < 5 → g (244 + 5 * (6 * o + i) + k) = zg (s.2.2.2 o).2.2.2 i k := fun k hk => (hx.2.2.2.2.2.2.2 i hlen k hk).trans (congrFun (bk_at hi) k)
        refine zr_iload_n dX9_ages_30 rfl ?_
        refine zr_if_lt (tgt := 67) dX9_ages_31 (by decide) (fun hc_31 => absurd hc_31 (nI_pos (by omega))) (fun hc_31 => ?_)
        refine zr_aload_n dX9_ages_34 rfl ?_
        refine zr_getR dX9_ages_35 fd_9_7 rfl (MI.ob hM ⟨rfl, rfl⟩) (MI.r0 hM ⟨rfl, rfl⟩) (by decide) ?_
        refine zr_iload_n dX9_ages_38 rfl ?_
        refine zr_iload_n dX9_ages_39 rfl ?_
        refine zr_cS2 rfl dX9_ages_40 cv_9_67 (Nat.le_of_ble_eq_true rfl) (kept_ok ?_)
        refine zr_iconst (v := nI 4) dX9_ages_43 rfl ?_
        refine zr_iaddN dX9_ages_44 ?_
        refine zr_ialoadA dX9_ages_45 (MI.a668 hM ⟨rfl, rfl⟩) (by omega) ?_
        rw [he 4 (by decide)]
        refine zr_aload_n dX9_ages_46 rfl ?_
        refine zr_getR dX9_ages_47 fd_9_7 rfl (MI.ob hM ⟨rfl, rfl⟩) (MI.r0 hM ⟨rfl, rfl⟩) (by decide) ?_
        refine zr_iconst (v := nI 1) dX9_ages_50 rfl ?_
        refine zr_ialoadA dX9_ages_51 (MI.a668 hM ⟨rfl, rfl⟩) (by omega) ?_
        rw [g1]
        refine zr_icmp_gt (tgt := 61) dX9_ages_52 (by decide) (fun hc_52 => ?_) (fun hc_52 => ?_)
        · refine zr_iinc (v := nI i - nI 1) dX9_ages_61 rfl (nI_m1 i) (by decide) rfl ?_
          dsimp only [zset]
          refine zr_goto (tgt := 30) dX9_ages_64 (by decide) ?_
          first
          | (refine ih2 g (by omega) hg ?_
             rw [bk_keep hi (by simp [hc_52])] at hx
             exact hx)
          | (refine ih2 g' (by omega) (fun j hj => (hg1 j hj).trans (hg j hj)) ?_
             have e : (sca (sca (s.2.2.2 o) (bk (fun e => decide (s.1 1 + 1 < e 4)) (s.2.2.2 o).2.2.2 (i + 1))) ((bk (fun e => decide (s.1 1 + 1 < e 4)) (s.2.2.2 o).2.2.2 (i + 1)).eraseIdx i)) = sca (s.2.2.2 o) (bk (fun e => decide (s.1 1 + 1 < e 4)) (s.2.2.2 o).2.2.2 i) := by
               rw [sca_sca, bk_drop hi (by simp [hc_52])]
             rw [← e]
             exact hg2)
        · refine zr_aload_n dX9_ages_55 rfl ?_
          refine zr_iload_n dX9_ages_56 rfl ?_
          refine zr_iload_n dX9_ages_57 rfl ?_
          refine zr_cV2v rfl dX9_ages_58 cv_9_82 (MI.ob hM ⟨rfl, rfl⟩) (Nat.le_of_ble_eq_true rfl) (dropsEntry_ok hM o6 hx hlen (fun g' hg1 hg2 => ?_))
          refine zr_iinc (v := nI i - nI 1) dX9_ages_61 rfl (nI_m1 i) (by decide) rfl ?_
          dsimp only [zset]
          refine zr_goto (tgt := 30) dX9_ages_64 (by decide) ?_
          first
          | (refine ih2 g (by omega) hg ?_
             rw [bk_keep hi (by simp [hc_52])] at hx
             exact hx)
          | (refine ih2 g' (by omega) (fun j hj => (hg1 j hj).trans (hg j hj)) ?_
             have e : (sca (sca (s.2.2.2 o) (bk (fun e => decide (s.1 1 + 1 < e 4)) (s.2.2.2 o).2.2.2 (i + 1))) ((bk (fun e => decide (s.1 1 + 1 < e 4)) (s.2.2.2 o).2.2.2 (i + 1)).eraseIdx i)) = sca (s.2.2.2 o) (bk (fun e => decide (s.1 1 + 1 < e 4)) (s.2.2.2 o).2.2.2 i) := by
               rw [sca_sca, bk_drop hi (by simp [hc_52])]
             rw [← e]
             exact hg2)
    refine zr_iload_n dX9_ages_12 rfl ?_
    refine zr_aload_n dX9_ages_13 rfl ?_
    refine zr_getR dX9_ages_14 fd_9_7 rfl (MI.ob hM ⟨rfl, rfl⟩) (MI.r0 hM ⟨rfl, rfl⟩) (by decide) ?_
    refine zr_iconst (v := nI 0) dX9_ages_17 rfl ?_
    refine zr_ialoadA dX9_ages_18 (MI.a668 hM ⟨rfl, rfl⟩) (by omega) ?_
    rw [hA.1, show (sages s o).2.2.1 = s.2.2.1 from rfl]
    refine zr_icmp_geN (tgt := 73) dX9_ages_19 (by decide) (by omega) (by omega) (fun hc_19 => ?_) (fun hc_19 => ?_)
    · refine zr_return dX9_ages_73 rfl (Nat.le_refl _) (Nat.le_refl _) ?_
      have e : o = s.2.2.1 := by omega
      rw [e] at hA
      exact hk _ hA
    · refine zr_aload_n dX9_ages_22 rfl ?_
      refine zr_iload_n dX9_ages_23 rfl ?_
      refine zr_cV1 rfl dX9_ages_24 cv_9_70 (MI.ob hM ⟨rfl, rfl⟩) (Nat.le_of_ble_eq_true rfl) (entries_ok (x := nI (s.2.2.2 o).2.2.2.length) hM (by omega) ((hA.siz hc_19).trans (by rw [sages_at])) ?_)
      refine zr_iconst (v := nI 1) dX9_ages_27 rfl ?_
      refine zr_isub dX9_ages_28 ?_
      refine zr_istore_n dX9_ages_29 (by decide) rfl ?_
      dsimp only [zset]
      refine inner hc_19 _ f (Nat.le_refl _) (fun _ _ => rfl) ?_
      rw [bk_len]
      have := hA.2.2.2 o hc_19
      rw [sages_at] at this
      exact this
theorem ages_ok {f : Nat → Int32} (hM : MI m) (hA : RA f s) (hk : ∀ g, RA g (sages s s.2.2.1) → Q .null (zrow m 668 g)) : zC (d + 3) M9_ages 0 0 [.ref 667] (zrow m 668 f) Q := by
  refine zenterP (Or.inl (by decide +kernel)) rfl (fun h => by cases h) (Nat.le_of_ble_eq_true rfl) ?_
  show zwp _ _ _ _ _ 0 [_, zU, zU] [] 0 0 _
  refine zr_aload_n dX9_ages_0 rfl ?_
  refine zr_getR dX9_ages_1 fd_9_7 rfl (MI.ob hM ⟨rfl, rfl⟩) (MI.r0 hM ⟨rfl, rfl⟩) (by decide) ?_
  refine zr_iconst (v := nI 1) dX9_ages_4 rfl ?_
  refine zr_dup2 dX9_ages_5 rfl rfl ?_
  refine zr_ialoadA dX9_ages_6 (MI.a668 hM ⟨rfl, rfl⟩) (by omega) ?_
  rw [hA.2.2.1 1 (by decide) (by decide)]
  refine zr_iconst (v := nI 1) dX9_ages_7 rfl ?_
  refine zr_iadd dX9_ages_8 ?_
  refine zr_iastoreA dX9_ages_9 (MI.a668 hM ⟨rfl, rfl⟩) (by omega) ?_
  refine zr_iconst (v := nI 0) dX9_ages_10 rfl ?_
  refine zr_istore_n dX9_ages_11 (by decide) rfl ?_
  dsimp only [zset]
  refine ages_loop hM hA.2.1 (fun o ho => hA.s6 ho) hk _ 0 _ _ (Nat.lt_succ_self _) (Nat.zero_le _) ?_
  rw [sages_0]
  exact hA.sc (k := 1) (by decide) (by decide) _
end
