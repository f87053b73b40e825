/-! ===== the class: who defends ===== -/
section
variable {d : Nat} {Q : Value → zM → Prop} {m m' : zM} {L h : Nat} {s : sS} {n k q : Int32} {a : sR}
theorem shas_so : shas s n k h = (sstd s h && (s.2.2.2 h).2.2.1.any (ssole n k)) := by
  have e := opp_eq (s := s) h (s.2.2.2 h).2.2.1 (fun a => snam a n k)
  show (s.2.2.2 h).2.2.1.any (fun a => sdef s h a && snam a n k) = _
  rw [e]
  congr 2
  funext a
  unfold ssole
  rw [Bool.and_assoc]
theorem sdn_sole (e : sstd s h = true) : sdn s h n k a = ssole n k a := by
  unfold sdn sdef ssole
  rw [e]
  cases sown a <;> cases (a 6 == 1) <;> cases snam a n k <;> rfl
theorem sfirst_of : ∀ c, c ≤ 6 → (sfirst s n k c = -1 ∧ sdata s n k c = -1) ∨ ∃ f, f < c ∧ sfirst s n k c = nI f ∧ shas s n k f = true ∧ sdata s n k c = sfdata s f n k (s.2.2.2 f).2.2.1.length
  | 0, _ => Or.inl ⟨rfl, rfl⟩
  | c + 1, hc => by
    rcases sfirst_of c (by omega) with ⟨e1, e2⟩ | ⟨f, f1, e1, e2, e3⟩
    · cases hz : shas s n k c
      · refine Or.inl ⟨?_, ?_⟩
        · rw [sfirst, if_neg (by rw [hz]; simp)]; exact e1
        · rw [sdata, if_pos e1, hz]; rfl
      · refine Or.inr ⟨c, Nat.lt_succ_self c, ?_, hz, ?_⟩
        · rw [sfirst, if_pos ⟨e1, hz⟩]
        · rw [sdata, if_pos e1, hz]; rfl
    · have hne : ¬ sfirst s n k c = -1 := by rw [e1]; exact nI_ne_m1 (by omega)
      refine Or.inr ⟨f, by omega, ?_, e2, ?_⟩
      · rw [sfirst, if_neg (fun z => hne z.1)]; exact e1
      · rw [sdata, if_neg hne]; exact e3
theorem sfdata_at {j : Nat} (h1 : ∀ i, i < j → sdn s h n k (zg (s.2.2.2 h).2.2.1 i) = false) (h2 : sdn s h n k (zg (s.2.2.2 h).2.2.1 j) = true) : ∀ r, j < r → sfdata s h n k r = zg (s.2.2.2 h).2.2.1 j 2
  | 0, hr => by omega
  | r + 1, hr => by
    rw [sfdata]
    by_cases e : j = r
    · subst e
      rw [if_neg (by rw [anyN_false.mpr h1]; decide), if_pos h2]
    · rw [if_pos (anyN_iff.mpr ⟨j, by omega, h2⟩)]
      exact sfdata_at h1 h2 r (by omega)
theorem defender_ok (hL : LK m L s) (hs : sOK s) (hk : Q (.int (qa (sisN n k && sin q 0 2) (sowner s n k (hN q)))) m) : zC (d + 5) M5_defender 0 0 [.ref L, .int n, .int k, .int q] m Q := by
  have n6 := hL.n6
  have fin : ∀ w t6, w ≤ 2 → Q (.int (sowner s n k w)) m → zwp (d + 5) M5_defender 0 0 Q 88 [.ref L, .int n, .int k, .int (nI w), .int (sfirst s n k s.2.2.1), .int (nI (cntN (shas s n k) s.2.2.1)), t6] [] 0 0 m := by
    intro w t6 hw hk
    rcases (show w = 0 ∨ w = 1 ∨ w = 2 by omega) with rfl | rfl | rfl
    · refine zr_iload_n dX5_defender_88 rfl ?_
      refine zr_iconst (v := nI 2) dX5_defender_89 rfl ?_
      refine zr_icmp_neN (tgt := 96) dX5_defender_90 (by decide) (by omega) (by omega) (fun hc_90 => ?_) (fun hc_90 => absurd hc_90 (by decide))
      refine zr_aload_n dX5_defender_96 rfl ?_
      refine zr_iload dX5_defender_97 rfl ?_
      refine zr_cV1 rfl dX5_defender_99 cv_5_55 (hL.1.ob rfl) (Nat.le_of_ble_eq_true rfl) (LisHost_ok hL ?_)
      refine zr_if_eqB (tgt := 109) dX5_defender_102 (by decide) (fun hc_102 => ?_) (fun hc_102 => ?_)
      · refine zr_iload dX5_defender_109 rfl ?_
        refine zr_ireturn dX5_defender_111 rfl (Nat.le_refl _) (Nat.le_refl _) ?_
        exact hk
      · refine zr_iload_n dX5_defender_105 rfl ?_
        refine zr_if_ne (tgt := 112) dX5_defender_106 (by decide) (fun hc_106 => absurd rfl hc_106) (fun hc_106 => ?_)
        refine zr_iload dX5_defender_109 rfl ?_
        refine zr_ireturn dX5_defender_111 rfl (Nat.le_refl _) (Nat.le_refl _) ?_
        exact hk
    · rcases sfirst_of (s := s) (n := n) (k := k) s.2.2.1 n6 with ⟨e1, e2⟩ | ⟨f, f1, e1, e2, e3⟩
      · have hm : sisH s (-1) = false := rfl
        have hk : Q (.int (sdata s n k s.2.2.1)) m := hk
        rw [e2] at hk
        rw [e1]
        refine zr_iload_n dX5_defender_88 rfl ?_
        refine zr_iconst (v := nI 2) dX5_defender_89 rfl ?_
        refine zr_icmp_neN (tgt := 96) dX5_defender_90 (by decide) (by omega) (by omega) (fun hc_90 => ?_) (fun hc_90 => absurd hc_90 (by decide))
        refine zr_aload_n dX5_defender_96 rfl ?_
        refine zr_iload dX5_defender_97 rfl ?_
        refine zr_cV1 rfl dX5_defender_99 cv_5_55 (hL.1.ob rfl) (Nat.le_of_ble_eq_true rfl) (LisHost_ok hL ?_)
        refine zr_if_eqB (tgt := 109) dX5_defender_102 (by decide) (fun hc_102 => ?_) (fun hc_102 => absurd (hc_102.symm.trans hm) (by decide))
        refine zr_iload dX5_defender_109 rfl ?_
        refine zr_ireturn dX5_defender_111 rfl (Nat.le_refl _) (Nat.le_refl _) ?_
        exact hk
      · have hk : Q (.int (sdata s n k s.2.2.1)) m := hk
        have hH := hL.hc f1
        have h5 := hH.c5
        rw [shas_so, Bool.and_eq_true] at e2
        cases hi : sidx (s.2.2.2 f).2.2.1 (ssole n k) (s.2.2.2 f).2.2.1.length with
        | none => exact absurd (e2.2.symm.trans (any_f (sidx_none hi))) (by decide)
        | some r =>
          obtain ⟨r1, r2, r3⟩ := sidx_some hi
          rw [e3, sfdata_at (j := r) (fun i hi => by rw [sdn_sole e2.1]; exact r3 i hi) (by rw [sdn_sole e2.1]; exact r2) _ r1] at hk
          rw [e1]
          refine zr_iload_n dX5_defender_88 rfl ?_
          refine zr_iconst (v := nI 2) dX5_defender_89 rfl ?_
          refine zr_icmp_neN (tgt := 96) dX5_defender_90 (by decide) (by omega) (by omega) (fun hc_90 => ?_) (fun hc_90 => absurd hc_90 (by decide))
          refine zr_aload_n dX5_defender_96 rfl ?_
          refine zr_iload dX5_defender_97 rfl ?_
          refine zr_cV1 rfl dX5_defender_99 cv_5_55 (hL.1.ob rfl) (Nat.le_of_ble_eq_true rfl) (LisHost_ok hL ?_)
          refine zr_if_eqB (tgt := 109) dX5_defender_102 (by decide) (fun hc_102 => absurd (hc_102.symm.trans (sisH_nI n6 f1)) (by decide)) (fun hc_102 => ?_)
          refine zr_iload_n dX5_defender_105 rfl ?_
          refine zr_if_ne (tgt := 112) dX5_defender_106 (by decide) (fun hc_106 => ?_) (fun hc_106 => absurd hc_106 (by decide))
          refine zr_aload_n dX5_defender_112 rfl ?_
          refine zr_iload dX5_defender_113 rfl ?_
          refine zr_aload_n dX5_defender_115 rfl ?_
          refine zr_getR dX5_defender_116 fd_5_11 rfl (hL.1.ob rfl) hL.r0 (by omega) ?_
          refine zr_iload dX5_defender_119 rfl ?_
          refine zr_aaloadN dX5_defender_121 (hL.1.ar rfl) (by decide) (by decide) (by omega) (by decide) (hL.rh (by omega)) (by unfold hb; omega) ?_
          refine zr_iload_n dX5_defender_122 rfl ?_
          refine zr_iload_n dX5_defender_123 rfl ?_
          refine zr_cV2 rfl dX5_defender_124 cv_5_243 (hH.ob rfl) (Nat.le_of_ble_eq_true rfl) (firstSole_ok hH (hs.so f1) ?_)
          rw [hi]
          refine zr_iconst (v := nI 2) dX5_defender_127 rfl ?_
          refine zr_cV3 rfl dX5_defender_128 cv_5_246 (hL.1.ob rfl) (Nat.le_of_ble_eq_true rfl) (recordProperty_ok (a := nI f) (r := nI r) hL hs ?_)
          rw [show sisR s (nI f) (nI r) = true by
            unfold sisR
            rw [sisH_nI n6 f1, nI_clamp (show f < 2 ^ 31 by omega), decide_eq_true (nI_pos' (by omega)), decide_eq_true ((nI_ltI (by omega) (by omega)).mpr r1)]
            rfl, hN_nI (show f < 2 ^ 31 by omega), hN_nI (show r < 2 ^ 31 by omega)]
          refine zr_ireturn dX5_defender_131 rfl (Nat.le_refl _) (Nat.le_refl _) ?_
          exact hk
    · refine zr_iload_n dX5_defender_88 rfl ?_
      refine zr_iconst (v := nI 2) dX5_defender_89 rfl ?_
      refine zr_icmp_neN (tgt := 96) dX5_defender_90 (by decide) (by omega) (by omega) (fun hc_90 => absurd rfl hc_90) (fun hc_90 => ?_)
      refine zr_iload dX5_defender_93 rfl ?_
      refine zr_ireturn dX5_defender_95 rfl (Nat.le_refl _) (Nat.le_refl _) ?_
      exact hk
  have loop : ∀ w, w ≤ 2 → Q (.int (sowner s n k w)) m → ∀ c i, s.2.2.1 - i < c → i ≤ s.2.2.1 → zwp (d + 5) M5_defender 0 0 Q 29 [.ref L, .int n, .int k, .int (nI w), .int (sfirst s n k i), .int (nI (cntN (shas s n k) i)), .int (nI i)] [] 0 0 m := by
    intro w hw hk c
    induction c with
    | zero => intro i h1; omega
    | succ c ih =>
      intro i h1 h2
      have off : shas s n k i = false → sfirst s n k (i + 1) = sfirst s n k i ∧ cntN (shas s n k) (i + 1) = cntN (shas s n k) i := by
        intro z
        refine ⟨?_, ?_⟩
        · rw [sfirst, if_neg (by rw [z]; simp)]
        · rw [cntN, z]; rfl
      refine zr_iload dX5_defender_29 rfl ?_
      refine zr_aload_n dX5_defender_31 rfl ?_
      refine zr_getI dX5_defender_32 fd_5_25 rfl (hL.1.ob rfl) ?_
      rw [hL.nh]
      refine zr_icmp_geN (tgt := 88) dX5_defender_35 (by decide) (by omega) (by omega) (fun hc_35 => ?_) (fun hc_35 => ?_)
      · have e : i = s.2.2.1 := by omega
        subst e
        exact fin w _ hw hk
      · refine zr_aload_n dX5_defender_38 rfl ?_
        refine zr_iload dX5_defender_39 rfl ?_
        refine zr_cV1 rfl dX5_defender_41 cv_5_139 (hL.1.ob rfl) (Nat.le_of_ble_eq_true rfl) (speaker_ok hL hs hc_35 ?_)
        refine zr_iconst (v := -1) dX5_defender_44 rfl ?_
        refine zr_icmp_eq (tgt := 82) dX5_defender_45 (by decide) (fun hc_45 => ?_) (fun hc_45 => ?_)
        · obtain ⟨e1, e2⟩ := off (by rw [shas_so, (sspk_std hs hc_35).mp hc_45, Bool.false_and])
          refine zr_iincN dX5_defender_82 rfl (by decide) rfl ?_
          dsimp only [zset]
          refine zr_goto (tgt := 29) dX5_defender_85 (by decide) ?_
          have := ih (i + 1) (by omega) (by omega)
          rw [e1, e2] at this
          exact this
        · refine zr_aload_n dX5_defender_48 rfl ?_
          refine zr_getR dX5_defender_49 fd_5_11 rfl (hL.1.ob rfl) hL.r0 (by omega) ?_
          refine zr_iload dX5_defender_52 rfl ?_
          refine zr_aaloadN dX5_defender_54 (hL.1.ar rfl) (by decide) (by decide) (by omega) (by decide) (hL.rh (by omega)) (by unfold hb; omega) ?_
          refine zr_iload_n dX5_defender_55 rfl ?_
          refine zr_iload_n dX5_defender_56 rfl ?_
          refine zr_cV2 rfl dX5_defender_57 cv_5_243 ((hL.hc hc_35).ob rfl) (Nat.le_of_ble_eq_true rfl) (firstSole_ok (hL.hc hc_35) (hs.so hc_35) ?_)
          refine zr_iconst (v := -1) dX5_defender_60 rfl ?_
          refine zr_icmp_eq (tgt := 82) dX5_defender_61 (by decide) (fun hc_61 => ?_) (fun hc_61 => ?_)
          · obtain ⟨e1, e2⟩ := off (by
              rw [shas_so]
              cases hi : sidx (s.2.2.2 i).2.2.1 (ssole n k) (s.2.2.2 i).2.2.1.length with
              | none => rw [any_f (sidx_none hi), Bool.and_false]
              | some r =>
                rw [hi] at hc_61
                have h5 := (hL.hc hc_35).c5
                have := (sidx_some hi).1
                exact absurd hc_61 (nI_ne_m1 (by omega)))
            refine zr_iincN dX5_defender_82 rfl (by decide) rfl ?_
            dsimp only [zset]
            refine zr_goto (tgt := 29) dX5_defender_85 (by decide) ?_
            have := ih (i + 1) (by omega) (by omega)
            rw [e1, e2] at this
            exact this
          · have hz : shas s n k i = true := by
              rw [shas_so]
              have e1 : sstd s i = true := by
                cases z : sstd s i
                · exact absurd ((sspk_std hs hc_35).mpr z) hc_45
                · rfl
              rw [e1, Bool.true_and]
              cases hi : sidx (s.2.2.2 i).2.2.1 (ssole n k) (s.2.2.2 i).2.2.1.length with
              | none =>
                rw [hi] at hc_61
                exact absurd rfl hc_61
              | some r =>
                obtain ⟨r1, r2, r3⟩ := sidx_some hi
                exact any_t r1 r2
            have e2 : cntN (shas s n k) (i + 1) = cntN (shas s n k) i + 1 := by rw [cntN, hz]; rfl
            refine zr_iload dX5_defender_64 rfl ?_
            refine zr_iconst (v := -1) dX5_defender_66 rfl ?_
            refine zr_icmp_ne (tgt := 75) dX5_defender_67 (by decide) (fun hc_67 => ?_) (fun hc_67 => ?_)
            · have e1 : sfirst s n k (i + 1) = sfirst s n k i := by rw [sfirst, if_neg (fun z => hc_67 z.1)]
              refine zr_iload dX5_defender_75 rfl ?_
              refine zr_istore dX5_defender_77 (by decide) rfl ?_
              dsimp only [zset]
              refine zr_iincN dX5_defender_79 rfl (by decide) rfl ?_
              dsimp only [zset]
              refine zr_iincN dX5_defender_82 rfl (by decide) rfl ?_
              dsimp only [zset]
              refine zr_goto (tgt := 29) dX5_defender_85 (by decide) ?_
              have := ih (i + 1) (by omega) (by omega)
              rw [e1, e2] at this
              exact this
            · have e1 : sfirst s n k (i + 1) = nI i := by rw [sfirst, if_pos ⟨hc_67, hz⟩]
              refine zr_iload dX5_defender_70 rfl ?_
              refine zr_goto (tgt := 77) dX5_defender_72 (by decide) ?_
              refine zr_istore dX5_defender_77 (by decide) rfl ?_
              dsimp only [zset]
              refine zr_iincN dX5_defender_79 rfl (by decide) rfl ?_
              dsimp only [zset]
              refine zr_iincN dX5_defender_82 rfl (by decide) rfl ?_
              dsimp only [zset]
              refine zr_goto (tgt := 29) dX5_defender_85 (by decide) ?_
              have := ih (i + 1) (by omega) (by omega)
              rw [e1, e2] at this
              exact this
  refine zenterP (Or.inl (by decide +kernel)) rfl (fun h => by cases h) (Nat.le_of_ble_eq_true rfl) ?_
  show zwp _ _ _ _ _ 0 [_, _, _, _, zU, zU, zU] [] 0 0 _
  refine zr_iload_n dX5_defender_0 rfl ?_
  refine zr_iload_n dX5_defender_1 rfl ?_
  refine zr_cS2 rfl dX5_defender_2 cv_5_90 (Nat.le_of_ble_eq_true rfl) (LisName_ok ?_)
  refine zr_if_eqB (tgt := 17) dX5_defender_5 (by decide) (fun hc_5 => ?_) (fun hc_5 => ?_)
  · rw [hc_5, Bool.false_and, qa_f] at hk
    refine zr_bipush (v := -2) dX5_defender_17 rfl ?_
    refine zr_ireturn dX5_defender_19 rfl (Nat.le_refl _) (Nat.le_refl _) ?_
    exact hk
  · refine zr_iload_n dX5_defender_8 rfl ?_
    refine zr_iconst (v := nI 0) dX5_defender_9 rfl ?_
    refine zr_iconst (v := nI 2) dX5_defender_10 rfl ?_
    refine zr_cSN3 rfl dX5_defender_11 cv_5_62 (Nat.le_of_ble_eq_true rfl) (within_ok (lo := 0) (hi := 2) ?_)
    refine zr_if_neB (tgt := 20) dX5_defender_14 (by decide) (fun hc_14 => ?_) (fun hc_14 => ?_)
    · rw [hc_5, hc_14, Bool.true_and, qa_t] at hk
      obtain ⟨p, p1, p2, rfl⟩ := sin_of (a := 0) (b := 2) hc_14 rfl rfl (by decide) (by decide)
      rw [hN_nI (show p < 2 ^ 31 by omega)] at hk
      refine zr_iconst (v := -1) dX5_defender_20 rfl ?_
      refine zr_istore dX5_defender_21 (by decide) rfl ?_
      dsimp only [zset]
      refine zr_iconst (v := nI 0) dX5_defender_23 rfl ?_
      refine zr_istore dX5_defender_24 (by decide) rfl ?_
      dsimp only [zset]
      refine zr_iconst (v := nI 0) dX5_defender_26 rfl ?_
      refine zr_istore dX5_defender_27 (by decide) rfl ?_
      dsimp only [zset]
      exact loop p p2 hk _ 0 (Nat.lt_succ_self _) (Nat.zero_le _)
    · rw [hc_14, Bool.and_false, qa_f] at hk
      refine zr_bipush (v := -2) dX5_defender_17 rfl ?_
      refine zr_ireturn dX5_defender_19 rfl (Nat.le_refl _) (Nat.le_refl _) ?_
      exact hk
end
