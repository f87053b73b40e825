/-! ===== the class: who opposes, and announcing ===== -/
section
variable {d : Nat} {Q : Value → zM → Prop} {m m' : zM} {L b h : Nat} {s : sS} {n k q : Int32} {rc : sR}
theorem sOK.so (hs : sOK s) (hh : h < s.2.2.1) : ∀ r, r < (s.2.2.2 h).2.2.1.length → zg (s.2.2.2 h).2.2.1 r 6 = 0 ∨ zg (s.2.2.2 h).2.2.1 r 6 = 1 := fun r hr => (hs.rec hh hr).2.2.1
theorem opp_eq (o : Nat) (l : List sR) (X : sR → Bool) : l.any (fun a => sdef s o a && X a) = (sstd s o && l.any (fun a => (a 6 == 1 && sown a) && X a)) := by
  unfold sdef
  cases sstd s o
  · simp
  · simp only [Bool.and_true, Bool.true_and]
    congr 1
    funext a
    rw [Bool.and_comm (sown a)]
theorem anyN_t {p : Nat → Bool} {n i : Nat} (hi : i < n) (h : p i = true) : anyN p n = true := anyN_iff.mpr ⟨i, hi, h⟩
theorem isTaken_ok (hL : LK m L s) (hs : sOK s) (h6 : h < 6) (hb' : RCl m b rc) (hk : Q (.int (bI (sopp s h rc))) m) : zC (d + 3) M5_isTaken 0 0 [.ref L, .int (nI h), .ref b] m Q := by
  have n6 := hL.n6
  unfold sopp at hk
  have loop : ∀ c i, s.2.2.1 - i < c → i ≤ s.2.2.1 → (∀ o, o < i → (o != h && (s.2.2.2 o).2.2.1.any (fun a => sdef s o a && (sone a rc && !ssame a rc))) = false) → zwp (d + 3) M5_isTaken 0 0 Q 2 [.ref L, .int (nI h), .ref b, .int (nI i)] [] 0 0 m := by
    intro c
    induction c with
    | zero => intro i h1; omega
    | succ c ih =>
      intro i h1 h2 h3
      have stepF : (i != h && (s.2.2.2 i).2.2.1.any (fun a => sdef s i a && (sone a rc && !ssame a rc))) = false → zwp (d + 3) M5_isTaken 0 0 Q 2 [.ref L, .int (nI h), .ref b, .int (nI (i + 1))] [] 0 0 m ∨ ¬ i < s.2.2.1 := by
        intro e
        by_cases hi : i < s.2.2.1
        · refine Or.inl (ih (i + 1) (by omega) (by omega) (fun o ho => ?_))
          by_cases e2 : o = i
          · subst e2; exact e
          · exact h3 o (by omega)
        · exact Or.inr hi
      refine zr_iload_n dX5_isTaken_2 rfl ?_
      refine zr_aload_n dX5_isTaken_3 rfl ?_
      refine zr_getI dX5_isTaken_4 fd_5_25 rfl (hL.1.ob rfl) ?_
      rw [hL.nh]
      refine zr_icmp_geN (tgt := 45) dX5_isTaken_7 (by decide) (by omega) (by omega) (fun hc_7 => ?_) (fun hc_7 => ?_)
      · refine zr_iconst (v := bI false) dX5_isTaken_45 rfl ?_
        refine zr_zreturnB dX5_isTaken_46 rfl (Nat.le_refl _) (Nat.le_refl _) ?_
        rw [anyN_false.mpr (fun o ho => h3 o (by omega))] at hk
        exact hk
      · refine zr_iload_n dX5_isTaken_10 rfl ?_
        refine zr_iload_n dX5_isTaken_11 rfl ?_
        refine zr_icmp_eqN (tgt := 39) dX5_isTaken_12 (by decide) (by omega) (by omega) (fun hc_12 => ?_) (fun hc_12 => ?_)
        · have e : (i != h && (s.2.2.2 i).2.2.1.any (fun a => sdef s i a && (sone a rc && !ssame a rc))) = false := by
            have e0 : (i != h) = false := by simp [hc_12]
            rw [e0, Bool.false_and]
          refine zr_iincN dX5_isTaken_39 rfl (by decide) rfl ?_
          dsimp only [zset]
          refine zr_goto (tgt := 2) dX5_isTaken_42 (by decide) ?_
          exact (stepF e).resolve_right (by omega)
        · refine zr_aload_n dX5_isTaken_15 rfl ?_
          refine zr_iload_n dX5_isTaken_16 rfl ?_
          refine zr_cV1 rfl dX5_isTaken_17 cv_5_139 (hL.1.ob rfl) (Nat.le_of_ble_eq_true rfl) (speaker_ok hL hs hc_7 ?_)
          refine zr_iconst (v := -1) dX5_isTaken_20 rfl ?_
          refine zr_icmp_eq (tgt := 39) dX5_isTaken_21 (by decide) (fun hc_21 => ?_) (fun hc_21 => ?_)
          · have e : (i != h && (s.2.2.2 i).2.2.1.any (fun a => sdef s i a && (sone a rc && !ssame a rc))) = false := by rw [opp_eq, (sspk_std hs hc_7).mp hc_21, Bool.false_and, Bool.and_false]
            refine zr_iincN dX5_isTaken_39 rfl (by decide) rfl ?_
            dsimp only [zset]
            refine zr_goto (tgt := 2) dX5_isTaken_42 (by decide) ?_
            exact (stepF e).resolve_right (by omega)
          · refine zr_aload_n dX5_isTaken_24 rfl ?_
            refine zr_getR dX5_isTaken_25 fd_5_11 rfl (hL.1.ob rfl) hL.r0 (by omega) ?_
            refine zr_iload_n dX5_isTaken_28 rfl ?_
            refine zr_aaloadN dX5_isTaken_29 (hL.1.ar rfl) (by decide) (by decide) (by omega) (by decide) (hL.rh (by omega)) (by unfold hb; omega) ?_
            refine zr_aload_n dX5_isTaken_30 rfl ?_
            refine zr_cV1 rfl dX5_isTaken_31 cv_5_175 ((hL.hc hc_7).ob rfl) (Nat.le_of_ble_eq_true rfl) (rival_ok (hL.hc hc_7) (hs.so hc_7) hb' ?_)
            refine zr_if_eqB (tgt := 39) dX5_isTaken_34 (by decide) (fun hc_34 => ?_) (fun hc_34 => ?_)
            · have e : (i != h && (s.2.2.2 i).2.2.1.any (fun a => sdef s i a && (sone a rc && !ssame a rc))) = false := by rw [opp_eq, hc_34, Bool.and_false, Bool.and_false]
              refine zr_iincN dX5_isTaken_39 rfl (by decide) rfl ?_
              dsimp only [zset]
              refine zr_goto (tgt := 2) dX5_isTaken_42 (by decide) ?_
              exact (stepF e).resolve_right (by omega)
            · refine zr_iconst (v := bI true) dX5_isTaken_37 rfl ?_
              refine zr_zreturnB dX5_isTaken_38 rfl (Nat.le_refl _) (Nat.le_refl _) ?_
              rw [anyN_t hc_7 (by rw [opp_eq, hc_34, show (i != h) = true by simp [hc_12], show sstd s i = true by rw [← Bool.not_eq_false]; exact fun z => hc_21 ((sspk_std hs hc_7).mpr z)]; rfl)] at hk
              exact hk
  refine zenterP (Or.inl (by decide +kernel)) rfl (fun h => by cases h) (Nat.le_of_ble_eq_true rfl) ?_
  show zwp _ _ _ _ _ 0 [_, _, _, zU] [] 0 0 _
  refine zr_iconst (v := nI 0) dX5_isTaken_0 rfl ?_
  refine zr_istore_n dX5_isTaken_1 (by decide) rfl ?_
  dsimp only [zset]
  exact loop _ 0 (Nat.lt_succ_self _) (Nat.zero_le _) (fun j hj => absurd hj (Nat.not_lt_zero j))
theorem LisOutbid_ok (hL : LK m L s) (hs : sOK s) (h6 : h < 6) (hb' : RCl m b rc) (hk : Q (.int (bI (soutb s h rc))) m) : zC (d + 3) M5_isOutbid 0 0 [.ref L, .int (nI h), .ref b] m Q := by
  have n6 := hL.n6
  unfold soutb at hk
  have loop : ∀ c i, s.2.2.1 - i < c → i ≤ s.2.2.1 → (∀ o, o < i → (o != h && sawk (s.2.2.2 o) && (s.2.2.2 o).2.2.1.any (fun a => !sown a && (sone a rc && decide (rc 2 < a 2)))) = false) → zwp (d + 3) M5_isOutbid 0 0 Q 2 [.ref L, .int (nI h), .ref b, .int (nI i)] [] 0 0 m := by
    intro c
    induction c with
    | zero => intro i h1; omega
    | succ c ih =>
      intro i h1 h2 h3
      have stepF : i < s.2.2.1 → (i != h && sawk (s.2.2.2 i) && (s.2.2.2 i).2.2.1.any (fun a => !sown a && (sone a rc && decide (rc 2 < a 2)))) = false → zwp (d + 3) M5_isOutbid 0 0 Q 2 [.ref L, .int (nI h), .ref b, .int (nI (i + 1))] [] 0 0 m := by
        intro hi e
        refine ih (i + 1) (by omega) (by omega) (fun o ho => ?_)
        by_cases e2 : o = i
        · subst e2; exact e
        · exact h3 o (by omega)
      refine zr_iload_n dX5_isOutbid_2 rfl ?_
      refine zr_aload_n dX5_isOutbid_3 rfl ?_
      refine zr_getI dX5_isOutbid_4 fd_5_25 rfl (hL.1.ob rfl) ?_
      rw [hL.nh]
      refine zr_icmp_geN (tgt := 48) dX5_isOutbid_7 (by decide) (by omega) (by omega) (fun hc_7 => ?_) (fun hc_7 => ?_)
      · refine zr_iconst (v := bI false) dX5_isOutbid_48 rfl ?_
        refine zr_zreturnB dX5_isOutbid_49 rfl (Nat.le_refl _) (Nat.le_refl _) ?_
        rw [anyN_false.mpr (fun o ho => h3 o (by omega))] at hk
        exact hk
      · refine zr_iload_n dX5_isOutbid_10 rfl ?_
        refine zr_iload_n dX5_isOutbid_11 rfl ?_
        refine zr_icmp_eqN (tgt := 42) dX5_isOutbid_12 (by decide) (by omega) (by omega) (fun hc_12 => ?_) (fun hc_12 => ?_)
        · have e : (i != h && sawk (s.2.2.2 i) && (s.2.2.2 i).2.2.1.any (fun a => !sown a && (sone a rc && decide (rc 2 < a 2)))) = false := by
            have e0 : (i != h) = false := by simp [hc_12]
            rw [e0, Bool.false_and, Bool.false_and]
          refine zr_iincN dX5_isOutbid_42 rfl (by decide) rfl ?_
          dsimp only [zset]
          refine zr_goto (tgt := 2) dX5_isOutbid_45 (by decide) ?_
          exact stepF hc_7 e
        · refine zr_aload_n dX5_isOutbid_15 rfl ?_
          refine zr_getR dX5_isOutbid_16 fd_5_11 rfl (hL.1.ob rfl) hL.r0 (by omega) ?_
          refine zr_iload_n dX5_isOutbid_19 rfl ?_
          refine zr_aaloadN dX5_isOutbid_20 (hL.1.ar rfl) (by decide) (by decide) (by omega) (by decide) (hL.rh (by omega)) (by unfold hb; omega) ?_
          refine zr_getI dX5_isOutbid_21 fd_5_94 rfl ((hL.hc hc_7).ob rfl) ?_
          rw [(hL.hc hc_7).aw]
          refine zr_if_eq (tgt := 42) dX5_isOutbid_24 (by decide) (fun hc_24 => ?_) (fun hc_24 => ?_)
          · have e : (i != h && sawk (s.2.2.2 i) && (s.2.2.2 i).2.2.1.any (fun a => !sown a && (sone a rc && decide (rc 2 < a 2)))) = false := by
              have e0 : sawk (s.2.2.2 i) = false := by simp [sawk, hc_24]
              rw [e0, Bool.and_false, Bool.false_and]
            refine zr_iincN dX5_isOutbid_42 rfl (by decide) rfl ?_
            dsimp only [zset]
            refine zr_goto (tgt := 2) dX5_isOutbid_45 (by decide) ?_
            exact stepF hc_7 e
          · refine zr_aload_n dX5_isOutbid_27 rfl ?_
            refine zr_getR dX5_isOutbid_28 fd_5_11 rfl (hL.1.ob rfl) hL.r0 (by omega) ?_
            refine zr_iload_n dX5_isOutbid_31 rfl ?_
            refine zr_aaloadN dX5_isOutbid_32 (hL.1.ar rfl) (by decide) (by decide) (by omega) (by decide) (hL.rh (by omega)) (by unfold hb; omega) ?_
            refine zr_aload_n dX5_isOutbid_33 rfl ?_
            refine zr_cV1 rfl dX5_isOutbid_34 cv_5_179 ((hL.hc hc_7).ob rfl) (Nat.le_of_ble_eq_true rfl) (outbids_ok (hL.hc hc_7) hb' ?_)
            refine zr_if_eqB (tgt := 42) dX5_isOutbid_37 (by decide) (fun hc_37 => ?_) (fun hc_37 => ?_)
            · have e : (i != h && sawk (s.2.2.2 i) && (s.2.2.2 i).2.2.1.any (fun a => !sown a && (sone a rc && decide (rc 2 < a 2)))) = false := by rw [hc_37, Bool.and_false]
              refine zr_iincN dX5_isOutbid_42 rfl (by decide) rfl ?_
              dsimp only [zset]
              refine zr_goto (tgt := 2) dX5_isOutbid_45 (by decide) ?_
              exact stepF hc_7 e
            · refine zr_iconst (v := bI true) dX5_isOutbid_40 rfl ?_
              refine zr_zreturnB dX5_isOutbid_41 rfl (Nat.le_refl _) (Nat.le_refl _) ?_
              rw [anyN_t hc_7 (by rw [hc_37, show (i != h) = true by simp [hc_12], show sawk (s.2.2.2 i) = true by have := ((hs.2 i hc_7).1).resolve_left hc_24; simp [sawk, this]]; rfl)] at hk
              exact hk
  refine zenterP (Or.inl (by decide +kernel)) rfl (fun h => by cases h) (Nat.le_of_ble_eq_true rfl) ?_
  show zwp _ _ _ _ _ 0 [_, _, _, zU] [] 0 0 _
  refine zr_iconst (v := nI 0) dX5_isOutbid_0 rfl ?_
  refine zr_istore_n dX5_isOutbid_1 (by decide) rfl ?_
  dsimp only [zset]
  exact loop _ 0 (Nat.lt_succ_self _) (Nat.zero_le _) (fun j hj => absurd hj (Nat.not_lt_zero j))
/-! announcing -/
/-- a cell among the records of the link -/
def rz (L b : Nat) : Prop := ∃ h, h < 6 ∧ hb L h + 2 ≤ b ∧ b < hb L h + 7
theorem rz_off (hz : rz L b) {o : Nat} (ho : o < 6) : b < hb L o + 7 ∨ hb L o + 7 + 8 ≤ b := by
  obtain ⟨h, h1, h2, h3⟩ := hz
  unfold hb at *
  omega
theorem rz_L (hz : rz L b) : b ≠ L := by
  obtain ⟨h, h1, h2, h3⟩ := hz
  unfold hb at *
  omega
end
