/-! ===== the class: ticks ===== -/
section
variable {d : Nat} {Q : Value → zM → Prop} {m m' : zM} {L b h r : Nat} {s : sS} {n k q : Int32} {rc : sR} {x : sH}
theorem csages_0 : sages s 0 = scnt s 1 (s.1 1 + 1) := sS_ext rfl rfl rfl (fun h => by simp [sages, scnt])
theorem csages_s : sages s (h + 1) = shst (sages s h) h (saged (s.1 1 + 1) (s.2.2.2 h)) := by
  refine sS_ext rfl rfl rfl (fun j => ?_)
  show (if j < h + 1 then saged (s.1 1 + 1) (s.2.2.2 j) else s.2.2.2 j) = fu (fun j => if j < h then saged (s.1 1 + 1) (s.2.2.2 j) else s.2.2.2 j) h (saged (s.1 1 + 1) (s.2.2.2 h)) j
  by_cases e : j = h
  · subst e; rw [fu_s, if_pos (by omega)]
  · rw [fu_n _ _ e]
    by_cases e2 : j < h
    · rw [if_pos e2, if_pos (by omega)]
    · rw [if_neg e2, if_neg (by omega)]
theorem csages_at : (sages s h).2.2.2 h = s.2.2.2 h := by show (if h < h then _ else _) = _; rw [if_neg (by omega)]
theorem beginTick_ok (hL : LK m L s) (hk : ∀ m', LK m' L (sages s s.2.2.1) → zout L (L + 92) m m' → Q .null m') : zC (d + 3) M5_beginTick 0 0 [.ref L] m Q := by
  have n6 := hL.n6
  have loop : ∀ c i m1, s.2.2.1 - i < c → i ≤ s.2.2.1 → LK m1 L (sages s i) → zout L (L + 92) m m1 → zwp (d + 3) M5_beginTick 0 0 Q 12 [.ref L, .int (nI i)] [] 0 0 m1 := by
    intro c
    induction c with
    | zero => intro i m1 h1; omega
    | succ c ih =>
      intro i m1 h1 h2 hL1 ho
      have hnh : zI m1 L 2 = nI s.2.2.1 := hL1.nh
      have htm : zI m1 L 3 = s.1 1 + 1 := hL1.2.1.2.1.trans (show fu s.1 1 (s.1 1 + 1) 1 = _ from fu_s _ _ _)
      have hH : i < s.2.2.1 → HC m1 (hb L i) (s.2.2.2 i) := fun hi => by
        have := hL1.hc (h := i) hi
        rw [csages_at] at this
        exact this
      refine zr_iload_n dX5_beginTick_12 rfl ?_
      refine zr_aload_n dX5_beginTick_13 rfl ?_
      refine zr_getI dX5_beginTick_14 fd_5_25 rfl (hL1.1.ob rfl) ?_
      rw [hnh]
      refine zr_icmp_geN (tgt := 42) dX5_beginTick_17 (by decide) (by omega) (by omega) (fun hc_17 => ?_) (fun hc_17 => ?_)
      · refine zr_return dX5_beginTick_42 rfl (Nat.le_refl _) (Nat.le_refl _) ?_
        have e : i = s.2.2.1 := by omega
        subst e
        exact hk _ hL1 ho
      · refine zr_aload_n dX5_beginTick_20 rfl ?_
        refine zr_getR dX5_beginTick_21 fd_5_11 rfl (hL1.1.ob rfl) hL1.r0 (by omega) ?_
        refine zr_iload_n dX5_beginTick_24 rfl ?_
        refine zr_aaloadN dX5_beginTick_25 (hL1.1.ar rfl) (by decide) (by decide) (by omega) (by decide) (hL1.rh (by omega)) (by unfold hb; omega) ?_
        refine zr_getR dX5_beginTick_26 fd_5_111 rfl ((hH hc_17).ob rfl) (hH hc_17).r1 (by omega) ?_
        refine zr_aload_n dX5_beginTick_29 rfl ?_
        refine zr_getI dX5_beginTick_30 fd_5_33 rfl (hL1.1.ob rfl) ?_
        rw [htm]
        refine zr_cV1v rfl dX5_beginTick_33 cv_5_156 ((hH hc_17).cc.ob rfl) (Nat.le_of_ble_eq_true rfl) (removeEnded_ok (hH hc_17).cc (fun m2 c2 o2 => ?_))
        refine zr_iincN dX5_beginTick_36 rfl (by decide) rfl ?_
        dsimp only [zset]
        refine zr_goto (tgt := 12) dX5_beginTick_39 (by decide) ?_
        have hi := hb_in (L := L) (h := i) (by omega)
        have hL2 := hL1.host (h := i) hc_17 (o2.wd (by omega) (by omega)) ((hH hc_17).cache o2 c2)
        have e1 := csages_s (s := s) (h := i)
        unfold saged at e1
        rw [← e1] at hL2
        exact ih (i + 1) m2 (by omega) (by omega) hL2 (ho.tr (o2.wd (by omega) (by omega)))
  refine zenterP (Or.inl (by decide +kernel)) rfl (fun h => by cases h) (Nat.le_of_ble_eq_true rfl) ?_
  show zwp _ _ _ _ _ 0 [_, zU] [] 0 0 _
  refine zr_aload_n dX5_beginTick_0 rfl ?_
  refine zr_dup dX5_beginTick_1 rfl ?_
  refine zr_getI dX5_beginTick_2 fd_5_33 rfl (hL.1.ob rfl) ?_
  rw [hL.2.1.2.1]
  refine zr_iconst (v := nI 1) dX5_beginTick_5 rfl ?_
  refine zr_iadd dX5_beginTick_6 ?_
  refine zr_putI dX5_beginTick_7 fd_5_33 rfl (hL.1.ob rfl) ?_
  refine zr_iconst (v := nI 0) dX5_beginTick_10 rfl ?_
  refine zr_istore_n dX5_beginTick_11 (by decide) rfl ?_
  dsimp only [zset]
  refine loop _ 0 _ (Nat.lt_succ_self _) (Nat.zero_le _) ?_ (zout.sI (by omega) (by omega))
  rw [csages_0]
  exact hL.sc (k := 1) (by decide) (by decide) _
theorem LK.rate (hL : LK m L s) (v : UInt32) : LK (zsF m L 9 v) L (s.1, v, s.2.2) := by
  obtain ⟨h1, ⟨n1, n2, n3, n4, n5, n6, n7, n8⟩, h3, h4, h5⟩ := hL
  have ho : zout L (L + 1) m (zsF m L 9 v) := zout.sF (by omega) (by omega)
  refine ⟨h1.of rfl rfl rfl rfl, ⟨n1, n2, n3, n4, n5, n6, n7, by simp [zF, zsF, zu]⟩, h3, fun k hk => ?_, fun k hk => (h5 k hk).out ho (by have := hb_in (L := L) (h := k) (Nat.lt_of_lt_of_le hk h3); omega)⟩
  obtain ⟨x, hx⟩ := h4 k hk
  exact ⟨x, hx.out ho (by have := hb_in (L := L) hk; omega)⟩
theorem measure_ok (hL : LK m L s) (hf : fOK s) (hk : ∀ m', LK m' L (srate s) → zout L (L + 92) m m' → Q .null m') : zC (d + 1) M5_measureRate 0 0 [.ref L] m Q := by
  obtain ⟨n1, n2, n3, n4, n5, n6, n7, n8⟩ := hL.2.1
  obtain ⟨f1, f2, f3⟩ := hf
  refine zenterP (Or.inl (by decide +kernel)) rfl (fun h => by cases h) (Nat.le_of_ble_eq_true rfl) ?_
  show zwp _ _ _ _ _ 0 [_, zU] [] 0 0 _
  refine zr_aload_n dX5_measureRate_0 rfl ?_
  refine zr_getI dX5_measureRate_1 fd_5_36 rfl (hL.1.ob rfl) ?_
  rw [n3]
  refine zr_aload_n dX5_measureRate_4 rfl ?_
  refine zr_getI dX5_measureRate_5 fd_5_39 rfl (hL.1.ob rfl) ?_
  rw [n4]
  refine zr_isub dX5_measureRate_8 ?_
  refine zr_i2f dX5_measureRate_9 ?_
  refine zr_fstore_n dX5_measureRate_10 (by decide) rfl ?_
  dsimp only [zset]
  refine zr_aload_n dX5_measureRate_11 rfl ?_
  refine zr_aload_n dX5_measureRate_12 rfl ?_
  refine zr_getF dX5_measureRate_13 fd_5_51 rfl (hL.1.ob rfl) ?_
  rw [n8]
  refine zr_ldcf dX5_measureRate_16 kc_5_160 ?_
  refine zr_fmul dX5_measureRate_18 f1 ?_
  refine zr_fload_n dX5_measureRate_19 rfl ?_
  refine zr_ldcf dX5_measureRate_20 kc_5_161 ?_
  refine zr_fmul dX5_measureRate_22 f2 ?_
  refine zr_fadd dX5_measureRate_23 f3 ?_
  refine zr_putF dX5_measureRate_24 fd_5_51 rfl (hL.1.ob rfl) ?_
  refine zr_aload_n dX5_measureRate_27 rfl ?_
  refine zr_aload_n dX5_measureRate_28 rfl ?_
  refine zr_getI dX5_measureRate_29 fd_5_36 rfl (hL.1.ob rfl) ?_
  refine zr_putI dX5_measureRate_32 fd_5_39 rfl (hL.1.ob rfl) ?_
  refine zr_return dX5_measureRate_35 rfl (Nat.le_refl _) (Nat.le_refl _) ?_
  refine hk _ ?_ ((zout.sF (by omega) (by omega)).tr (zout.sI (by omega) (by omega)))
  have := (hL.rate (FP.fadd (FP.fmul s.2.1 1061158912) (FP.fmul (FP.i2f (s.1 2 - s.1 6)) 1048576000))).sc (k := 6) (by decide) (by decide) (s.1 2)
  have e : zI (zsF m L 9 (FP.fadd (FP.fmul s.2.1 1061158912) (FP.fmul (FP.i2f (s.1 2 - s.1 6)) 1048576000))) L 4 = s.1 2 := n3
  rw [e]
  exact this
end
