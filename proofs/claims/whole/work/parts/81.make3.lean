/-! ===== making: the reference, and both ===== -/
def MS (m m1 : zM) (i : Nat) : Prop := zn m1 = 668 + i ∧ zbl 667 m m1 ∧ (∀ k, zI m1 667 k = 0) ∧ zF m1 667 1 = 0 ∧ ∀ a, 668 ≤ a → a < 668 + i → ∀ k, zI m1 a k = 0 ∧ zF m1 a k = 0
def M0 (m : zM) : Prop := MI m ∧ (∀ k, k < 15 → zI m 667 k = 0) ∧ zI m 667 15 = -1 ∧ zF m 667 1 = 0 ∧ ∀ a, 668 ≤ a → a < 676 → ∀ k, zI m a k = 0 ∧ zF m a k = 0
section
variable {d : Nat} {Q : Value → zM → Prop} {m m1 m' : zM} {i f g v : Nat}
theorem MS.step (h : MS m m1 i) (f v : Nat) : MS m (zsR (znw m1) 667 f v) (i + 1) := by
  obtain ⟨h1, h2, h3, h4, h5⟩ := h
  have hn : (667 : Nat) ≠ zn m1 := by omega
  refine ⟨by rw [zn_sR, zn_nw]; omega, (h2.tr (zbl.nw (by omega))).tr (zbl.sR (by omega)), fun k => ?_, ?_, fun a a1 a2 k => ?_⟩
  · show zI (znw m1) 667 k = 0
    rw [(znw_n hn).1]; exact h3 k
  · show zF (znw m1) 667 1 = 0
    rw [(znw_n hn).2.2.2]; exact h4
  · show zI (znw m1) a k = 0 ∧ zF (znw m1) a k = 0
    by_cases e : a = zn m1
    · rw [e]; exact ⟨znw_s.1, znw_s.2.2.2⟩
    · rw [(znw_n e).1, (znw_n e).2.2.2]; exact h5 a a1 (by omega) k
theorem MS.keep (h : MS m m1 i) (hg : g ≠ f) : zR (zsR (znw m1) 667 f v) 667 g = zR m1 667 g := by
  have hn : (667 : Nat) ≠ zn m1 := by have := h.1; omega
  rw [zR_n _ _ (Or.inr hg), (znw_n hn).2.1]
theorem Minit_ok (hz : zn m = 668) (h1 : ∀ k, zI m 667 k = 0) (hf : zF m 667 1 = 0) (hk : ∀ m', zn m' = 676 → zbl 667 m m' → M0 m' → Q .null m') : zC (d + 1) M9_init 8 3357 [.ref 667] m Q := by
  have s0 : MS m m 0 := ⟨hz, zbl.rf, h1, hf, fun a a1 a2 => by omega⟩
  refine zenterP (Or.inl (by decide +kernel)) rfl (fun _ => rfl) (Nat.le_of_ble_eq_true rfl) ?_
  show zwp _ _ _ _ _ 0 [_] [] 0 0 _
  refine zr_aload_n dX9_init_0 rfl ?_
  refine zr_objInit dX9_init_1 oi_9_1 oi_1 oi_2 (Nat.le_of_ble_eq_true rfl) ?_
  refine zr_aload_n dX9_init_4 rfl ?_
  refine zr_sipush (v := nI 424) dX9_init_5 rfl ?_
  refine zr_newarray (kd := 12) dX9_init_8 rfl (by decide) (by decide) ac_int (by decide) (by rw [s0.1]; rfl) (by first | omega | (simp only [zk_0, zk_1, zk_2, zk_3, zk_4, zk_5, zk_6, zk_7, zk_8, zk_9]; omega) | fail "none") (by first | omega | (simp only [zk_0, zk_1, zk_2, zk_3, zk_4, zk_5, zk_6, zk_7, zk_8, zk_9]; omega) | fail "none") ?_
  rw [s0.1]
  refine zr_putR dX9_init_10 fd_9_7 (Or.inr ⟨rfl, rfl⟩) (fun _ => ⟨rfl, rfl⟩) rfl ⟨by decide, by decide, by rw [zn_nw, s0.1]; decide⟩ (by decide) ?_
  have s1 := s0.step 0 668
  have r1_0 : zR (zsR (znw m) 667 0 668) 667 0 = 668 := zR_s _ _ _ _
  show zwp _ _ _ _ _ _ _ _ _ _ (zsR (znw m) 667 0 668)
  generalize zsR (znw m) 667 0 668 = m1 at s1 r1_0 ⊢
  refine zr_aload_n dX9_init_13 rfl ?_
  refine zr_sipush (v := nI 2120) dX9_init_14 rfl ?_
  refine zr_newarray (kd := 12) dX9_init_17 rfl (by decide) (by decide) ac_int (by decide) (by rw [s1.1]; rfl) (by first | omega | (simp only [zk_0, zk_1, zk_2, zk_3, zk_4, zk_5, zk_6, zk_7, zk_8, zk_9]; omega) | fail "none") (by first | omega | (simp only [zk_0, zk_1, zk_2, zk_3, zk_4, zk_5, zk_6, zk_7, zk_8, zk_9]; omega) | fail "none") ?_
  rw [s1.1]
  refine zr_putR dX9_init_19 fd_9_13 (Or.inr ⟨rfl, rfl⟩) (fun _ => ⟨rfl, rfl⟩) rfl ⟨by decide, by decide, by rw [zn_nw, s1.1]; decide⟩ (by decide) ?_
  have s2 := s1.step 2 669
  have r2_2 : zR (zsR (znw m1) 667 2 669) 667 2 = 669 := zR_s _ _ _ _
  have r2_0 : zR (zsR (znw m1) 667 2 669) 667 0 = 668 := (s1.keep (by decide)).trans r1_0
  show zwp _ _ _ _ _ _ _ _ _ _ (zsR (znw m1) 667 2 669)
  generalize zsR (znw m1) 667 2 669 = m2 at s2 r2_0 r2_2 ⊢
  refine zr_aload_n dX9_init_22 rfl ?_
  refine zr_iconst (v := nI 5) dX9_init_23 rfl ?_
  refine zr_newarray (kd := 11) dX9_init_24 rfl (by decide) (by decide) ac_float (by decide) (by rw [s2.1]; rfl) (by first | omega | (simp only [zk_0, zk_1, zk_2, zk_3, zk_4, zk_5, zk_6, zk_7, zk_8, zk_9]; omega) | fail "none") (by first | omega | (simp only [zk_0, zk_1, zk_2, zk_3, zk_4, zk_5, zk_6, zk_7, zk_8, zk_9]; omega) | fail "none") ?_
  rw [s2.1]
  refine zr_putR dX9_init_26 fd_9_16 (Or.inr ⟨rfl, rfl⟩) (fun _ => ⟨rfl, rfl⟩) rfl ⟨by decide, by decide, by rw [zn_nw, s2.1]; decide⟩ (by decide) ?_
  have s3 := s2.step 3 670
  have r3_3 : zR (zsR (znw m2) 667 3 670) 667 3 = 670 := zR_s _ _ _ _
  have r3_0 : zR (zsR (znw m2) 667 3 670) 667 0 = 668 := (s2.keep (by decide)).trans r2_0
  have r3_2 : zR (zsR (znw m2) 667 3 670) 667 2 = 669 := (s2.keep (by decide)).trans r2_2
  show zwp _ _ _ _ _ _ _ _ _ _ (zsR (znw m2) 667 3 670)
  generalize zsR (znw m2) 667 3 670 = m3 at s3 r3_0 r3_2 r3_3 ⊢
  refine zr_aload_n dX9_init_29 rfl ?_
  refine zr_sipush (v := nI 424) dX9_init_30 rfl ?_
  refine zr_newarray (kd := 12) dX9_init_33 rfl (by decide) (by decide) ac_int (by decide) (by rw [s3.1]; rfl) (by first | omega | (simp only [zk_0, zk_1, zk_2, zk_3, zk_4, zk_5, zk_6, zk_7, zk_8, zk_9]; omega) | fail "none") (by first | omega | (simp only [zk_0, zk_1, zk_2, zk_3, zk_4, zk_5, zk_6, zk_7, zk_8, zk_9]; omega) | fail "none") ?_
  rw [s3.1]
  refine zr_putR dX9_init_35 fd_9_20 (Or.inr ⟨rfl, rfl⟩) (fun _ => ⟨rfl, rfl⟩) rfl ⟨by decide, by decide, by rw [zn_nw, s3.1]; decide⟩ (by decide) ?_
  have s4 := s3.step 4 671
  have r4_4 : zR (zsR (znw m3) 667 4 671) 667 4 = 671 := zR_s _ _ _ _
  have r4_0 : zR (zsR (znw m3) 667 4 671) 667 0 = 668 := (s3.keep (by decide)).trans r3_0
  have r4_2 : zR (zsR (znw m3) 667 4 671) 667 2 = 669 := (s3.keep (by decide)).trans r3_2
  have r4_3 : zR (zsR (znw m3) 667 4 671) 667 3 = 670 := (s3.keep (by decide)).trans r3_3
  show zwp _ _ _ _ _ _ _ _ _ _ (zsR (znw m3) 667 4 671)
  generalize zsR (znw m3) 667 4 671 = m4 at s4 r4_0 r4_2 r4_3 r4_4 ⊢
  refine zr_aload_n dX9_init_38 rfl ?_
  refine zr_iconst (v := nI 3) dX9_init_39 rfl ?_
  refine zr_newarray (kd := 12) dX9_init_40 rfl (by decide) (by decide) ac_int (by decide) (by rw [s4.1]; rfl) (by first | omega | (simp only [zk_0, zk_1, zk_2, zk_3, zk_4, zk_5, zk_6, zk_7, zk_8, zk_9]; omega) | fail "none") (by first | omega | (simp only [zk_0, zk_1, zk_2, zk_3, zk_4, zk_5, zk_6, zk_7, zk_8, zk_9]; omega) | fail "none") ?_
  rw [s4.1]
  refine zr_putR dX9_init_42 fd_9_23 (Or.inr ⟨rfl, rfl⟩) (fun _ => ⟨rfl, rfl⟩) rfl ⟨by decide, by decide, by rw [zn_nw, s4.1]; decide⟩ (by decide) ?_
  have s5 := s4.step 7 672
  have r5_7 : zR (zsR (znw m4) 667 7 672) 667 7 = 672 := zR_s _ _ _ _
  have r5_0 : zR (zsR (znw m4) 667 7 672) 667 0 = 668 := (s4.keep (by decide)).trans r4_0
  have r5_2 : zR (zsR (znw m4) 667 7 672) 667 2 = 669 := (s4.keep (by decide)).trans r4_2
  have r5_3 : zR (zsR (znw m4) 667 7 672) 667 3 = 670 := (s4.keep (by decide)).trans r4_3
  have r5_4 : zR (zsR (znw m4) 667 7 672) 667 4 = 671 := (s4.keep (by decide)).trans r4_4
  show zwp _ _ _ _ _ _ _ _ _ _ (zsR (znw m4) 667 7 672)
  generalize zsR (znw m4) 667 7 672 = m5 at s5 r5_0 r5_2 r5_3 r5_4 r5_7 ⊢
  refine zr_aload_n dX9_init_45 rfl ?_
  refine zr_sipush (v := nI 256) dX9_init_46 rfl ?_
  refine zr_newarray (kd := 14) dX9_init_49 rfl (by decide) (by decide) ac_boolean (by decide) (by rw [s5.1]; rfl) (by first | omega | (simp only [zk_0, zk_1, zk_2, zk_3, zk_4, zk_5, zk_6, zk_7, zk_8, zk_9]; omega) | fail "none") (by first | omega | (simp only [zk_0, zk_1, zk_2, zk_3, zk_4, zk_5, zk_6, zk_7, zk_8, zk_9]; omega) | fail "none") ?_
  rw [s5.1]
  refine zr_putR dX9_init_51 fd_9_26 (Or.inr ⟨rfl, rfl⟩) (fun _ => ⟨rfl, rfl⟩) rfl ⟨by decide, by decide, by rw [zn_nw, s5.1]; decide⟩ (by decide) ?_
  have s6 := s5.step 8 673
  have r6_8 : zR (zsR (znw m5) 667 8 673) 667 8 = 673 := zR_s _ _ _ _
  have r6_0 : zR (zsR (znw m5) 667 8 673) 667 0 = 668 := (s5.keep (by decide)).trans r5_0
  have r6_2 : zR (zsR (znw m5) 667 8 673) 667 2 = 669 := (s5.keep (by decide)).trans r5_2
  have r6_3 : zR (zsR (znw m5) 667 8 673) 667 3 = 670 := (s5.keep (by decide)).trans r5_3
  have r6_4 : zR (zsR (znw m5) 667 8 673) 667 4 = 671 := (s5.keep (by decide)).trans r5_4
  have r6_7 : zR (zsR (znw m5) 667 8 673) 667 7 = 672 := (s5.keep (by decide)).trans r5_7
  show zwp _ _ _ _ _ _ _ _ _ _ (zsR (znw m5) 667 8 673)
  generalize zsR (znw m5) 667 8 673 = m6 at s6 r6_0 r6_2 r6_3 r6_4 r6_7 r6_8 ⊢
  refine zr_aload_n dX9_init_54 rfl ?_
  refine zr_bipush (v := nI 120) dX9_init_55 rfl ?_
  refine zr_newarray (kd := 12) dX9_init_57 rfl (by decide) (by decide) ac_int (by decide) (by rw [s6.1]; rfl) (by first | omega | (simp only [zk_0, zk_1, zk_2, zk_3, zk_4, zk_5, zk_6, zk_7, zk_8, zk_9]; omega) | fail "none") (by first | omega | (simp only [zk_0, zk_1, zk_2, zk_3, zk_4, zk_5, zk_6, zk_7, zk_8, zk_9]; omega) | fail "none") ?_
  rw [s6.1]
  refine zr_putR dX9_init_59 fd_9_30 (Or.inr ⟨rfl, rfl⟩) (fun _ => ⟨rfl, rfl⟩) rfl ⟨by decide, by decide, by rw [zn_nw, s6.1]; decide⟩ (by decide) ?_
  have s7 := s6.step 9 674
  have r7_9 : zR (zsR (znw m6) 667 9 674) 667 9 = 674 := zR_s _ _ _ _
  have r7_0 : zR (zsR (znw m6) 667 9 674) 667 0 = 668 := (s6.keep (by decide)).trans r6_0
  have r7_2 : zR (zsR (znw m6) 667 9 674) 667 2 = 669 := (s6.keep (by decide)).trans r6_2
  have r7_3 : zR (zsR (znw m6) 667 9 674) 667 3 = 670 := (s6.keep (by decide)).trans r6_3
  have r7_4 : zR (zsR (znw m6) 667 9 674) 667 4 = 671 := (s6.keep (by decide)).trans r6_4
  have r7_7 : zR (zsR (znw m6) 667 9 674) 667 7 = 672 := (s6.keep (by decide)).trans r6_7
  have r7_8 : zR (zsR (znw m6) 667 9 674) 667 8 = 673 := (s6.keep (by decide)).trans r6_8
  show zwp _ _ _ _ _ _ _ _ _ _ (zsR (znw m6) 667 9 674)
  generalize zsR (znw m6) 667 9 674 = m7 at s7 r7_0 r7_2 r7_3 r7_4 r7_7 r7_8 r7_9 ⊢
  refine zr_aload_n dX9_init_62 rfl ?_
  refine zr_iconst (v := nI 5) dX9_init_63 rfl ?_
  refine zr_newarray (kd := 12) dX9_init_64 rfl (by decide) (by decide) ac_int (by decide) (by rw [s7.1]; rfl) (by first | omega | (simp only [zk_0, zk_1, zk_2, zk_3, zk_4, zk_5, zk_6, zk_7, zk_8, zk_9]; omega) | fail "none") (by first | omega | (simp only [zk_0, zk_1, zk_2, zk_3, zk_4, zk_5, zk_6, zk_7, zk_8, zk_9]; omega) | fail "none") ?_
  rw [s7.1]
  refine zr_putR dX9_init_66 fd_9_33 (Or.inr ⟨rfl, rfl⟩) (fun _ => ⟨rfl, rfl⟩) rfl ⟨by decide, by decide, by rw [zn_nw, s7.1]; decide⟩ (by decide) ?_
  have s8 := s7.step 12 675
  have r8_12 : zR (zsR (znw m7) 667 12 675) 667 12 = 675 := zR_s _ _ _ _
  have r8_0 : zR (zsR (znw m7) 667 12 675) 667 0 = 668 := (s7.keep (by decide)).trans r7_0
  have r8_2 : zR (zsR (znw m7) 667 12 675) 667 2 = 669 := (s7.keep (by decide)).trans r7_2
  have r8_3 : zR (zsR (znw m7) 667 12 675) 667 3 = 670 := (s7.keep (by decide)).trans r7_3
  have r8_4 : zR (zsR (znw m7) 667 12 675) 667 4 = 671 := (s7.keep (by decide)).trans r7_4
  have r8_7 : zR (zsR (znw m7) 667 12 675) 667 7 = 672 := (s7.keep (by decide)).trans r7_7
  have r8_8 : zR (zsR (znw m7) 667 12 675) 667 8 = 673 := (s7.keep (by decide)).trans r7_8
  have r8_9 : zR (zsR (znw m7) 667 12 675) 667 9 = 674 := (s7.keep (by decide)).trans r7_9
  show zwp _ _ _ _ _ _ _ _ _ _ (zsR (znw m7) 667 12 675)
  generalize zsR (znw m7) 667 12 675 = m8 at s8 r8_0 r8_2 r8_3 r8_4 r8_7 r8_8 r8_9 r8_12 ⊢
  refine zr_aload_n dX9_init_69 rfl ?_
  refine zr_iconst (v := -1) dX9_init_70 rfl ?_
  refine zr_putI dX9_init_71 fd_9_36 rfl ⟨by decide, by decide, by rw [s8.1]; decide⟩ ?_
  refine zr_return dX9_init_74 rfl (by first | omega | (simp only [zk_0, zk_1, zk_2, zk_3, zk_4, zk_5, zk_6, zk_7, zk_8, zk_9]; omega) | fail "none") (by first | omega | (simp only [zk_0, zk_1, zk_2, zk_3, zk_4, zk_5, zk_6, zk_7, zk_8, zk_9]; omega) | fail "none") ?_
  obtain ⟨q1, q2, q3, q4, q5⟩ := s8
  refine hk _ q1 (q2.tr (zbl.sI (by omega))) ⟨⟨q1, r8_0, r8_2, r8_3, r8_4, r8_7, r8_8, r8_9, r8_12⟩, fun k hk => ?_, zI_s _ _ _ _, q4, fun a a1 a2 k => ?_⟩
  · rw [zI_n _ _ (Or.inr (by omega))]; exact q3 k
  · rw [zI_n _ _ (Or.inl (by omega))]; exact q5 a a1 a2 k
end
/-! the first state -/
def s00 : sS := (fun _ => 0, 0, 0, fun _ => (0, 0, [], []))
def w00 : sW := (s00, [], [], (fun _ => 0), 0, -1)
section
variable {m m' : zM} {C H L : Nat}
theorem C0.cc (h : C0 m C) (hz : zn m = 676) (hl : LC C) : CC m C [] := by
  obtain ⟨h1, h2, h3⟩ := h
  refine ⟨hz, hl, h1, ⟨fun i hi => ?_, fun i j hi hj e => ?_⟩, h3, Nat.zero_le _, fun i hi => absurd hi (Nat.not_lt_zero i)⟩
  · rw [h2 i hi]; omega
  · rw [h2 i hi, h2 j hj] at e; omega
theorem H0.hc (h : H0 m H) (hz : zn m = 676) (hl : LH H) : HC m H (0, 0, [], []) := by
  obtain ⟨h1, h2, h3, h4, h5, h6, h7⟩ := h
  refine ⟨hz, hl, h1, h2, ⟨fun i hi => ?_, fun i j hi hj e => ?_⟩, h4, Nat.zero_le _, h5, h6, fun i hi => absurd hi (Nat.not_lt_zero i), h7.cc hz hl.2.2.2.2.2⟩
  · rw [h3 i hi]; omega
  · rw [h3 i hi, h3 j hj] at e; omega
theorem L0.lk (h : L0 m L) (hz : zn m = 676) (hl : LL L) : LK m L s00 := by
  obtain ⟨h1, h2, h3, h4, h5, h6, h7⟩ := h
  exact ⟨⟨hz, hl, h1, h2, h3, h4⟩, ⟨h5 2, h5 3, h5 4, h5 5, h5 6, h5 7, h5 8, h6⟩, Nat.zero_le _, fun h hh => ⟨_, (h7 h hh).hc hz (hl.2.2.2.2.1 h hh)⟩, fun h hh => absurd hh (Nat.not_lt_zero h)⟩
theorem N0.rc (h : N0 m) (hz : zn m = 676) : RC m w00 := by
  obtain ⟨h1, h2, h3, h4, h5, h6, ⟨y1, y2, y3, y4⟩, ⟨t1, t2, t3, t4⟩⟩ := h
  refine ⟨⟨hz, h1, h2, h3, fun k hk => h4 (3 + k) (by omega), h4 6 (by decide), h5⟩, h6.lk hz LL_3, ⟨0, hz, y1, y2, y3 1, by decide, y3 2, Nat.zero_le _, fun k hk => ⟨_, (y4 k hk).lk hz (LL_hp k hk)⟩, (fun i s hs => by cases hs)⟩, hz, t1, t2, t3, t4, Nat.zero_le _, (fun i c hc => by cases hc), (fun c hc => by cases hc)⟩
theorem M0.rm (h : M0 m) : RM m w00 := by
  obtain ⟨h1, h2, h3, h4, h5⟩ := h
  refine ⟨h1, ⟨(h5 668 (by decide) (by decide) 0).1, Nat.zero_le _, fun k k1 k2 => (h5 668 (by decide) (by decide) k).1, fun h hh => absurd hh (Nat.not_lt_zero h)⟩, h4, ⟨h2 6 (by decide), Nat.zero_le _, (fun j s hs => by cases hs)⟩, ⟨h2 10 (by decide), Nat.zero_le _, (fun j c hc => by cases hc)⟩, fun k hk => (h5 672 (by decide) (by decide) k).1, h2 14 (by decide), h3⟩
theorem wI_00 : wI 0 w00 := by
  refine ⟨⟨⟨Nat.zero_le _, fun h hh => absurd hh (Nat.not_lt_zero h)⟩, fun h hh => absurd hh (Nat.not_lt_zero h), 0, 0, rfl, rfl, Nat.le_refl _, Nat.le_refl _, by decide⟩, (fun s hs => by cases hs), Nat.zero_le _, (fun c hc => by cases hc)⟩
/-! each keeps the other -/
theorem LK.lo {s : sS} (h : LK m L s) (hz : zn m' = zn m) (hl : zlo m m') : LK m' L s := by
  obtain ⟨h1, ⟨n1, n2, n3, n4, n5, n6, n7, n8⟩, h3, h4, h5⟩ := h
  have l2 := h1.2.1.2.1
  have hI : ∀ a, a < 667 → zI m' a = zI m a := fun a ha => (hl a ha).1
  have hR : ∀ a, a < 667 → zR m' a = zR m a := fun a ha => (hl a ha).2.1
  refine ⟨h1.of hz (hR _ (by omega)) (hR _ (by omega)) (hR _ (by omega)), ?_, h3, fun k hk => ?_, fun k hk => (h5 k hk).off hz (fun a a1 a2 => hI a (by have := hb_in (L := L) (h := k) (by omega); omega)) (fun a a1 a2 => hR a (by have := hb_in (L := L) (h := k) (by omega); omega))⟩
  · unfold LN
    rw [hI L (by omega), (hl L (by omega)).2.2.2]
    exact ⟨n1, n2, n3, n4, n5, n6, n7, n8⟩
  · obtain ⟨x, hx⟩ := h4 k hk
    exact ⟨x, hx.off hz (fun a a1 a2 => hI a (by have := hb_in (L := L) hk; omega)) (fun a a1 a2 => hR a (by have := hb_in (L := L) hk; omega))⟩
theorem RC.lo {w : sW} (h : RC m w) (hz : zn m' = zn m) (hl : zlo m m') : RC m' w := by
  obtain ⟨⟨f1, f2, f3, f4, f5, f6, f7⟩, h2, ⟨o, y1, y2, y3, y4, y5, y6, y7, y8, y9⟩, ⟨t1, t2, t3, t4, t5, t6, t7, t8⟩⟩ := h
  have hI : ∀ a, a < 667 → zI m' a = zI m a := fun a ha => (hl a ha).1
  have hR : ∀ a, a < 667 → zR m' a = zR m a := fun a ha => (hl a ha).2.1
  refine ⟨⟨hz.trans f1, ?_, ?_, ?_, ?_, ?_, ?_⟩, h2.lo hz hl, ⟨o, hz.trans y1, ?_, ?_, ?_, y5, ?_, y7, fun k hk => ?_, fun i s hs => (y9 i s hs).lo hz hl⟩, hz.trans t1, ?_, ?_, ?_, ?_, t6, ?_, t8⟩
  · rw [hR 2 (by decide)]; exact f2
  · rw [hR 2 (by decide)]; exact f3
  · rw [hR 2 (by decide)]; exact f4
  · rw [hI 2 (by decide)]; exact f5
  · rw [hI 2 (by decide)]; exact f6
  · rw [hI 2 (by decide)]; exact f7
  · rw [hR 97 (by decide)]; exact y2
  · rw [hR 98 (by decide)]; exact y3
  · rw [hI 97 (by decide)]; exact y4
  · rw [hI 97 (by decide)]; exact y6
  · obtain ⟨s, hs⟩ := y8 k hk
    exact ⟨s, hs.lo hz hl⟩
  · rw [hR 663 (by decide)]; exact t2
  · rw [hR 663 (by decide)]; exact t3
  · rw [hR 663 (by decide)]; exact t4
  · rw [hI 663 (by decide)]; exact t5
  · rw [hI 664 (by decide)]; exact t7
theorem RM.out {w : sW} (h : RM m w) (ho : zout 2 667 m m') : RM m' w := by
  obtain ⟨⟨i1, i2, i3, i4, i5, i6, i7, i8, i9⟩, h2, h3, h4, h5, h6, h7, h8⟩ := h
  have hI : ∀ a, 667 ≤ a → zI m' a = zI m a := fun a ha => ho.I (Or.inr ha)
  have hR : zR m' 667 = zR m 667 := ho.R (Or.inr (Nat.le_refl _))
  have hF : ∀ a, 667 ≤ a → zF m' a = zF m a := fun a ha => (ho.2 a (Or.inr ha)).2.2.2
  refine ⟨⟨ho.1.trans i1, ?_, ?_, ?_, ?_, ?_, ?_, ?_, ?_⟩, ?_, ?_, ?_, ?_, ?_, ?_, ?_⟩
  · rw [hR]; exact i2
  · rw [hR]; exact i3
  · rw [hR]; exact i4
  · rw [hR]; exact i5
  · rw [hR]; exact i6
  · rw [hR]; exact i7
  · rw [hR]; exact i8
  · rw [hR]; exact i9
  · rw [hI 668 (by decide)]; exact h2
  · rw [hF 667 (by decide)]; exact h3
  · rw [hI 667 (by decide), hI 669 (by decide), hF 670 (by decide)]; exact h4
  · rw [hI 667 (by decide), hI 674 (by decide)]; exact h5
  · rw [hI 672 (by decide)]; exact h6
  · rw [hI 667 (by decide)]; exact h7
  · rw [hI 667 (by decide)]; exact h8
end
