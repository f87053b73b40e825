/-! ===== the class LinkNames: questions, text, why, back, told ===== -/
section
variable {d : Nat} {Q : Value → zM → Prop} {m m' : zM} {w : sW} {s : sS} {c v : Int32}
theorem qa_w {ok : Bool} (hne : ok = true → ¬ oE v) : qa ok v = (wask w ok v).1 ∧ (if oEb (qa ok v) then wref w (qa ok v) else w) = (wask w ok v).2 := by
  cases ok
  · exact ⟨rfl, rfl⟩
  · refine ⟨rfl, ?_⟩
    show (if oEb v = true then wref w v else w) = w
    rw [if_neg (fun z => hne rfl (oEb_iff.mp z))]
theorem Cask_fin {ok : Bool} (hR : RC m w) (hne : ok = true → ¬ oE v) (hk : ∀ m', RC m' (wask w ok v).2 → zout 2 667 m m' → Q (.int (wask w ok v).1) m') : zC (d + 1) M8_counted 0 0 [.ref 2, .int (qa ok v)] m Q := by
  obtain ⟨e1, e2⟩ := qa_w (w := w) hne
  refine Ccounted_ok hR (fun m' r o => ?_)
  rw [e2] at r
  rw [e1]
  exact hk m' r o
theorem record_c {h r k : Int32} (hR : RC m w) (hs : sOK w.1) (hne : (sisR w.1 h r && sin k 0 7) = true → ¬ oE (srecth w.1 (hN h) (hN r) (hN k))) (hk : ∀ m', RC m' (wrecord w h r k).2 → zout 2 667 m m' → Q (.int (wrecord w h r k).1) m') : zC (d + 5) M8_record 0 0 [.ref 2, .int h, .int r, .int k] m Q := by
  refine zenterP (Or.inl (by decide +kernel)) rfl (fun h => by cases h) (Nat.le_of_ble_eq_true rfl) ?_
  show zwp _ _ _ _ _ 0 [_, _, _, _] [] 0 0 _
  refine zr_aload_n dX8_record_0 rfl ?_
  refine zr_aload_n dX8_record_1 rfl ?_
  refine zr_getR dX8_record_2 fd_8_12 rfl (hR.1.ob rfl) hR.link (by decide) ?_
  refine zr_iload_n dX8_record_5 rfl ?_
  refine zr_iload_n dX8_record_6 rfl ?_
  refine zr_iload_n dX8_record_7 rfl ?_
  refine zr_cV3 rfl dX8_record_8 cv_8_57 (hR.2.1.1.ob rfl) (Nat.le_of_ble_eq_true rfl) (recordProperty_ok hR.2.1 hs ?_)
  refine zr_cV1 rfl dX8_record_11 cv_8_61 (hR.1.ob rfl) (Nat.le_of_ble_eq_true rfl) (Cask_fin hR hne (fun m3 r3 o3 => ?_))
  refine zr_ireturn dX8_record_14 rfl (Nat.le_refl _) (Nat.le_refl _) ?_
  exact hk m3 r3 o3
theorem of_c {h k : Int32} (hR : RC m w) (hs : sOK w.1) (hne : (sisH w.1 h && sin k 0 5) = true → ¬ oE (sof w.1 (hN h) (hN k))) (hk : ∀ m', RC m' (wof w h k).2 → zout 2 667 m m' → Q (.int (wof w h k).1) m') : zC (d + 4) M8_of 0 0 [.ref 2, .int h, .int k] m Q := by
  refine zenterP (Or.inl (by decide +kernel)) rfl (fun h => by cases h) (Nat.le_of_ble_eq_true rfl) ?_
  show zwp _ _ _ _ _ 0 [_, _, _] [] 0 0 _
  refine zr_aload_n dX8_of_0 rfl ?_
  refine zr_aload_n dX8_of_1 rfl ?_
  refine zr_getR dX8_of_2 fd_8_12 rfl (hR.1.ob rfl) hR.link (by decide) ?_
  refine zr_iload_n dX8_of_5 rfl ?_
  refine zr_iload_n dX8_of_6 rfl ?_
  refine zr_cV2 rfl dX8_of_7 cv_8_64 (hR.2.1.1.ob rfl) (Nat.le_of_ble_eq_true rfl) (hostProperty_ok hR.2.1 hs ?_)
  refine zr_cV1 rfl dX8_of_10 cv_8_61 (hR.1.ob rfl) (Nat.le_of_ble_eq_true rfl) (Cask_fin hR hne (fun m3 r3 o3 => ?_))
  refine zr_ireturn dX8_of_13 rfl (Nat.le_refl _) (Nat.le_refl _) ?_
  exact hk m3 r3 o3
theorem entry_c {h i k : Int32} (hR : RC m w) (hs : sOK w.1) (hne : (sisH w.1 h && (decide (0 ≤ i) && sin k 0 4)) = true → ¬ oE (if i < nI (w.1.2.2.2 (hN h)).2.2.2.length then sentr w.1 (hN h) (hN i) (hN k) else -1)) (hk : ∀ m', RC m' (wentry w h i k).2 → zout 2 667 m m' → Q (.int (wentry w h i k).1) m') : zC (d + 3) M8_entry 0 0 [.ref 2, .int h, .int i, .int k] m Q := by
  refine zenterP (Or.inl (by decide +kernel)) rfl (fun h => by cases h) (Nat.le_of_ble_eq_true rfl) ?_
  show zwp _ _ _ _ _ 0 [_, _, _, _] [] 0 0 _
  refine zr_aload_n dX8_entry_0 rfl ?_
  refine zr_aload_n dX8_entry_1 rfl ?_
  refine zr_getR dX8_entry_2 fd_8_12 rfl (hR.1.ob rfl) hR.link (by decide) ?_
  refine zr_iload_n dX8_entry_5 rfl ?_
  refine zr_iload_n dX8_entry_6 rfl ?_
  refine zr_iload_n dX8_entry_7 rfl ?_
  refine zr_cV3 rfl dX8_entry_8 cv_8_81 (hR.2.1.1.ob rfl) (Nat.le_of_ble_eq_true rfl) (entryProperty_ok hR.2.1 ?_)
  refine zr_cV1 rfl dX8_entry_11 cv_8_61 (hR.1.ob rfl) (Nat.le_of_ble_eq_true rfl) (Cask_fin hR hne (fun m3 r3 o3 => ?_))
  refine zr_ireturn dX8_entry_14 rfl (Nat.le_refl _) (Nat.le_refl _) ?_
  exact hk m3 r3 o3
theorem finds_c {h n q k : Int32} (hR : RC m w) (hs : sOK w.1) (hne : (sisH w.1 h && (sisN n q && sin k 0 2)) = true → ¬ oE (sfinds w.1 (hN h) n q (hN k))) (hk : ∀ m', RC m' (wfinds w h n q k).2 → zout 2 667 m m' → Q (.int (wfinds w h n q k).1) m') : zC (d + 4) M8_finds 0 0 [.ref 2, .int h, .int n, .int q, .int k] m Q := by
  refine zenterP (Or.inl (by decide +kernel)) rfl (fun h => by cases h) (Nat.le_of_ble_eq_true rfl) ?_
  show zwp _ _ _ _ _ 0 [_, _, _, _, _] [] 0 0 _
  refine zr_aload_n dX8_finds_0 rfl ?_
  refine zr_aload_n dX8_finds_1 rfl ?_
  refine zr_getR dX8_finds_2 fd_8_12 rfl (hR.1.ob rfl) hR.link (by decide) ?_
  refine zr_iload_n dX8_finds_5 rfl ?_
  refine zr_iload_n dX8_finds_6 rfl ?_
  refine zr_iload_n dX8_finds_7 rfl ?_
  refine zr_iload dX8_finds_8 rfl ?_
  refine zr_cV4 rfl dX8_finds_10 cv_8_84 (hR.2.1.1.ob rfl) (Nat.le_of_ble_eq_true rfl) (lookUp_ok hR.2.1 ?_)
  refine zr_cV1 rfl dX8_finds_13 cv_8_61 (hR.1.ob rfl) (Nat.le_of_ble_eq_true rfl) (Cask_fin hR hne (fun m3 r3 o3 => ?_))
  refine zr_ireturn dX8_finds_16 rfl (Nat.le_refl _) (Nat.le_refl _) ?_
  exact hk m3 r3 o3
theorem owner_c {n q k : Int32} (hR : RC m w) (hs : sOK w.1) (hne : (sisN n q && sin k 0 2) = true → ¬ oE (sowner w.1 n q (hN k))) (hk : ∀ m', RC m' (wowner w n q k).2 → zout 2 667 m m' → Q (.int (wowner w n q k).1) m') : zC (d + 6) M8_owner 0 0 [.ref 2, .int n, .int q, .int k] m Q := by
  refine zenterP (Or.inl (by decide +kernel)) rfl (fun h => by cases h) (Nat.le_of_ble_eq_true rfl) ?_
  show zwp _ _ _ _ _ 0 [_, _, _, _] [] 0 0 _
  refine zr_aload_n dX8_owner_0 rfl ?_
  refine zr_aload_n dX8_owner_1 rfl ?_
  refine zr_getR dX8_owner_2 fd_8_12 rfl (hR.1.ob rfl) hR.link (by decide) ?_
  refine zr_iload_n dX8_owner_5 rfl ?_
  refine zr_iload_n dX8_owner_6 rfl ?_
  refine zr_iload_n dX8_owner_7 rfl ?_
  refine zr_cV3 rfl dX8_owner_8 cv_8_88 (hR.2.1.1.ob rfl) (Nat.le_of_ble_eq_true rfl) (defender_ok hR.2.1 hs ?_)
  refine zr_cV1 rfl dX8_owner_11 cv_8_61 (hR.1.ob rfl) (Nat.le_of_ble_eq_true rfl) (Cask_fin hR hne (fun m3 r3 o3 => ?_))
  refine zr_ireturn dX8_owner_14 rfl (Nat.le_refl _) (Nat.le_refl _) ?_
  exact hk m3 r3 o3
theorem all_c {k : Int32} (hR : RC m w) (hs : sOK w.1) (hne : (sin k 0 3) = true → ¬ oE (sall w.1 (hN k) w.1.2.2.1)) (hk : ∀ m', RC m' (wall w k).2 → zout 2 667 m m' → Q (.int (wall w k).1) m') : zC (d + 6) M8_all 0 0 [.ref 2, .int k] m Q := by
  refine zenterP (Or.inl (by decide +kernel)) rfl (fun h => by cases h) (Nat.le_of_ble_eq_true rfl) ?_
  show zwp _ _ _ _ _ 0 [_, _] [] 0 0 _
  refine zr_aload_n dX8_all_0 rfl ?_
  refine zr_aload_n dX8_all_1 rfl ?_
  refine zr_getR dX8_all_2 fd_8_12 rfl (hR.1.ob rfl) hR.link (by decide) ?_
  refine zr_iload_n dX8_all_5 rfl ?_
  refine zr_cV1 rfl dX8_all_6 cv_8_91 (hR.2.1.1.ob rfl) (Nat.le_of_ble_eq_true rfl) (total_ok hR.2.1 hs ?_)
  refine zr_cV1 rfl dX8_all_9 cv_8_61 (hR.1.ob rfl) (Nat.le_of_ble_eq_true rfl) (Cask_fin hR hne (fun m3 r3 o3 => ?_))
  refine zr_ireturn dX8_all_12 rfl (Nat.le_refl _) (Nat.le_refl _) ?_
  exact hk m3 r3 o3
theorem type_c {c : Int32} (hR : RC m w) (hk : ∀ m', RC m' (wtype w c).2 → zout 2 667 m m' → Q (.int (wtype w c).1) m') : zC (d + 3) M8_type 0 0 [.ref 2, .int c] m Q := by
  have fin : ∀ v m1 w1, zout 2 667 m m1 → RC m1 w1 → v = (wtype w c).1 → (if oEb v then wref w1 v else w1) = (wtype w c).2 → zwp (d + 3) M8_type 0 0 Q 9 [.ref 2, .int c] [.int v, .ref 2] 0 0 m1 := by
    intro v m1 w1 z1 r1 e1 e2
    refine zr_cV1 rfl dX8_type_9 cv_8_61 (r1.1.ob rfl) (Nat.le_of_ble_eq_true rfl) (Ccounted_ok r1 (fun m3 r3 o3 => ?_))
    refine zr_ireturn dX8_type_12 rfl (Nat.le_refl _) (Nat.le_refl _) ?_
    rw [e2] at r3
    rw [e1]
    exact hk m3 r3 (z1.tr o3)
  have hT := hR.2.2.2
  have fin1 : sin c 0 127 = false → zwp (d + 3) M8_type 0 0 Q 9 [.ref 2, .int c] [.int (-2), .ref 2] 0 0 m := fun e => fin _ m w zout.rf hR (by unfold wtype; rw [e]; rfl) (by unfold wtype; rw [e]; rfl)
  have fin2 : sin c 0 127 = true → w.2.2.1.length = 120 → zwp (d + 3) M8_type 0 0 Q 9 [.ref 2, .int c] [.int (-4), .ref 2] 0 0 m := fun e e2 => fin _ m w zout.rf hR (by unfold wtype; rw [if_pos e, if_pos e2]) (by unfold wtype; rw [if_pos e, if_pos e2]; rfl)
  have fin3 : sin c 0 127 = true → w.2.2.1.length ≠ 120 → ∀ m1, TX m1 (w.2.2.1 ++ [c]) → zout 663 667 m m1 → zwp (d + 3) M8_type 0 0 Q 9 [.ref 2, .int c] [.int (nI (w.2.2.1.length + 1)), .ref 2] 0 0 m1 := by
    intro e e2 m1 t1 z1
    obtain ⟨h1, h2, ⟨o, h3⟩, h4⟩ := hR
    have e3 : wtype w c = (nI (w.2.2.1.length + 1), (w.1, w.2.1, w.2.2.1 ++ [c], w.2.2.2)) := by unfold wtype; rw [if_pos e, if_neg e2]
    refine fin _ m1 (w.1, w.2.1, w.2.2.1 ++ [c], w.2.2.2) (z1.wd (by omega) (by omega)) ⟨h1.out z1 (by omega), h2.out z1 (by omega), ⟨o, h3.out z1 (by omega)⟩, t1⟩ (by rw [e3]) ?_
    rw [e3, if_neg]
    intro z
    have h6 := hT.2.2.2.2.2.1
    rcases oEb_iff.mp z with z | z | z
    · exact absurd (z.symm ▸ nI_pos' (show w.2.2.1.length + 1 < 2 ^ 31 by omega)) (by decide)
    · exact absurd (z.symm ▸ nI_pos' (show w.2.2.1.length + 1 < 2 ^ 31 by omega)) (by decide)
    · exact absurd (z.symm ▸ nI_pos' (show w.2.2.1.length + 1 < 2 ^ 31 by omega)) (by decide)
  refine zenterP (Or.inl (by decide +kernel)) rfl (fun h => by cases h) (Nat.le_of_ble_eq_true rfl) ?_
  show zwp _ _ _ _ _ 0 [_, _] [] 0 0 _
  refine zr_aload_n dX8_type_0 rfl ?_
  refine zr_aload_n dX8_type_1 rfl ?_
  refine zr_getR dX8_type_2 fd_8_26 rfl (hR.1.ob rfl) hR.text (by decide) ?_
  refine zr_iload_n dX8_type_5 rfl ?_
  refine zr_cV1 rfl dX8_type_6 cv_8_100 (hT.ob rfl) (Nat.le_of_ble_eq_true rfl) (append_ok hT fin1 fin2 fin3)
  skip
theorem TX.clr (hT : TX m w.2.2.1) : TX (zsI m 663 1 (nI 0)) [] := by
  obtain ⟨h1, h2, h3, h4, h5, h6, h7, h8⟩ := hT
  exact ⟨h1, h2, h3, h4, zI_s _ _ _ _, Nat.zero_le _, (fun i c hi => by cases hi), (fun c hc => by cases hc)⟩
theorem clear_c (hR : RC m w) (hk : ∀ m', RC m' (wclear w).2 → zout 2 667 m m' → Q (.int (wclear w).1) m') : zC (d + 1) M8_clear 0 0 [.ref 2] m Q := by
  have hT := hR.2.2.2
  refine zenterP (Or.inl (by decide +kernel)) rfl (fun h => by cases h) (Nat.le_of_ble_eq_true rfl) ?_
  show zwp _ _ _ _ _ 0 [_, zU] [] 0 0 _
  refine zr_aload_n dX8_clear_0 rfl ?_
  refine zr_getR dX8_clear_1 fd_8_26 rfl (hR.1.ob rfl) hR.text (by decide) ?_
  refine zr_getI dX8_clear_4 fd_8_103 rfl (hT.ob rfl) ?_
  rw [hT.2.2.2.2.1]
  refine zr_istore_n dX8_clear_7 (by decide) rfl ?_
  dsimp only [zset]
  refine zr_aload_n dX8_clear_8 rfl ?_
  refine zr_getR dX8_clear_9 fd_8_26 rfl (hR.1.ob rfl) hR.text (by decide) ?_
  refine zr_iconst (v := nI 0) dX8_clear_12 rfl ?_
  refine zr_putI dX8_clear_13 fd_8_103 rfl (hT.ob rfl) ?_
  refine zr_iload_n dX8_clear_16 rfl ?_
  refine zr_ireturn dX8_clear_17 rfl (Nat.le_refl _) (Nat.le_refl _) ?_
  obtain ⟨h1, h2, ⟨o, h3⟩, h4⟩ := hR
  have z1 : zout 663 667 m (zsI m 663 1 (nI 0)) := zout.sI (by omega) (by omega)
  exact hk _ ⟨h1.out z1 (by omega), h2.out z1 (by omega), ⟨o, h3.out z1 (by omega)⟩, hT.clr⟩ (z1.wd (by omega) (by omega))
theorem why_c {k : Int32} (hR : RC m w) (hk : ∀ m', RC m' (wwhy w k).2 → zout 2 667 m m' → Q (.int (wwhy w k).1) m') : zC (d + 1) M8_why 0 0 [.ref 2, .int k] m Q := by
  obtain ⟨-, -, -, -, h5, h6, h7⟩ := hR.1
  have f0 : zI m 2 3 = w.2.2.2.1 0 := h5 0 (by decide)
  unfold wwhy at hk
  by_cases k0 : k = nI 0
  · subst k0
    refine zenterP (Or.inl (by decide +kernel)) rfl (fun h => by cases h) (Nat.le_of_ble_eq_true rfl) ?_
    show zwp _ _ _ _ _ 0 [_, _] [] 0 0 _
    refine zr_iload_n dX8_why_0 rfl ?_
    refine zr_lookup (off := 27) (tgt := 28) dX8_why_1 (by decide) (by decide) (by decide) ?_
    refine zr_aload_n dX8_why_28 rfl ?_
    refine zr_getI dX8_why_29 fd_8_122 rfl (hR.1.ob rfl) ?_
    rw [h6]
    refine zr_ireturn dX8_why_32 rfl (Nat.le_refl _) (Nat.le_refl _) ?_
    exact hk m hR zout.rf
  by_cases k1 : k = nI 1
  · subst k1
    refine zenterP (Or.inl (by decide +kernel)) rfl (fun h => by cases h) (Nat.le_of_ble_eq_true rfl) ?_
    show zwp _ _ _ _ _ 0 [_, _] [] 0 0 _
    refine zr_iload_n dX8_why_0 rfl ?_
    refine zr_lookup (off := 32) (tgt := 33) dX8_why_1 (by decide) (by decide) (by decide) ?_
    refine zr_aload_n dX8_why_33 rfl ?_
    refine zr_getI dX8_why_34 fd_8_30 rfl (hR.1.ob rfl) ?_
    rw [h7]
    refine zr_ireturn dX8_why_37 rfl (Nat.le_refl _) (Nat.le_refl _) ?_
    exact hk m hR zout.rf
  have e0 : sin k 0 1 = false := by
    cases z : sin k 0 1
    · rfl
    · obtain ⟨j, j1, j2, j3⟩ := sin_of (a := 0) (b := 1) z rfl rfl (by decide) (by decide)
      rcases (show j = 0 ∨ j = 1 by omega) with rfl | rfl
      · exact absurd j3 k0
      · exact absurd j3 k1
  rw [if_neg (by rw [e0]; decide)] at hk
  have e1 : ¬ k.toInt = 0 := fun z => k0 (Int32.toInt_inj.mp z)
  have e2 : ¬ k.toInt = 1 := fun z => k1 (Int32.toInt_inj.mp z)
  refine zenterP (Or.inl (by decide +kernel)) rfl (fun h => by cases h) (Nat.le_of_ble_eq_true rfl) ?_
  show zwp _ _ _ _ _ 0 [_, _] [] 0 0 _
  refine zr_iload_n dX8_why_0 rfl ?_
  refine zr_lookup (off := 37) (tgt := 38) dX8_why_1 (by decide) (by simp [Op.lookupswitch.offset, e1, e2, Ne.symm e1, Ne.symm e2]) (by decide) ?_
  refine zr_aload_n dX8_why_38 rfl ?_
  refine zr_dup dX8_why_39 rfl ?_
  refine zr_getI dX8_why_40 fd_8_128 rfl (hR.1.ob rfl) ?_
  rw [f0]
  refine zr_iconst (v := nI 1) dX8_why_43 rfl ?_
  refine zr_iadd dX8_why_44 ?_
  refine zr_putI dX8_why_45 fd_8_128 rfl (hR.1.ob rfl) ?_
  refine zr_bipush (v := -10) dX8_why_48 rfl ?_
  refine zr_ireturn dX8_why_50 rfl (Nat.le_refl _) (Nat.le_refl _) ?_
  exact hk _ (hR.cnt (k := 0) (by decide)) (zout.sI (by omega) (by omega))
theorem back_c (hR : RC m w) (hs : ∀ s ∈ w.2.1, sOK s) (hk : ∀ m', RC m' (wback w).2 → zout 2 667 m m' → Q (.int (wback w).1) m') : zC (d + 7) M8_back 0 0 [.ref 2] m Q := by
  have fin : ∀ v m1 w1, zout 2 667 m m1 → RC m1 w1 → v = (wback w).1 → (if oEb v then wref w1 v else w1) = (wback w).2 → zwp (d + 7) M8_back 0 0 Q 12 [.ref 2] [.int v, .ref 2] 0 0 m1 := by
    intro v m1 w1 z1 r1 e1 e2
    refine zr_cV1 rfl dX8_back_12 cv_8_61 (r1.1.ob rfl) (Nat.le_of_ble_eq_true rfl) (Ccounted_ok r1 (fun m3 r3 o3 => ?_))
    refine zr_ireturn dX8_back_15 rfl (Nat.le_refl _) (Nat.le_refl _) ?_
    rw [e2] at r3
    rw [e1]
    exact hk m3 r3 (z1.tr o3)
  obtain ⟨h1, h2, ⟨o, h3⟩, h4⟩ := hR
  have h7 := h3.2.2.2.2.2.2.1
  have fin1 : w.2.1.length = 0 → zwp (d + 7) M8_back 0 0 Q 12 [.ref 2] [.int (-3), .ref 2] 0 0 m := fun e => fin _ m w zout.rf ⟨h1, h2, ⟨o, h3⟩, h4⟩ (by unfold wback; rw [if_pos e]) (by unfold wback; rw [if_pos e]; rfl)
  have fin2 : w.2.1.length ≠ 0 → ∀ m1, HY m1 o w.2.1.dropLast → LK m1 3 (w.2.1.getLastD w.1) → zout 3 98 m m1 → zwp (d + 7) M8_back 0 0 Q 12 [.ref 2] [.int (nI (w.2.1.length - 1)), .ref 2] 0 0 m1 := by
    intro e m1 y1 l1 z1
    have e3 : wback w = (nI (w.2.1.length - 1), (w.2.1.getLastD w.1, w.2.1.dropLast, w.2.2)) := by unfold wback; rw [if_neg e]
    refine fin _ m1 (w.2.1.getLastD w.1, w.2.1.dropLast, w.2.2) (z1.wd (by omega) (by omega)) ⟨h1.out z1 (by omega), l1, ⟨o, y1⟩, h4.out z1 (by omega)⟩ (by rw [e3]) ?_
    rw [e3, if_neg]
    intro z
    rcases oEb_iff.mp z with z | z | z
    · exact absurd (z.symm ▸ nI_pos' (show w.2.1.length - 1 < 2 ^ 31 by omega)) (by decide)
    · exact absurd (z.symm ▸ nI_pos' (show w.2.1.length - 1 < 2 ^ 31 by omega)) (by decide)
    · exact absurd (z.symm ▸ nI_pos' (show w.2.1.length - 1 < 2 ^ 31 by omega)) (by decide)
  refine zenterP (Or.inl (by decide +kernel)) rfl (fun h => by cases h) (Nat.le_of_ble_eq_true rfl) ?_
  show zwp _ _ _ _ _ 0 [_] [] 0 0 _
  refine zr_aload_n dX8_back_0 rfl ?_
  refine zr_aload_n dX8_back_1 rfl ?_
  refine zr_getR dX8_back_2 fd_8_19 rfl (h1.ob rfl) h1.2.2.1 (by decide) ?_
  refine zr_aload_n dX8_back_5 rfl ?_
  refine zr_getR dX8_back_6 fd_8_12 rfl (h1.ob rfl) h1.2.1 (by decide) ?_
  refine zr_cV1 rfl dX8_back_9 cv_8_131 (h3.ob rfl) (Nat.le_of_ble_eq_true rfl) (goBack_ok h3 h2 hs fin1 fin2)
  skip
theorem told_c {k : Int32} (hR : RC m w) (hk : ∀ m', RC m' (wtold w k).2 → zout 2 667 m m' → Q (.int (wtold w k).1) m') : zC (d + 2) M8_told 0 0 [.ref 2, .int k] m Q := by
  obtain ⟨h1, h2, ⟨o, h3⟩, h4⟩ := hR
  obtain ⟨-, -, -, -, h5, h6, h7⟩ := id h1
  obtain ⟨g1, g2, g3, g4, g5, g6, g7, g8⟩ := id h2.2.1
  have hR : RC m w := ⟨h1, h2, ⟨o, h3⟩, h4⟩
  unfold wtold at hk
  refine zenterP (Or.inl (by decide +kernel)) rfl (fun h => by cases h) (Nat.le_of_ble_eq_true rfl) ?_
  show zwp _ _ _ _ _ 0 [_, _] [] 0 0 _
  refine zr_iload_n dX8_told_0 rfl ?_
  rcases sw_of (hi := 10) k 10 rfl (by decide) with ⟨j_1, j1_1, rfl, hs_1⟩ | ⟨hs_1, ho_1⟩
  · rcases (show j_1 = 0 ∨ j_1 = 1 ∨ j_1 = 2 ∨ j_1 = 3 ∨ j_1 = 4 ∨ j_1 = 5 ∨ j_1 = 6 ∨ j_1 = 7 ∨ j_1 = 8 ∨ j_1 = 9 ∨ j_1 = 10 by omega) with rfl | rfl | rfl | rfl | rfl | rfl | rfl | rfl | rfl | rfl | rfl
    · rw [wask_t hs_1] at hk
      refine zr_tableIn (off := 59) (tgt := 60) dX8_told_1 (by decide) (by decide) rfl (by decide) ?_
      refine zr_aload_n dX8_told_60 rfl ?_
      refine zr_getI dX8_told_61 fd_8_128 rfl (h1.ob rfl) ?_
      rw [show zI m 2 3 = w.2.2.2.1 0 from h5 0 (by decide)]
      refine zr_ireturn dX8_told_64 rfl (Nat.le_refl _) (Nat.le_refl _) ?_
      exact hk m hR zout.rf
    · rw [wask_t hs_1] at hk
      refine zr_tableIn (off := 64) (tgt := 65) dX8_told_1 (by decide) (by decide) rfl (by decide) ?_
      refine zr_aload_n dX8_told_65 rfl ?_
      refine zr_getI dX8_told_66 fd_8_135 rfl (h1.ob rfl) ?_
      rw [show zI m 2 4 = w.2.2.2.1 1 from h5 1 (by decide)]
      refine zr_ireturn dX8_told_69 rfl (Nat.le_refl _) (Nat.le_refl _) ?_
      exact hk m hR zout.rf
    · rw [wask_t hs_1] at hk
      refine zr_tableIn (off := 69) (tgt := 70) dX8_told_1 (by decide) (by decide) rfl (by decide) ?_
      refine zr_aload_n dX8_told_70 rfl ?_
      refine zr_getI dX8_told_71 fd_8_138 rfl (h1.ob rfl) ?_
      rw [show zI m 2 5 = w.2.2.2.1 2 from h5 2 (by decide)]
      refine zr_ireturn dX8_told_74 rfl (Nat.le_refl _) (Nat.le_refl _) ?_
      exact hk m hR zout.rf
    · rw [wask_t hs_1] at hk
      refine zr_tableIn (off := 74) (tgt := 75) dX8_told_1 (by decide) (by decide) rfl (by decide) ?_
      refine zr_aload_n dX8_told_75 rfl ?_
      refine zr_getR dX8_told_76 fd_8_26 rfl (h1.ob rfl) h1.2.2.2.1 (by decide) ?_
      refine zr_getI dX8_told_79 fd_8_103 rfl (h4.ob rfl) ?_
      rw [h4.2.2.2.2.1]
      refine zr_ireturn dX8_told_82 rfl (Nat.le_refl _) (Nat.le_refl _) ?_
      exact hk m hR zout.rf
    · rw [wask_t hs_1] at hk
      refine zr_tableIn (off := 82) (tgt := 83) dX8_told_1 (by decide) (by decide) rfl (by decide) ?_
      refine zr_aload_n dX8_told_83 rfl ?_
      refine zr_getR dX8_told_84 fd_8_12 rfl (h1.ob rfl) h1.2.1 (by decide) ?_
      refine zr_getI dX8_told_87 fd_8_141 rfl (h2.1.ob rfl) ?_
      rw [g1]
      refine zr_ireturn dX8_told_90 rfl (Nat.le_refl _) (Nat.le_refl _) ?_
      exact hk m hR zout.rf
    · rw [wask_t hs_1] at hk
      refine zr_tableIn (off := 90) (tgt := 91) dX8_told_1 (by decide) (by decide) rfl (by decide) ?_
      refine zr_aload_n dX8_told_91 rfl ?_
      refine zr_getR dX8_told_92 fd_8_12 rfl (h1.ob rfl) h1.2.1 (by decide) ?_
      refine zr_getI dX8_told_95 fd_8_144 rfl (h2.1.ob rfl) ?_
      rw [g2]
      refine zr_ireturn dX8_told_98 rfl (Nat.le_refl _) (Nat.le_refl _) ?_
      exact hk m hR zout.rf
    · rw [wask_t hs_1] at hk
      refine zr_tableIn (off := 98) (tgt := 99) dX8_told_1 (by decide) (by decide) rfl (by decide) ?_
      refine zr_aload_n dX8_told_99 rfl ?_
      refine zr_getR dX8_told_100 fd_8_12 rfl (h1.ob rfl) h1.2.1 (by decide) ?_
      refine zr_getI dX8_told_103 fd_8_147 rfl (h2.1.ob rfl) ?_
      rw [g3]
      refine zr_ireturn dX8_told_106 rfl (Nat.le_refl _) (Nat.le_refl _) ?_
      exact hk m hR zout.rf
    · rw [wask_t hs_1] at hk
      refine zr_tableIn (off := 106) (tgt := 107) dX8_told_1 (by decide) (by decide) rfl (by decide) ?_
      refine zr_aload_n dX8_told_107 rfl ?_
      refine zr_getR dX8_told_108 fd_8_12 rfl (h1.ob rfl) h1.2.1 (by decide) ?_
      refine zr_getI dX8_told_111 fd_8_150 rfl (h2.1.ob rfl) ?_
      rw [g5]
      refine zr_ireturn dX8_told_114 rfl (Nat.le_refl _) (Nat.le_refl _) ?_
      exact hk m hR zout.rf
    · rw [wask_t hs_1] at hk
      refine zr_tableIn (off := 114) (tgt := 115) dX8_told_1 (by decide) (by decide) rfl (by decide) ?_
      refine zr_aload_n dX8_told_115 rfl ?_
      refine zr_getR dX8_told_116 fd_8_12 rfl (h1.ob rfl) h1.2.1 (by decide) ?_
      refine zr_getI dX8_told_119 fd_8_153 rfl (h2.1.ob rfl) ?_
      rw [g6]
      refine zr_ireturn dX8_told_122 rfl (Nat.le_refl _) (Nat.le_refl _) ?_
      exact hk m hR zout.rf
    · rw [wask_t hs_1] at hk
      refine zr_tableIn (off := 122) (tgt := 123) dX8_told_1 (by decide) (by decide) rfl (by decide) ?_
      refine zr_aload_n dX8_told_123 rfl ?_
      refine zr_getR dX8_told_124 fd_8_12 rfl (h1.ob rfl) h1.2.1 (by decide) ?_
      refine zr_getI dX8_told_127 fd_8_156 rfl (h2.1.ob rfl) ?_
      rw [g7]
      refine zr_ireturn dX8_told_130 rfl (Nat.le_refl _) (Nat.le_refl _) ?_
      exact hk m hR zout.rf
    · rw [wask_t hs_1] at hk
      refine zr_tableIn (off := 130) (tgt := 131) dX8_told_1 (by decide) (by decide) rfl (by decide) ?_
      refine zr_aload_n dX8_told_131 rfl ?_
      refine zr_getR dX8_told_132 fd_8_19 rfl (h1.ob rfl) h1.2.2.1 (by decide) ?_
      refine zr_getI dX8_told_135 fd_8_159 rfl (h3.ob rfl) ?_
      rw [h3.2.2.2.2.2.1]
      refine zr_ireturn dX8_told_138 rfl (Nat.le_refl _) (Nat.le_refl _) ?_
      exact hk m hR zout.rf
  · rw [wask_f hs_1] at hk
    refine zr_tableOut (tgt := 139) dX8_told_1 ho_1 (by decide) ?_
    refine zr_aload_n dX8_told_139 rfl ?_
    refine zr_bipush (v := -2) dX8_told_140 rfl ?_
    refine zr_cV1 rfl dX8_told_142 cv_8_61 (h1.ob rfl) (Nat.le_of_ble_eq_true rfl) (Ccounted_ok hR (fun m3 r3 o3 => ?_))
    refine zr_ireturn dX8_told_145 rfl (Nat.le_refl _) (Nat.le_refl _) ?_
    exact hk m3 r3 o3
end
