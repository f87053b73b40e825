/-! ===== the class: a link becomes another ===== -/
section
variable {d : Nat} {Q : Value → zM → Prop} {m m' : zM} {L G h : Nat} {s s0 : sS}
theorem Lbec_ok (hL : LK m L s0) (hG : LK m G s) (hs : sOK s) (hd : L + 94 ≤ G ∨ G + 94 ≤ L) (hk : ∀ m', LK m' L s → zout L (L + 94) m m' → Q .null m') : zC (d + 4) M5_become 0 0 [.ref L, .ref G] m Q := by
  have n6 := hG.n6
  have hne : G ≠ L := by omega
  have loop : ∀ c i m1, s.2.2.1 - i < c → i ≤ s.2.2.1 → zout L (L + 94) m m1 → LR m1 L → zI m1 L 2 = nI s.2.2.1 → (∀ h, h < 6 → ∃ x, HC m1 (hb L h) x) → (∀ h, h < i → HC m1 (hb L h) (s.2.2.2 h)) → zwp (d + 4) M5_become 0 0 Q 10 [.ref L, .ref G, .int (nI i)] [] 0 0 m1 := by
    intro c
    induction c with
    | zero => intro i m1 h1; omega
    | succ c ih =>
      intro i m1 h1 h2 ho hR hn hx hy
      have hG1 : LK m1 G s := hG.out ho (by omega)
      obtain ⟨g1, g2, g3, g4, g5, g6, g7, g8⟩ := hG1.2.1
      refine zr_iload_n dX5_become_10 rfl ?_
      refine zr_aload_n dX5_become_11 rfl ?_
      refine zr_getI dX5_become_12 fd_5_25 rfl (hR.ob rfl) ?_
      rw [hn]
      refine zr_icmp_geN (tgt := 39) dX5_become_15 (by decide) (by omega) (by omega) (fun hc_15 => ?_) (fun hc_15 => ?_)
      · refine zr_aload_n dX5_become_39 rfl ?_
        refine zr_aload_n dX5_become_40 rfl ?_
        refine zr_getI dX5_become_41 fd_5_33 rfl (hG1.1.ob rfl) ?_
        rw [g2]
        refine zr_putI dX5_become_44 fd_5_33 rfl (hR.ob rfl) ?_
        refine zr_aload_n dX5_become_47 rfl ?_
        refine zr_aload_n dX5_become_48 rfl ?_
        refine zr_getI dX5_become_49 fd_5_36 rfl (hG1.1.ob rfl) ?_
        simp only [zI_n _ _ (Or.inl hne), g3]
        refine zr_putI dX5_become_52 fd_5_36 rfl (hR.ob rfl) ?_
        refine zr_aload_n dX5_become_55 rfl ?_
        refine zr_aload_n dX5_become_56 rfl ?_
        refine zr_getI dX5_become_57 fd_5_39 rfl (hG1.1.ob rfl) ?_
        simp only [zI_n _ _ (Or.inl hne), g4]
        refine zr_putI dX5_become_60 fd_5_39 rfl (hR.ob rfl) ?_
        refine zr_aload_n dX5_become_63 rfl ?_
        refine zr_aload_n dX5_become_64 rfl ?_
        refine zr_getI dX5_become_65 fd_5_42 rfl (hG1.1.ob rfl) ?_
        simp only [zI_n _ _ (Or.inl hne), g5]
        refine zr_putI dX5_become_68 fd_5_42 rfl (hR.ob rfl) ?_
        refine zr_aload_n dX5_become_71 rfl ?_
        refine zr_aload_n dX5_become_72 rfl ?_
        refine zr_getI dX5_become_73 fd_5_45 rfl (hG1.1.ob rfl) ?_
        simp only [zI_n _ _ (Or.inl hne), g6]
        refine zr_putI dX5_become_76 fd_5_45 rfl (hR.ob rfl) ?_
        refine zr_aload_n dX5_become_79 rfl ?_
        refine zr_aload_n dX5_become_80 rfl ?_
        refine zr_getI dX5_become_81 fd_5_48 rfl (hG1.1.ob rfl) ?_
        simp only [zI_n _ _ (Or.inl hne), g7]
        refine zr_putI dX5_become_84 fd_5_48 rfl (hR.ob rfl) ?_
        refine zr_aload_n dX5_become_87 rfl ?_
        refine zr_aload_n dX5_become_88 rfl ?_
        refine zr_getF dX5_become_89 fd_5_51 rfl (hG1.1.ob rfl) ?_
        refine zr_putF dX5_become_92 fd_5_51 rfl (hR.ob rfl) ?_
        refine zr_return dX5_become_95 rfl (Nat.le_refl _) (Nat.le_refl _) ?_
        have e : i = s.2.2.1 := by omega
        subst e
        have o3 : zout L (L + 1) m1 (zsF (zsI (zsI (zsI (zsI (zsI (zsI m1 L 3 (s.1 1)) L 4 (s.1 2)) L 5 (s.1 6)) L 6 (s.1 3)) L 7 (s.1 4)) L 8 (s.1 5)) L 9 (zF m1 G 9)) := ((((((zout.sI (by omega) (by omega)).tr (zout.sI (by omega) (by omega))).tr (zout.sI (by omega) (by omega))).tr (zout.sI (by omega) (by omega))).tr (zout.sI (by omega) (by omega))).tr (zout.sI (by omega) (by omega))).tr (zout.sF (by omega) (by omega))
        have hg : ∀ (M : zM) (j k : Nat) (v : Int32), j ≠ k → zI (zsI M L k v) L j = zI M L j := fun M j k v z => zI_n _ _ (Or.inr z)
        have hf : ∀ (M : zM) (j : Nat) (v : UInt32), zI (zsF M L 9 v) L j = zI M L j := fun M j v => rfl
        refine hk _ ⟨hR.of rfl rfl rfl rfl, ⟨?_, ?_, ?_, ?_, ?_, ?_, ?_, ?_⟩, n6, fun h hh => ?_, fun h hh => ?_⟩ (ho.tr (o3.wd (by omega) (by omega)))
        · rw [hf, hg _ _ _ _ (by decide), hg _ _ _ _ (by decide), hg _ _ _ _ (by decide), hg _ _ _ _ (by decide), hg _ _ _ _ (by decide), hg _ _ _ _ (by decide)]; exact hn
        · rw [hf, hg _ _ _ _ (by decide), hg _ _ _ _ (by decide), hg _ _ _ _ (by decide), hg _ _ _ _ (by decide), hg _ _ _ _ (by decide), zI_s]
        · rw [hf, hg _ _ _ _ (by decide), hg _ _ _ _ (by decide), hg _ _ _ _ (by decide), hg _ _ _ _ (by decide), zI_s]
        · rw [hf, hg _ _ _ _ (by decide), hg _ _ _ _ (by decide), hg _ _ _ _ (by decide), zI_s]
        · rw [hf, hg _ _ _ _ (by decide), hg _ _ _ _ (by decide), zI_s]
        · rw [hf, hg _ _ _ _ (by decide), zI_s]
        · rw [hf, zI_s]
        · rw [← g8]; simp [zF, zsF, zu]; rfl
        · obtain ⟨y, y1⟩ := hx h hh
          exact ⟨y, y1.out o3 (by have := hb_in (L := L) hh; omega)⟩
        · exact (hy h hh).out o3 (by have := hb_in (L := L) (h := h) (by omega); omega)
      · obtain ⟨x, hX⟩ := hx i (by omega)
        have hi := hb_in (L := L) (h := i) (by omega)
        have hi2 := hb_in (L := G) (h := i) (by omega)
        refine zr_aload_n dX5_become_18 rfl ?_
        refine zr_getR dX5_become_19 fd_5_11 rfl (hR.ob rfl) hR.2.2.1 (by omega) ?_
        refine zr_iload_n dX5_become_22 rfl ?_
        refine zr_aaloadN dX5_become_23 (hR.ar rfl) (by decide) (by decide) (by omega) (by decide) (hR.2.2.2.2.1 i (by omega)) (by unfold hb; omega) ?_
        refine zr_aload_n dX5_become_24 rfl ?_
        refine zr_getR dX5_become_25 fd_5_11 rfl (hG1.1.ob rfl) hG1.r0 (by omega) ?_
        refine zr_iload_n dX5_become_28 rfl ?_
        refine zr_aaloadN dX5_become_29 (hG1.1.ar rfl) (by decide) (by decide) (by omega) (by decide) (hG1.rh (by omega)) (by unfold hb; omega) ?_
        refine zr_cV1v rfl dX5_become_30 cv_5_29 (hX.ob rfl) (Nat.le_of_ble_eq_true rfl) (Hbec_ok hX (hG1.hc hc_15) (by omega) (hs.2 i hc_15).1 (hs.so hc_15) (fun m2 h2 o2 => ?_))
        refine zr_iincN dX5_become_33 rfl (by decide) rfl ?_
        dsimp only [zset]
        refine zr_goto (tgt := 10) dX5_become_36 (by decide) ?_
        refine ih (i + 1) m2 (by omega) (by omega) (ho.tr (o2.wd (by omega) (by omega))) (hR.of o2.1 (o2.R (by omega)) (o2.R (by omega)) (o2.R (by omega))) (by rw [o2.I (by omega)]; exact hn) (fun h hh => ?_) (fun h hh => ?_)
        · by_cases e : h = i
          · subst e; exact ⟨_, h2⟩
          · obtain ⟨y, y1⟩ := hx h hh
            exact ⟨y, y1.out o2 (hb_ne e)⟩
        · by_cases e : h = i
          · subst e; exact h2
          · exact (hy h (by omega)).out o2 (hb_ne e)
  have ho : zout L (L + 1) m (zsI m L 2 (nI s.2.2.1)) := zout.sI (by omega) (by omega)
  refine zenterP (Or.inl (by decide +kernel)) rfl (fun h => by cases h) (Nat.le_of_ble_eq_true rfl) ?_
  show zwp _ _ _ _ _ 0 [_, _, zU] [] 0 0 _
  refine zr_aload_n dX5_become_0 rfl ?_
  refine zr_aload_n dX5_become_1 rfl ?_
  refine zr_getI dX5_become_2 fd_5_25 rfl (hG.1.ob rfl) ?_
  rw [hG.nh]
  refine zr_putI dX5_become_5 fd_5_25 rfl (hL.1.ob rfl) ?_
  refine zr_iconst (v := nI 0) dX5_become_8 rfl ?_
  refine zr_istore_n dX5_become_9 (by decide) rfl ?_
  dsimp only [zset]
  exact loop _ 0 _ (Nat.lt_succ_self _) (Nat.zero_le _) (ho.wd (by omega) (by omega)) (hL.1.of rfl rfl rfl rfl) (zI_s _ _ _ _) (fun h hh => by
    obtain ⟨x, hx⟩ := hL.2.2.2.1 h hh
    exact ⟨x, hx.out ho (by have := hb_in (L := L) hh; omega)⟩) (fun y hy => absurd hy (Nat.not_lt_zero y))
end
