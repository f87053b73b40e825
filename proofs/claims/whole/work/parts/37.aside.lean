/-! ===== the reference: aside ===== -/
section
variable {d : Nat} {Q : Value → zM → Prop} {m : zM} {w : sW} {s : sS}
theorem setsAside_ok (hM : MI m) (hk : Q .null (zsF (zrow m 671 (cpy (zI m 671) (zI m 668) 0 0 424)) 667 5 (zF m 667 1))) : zC (d + 1) M9_setsAside 0 0 [.ref 667] m Q := by
  have loop : ∀ c i, 424 - i < c → i ≤ 424 → zwp (d + 1) M9_setsAside 0 0 Q 2 [.ref 667, .int (nI i)] [] 0 0 (zrow m 671 (cpy (zI m 671) (zI m 668) 0 0 i)) := by
    intro c
    induction c with
    | zero => intro i h1; omega
    | succ c ih =>
      intro i h1 h2
      refine zr_iload_n dX9_setsAside_2 rfl ?_
      refine zr_sipush (v := nI 424) dX9_setsAside_3 rfl ?_
      refine zr_icmp_geN (tgt := 27) dX9_setsAside_6 (by decide) (by omega) (by omega) (fun hc_6 => ?_) (fun hc_6 => ?_)
      · refine zr_aload_n dX9_setsAside_27 rfl ?_
        refine zr_aload_n dX9_setsAside_28 rfl ?_
        refine zr_getF dX9_setsAside_29 fd_9_43 rfl (MI.ob hM ⟨rfl, rfl⟩) ?_
        refine zr_putF dX9_setsAside_32 fd_9_276 rfl (MI.ob hM ⟨rfl, rfl⟩) ?_
        refine zr_return dX9_setsAside_35 rfl (Nat.le_refl _) (Nat.le_refl _) ?_
        have e : i = 424 := by omega
        subst e
        exact hk
      · refine zr_aload_n dX9_setsAside_9 rfl ?_
        refine zr_getR dX9_setsAside_10 fd_9_20 rfl (MI.ob hM ⟨rfl, rfl⟩) (MI.r4 hM ⟨rfl, rfl⟩) (by decide) ?_
        refine zr_iload_n dX9_setsAside_13 rfl ?_
        refine zr_aload_n dX9_setsAside_14 rfl ?_
        refine zr_getR dX9_setsAside_15 fd_9_7 rfl (MI.ob hM ⟨rfl, rfl⟩) (MI.r0 hM ⟨rfl, rfl⟩) (by decide) ?_
        refine zr_iload_n dX9_setsAside_18 rfl ?_
        refine zr_ialoadN dX9_setsAside_19 (MI.a668 hM ⟨rfl, rfl⟩) (by omega) (by decide) ?_
        rw [zrow_n _ _ (by decide)]
        refine zr_iastoreN dX9_setsAside_20 (MI.a671 hM ⟨rfl, rfl⟩) (by omega) (by decide) ?_
        rw [zsI_row, cpy_s00]
        refine zr_iincN dX9_setsAside_21 rfl (by decide) rfl ?_
        dsimp only [zset]
        refine zr_goto (tgt := 2) dX9_setsAside_24 (by decide) ?_
        exact ih (i + 1) (by omega) (by omega)
  refine zenterP (Or.inl (by decide +kernel)) rfl (fun h => by cases h) (Nat.le_of_ble_eq_true rfl) ?_
  show zwp _ _ _ _ _ 0 [_, zU] [] 0 0 _
  refine zr_iconst (v := nI 0) dX9_setsAside_0 rfl ?_
  refine zr_istore_n dX9_setsAside_1 (by decide) rfl ?_
  dsimp only [zset]
  have := loop _ 0 (Nat.lt_succ_self _) (Nat.zero_le _)
  rw [cpy_0, zrow_id] at this
  exact this
theorem takesAside_ok (hM : MI m) (hk : Q .null (zsF (zrow m 668 (cpy (zI m 668) (zI m 671) 0 0 424)) 667 1 (zF m 667 5))) : zC (d + 1) M9_takesAside 0 0 [.ref 667] m Q := by
  have loop : ∀ c i, 424 - i < c → i ≤ 424 → zwp (d + 1) M9_takesAside 0 0 Q 2 [.ref 667, .int (nI i)] [] 0 0 (zrow m 668 (cpy (zI m 668) (zI m 671) 0 0 i)) := by
    intro c
    induction c with
    | zero => intro i h1; omega
    | succ c ih =>
      intro i h1 h2
      refine zr_iload_n dX9_takesAside_2 rfl ?_
      refine zr_sipush (v := nI 424) dX9_takesAside_3 rfl ?_
      refine zr_icmp_geN (tgt := 27) dX9_takesAside_6 (by decide) (by omega) (by omega) (fun hc_6 => ?_) (fun hc_6 => ?_)
      · refine zr_aload_n dX9_takesAside_27 rfl ?_
        refine zr_aload_n dX9_takesAside_28 rfl ?_
        refine zr_getF dX9_takesAside_29 fd_9_276 rfl (MI.ob hM ⟨rfl, rfl⟩) ?_
        refine zr_putF dX9_takesAside_32 fd_9_43 rfl (MI.ob hM ⟨rfl, rfl⟩) ?_
        refine zr_return dX9_takesAside_35 rfl (Nat.le_refl _) (Nat.le_refl _) ?_
        have e : i = 424 := by omega
        subst e
        exact hk
      · refine zr_aload_n dX9_takesAside_9 rfl ?_
        refine zr_getR dX9_takesAside_10 fd_9_7 rfl (MI.ob hM ⟨rfl, rfl⟩) (MI.r0 hM ⟨rfl, rfl⟩) (by decide) ?_
        refine zr_iload_n dX9_takesAside_13 rfl ?_
        refine zr_aload_n dX9_takesAside_14 rfl ?_
        refine zr_getR dX9_takesAside_15 fd_9_20 rfl (MI.ob hM ⟨rfl, rfl⟩) (MI.r4 hM ⟨rfl, rfl⟩) (by decide) ?_
        refine zr_iload_n dX9_takesAside_18 rfl ?_
        refine zr_ialoadN dX9_takesAside_19 (MI.a671 hM ⟨rfl, rfl⟩) (by omega) (by decide) ?_
        rw [zrow_n _ _ (by decide)]
        refine zr_iastoreN dX9_takesAside_20 (MI.a668 hM ⟨rfl, rfl⟩) (by omega) (by decide) ?_
        rw [zsI_row, cpy_s00]
        refine zr_iincN dX9_takesAside_21 rfl (by decide) rfl ?_
        dsimp only [zset]
        refine zr_goto (tgt := 2) dX9_takesAside_24 (by decide) ?_
        exact ih (i + 1) (by omega) (by omega)
  refine zenterP (Or.inl (by decide +kernel)) rfl (fun h => by cases h) (Nat.le_of_ble_eq_true rfl) ?_
  show zwp _ _ _ _ _ 0 [_, zU] [] 0 0 _
  refine zr_iconst (v := nI 0) dX9_takesAside_0 rfl ?_
  refine zr_istore_n dX9_takesAside_1 (by decide) rfl ?_
  dsimp only [zset]
  have := loop _ 0 (Nat.lt_succ_self _) (Nat.zero_le _)
  rw [cpy_0, zrow_id] at this
  exact this
/-- the link that was put aside -/
def XM (m : zM) (w : sW) (s : sS) : Prop := RM m (s, w.2) ∧ RA (zI m 671) w.1 ∧ zF m 667 5 = w.1.2.1
theorem cpy_RA {f g : Nat → Int32} (h : RA g s) : RA (cpy f g 0 0 424) s := h.cg (fun j hj => by have := cpy_in (f := f) (g := g) (a := 0) (b := 0) hj; rwa [Nat.zero_add] at this)
theorem setsAside_m (hR : RM m w) (hk : ∀ m', XM m' w w.1 → zlo m m' → zI m' 667 = zI m 667 → Q .null m') : zC (d + 1) M9_setsAside 0 0 [.ref 667] m Q := by
  obtain ⟨a1, a2, a3, a4, a5, a6, a7, a8⟩ := id hR
  refine setsAside_ok a1 (hk _ ⟨⟨a1.of rfl rfl, ?_, ?_, ?_, ?_, fun k hk => ?_, ?_, ?_⟩, ?_, ?_⟩ ((zlo.row (by decide)).tr (zlo.sF (by decide))) ?_)
  all_goals rw [zsF_rw]
  · rw [zI_F, zrow_n _ _ (by decide)]; exact a2
  · rw [zrwF_s, fu_n _ _ (by decide)]; exact a3
  · rw [zI_F, zrow_n _ _ (by decide), zrow_n _ _ (by decide), zrwF_n _ _ (by decide)]; exact a4
  · rw [zI_F, zrow_n _ _ (by decide), zrow_n _ _ (by decide)]; exact a5
  · rw [zI_F, zrow_n _ _ (by decide)]; exact a6 k hk
  · rw [zI_F, zrow_n _ _ (by decide)]; exact a7
  · rw [zI_F, zrow_n _ _ (by decide)]; exact a8
  · rw [zI_F, zrow_s]; exact cpy_RA a2
  · rw [zrwF_s, fu_s]; exact a3
  · rw [zI_F, zrow_n _ _ (by decide)]
theorem takesAside_m (hR : XM m w s) (hk : ∀ m', RM m' w → zlo m m' → zI m' 667 = zI m 667 → Q .null m') : zC (d + 1) M9_takesAside 0 0 [.ref 667] m Q := by
  obtain ⟨⟨a1, a2, a3, a4, a5, a6, a7, a8⟩, a9, a10⟩ := hR
  refine takesAside_ok a1 (hk _ ⟨a1.of rfl rfl, ?_, ?_, ?_, ?_, fun k hk => ?_, ?_, ?_⟩ ((zlo.row (by decide)).tr (zlo.sF (by decide))) ?_)
  all_goals rw [zsF_rw]
  · rw [zI_F, zrow_s]; exact cpy_RA a9
  · rw [zrwF_s, fu_s]; exact a10
  · rw [zI_F, zrow_n _ _ (by decide), zrow_n _ _ (by decide), zrwF_n _ _ (by decide)]; exact a4
  · rw [zI_F, zrow_n _ _ (by decide), zrow_n _ _ (by decide)]; exact a5
  · rw [zI_F, zrow_n _ _ (by decide)]; exact a6 k hk
  · rw [zI_F, zrow_n _ _ (by decide)]; exact a7
  · rw [zI_F, zrow_n _ _ (by decide)]; exact a8
  · rw [zI_F, zrow_n _ _ (by decide)]
theorem keepsAside_loop (hM : MI m) (hk : ∀ t2, zwp (d + 2) M9_keepsAside 0 0 Q 41 [.ref 667, .int (nI 424), t2] [] 0 0 (zrow (zrow m 668 (cpy (zI m 668) (zI m 671) 0 0 424)) 671 (cpy (zI m 671) (zI m 668) 0 0 424))) : ∀ c i t2, 424 - i < c → i ≤ 424 → zwp (d + 2) M9_keepsAside 0 0 Q 2 [.ref 667, .int (nI i), t2] [] 0 0 (zrow (zrow m 668 (cpy (zI m 668) (zI m 671) 0 0 i)) 671 (cpy (zI m 671) (zI m 668) 0 0 i)) := by
  intro c
  induction c with
  | zero => intro i t2 h1; omega
  | succ c ih =>
    intro i t2 h1 h2
    refine zr_iload_n dX9_keepsAside_2 rfl ?_
    refine zr_sipush (v := nI 424) dX9_keepsAside_3 rfl ?_
    refine zr_icmp_geN (tgt := 41) dX9_keepsAside_6 (by decide) (by omega) (by omega) (fun hc_6 => ?_) (fun hc_6 => ?_)
    · have e : i = 424 := by omega
      subst e
      exact hk _
    · refine zr_aload_n dX9_keepsAside_9 rfl ?_
      refine zr_getR dX9_keepsAside_10 fd_9_7 rfl (MI.ob hM ⟨rfl, rfl⟩) (MI.r0 hM ⟨rfl, rfl⟩) (by decide) ?_
      refine zr_iload_n dX9_keepsAside_13 rfl ?_
      refine zr_ialoadN dX9_keepsAside_14 (MI.a668 hM ⟨rfl, rfl⟩) (by omega) (by decide) ?_
      rw [zrow_n _ _ (by decide), zrow_s, cpy_out (by omega)]
      refine zr_istore_n dX9_keepsAside_15 (by decide) rfl ?_
      dsimp only [zset]
      refine zr_aload_n dX9_keepsAside_16 rfl ?_
      refine zr_getR dX9_keepsAside_17 fd_9_7 rfl (MI.ob hM ⟨rfl, rfl⟩) (MI.r0 hM ⟨rfl, rfl⟩) (by decide) ?_
      refine zr_iload_n dX9_keepsAside_20 rfl ?_
      refine zr_aload_n dX9_keepsAside_21 rfl ?_
      refine zr_getR dX9_keepsAside_22 fd_9_20 rfl (MI.ob hM ⟨rfl, rfl⟩) (MI.r4 hM ⟨rfl, rfl⟩) (by decide) ?_
      refine zr_iload_n dX9_keepsAside_25 rfl ?_
      refine zr_ialoadN dX9_keepsAside_26 (MI.a671 hM ⟨rfl, rfl⟩) (by omega) (by decide) ?_
      rw [zrow_s, cpy_out (by omega)]
      refine zr_iastoreN dX9_keepsAside_27 (MI.a668 hM ⟨rfl, rfl⟩) (by omega) (by decide) ?_
      rw [zrow_comm _ _ _ (by decide), zsI_row, cpy_s00, zrow_comm _ _ _ (by decide)]
      refine zr_aload_n dX9_keepsAside_28 rfl ?_
      refine zr_getR dX9_keepsAside_29 fd_9_20 rfl (MI.ob hM ⟨rfl, rfl⟩) (MI.r4 hM ⟨rfl, rfl⟩) (by decide) ?_
      refine zr_iload_n dX9_keepsAside_32 rfl ?_
      refine zr_iload_n dX9_keepsAside_33 rfl ?_
      refine zr_iastoreN dX9_keepsAside_34 (MI.a671 hM ⟨rfl, rfl⟩) (by omega) (by decide) ?_
      rw [zsI_row, cpy_s00]
      refine zr_iincN dX9_keepsAside_35 rfl (by decide) rfl ?_
      dsimp only [zset]
      refine zr_goto (tgt := 2) dX9_keepsAside_38 (by decide) ?_
      exact ih (i + 1) _ (by omega) (by omega)
theorem keepsAside_m (hR : XM m w s) (hk : ∀ m', RM m' (s, skeep w.2.1 w.1, w.2.2) → zlo m m' → Q .null m') : zC (d + 2) M9_keepsAside 0 0 [.ref 667] m Q := by
  have hM := hR.1.1
  have hX : XM (zsF (zsF (zrow (zrow m 668 (cpy (zI m 668) (zI m 671) 0 0 424)) 671 (cpy (zI m 671) (zI m 668) 0 0 424)) 667 1 (zF m 667 5)) 667 5 (zF m 667 1)) (s, w.2) w.1 := by
    obtain ⟨⟨a1, a2, a3, a4, a5, a6, a7, a8⟩, a9, a10⟩ := hR
    rw [zsF_rw, zsF_rw]
    refine ⟨⟨a1.of rfl rfl, ?_, ?_, ?_, ?_, fun k hk => ?_, ?_, ?_⟩, ?_, ?_⟩
    · rw [zI_F, zI_F, zrow_n _ _ (by decide), zrow_s]; exact cpy_RA a9
    · rw [zrwF_s, fu_n _ _ (by decide), zrwF_s, fu_s]; exact a10
    · rw [zI_F, zI_F, zrow_n _ _ (by decide), zrow_n _ _ (by decide), zrow_n _ _ (by decide), zrow_n _ _ (by decide), zrwF_n _ _ (by decide), zrwF_n _ _ (by decide)]; exact a4
    · rw [zI_F, zI_F, zrow_n _ _ (by decide), zrow_n _ _ (by decide), zrow_n _ _ (by decide), zrow_n _ _ (by decide)]; exact a5
    · rw [zI_F, zI_F, zrow_n _ _ (by decide), zrow_n _ _ (by decide)]; exact a6 k hk
    · rw [zI_F, zI_F, zrow_n _ _ (by decide), zrow_n _ _ (by decide)]; exact a7
    · rw [zI_F, zI_F, zrow_n _ _ (by decide), zrow_n _ _ (by decide)]; exact a8
    · rw [zI_F, zI_F, zrow_s]; exact cpy_RA a2
    · rw [zrwF_s, fu_s]; exact a3
  have hlo : zlo m (zsF (zsF (zrow (zrow m 668 (cpy (zI m 668) (zI m 671) 0 0 424)) 671 (cpy (zI m 671) (zI m 668) 0 0 424)) 667 1 (zF m 667 5)) 667 5 (zF m 667 1)) := (((zlo.row (by decide)).tr (zlo.row (by decide))).tr (zlo.sF (by decide))).tr (zlo.sF (by decide))
  refine zenterP (Or.inl (by decide +kernel)) rfl (fun h => by cases h) (Nat.le_of_ble_eq_true rfl) ?_
  show zwp _ _ _ _ _ 0 [_, zU, zU] [] 0 0 _
  refine zr_iconst (v := nI 0) dX9_keepsAside_0 rfl ?_
  refine zr_istore_n dX9_keepsAside_1 (by decide) rfl ?_
  dsimp only [zset]
  have := keepsAside_loop (d := d) (Q := Q) hM (fun t2 => ?_) _ 0 zU (Nat.lt_succ_self _) (Nat.zero_le _)
  · rw [cpy_0, cpy_0, zrow_id, zrow_id] at this
    exact this
  · refine zr_aload_n dX9_keepsAside_41 rfl ?_
    refine zr_getF dX9_keepsAside_42 fd_9_43 rfl (MI.ob hM ⟨rfl, rfl⟩) ?_
    rw [zF_I, zF_I]
    refine zr_fstore_n dX9_keepsAside_45 (by decide) rfl ?_
    dsimp only [zset]
    refine zr_aload_n dX9_keepsAside_46 rfl ?_
    refine zr_aload_n dX9_keepsAside_47 rfl ?_
    refine zr_getF dX9_keepsAside_48 fd_9_276 rfl (MI.ob hM ⟨rfl, rfl⟩) ?_
    rw [zF_I, zF_I]
    refine zr_putF dX9_keepsAside_51 fd_9_43 rfl (MI.ob hM ⟨rfl, rfl⟩) ?_
    refine zr_aload_n dX9_keepsAside_54 rfl ?_
    refine zr_fload_n dX9_keepsAside_55 rfl ?_
    refine zr_putF dX9_keepsAside_56 fd_9_276 rfl (MI.ob hM ⟨rfl, rfl⟩) ?_
    refine zr_aload_n dX9_keepsAside_59 rfl ?_
    refine zr_cV0v rfl dX9_keepsAside_60 cv_9_100 (MI.ob hM ⟨rfl, rfl⟩) (Nat.le_of_ble_eq_true rfl) (keep_ok (s := w.1) hX.1.1 hX.1.2.2.2.1 hX.1.2.1 hX.1.2.2.1 (fun m1 k1 p1 => ?_))
    have hM := hX.1.1.of k1.1 k1.2.1
    refine zr_aload_n dX9_keepsAside_63 rfl ?_
    refine zr_cV0v rfl dX9_keepsAside_64 cv_9_267 (MI.ob hM ⟨rfl, rfl⟩) (Nat.le_of_ble_eq_true rfl) (takesAside_m (w := (s, skeep w.2.1 w.1, w.2.2)) (s := w.1) ⟨hX.1.kept k1 p1, by rw [k1.2.2.2.1 671 (by decide) (by decide)]; exact hX.2.1, by rw [k1.2.2.2.2.2 667 (by decide)]; exact hX.2.2⟩ (fun m2 r2 l2 e2 => ?_))
    refine zr_return dX9_keepsAside_67 rfl (Nat.le_refl _) (Nat.le_refl _) ?_
    exact hk m2 r2 ((hlo.tr k1.lo).tr l2)
end
