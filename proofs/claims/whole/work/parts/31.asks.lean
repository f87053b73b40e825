/-! ===== the reference's public methods: questions ===== -/
def wrecord (w : sW) (h r k : Int32) : Int32 × sW := wask w (sisR w.1 h r && sin k 0 7) (srecth w.1 (hN h) (hN r) (hN k))
def wof (w : sW) (h k : Int32) : Int32 × sW := wask w (sisH w.1 h && sin k 0 5) (sof w.1 (hN h) (hN k))
def wentry (w : sW) (h i k : Int32) : Int32 × sW := wask w (sisH w.1 h && (decide (0 ≤ i) && sin k 0 4)) (if i < nI (w.1.2.2.2 (hN h)).2.2.2.length then sentr w.1 (hN h) (hN i) (hN k) else -1)
def wfinds (w : sW) (h n q k : Int32) : Int32 × sW := wask w (sisH w.1 h && (sisN n q && sin k 0 2)) (sfinds w.1 (hN h) n q (hN k))
def wowner (w : sW) (n q k : Int32) : Int32 × sW := wask w (sisN n q && sin k 0 2) (sowner w.1 n q (hN k))
def wall (w : sW) (k : Int32) : Int32 × sW := wask w (sin k 0 3) (sall w.1 (hN k) w.1.2.2.1)
def wtype (w : sW) (c : Int32) : Int32 × sW := if sin c 0 127 then (if w.2.2.1.length = 120 then (-4, wref w (-4)) else (nI (w.2.2.1.length + 1), (w.1, w.2.1, w.2.2.1 ++ [c], w.2.2.2))) else (-2, wref w (-2))
def wclear (w : sW) : Int32 × sW := (nI w.2.2.1.length, (w.1, w.2.1, [], w.2.2.2))
def wwhy (w : sW) (k : Int32) : Int32 × sW := if sin k 0 1 then (if k = 0 then w.2.2.2.2.1 else w.2.2.2.2.2, w) else (-10, wref w (-2))
def wback (w : sW) : Int32 × sW := if w.2.1.length = 0 then (-3, wref w (-3)) else (nI (w.2.1.length - 1), (w.2.1.getLastD w.1, w.2.1.dropLast, w.2.2))
def stold (w : sW) (k : Nat) : Int32 := if k < 3 then w.2.2.2.1 k else if k = 3 then nI w.2.2.1.length else if k = 4 then nI w.1.2.2.1 else if k = 10 then nI w.2.1.length else w.1.1 (k - 4)
def wtold (w : sW) (k : Int32) : Int32 × sW := wask w (sin k 0 10) (stold w (hN k))
section
variable {d : Nat} {Q : Value → zM → Prop} {m m' : zM} {s s' : sS} {w : sW}
theorem wask_t {b : Bool} {v : Int32} (h : b = true) : wask w b v = (v, w) := by unfold wask; rw [h]; rfl
theorem wask_f {b : Bool} {v : Int32} (h : b = false) : wask w b v = (-2, wref w (-2)) := by unfold wask; rw [h]; rfl
theorem record_m {h r k : Int32} (hR : RM m w) (hs : sOK w.1) (hk : ∀ m', RM m' (wrecord w h r k).2 → zlo m m' → Q (.int (wrecord w h r k).1) m') : zC (d + 4) M9_record 0 0 [.ref 667, .int h, .int r, .int k] m Q := by
  have hM := hR.1
  have hA := hR.2.1
  unfold wrecord at hk
  refine zenterP (Or.inl (by decide +kernel)) rfl (fun h => by cases h) (Nat.le_of_ble_eq_true rfl) ?_
  show zwp _ _ _ _ _ 0 [_, _, _, _] [] 0 0 _
  refine zr_aload_n dX9_record_0 rfl ?_
  refine zr_iload_n dX9_record_1 rfl ?_
  refine zr_iload_n dX9_record_2 rfl ?_
  refine zr_cV2 rfl dX9_record_3 cv_9_133 (MI.ob hM ⟨rfl, rfl⟩) (Nat.le_of_ble_eq_true rfl) (zCg (isRecord_ok hM hA ?_))
  rw [zrow_id]
  refine zr_if_eqB (tgt := 31) dX9_record_6 (by decide) (fun hc_6 => ?_) (fun hc_6 => ?_)
  · rw [wask_f (by rw [hc_6]; rfl)] at hk
    refine zr_aload_n dX9_record_31 rfl ?_
    refine zr_bipush (v := -2) dX9_record_32 rfl ?_
    refine zr_cV1 rfl dX9_record_34 cv_9_97 (MI.ob hM ⟨rfl, rfl⟩) (Nat.le_of_ble_eq_true rfl) (refuses_m (Or.inl rfl) hR (fun m' h1 h2 => ?_))
    refine zr_ireturn dX9_record_37 rfl (Nat.le_refl _) (Nat.le_refl _) ?_
    first
    | exact hk m' h1 h2
    | exact hk m hR zlo.rf
  · refine zr_iload_n dX9_record_9 rfl ?_
    refine zr_i2l dX9_record_10 ?_
    refine zr_lconst (v := 0) dX9_record_11 rfl ?_
    refine zr_ldc2 dX9_record_12 kc_9_145 ?_
    refine zr_cS3 rfl dX9_record_15 cv_9_47 (Nat.le_of_ble_eq_true rfl) (in32_ok (lo := 0) (hi := 7) rfl rfl ?_)
    refine zr_if_eqB (tgt := 31) dX9_record_18 (by decide) (fun hc_18 => ?_) (fun hc_18 => ?_)
    · rw [wask_f (by rw [hc_6, hc_18]; rfl)] at hk
      refine zr_aload_n dX9_record_31 rfl ?_
      refine zr_bipush (v := -2) dX9_record_32 rfl ?_
      refine zr_cV1 rfl dX9_record_34 cv_9_97 (MI.ob hM ⟨rfl, rfl⟩) (Nat.le_of_ble_eq_true rfl) (refuses_m (Or.inl rfl) hR (fun m' h1 h2 => ?_))
      refine zr_ireturn dX9_record_37 rfl (Nat.le_refl _) (Nat.le_refl _) ?_
      first
      | exact hk m' h1 h2
      | exact hk m hR zlo.rf
    · rw [wask_t (by rw [hc_6, hc_18]; rfl)] at hk
      unfold sisR at hc_6
      rw [Bool.and_eq_true] at hc_6
      obtain ⟨i, i1, rfl⟩ := sisH_of hs.1 hc_6.1
      rw [nI_clamp (show i < 2 ^ 31 by have := hs.1; omega)] at hc_6
      have h5 := (hs.2 i i1).2.2.1
      obtain ⟨j, j1, rfl⟩ := sisX_of (by omega) hc_6.2
      obtain ⟨n, n1, n2, rfl⟩ := sin_of (a := 0) (b := 7) hc_18 rfl rfl (by decide) (by decide)
      rw [hN_nI (show i < 2 ^ 31 by have := hs.1; omega), hN_nI (show j < 2 ^ 31 by omega), hN_nI (show n < 2 ^ 31 by omega)] at hk
      refine zr_aload_n dX9_record_21 rfl ?_
      refine zr_iload_n dX9_record_22 rfl ?_
      refine zr_iload_n dX9_record_23 rfl ?_
      refine zr_iload_n dX9_record_24 rfl ?_
      refine zr_cV3 rfl dX9_record_25 cv_9_147 (MI.ob hM ⟨rfl, rfl⟩) (Nat.le_of_ble_eq_true rfl) (zCg (recordThen_ok hM hA hs.px i1 j1 (by omega) ?_))
      rw [zrow_id]
      refine zr_goto (tgt := 37) dX9_record_28 (by decide) ?_
      refine zr_ireturn dX9_record_37 rfl (Nat.le_refl _) (Nat.le_refl _) ?_
      first
      | exact hk m' h1 h2
      | exact hk m hR zlo.rf
theorem of_m {h k : Int32} (hR : RM m w) (hs : sOK w.1) (hk : ∀ m', RM m' (wof w h k).2 → zlo m m' → Q (.int (wof w h k).1) m') : zC (d + 4) M9_of 0 0 [.ref 667, .int h, .int k] m Q := by
  have hM := hR.1
  have hA := hR.2.1
  unfold wof at hk
  refine zenterP (Or.inl (by decide +kernel)) rfl (fun h => by cases h) (Nat.le_of_ble_eq_true rfl) ?_
  show zwp _ _ _ _ _ 0 [_, _, _] [] 0 0 _
  refine zr_aload_n dX9_of_0 rfl ?_
  refine zr_iload_n dX9_of_1 rfl ?_
  refine zr_cV1 rfl dX9_of_2 cv_9_110 (MI.ob hM ⟨rfl, rfl⟩) (Nat.le_of_ble_eq_true rfl) (zCg (isHost_ok hM hA ?_))
  rw [zrow_id]
  refine zr_if_eqB (tgt := 29) dX9_of_5 (by decide) (fun hc_5 => ?_) (fun hc_5 => ?_)
  · rw [wask_f (by rw [hc_5]; rfl)] at hk
    refine zr_aload_n dX9_of_29 rfl ?_
    refine zr_bipush (v := -2) dX9_of_30 rfl ?_
    refine zr_cV1 rfl dX9_of_32 cv_9_97 (MI.ob hM ⟨rfl, rfl⟩) (Nat.le_of_ble_eq_true rfl) (refuses_m (Or.inl rfl) hR (fun m' h1 h2 => ?_))
    refine zr_ireturn dX9_of_35 rfl (Nat.le_refl _) (Nat.le_refl _) ?_
    first
    | exact hk m' h1 h2
    | exact hk m hR zlo.rf
  · refine zr_iload_n dX9_of_8 rfl ?_
    refine zr_i2l dX9_of_9 ?_
    refine zr_lconst (v := 0) dX9_of_10 rfl ?_
    refine zr_ldc2 dX9_of_11 kc_9_157 ?_
    refine zr_cS3 rfl dX9_of_14 cv_9_47 (Nat.le_of_ble_eq_true rfl) (in32_ok (lo := 0) (hi := 5) rfl rfl ?_)
    refine zr_if_eqB (tgt := 29) dX9_of_17 (by decide) (fun hc_17 => ?_) (fun hc_17 => ?_)
    · rw [wask_f (by rw [hc_5, hc_17]; rfl)] at hk
      refine zr_aload_n dX9_of_29 rfl ?_
      refine zr_bipush (v := -2) dX9_of_30 rfl ?_
      refine zr_cV1 rfl dX9_of_32 cv_9_97 (MI.ob hM ⟨rfl, rfl⟩) (Nat.le_of_ble_eq_true rfl) (refuses_m (Or.inl rfl) hR (fun m' h1 h2 => ?_))
      refine zr_ireturn dX9_of_35 rfl (Nat.le_refl _) (Nat.le_refl _) ?_
      first
      | exact hk m' h1 h2
      | exact hk m hR zlo.rf
    · rw [wask_t (by rw [hc_5, hc_17]; rfl)] at hk
      obtain ⟨i, i1, rfl⟩ := sisH_of hs.1 hc_5
      obtain ⟨n, n1, n2, rfl⟩ := sin_of (a := 0) (b := 5) hc_17 rfl rfl (by decide) (by decide)
      rw [hN_nI (show i < 2 ^ 31 by have := hs.1; omega), hN_nI (show n < 2 ^ 31 by omega)] at hk
      refine zr_aload_n dX9_of_20 rfl ?_
      refine zr_iload_n dX9_of_21 rfl ?_
      refine zr_iload_n dX9_of_22 rfl ?_
      refine zr_cV2 rfl dX9_of_23 cv_9_159 (MI.ob hM ⟨rfl, rfl⟩) (Nat.le_of_ble_eq_true rfl) (zCg (ofNow_ok hM hA i1 (by omega) ?_))
      rw [zrow_id]
      refine zr_goto (tgt := 35) dX9_of_26 (by decide) ?_
      refine zr_ireturn dX9_of_35 rfl (Nat.le_refl _) (Nat.le_refl _) ?_
      first
      | exact hk m' h1 h2
      | exact hk m hR zlo.rf
theorem entry_m {h i k : Int32} (hR : RM m w) (hs : sOK w.1) (hk : ∀ m', RM m' (wentry w h i k).2 → zlo m m' → Q (.int (wentry w h i k).1) m') : zC (d + 4) M9_entry 0 0 [.ref 667, .int h, .int i, .int k] m Q := by
  have hM := hR.1
  have hA := hR.2.1
  unfold wentry at hk
  refine zenterP (Or.inl (by decide +kernel)) rfl (fun h => by cases h) (Nat.le_of_ble_eq_true rfl) ?_
  show zwp _ _ _ _ _ 0 [_, _, _, _] [] 0 0 _
  refine zr_aload_n dX9_entry_0 rfl ?_
  refine zr_iload_n dX9_entry_1 rfl ?_
  refine zr_cV1 rfl dX9_entry_2 cv_9_110 (MI.ob hM ⟨rfl, rfl⟩) (Nat.le_of_ble_eq_true rfl) (zCg (isHost_ok hM hA ?_))
  rw [zrow_id]
  refine zr_if_eqB (tgt := 24) dX9_entry_5 (by decide) (fun hc_5 => ?_) (fun hc_5 => ?_)
  · rw [wask_f (by rw [hc_5]; rfl)] at hk
    refine zr_aload_n dX9_entry_24 rfl ?_
    refine zr_bipush (v := -2) dX9_entry_25 rfl ?_
    refine zr_cV1 rfl dX9_entry_27 cv_9_97 (MI.ob hM ⟨rfl, rfl⟩) (Nat.le_of_ble_eq_true rfl) (refuses_m (Or.inl rfl) hR (fun m' h1 h2 => ?_))
    refine zr_ireturn dX9_entry_30 rfl (Nat.le_refl _) (Nat.le_refl _) ?_
    first
    | exact hk m' h1 h2
    | exact hk m hR zlo.rf
  · refine zr_iload_n dX9_entry_8 rfl ?_
    refine zr_if_lt (tgt := 24) dX9_entry_9 (by decide) (fun hc_9 => ?_) (fun hc_9 => ?_)
    · rw [wask_f (by rw [hc_5, decide_eq_false (Int32.not_le.mpr hc_9)]; rfl)] at hk
      refine zr_aload_n dX9_entry_24 rfl ?_
      refine zr_bipush (v := -2) dX9_entry_25 rfl ?_
      refine zr_cV1 rfl dX9_entry_27 cv_9_97 (MI.ob hM ⟨rfl, rfl⟩) (Nat.le_of_ble_eq_true rfl) (refuses_m (Or.inl rfl) hR (fun m' h1 h2 => ?_))
      refine zr_ireturn dX9_entry_30 rfl (Nat.le_refl _) (Nat.le_refl _) ?_
      first
      | exact hk m' h1 h2
      | exact hk m hR zlo.rf
    · refine zr_iload_n dX9_entry_12 rfl ?_
      refine zr_i2l dX9_entry_13 ?_
      refine zr_lconst (v := 0) dX9_entry_14 rfl ?_
      refine zr_ldc2 dX9_entry_15 kc_9_197 ?_
      refine zr_cS3 rfl dX9_entry_18 cv_9_47 (Nat.le_of_ble_eq_true rfl) (in32_ok (lo := 0) (hi := 4) rfl rfl ?_)
      refine zr_if_neB (tgt := 31) dX9_entry_21 (by decide) (fun hc_21 => ?_) (fun hc_21 => ?_)
      · rw [wask_t (by rw [hc_5, hc_21, decide_eq_true (Int32.not_lt.mp hc_9)]; rfl)] at hk
        obtain ⟨a, a1, rfl⟩ := sisH_of hs.1 hc_5
        have a6 := hA.h6 a1
        have s6 := hA.s6 a1
        obtain ⟨j, j1, rfl⟩ := nI_of hc_9
        obtain ⟨n, n1, n2, rfl⟩ := sin_of (a := 0) (b := 4) hc_21 rfl rfl (by decide) (by decide)
        rw [hN_nI (show a < 2 ^ 31 by omega), hN_nI j1, hN_nI (show n < 2 ^ 31 by omega)] at hk
        refine zr_iload_n dX9_entry_31 rfl ?_
        refine zr_aload_n dX9_entry_32 rfl ?_
        refine zr_iload_n dX9_entry_33 rfl ?_
        refine zr_cV1 rfl dX9_entry_34 cv_9_70 (MI.ob hM ⟨rfl, rfl⟩) (Nat.le_of_ble_eq_true rfl) (zCg (entries_ok hM a6 (hA.siz a1) ?_))
        rw [zrow_id]
        refine zr_icmp_ge (tgt := 50) dX9_entry_37 (by decide) (fun hc_37 => ?_) (fun hc_37 => ?_)
        · rw [if_neg (Int32.not_lt.mpr hc_37)] at hk
          refine zr_iconst (v := -1) dX9_entry_50 rfl ?_
          refine zr_ireturn dX9_entry_51 rfl (Nat.le_refl _) (Nat.le_refl _) ?_
          first
          | exact hk m' h1 h2
          | exact hk m hR zlo.rf
        · rw [if_pos (Int32.not_le.mp hc_37)] at hk
          refine zr_aload_n dX9_entry_40 rfl ?_
          refine zr_iload_n dX9_entry_41 rfl ?_
          refine zr_iload_n dX9_entry_42 rfl ?_
          refine zr_iload_n dX9_entry_43 rfl ?_
          refine zr_cV3 rfl dX9_entry_44 cv_9_199 (MI.ob hM ⟨rfl, rfl⟩) (Nat.le_of_ble_eq_true rfl) (zCg (entryNow_ok hM hA a1 ((nI_ltI j1 (by omega)).mp (Int32.not_le.mp hc_37)) (by omega) ?_))
          rw [zrow_id]
          refine zr_goto (tgt := 51) dX9_entry_47 (by decide) ?_
          refine zr_ireturn dX9_entry_51 rfl (Nat.le_refl _) (Nat.le_refl _) ?_
          first
          | exact hk m' h1 h2
          | exact hk m hR zlo.rf
      · rw [wask_f (by rw [hc_5, hc_21, Bool.and_false, Bool.and_false])] at hk
        refine zr_aload_n dX9_entry_24 rfl ?_
        refine zr_bipush (v := -2) dX9_entry_25 rfl ?_
        refine zr_cV1 rfl dX9_entry_27 cv_9_97 (MI.ob hM ⟨rfl, rfl⟩) (Nat.le_of_ble_eq_true rfl) (refuses_m (Or.inl rfl) hR (fun m' h1 h2 => ?_))
        refine zr_ireturn dX9_entry_30 rfl (Nat.le_refl _) (Nat.le_refl _) ?_
        first
        | exact hk m' h1 h2
        | exact hk m hR zlo.rf
theorem finds_m {h n q k : Int32} (hR : RM m w) (hs : sOK w.1) (hk : ∀ m', RM m' (wfinds w h n q k).2 → zlo m m' → Q (.int (wfinds w h n q k).1) m') : zC (d + 4) M9_finds 0 0 [.ref 667, .int h, .int n, .int q, .int k] m Q := by
  have hM := hR.1
  have hA := hR.2.1
  unfold wfinds at hk
  refine zenterP (Or.inl (by decide +kernel)) rfl (fun h => by cases h) (Nat.le_of_ble_eq_true rfl) ?_
  show zwp _ _ _ _ _ 0 [_, _, _, _, _] [] 0 0 _
  refine zr_aload_n dX9_finds_0 rfl ?_
  refine zr_iload_n dX9_finds_1 rfl ?_
  refine zr_cV1 rfl dX9_finds_2 cv_9_110 (MI.ob hM ⟨rfl, rfl⟩) (Nat.le_of_ble_eq_true rfl) (zCg (isHost_ok hM hA ?_))
  rw [zrow_id]
  refine zr_if_eqB (tgt := 41) dX9_finds_5 (by decide) (fun hc_5 => ?_) (fun hc_5 => ?_)
  · rw [wask_f (by rw [hc_5]; rfl)] at hk
    refine zr_aload_n dX9_finds_41 rfl ?_
    refine zr_bipush (v := -2) dX9_finds_42 rfl ?_
    refine zr_cV1 rfl dX9_finds_44 cv_9_97 (MI.ob hM ⟨rfl, rfl⟩) (Nat.le_of_ble_eq_true rfl) (refuses_m (Or.inl rfl) hR (fun m' h1 h2 => ?_))
    refine zr_ireturn dX9_finds_47 rfl (Nat.le_refl _) (Nat.le_refl _) ?_
    first
    | exact hk m' h1 h2
    | exact hk m hR zlo.rf
  · refine zr_iload_n dX9_finds_8 rfl ?_
    refine zr_iload_n dX9_finds_9 rfl ?_
    refine zr_cS2 rfl dX9_finds_10 cv_9_113 (Nat.le_of_ble_eq_true rfl) (isName_ok ?_)
    refine zr_if_eqB (tgt := 41) dX9_finds_13 (by decide) (fun hc_13 => ?_) (fun hc_13 => ?_)
    · rw [wask_f (by rw [hc_5, hc_13]; rfl)] at hk
      refine zr_aload_n dX9_finds_41 rfl ?_
      refine zr_bipush (v := -2) dX9_finds_42 rfl ?_
      refine zr_cV1 rfl dX9_finds_44 cv_9_97 (MI.ob hM ⟨rfl, rfl⟩) (Nat.le_of_ble_eq_true rfl) (refuses_m (Or.inl rfl) hR (fun m' h1 h2 => ?_))
      refine zr_ireturn dX9_finds_47 rfl (Nat.le_refl _) (Nat.le_refl _) ?_
      first
      | exact hk m' h1 h2
      | exact hk m hR zlo.rf
    · refine zr_iload dX9_finds_16 rfl ?_
      refine zr_i2l dX9_finds_18 ?_
      refine zr_lconst (v := 0) dX9_finds_19 rfl ?_
      refine zr_ldc2 dX9_finds_20 kc_9_118 ?_
      refine zr_cS3 rfl dX9_finds_23 cv_9_47 (Nat.le_of_ble_eq_true rfl) (in32_ok (lo := 0) (hi := 2) rfl rfl ?_)
      refine zr_if_eqB (tgt := 41) dX9_finds_26 (by decide) (fun hc_26 => ?_) (fun hc_26 => ?_)
      · rw [wask_f (by rw [hc_5, hc_13, hc_26]; rfl)] at hk
        refine zr_aload_n dX9_finds_41 rfl ?_
        refine zr_bipush (v := -2) dX9_finds_42 rfl ?_
        refine zr_cV1 rfl dX9_finds_44 cv_9_97 (MI.ob hM ⟨rfl, rfl⟩) (Nat.le_of_ble_eq_true rfl) (refuses_m (Or.inl rfl) hR (fun m' h1 h2 => ?_))
        refine zr_ireturn dX9_finds_47 rfl (Nat.le_refl _) (Nat.le_refl _) ?_
        first
        | exact hk m' h1 h2
        | exact hk m hR zlo.rf
      · rw [wask_t (by rw [hc_5, hc_13, hc_26]; rfl)] at hk
        obtain ⟨a, a1, rfl⟩ := sisH_of hs.1 hc_5
        have a6 := hA.h6 a1
        obtain ⟨j, j1, j2, rfl⟩ := sin_of (a := 0) (b := 2) hc_26 rfl rfl (by decide) (by decide)
        rw [hN_nI (show a < 2 ^ 31 by omega), hN_nI (show j < 2 ^ 31 by omega)] at hk
        refine zr_aload_n dX9_finds_29 rfl ?_
        refine zr_iload_n dX9_finds_30 rfl ?_
        refine zr_iload_n dX9_finds_31 rfl ?_
        refine zr_iload_n dX9_finds_32 rfl ?_
        refine zr_iload dX9_finds_33 rfl ?_
        refine zr_cV4 rfl dX9_finds_35 cv_9_202 (MI.ob hM ⟨rfl, rfl⟩) (Nat.le_of_ble_eq_true rfl) (zCg (findsNow_ok hM hA a1 (by omega) ?_))
        rw [zrow_id]
        refine zr_goto (tgt := 47) dX9_finds_38 (by decide) ?_
        refine zr_ireturn dX9_finds_47 rfl (Nat.le_refl _) (Nat.le_refl _) ?_
        first
        | exact hk m' h1 h2
        | exact hk m hR zlo.rf
theorem owner_m {n q k : Int32} (hR : RM m w) (hs : sOK w.1) (hk : ∀ m', RM m' (wowner w n q k).2 → zlo m m' → Q (.int (wowner w n q k).1) m') : zC (d + 4) M9_owner 0 0 [.ref 667, .int n, .int q, .int k] m Q := by
  have hM := hR.1
  have hA := hR.2.1
  unfold wowner at hk
  refine zenterP (Or.inl (by decide +kernel)) rfl (fun h => by cases h) (Nat.le_of_ble_eq_true rfl) ?_
  show zwp _ _ _ _ _ 0 [_, _, _, _] [] 0 0 _
  refine zr_iload_n dX9_owner_0 rfl ?_
  refine zr_iload_n dX9_owner_1 rfl ?_
  refine zr_cS2 rfl dX9_owner_2 cv_9_113 (Nat.le_of_ble_eq_true rfl) (isName_ok ?_)
  refine zr_if_eqB (tgt := 30) dX9_owner_5 (by decide) (fun hc_5 => ?_) (fun hc_5 => ?_)
  · rw [wask_f (by rw [hc_5]; rfl)] at hk
    refine zr_aload_n dX9_owner_30 rfl ?_
    refine zr_bipush (v := -2) dX9_owner_31 rfl ?_
    refine zr_cV1 rfl dX9_owner_33 cv_9_97 (MI.ob hM ⟨rfl, rfl⟩) (Nat.le_of_ble_eq_true rfl) (refuses_m (Or.inl rfl) hR (fun m' h1 h2 => ?_))
    refine zr_ireturn dX9_owner_36 rfl (Nat.le_refl _) (Nat.le_refl _) ?_
    first
    | exact hk m' h1 h2
    | exact hk m hR zlo.rf
  · refine zr_iload_n dX9_owner_8 rfl ?_
    refine zr_i2l dX9_owner_9 ?_
    refine zr_lconst (v := 0) dX9_owner_10 rfl ?_
    refine zr_ldc2 dX9_owner_11 kc_9_118 ?_
    refine zr_cS3 rfl dX9_owner_14 cv_9_47 (Nat.le_of_ble_eq_true rfl) (in32_ok (lo := 0) (hi := 2) rfl rfl ?_)
    refine zr_if_eqB (tgt := 30) dX9_owner_17 (by decide) (fun hc_17 => ?_) (fun hc_17 => ?_)
    · rw [wask_f (by rw [hc_5, hc_17]; rfl)] at hk
      refine zr_aload_n dX9_owner_30 rfl ?_
      refine zr_bipush (v := -2) dX9_owner_31 rfl ?_
      refine zr_cV1 rfl dX9_owner_33 cv_9_97 (MI.ob hM ⟨rfl, rfl⟩) (Nat.le_of_ble_eq_true rfl) (refuses_m (Or.inl rfl) hR (fun m' h1 h2 => ?_))
      refine zr_ireturn dX9_owner_36 rfl (Nat.le_refl _) (Nat.le_refl _) ?_
      first
      | exact hk m' h1 h2
      | exact hk m hR zlo.rf
    · rw [wask_t (by rw [hc_5, hc_17]; rfl)] at hk
      obtain ⟨j, j1, j2, rfl⟩ := sin_of (a := 0) (b := 2) hc_17 rfl rfl (by decide) (by decide)
      rw [hN_nI (show j < 2 ^ 31 by omega)] at hk
      refine zr_aload_n dX9_owner_20 rfl ?_
      refine zr_iload_n dX9_owner_21 rfl ?_
      refine zr_iload_n dX9_owner_22 rfl ?_
      refine zr_iload_n dX9_owner_23 rfl ?_
      refine zr_cV3 rfl dX9_owner_24 cv_9_206 (MI.ob hM ⟨rfl, rfl⟩) (Nat.le_of_ble_eq_true rfl) (zCg (ownerNow_ok hM hA hs.px (by omega) ?_))
      rw [zrow_id]
      refine zr_goto (tgt := 36) dX9_owner_27 (by decide) ?_
      refine zr_ireturn dX9_owner_36 rfl (Nat.le_refl _) (Nat.le_refl _) ?_
      first
      | exact hk m' h1 h2
      | exact hk m hR zlo.rf
theorem all_m {k : Int32} (hR : RM m w) (hk : ∀ m', RM m' (wall w k).2 → zlo m m' → Q (.int (wall w k).1) m') : zC (d + 5) M9_all 0 0 [.ref 667, .int k] m Q := by
  have hM := hR.1
  have hA := hR.2.1
  unfold wall at hk
  refine zenterP (Or.inl (by decide +kernel)) rfl (fun h => by cases h) (Nat.le_of_ble_eq_true rfl) ?_
  show zwp _ _ _ _ _ 0 [_, _] [] 0 0 _
  refine zr_iload_n dX9_all_0 rfl ?_
  refine zr_i2l dX9_all_1 ?_
  refine zr_lconst (v := 0) dX9_all_2 rfl ?_
  refine zr_ldc2 dX9_all_3 kc_9_108 ?_
  refine zr_cS3 rfl dX9_all_6 cv_9_47 (Nat.le_of_ble_eq_true rfl) (in32_ok (lo := 0) (hi := 3) rfl rfl ?_)
  refine zr_if_eqB (tgt := 20) dX9_all_9 (by decide) (fun hc_9 => ?_) (fun hc_9 => ?_)
  · rw [wask_f hc_9] at hk
    refine zr_aload_n dX9_all_20 rfl ?_
    refine zr_bipush (v := -2) dX9_all_21 rfl ?_
    refine zr_cV1 rfl dX9_all_23 cv_9_97 (MI.ob hM ⟨rfl, rfl⟩) (Nat.le_of_ble_eq_true rfl) (refuses_m (Or.inl rfl) hR (fun m' h1 h2 => ?_))
    refine zr_ireturn dX9_all_26 rfl (Nat.le_refl _) (Nat.le_refl _) ?_
    first
    | exact hk m' h1 h2
    | exact hk m hR zlo.rf
  · rw [wask_t hc_9] at hk
    obtain ⟨j, j1, j2, rfl⟩ := sin_of (a := 0) (b := 3) hc_9 rfl rfl (by decide) (by decide)
    rw [hN_nI (show j < 2 ^ 31 by omega)] at hk
    refine zr_aload_n dX9_all_12 rfl ?_
    refine zr_iload_n dX9_all_13 rfl ?_
    refine zr_cV1 rfl dX9_all_14 cv_9_212 (MI.ob hM ⟨rfl, rfl⟩) (Nat.le_of_ble_eq_true rfl) (zCg (allNow_ok hM hA (by omega) ?_))
    rw [zrow_id]
    refine zr_goto (tgt := 26) dX9_all_17 (by decide) ?_
    refine zr_ireturn dX9_all_26 rfl (Nat.le_refl _) (Nat.le_refl _) ?_
    first
    | exact hk m' h1 h2
    | exact hk m hR zlo.rf
/-! the text, why, going back -/
theorem RM.txt {n : Int32} {f : Nat → Int32} {l : List Int32} (h : RM m w) (ht : RT n f l) : RM (zrow (zrow m 674 f) 667 (fu (zI m 667) 10 n)) (w.1, w.2.1, l, w.2.2.2) := by
  obtain ⟨a1, a2, a3, a4, a5, a6, a7, a8⟩ := h
  refine ⟨a1.of rfl rfl, ?_, a3, ?_, ?_, fun j hj => ?_, ?_, ?_⟩
  · rw [zrow_n _ _ (by decide), zrow_n _ _ (by decide)]; exact a2
  · rw [zrow_s, fu_n _ _ (by decide), zrow_n _ _ (by decide), zrow_n _ _ (by decide)]; exact a4
  · rw [zrow_s, fu_s, zrow_n _ _ (by decide), zrow_s]; exact ht
  · rw [zrow_n _ _ (by decide), zrow_n _ _ (by decide)]; exact a6 j hj
  · rw [zrow_s, fu_n _ _ (by decide)]; exact a7
  · rw [zrow_s, fu_n _ _ (by decide)]; exact a8
theorem RT.push {n c : Int32} {f : Nat → Int32} {l : List Int32} (h : RT n f l) (hl : l.length < 120) : RT (nI (l.length + 1)) (fu f l.length c) (l ++ [c]) := by
  obtain ⟨h1, h2, h3⟩ := h
  refine ⟨by rw [List.length_append]; rfl, by rw [List.length_append]; show l.length + 1 ≤ 120; omega, fun j x hj => ?_⟩
  by_cases e : j < l.length
  · rw [List.getElem?_append_left e] at hj
    rw [fu_n _ _ (by omega)]
    exact h3 _ _ hj
  · rw [List.getElem?_append_right (by omega)] at hj
    have := (List.getElem?_eq_some_iff.mp hj).1
    simp at this
    have e3 : j = l.length := by omega
    subst e3
    rw [Nat.sub_self] at hj
    simp at hj
    rw [fu_s, hj]
theorem type_m {c : Int32} (hR : RM m w) (hk : ∀ m', RM m' (wtype w c).2 → zlo m m' → Q (.int (wtype w c).1) m') : zC (d + 2) M9_type 0 0 [.ref 667, .int c] m Q := by
  have hM := hR.1
  have hT := hR.2.2.2.2.1
  have hT1 := hT.1
  have hT2 := hT.2.1
  unfold wtype at hk
  refine zenterP (Or.inl (by decide +kernel)) rfl (fun h => by cases h) (Nat.le_of_ble_eq_true rfl) ?_
  show zwp _ _ _ _ _ 0 [_, _] [] 0 0 _
  refine zr_iload_n dX9_type_0 rfl ?_
  refine zr_i2l dX9_type_1 ?_
  refine zr_lconst (v := 0) dX9_type_2 rfl ?_
  refine zr_ldc2 dX9_type_3 kc_9_227 ?_
  refine zr_cS3 rfl dX9_type_6 cv_9_47 (Nat.le_of_ble_eq_true rfl) (in32_ok (lo := 0) (hi := 127) rfl rfl ?_)
  refine zr_if_neB (tgt := 19) dX9_type_9 (by decide) (fun hc_9 => ?_) (fun hc_9 => ?_)
  · rw [if_pos hc_9] at hk
    refine zr_aload_n dX9_type_19 rfl ?_
    refine zr_getI dX9_type_20 fd_9_229 rfl (MI.ob hM ⟨rfl, rfl⟩) ?_
    rw [hT1]
    refine zr_bipush (v := nI 120) dX9_type_23 rfl ?_
    refine zr_icmp_neN (tgt := 35) dX9_type_25 (by decide) (by omega) (by omega) (fun hc_25 => ?_) (fun hc_25 => ?_)
    · rw [if_neg hc_25] at hk
      refine zr_aload_n dX9_type_35 rfl ?_
      refine zr_getR dX9_type_36 fd_9_30 rfl (MI.ob hM ⟨rfl, rfl⟩) (MI.r9 hM ⟨rfl, rfl⟩) (by decide) ?_
      refine zr_aload_n dX9_type_39 rfl ?_
      refine zr_getI dX9_type_40 fd_9_229 rfl (MI.ob hM ⟨rfl, rfl⟩) ?_
      rw [hT1]
      refine zr_iload_n dX9_type_43 rfl ?_
      refine zr_iastoreN dX9_type_44 (MI.a674 hM ⟨rfl, rfl⟩) (by omega) (by decide) ?_
      rw [zsI_rw]
      refine zr_aload_n dX9_type_45 rfl ?_
      refine zr_dup dX9_type_46 rfl ?_
      refine zr_getI dX9_type_47 fd_9_229 rfl (MI.ob hM ⟨rfl, rfl⟩) ?_
      rw [zrow_n _ _ (by decide), hT1]
      refine zr_iconst (v := nI 1) dX9_type_50 rfl ?_
      refine zr_iaddN dX9_type_51 ?_
      refine zr_putI dX9_type_52 fd_9_229 rfl (MI.ob hM ⟨rfl, rfl⟩) ?_
      rw [zsI_rw, zrow_n _ _ (by decide)]
      refine zr_aload_n dX9_type_55 rfl ?_
      refine zr_getI dX9_type_56 fd_9_229 rfl (MI.ob hM ⟨rfl, rfl⟩) ?_
      rw [zrow_s, fu_s]
      refine zr_ireturn dX9_type_59 rfl (Nat.le_refl _) (Nat.le_refl _) ?_
      exact hk _ (hR.txt (hT.push (by omega))) ((zlo.row (by decide)).tr (zlo.row (by decide)))
    · rw [if_pos hc_25] at hk
      refine zr_aload_n dX9_type_28 rfl ?_
      refine zr_bipush (v := -4) dX9_type_29 rfl ?_
      refine zr_cV1 rfl dX9_type_31 cv_9_97 (MI.ob hM ⟨rfl, rfl⟩) (Nat.le_of_ble_eq_true rfl) (refuses_m (Or.inr (Or.inr rfl)) hR (fun m' h1 h2 => ?_))
      refine zr_ireturn dX9_type_34 rfl (Nat.le_refl _) (Nat.le_refl _) ?_
      exact hk m' h1 h2
  · rw [if_neg (by rw [hc_9]; decide)] at hk
    refine zr_aload_n dX9_type_12 rfl ?_
    refine zr_bipush (v := -2) dX9_type_13 rfl ?_
    refine zr_cV1 rfl dX9_type_15 cv_9_97 (MI.ob hM ⟨rfl, rfl⟩) (Nat.le_of_ble_eq_true rfl) (refuses_m (Or.inl rfl) hR (fun m' h1 h2 => ?_))
    refine zr_ireturn dX9_type_18 rfl (Nat.le_refl _) (Nat.le_refl _) ?_
    exact hk m' h1 h2
theorem clear_m (hR : RM m w) (hk : ∀ m', RM m' (wclear w).2 → zlo m m' → Q (.int (wclear w).1) m') : zC (d + 1) M9_clear 0 0 [.ref 667] m Q := by
  have hM := hR.1
  have hT := hR.2.2.2.2.1
  have hT1 := hT.1
  refine zenterP (Or.inl (by decide +kernel)) rfl (fun h => by cases h) (Nat.le_of_ble_eq_true rfl) ?_
  show zwp _ _ _ _ _ 0 [_, zU] [] 0 0 _
  refine zr_aload_n dX9_clear_0 rfl ?_
  refine zr_getI dX9_clear_1 fd_9_229 rfl (MI.ob hM ⟨rfl, rfl⟩) ?_
  rw [hT1]
  refine zr_istore_n dX9_clear_4 (by decide) rfl ?_
  dsimp only [zset]
  refine zr_aload_n dX9_clear_5 rfl ?_
  refine zr_iconst (v := nI 0) dX9_clear_6 rfl ?_
  refine zr_putI dX9_clear_7 fd_9_229 rfl (MI.ob hM ⟨rfl, rfl⟩) ?_
  rw [zsI_rw]
  refine zr_iload_n dX9_clear_10 rfl ?_
  refine zr_ireturn dX9_clear_11 rfl (Nat.le_refl _) (Nat.le_refl _) ?_
  have := hR.txt (n := nI 0) (f := zI m 674) (l := []) ⟨rfl, Nat.zero_le _, fun j c hj => by cases hj⟩
  rw [zrow_id] at this
  exact hk _ this (zlo.row (by decide))
theorem why_m {k : Int32} (hR : RM m w) (hk : ∀ m', RM m' (wwhy w k).2 → zlo m m' → Q (.int (wwhy w k).1) m') : zC (d + 2) M9_why 0 0 [.ref 667, .int k] m Q := by
  have hM := hR.1
  unfold wwhy at hk
  refine zenterP (Or.inl (by decide +kernel)) rfl (fun h => by cases h) (Nat.le_of_ble_eq_true rfl) ?_
  show zwp _ _ _ _ _ 0 [_, _, zU] [] 0 0 _
  refine zr_iload_n dX9_why_0 rfl ?_
  refine zr_i2l dX9_why_1 ?_
  refine zr_lconst (v := 0) dX9_why_2 rfl ?_
  refine zr_lconst (v := 1) dX9_why_3 rfl ?_
  refine zr_cS3 rfl dX9_why_4 cv_9_47 (Nat.le_of_ble_eq_true rfl) (in32_ok (lo := 0) (hi := 1) rfl rfl ?_)
  refine zr_if_neB (tgt := 20) dX9_why_7 (by decide) (fun hc_7 => ?_) (fun hc_7 => ?_)
  · rw [if_pos hc_7] at hk
    refine zr_iload_n dX9_why_20 rfl ?_
    refine zr_if_ne (tgt := 31) dX9_why_21 (by decide) (fun hc_21 => ?_) (fun hc_21 => ?_)
    · rw [if_neg hc_21] at hk
      refine zr_aload_n dX9_why_31 rfl ?_
      refine zr_getI dX9_why_32 fd_9_36 rfl (MI.ob hM ⟨rfl, rfl⟩) ?_
      rw [hR.2.2.2.2.2.2.2]
      refine zr_ireturn dX9_why_35 rfl (Nat.le_refl _) (Nat.le_refl _) ?_
      first
      | exact hk m' h1 h2
      | exact hk m hR zlo.rf
    · rw [if_pos hc_21] at hk
      refine zr_aload_n dX9_why_24 rfl ?_
      refine zr_getI dX9_why_25 fd_9_270 rfl (MI.ob hM ⟨rfl, rfl⟩) ?_
      rw [hR.2.2.2.2.2.2.1]
      refine zr_goto (tgt := 35) dX9_why_28 (by decide) ?_
      refine zr_ireturn dX9_why_35 rfl (Nat.le_refl _) (Nat.le_refl _) ?_
      first
      | exact hk m' h1 h2
      | exact hk m hR zlo.rf
  · rw [if_neg (by rw [hc_7]; decide)] at hk
    refine zr_aload_n dX9_why_10 rfl ?_
    refine zr_bipush (v := -2) dX9_why_11 rfl ?_
    refine zr_cV1 rfl dX9_why_13 cv_9_97 (MI.ob hM ⟨rfl, rfl⟩) (Nat.le_of_ble_eq_true rfl) (refuses_m (Or.inl rfl) hR (fun m' h1 h2 => ?_))
    refine zr_istore_n dX9_why_16 (by decide) rfl ?_
    dsimp only [zset]
    refine zr_bipush (v := -10) dX9_why_17 rfl ?_
    refine zr_ireturn dX9_why_19 rfl (Nat.le_refl _) (Nat.le_refl _) ?_
    first
    | exact hk m' h1 h2
    | exact hk m hR zlo.rf
theorem toldOf_m {k : Nat} (hR : RM m w) (hk0 : k < 11) (hk : Q (.int (stold w k)) m) : zC (d + 1) M9_toldOf 0 0 [.ref 667, .int (nI k)] m Q := by
  have hM := hR.1
  have hA := hR.2.1
  have hT1 := hR.2.2.2.2.1.1
  have hP1 := hR.2.2.2.1.1
  have hC := hR.2.2.2.2.2.1
  refine zenterP (Or.inl (by decide +kernel)) rfl (fun h => by cases h) (Nat.le_of_ble_eq_true rfl) ?_
  show zwp _ _ _ _ _ 0 [_, _] [] 0 0 _
  by_cases e3 : k = 3
  · subst e3
    refine zr_iload_n dX9_toldOf_0 rfl ?_
    refine zr_lookup (off := 35) (tgt := 36) dX9_toldOf_1 (by decide) (by decide) (by decide) ?_
    refine zr_aload_n dX9_toldOf_36 rfl ?_
    refine zr_getI dX9_toldOf_37 fd_9_229 rfl (MI.ob hM ⟨rfl, rfl⟩) ?_
    rw [hT1]
    refine zr_ireturn dX9_toldOf_40 rfl (Nat.le_refl _) (Nat.le_refl _) ?_
    exact hk
  by_cases e4 : k = 4
  · subst e4
    refine zr_iload_n dX9_toldOf_0 rfl ?_
    refine zr_lookup (off := 40) (tgt := 41) dX9_toldOf_1 (by decide) (by decide) (by decide) ?_
    refine zr_aload_n dX9_toldOf_41 rfl ?_
    refine zr_getR dX9_toldOf_42 fd_9_7 rfl (MI.ob hM ⟨rfl, rfl⟩) (MI.r0 hM ⟨rfl, rfl⟩) (by decide) ?_
    refine zr_iconst (v := nI 0) dX9_toldOf_45 rfl ?_
    refine zr_ialoadN dX9_toldOf_46 (MI.a668 hM ⟨rfl, rfl⟩) (by omega) (by decide) ?_
    rw [hA.1]
    refine zr_ireturn dX9_toldOf_47 rfl (Nat.le_refl _) (Nat.le_refl _) ?_
    exact hk
  by_cases e10 : k = 10
  · subst e10
    refine zr_iload_n dX9_toldOf_0 rfl ?_
    refine zr_lookup (off := 47) (tgt := 48) dX9_toldOf_1 (by decide) (by decide) (by decide) ?_
    refine zr_aload_n dX9_toldOf_48 rfl ?_
    refine zr_getI dX9_toldOf_49 fd_9_40 rfl (MI.ob hM ⟨rfl, rfl⟩) ?_
    rw [hP1]
    refine zr_ireturn dX9_toldOf_52 rfl (Nat.le_refl _) (Nat.le_refl _) ?_
    exact hk
  refine zr_iload_n dX9_toldOf_0 rfl ?_
  refine zr_lookup (off := 52) (tgt := 53) dX9_toldOf_1 (by decide) (by rcases (show k = 0 ∨ k = 1 ∨ k = 2 ∨ k = 5 ∨ k = 6 ∨ k = 7 ∨ k = 8 ∨ k = 9 by omega) with rfl | rfl | rfl | rfl | rfl | rfl | rfl | rfl <;> decide) (by decide) ?_
  refine zr_iload_n dX9_toldOf_53 rfl ?_
  refine zr_iconst (v := nI 3) dX9_toldOf_54 rfl ?_
  refine zr_icmp_geN (tgt := 67) dX9_toldOf_55 (by decide) (by omega) (by omega) (fun hc_55 => ?_) (fun hc_55 => ?_)
  · have e : stold w k = w.1.1 (1 + k - 5) := by unfold stold; rw [if_neg (by omega), if_neg e3, if_neg e4, if_neg e10, show 1 + k - 5 = k - 4 by omega]
    refine zr_aload_n dX9_toldOf_67 rfl ?_
    refine zr_getR dX9_toldOf_68 fd_9_7 rfl (MI.ob hM ⟨rfl, rfl⟩) (MI.r0 hM ⟨rfl, rfl⟩) (by decide) ?_
    refine zr_iconst (v := nI 1) dX9_toldOf_71 rfl ?_
    refine zr_iload_n dX9_toldOf_72 rfl ?_
    refine zr_iaddN dX9_toldOf_73 ?_
    refine zr_iconst (v := nI 5) dX9_toldOf_74 rfl ?_
    refine zr_isubN dX9_toldOf_75 (by omega) ?_
    refine zr_ialoadN dX9_toldOf_76 (MI.a668 hM ⟨rfl, rfl⟩) (by omega) (by decide) ?_
    rw [hA.2.2.1 _ (by omega) (by omega)]
    refine zr_ireturn dX9_toldOf_77 rfl (Nat.le_refl _) (Nat.le_refl _) ?_
    rw [e] at hk
    exact hk
  · have e : stold w k = w.2.2.2.1 k := by unfold stold; rw [if_pos hc_55]
    refine zr_aload_n dX9_toldOf_58 rfl ?_
    refine zr_getR dX9_toldOf_59 fd_9_23 rfl (MI.ob hM ⟨rfl, rfl⟩) (MI.r7 hM ⟨rfl, rfl⟩) (by decide) ?_
    refine zr_iload_n dX9_toldOf_62 rfl ?_
    refine zr_ialoadN dX9_toldOf_63 (MI.a672 hM ⟨rfl, rfl⟩) (by omega) (by decide) ?_
    rw [hC k hc_55]
    refine zr_goto (tgt := 77) dX9_toldOf_64 (by decide) ?_
    refine zr_ireturn dX9_toldOf_77 rfl (Nat.le_refl _) (Nat.le_refl _) ?_
    rw [e] at hk
    exact hk
theorem told_m {k : Int32} (hR : RM m w) (hk : ∀ m', RM m' (wtold w k).2 → zlo m m' → Q (.int (wtold w k).1) m') : zC (d + 2) M9_told 0 0 [.ref 667, .int k] m Q := by
  have hM := hR.1
  unfold wtold at hk
  refine zenterP (Or.inl (by decide +kernel)) rfl (fun h => by cases h) (Nat.le_of_ble_eq_true rfl) ?_
  show zwp _ _ _ _ _ 0 [_, _] [] 0 0 _
  refine zr_iload_n dX9_told_0 rfl ?_
  refine zr_i2l dX9_told_1 ?_
  refine zr_lconst (v := 0) dX9_told_2 rfl ?_
  refine zr_ldc2 dX9_told_3 kc_9_279 ?_
  refine zr_cS3 rfl dX9_told_6 cv_9_47 (Nat.le_of_ble_eq_true rfl) (in32_ok (lo := 0) (hi := 10) rfl rfl ?_)
  refine zr_if_eqB (tgt := 20) dX9_told_9 (by decide) (fun hc_9 => ?_) (fun hc_9 => ?_)
  · rw [wask_f hc_9] at hk
    refine zr_aload_n dX9_told_20 rfl ?_
    refine zr_bipush (v := -2) dX9_told_21 rfl ?_
    refine zr_cV1 rfl dX9_told_23 cv_9_97 (MI.ob hM ⟨rfl, rfl⟩) (Nat.le_of_ble_eq_true rfl) (refuses_m (Or.inl rfl) hR (fun m' h1 h2 => ?_))
    refine zr_ireturn dX9_told_26 rfl (Nat.le_refl _) (Nat.le_refl _) ?_
    first
    | exact hk m' h1 h2
    | exact hk m hR zlo.rf
  · rw [wask_t hc_9] at hk
    obtain ⟨j, j1, j2, rfl⟩ := sin_of (a := 0) (b := 10) hc_9 rfl rfl (by decide) (by decide)
    rw [hN_nI (show j < 2 ^ 31 by omega)] at hk
    refine zr_aload_n dX9_told_12 rfl ?_
    refine zr_iload_n dX9_told_13 rfl ?_
    refine zr_cV1 rfl dX9_told_14 cv_9_281 (MI.ob hM ⟨rfl, rfl⟩) (Nat.le_of_ble_eq_true rfl) (toldOf_m hR (by omega) ?_)
    refine zr_goto (tgt := 26) dX9_told_17 (by decide) ?_
    refine zr_ireturn dX9_told_26 rfl (Nat.le_refl _) (Nat.le_refl _) ?_
    first
    | exact hk m' h1 h2
    | exact hk m hR zlo.rf
end
