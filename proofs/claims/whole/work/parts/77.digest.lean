/-! ===== the class LinkNames: the digest ===== -/
section
variable {d : Nat} {Q : Value → zM → Prop} {m m' : zM} {w : sW} {s : sS} {o k r i : Nat}
theorem of_v (hR : RC m w) (hs : sOK w.1) (ho : o < w.1.2.2.1) (hk6 : k < 6) (hk : ∀ m', RC m' w → zout 2 667 m m' → Q (.int (sof w.1 o k)) m') : zC (d + 4) M8_of 0 0 [.ref 2, .int (nI o), .int (nI k)] m Q := by
  have n6 := hs.1
  have e : (sisH w.1 (nI o) && sin (nI k) 0 5) = true := by rw [sisH_nI n6 ho]; exact sin_nI (n := 5) (by omega) (by decide)
  have ew : wof w (nI o) (nI k) = (sof w.1 o k, w) := by
    unfold wof
    rw [wask_t e, hN_nI (show o < 2 ^ 31 by omega), hN_nI (show k < 2 ^ 31 by omega)]
  exact of_c hR hs (fun z => of_ne hs z) (by rw [ew]; exact hk)
theorem record_v (hR : RC m w) (hs : sOK w.1) (hv : sV w.1) (ho : o < w.1.2.2.1) (hr : r < (w.1.2.2.2 o).2.2.1.length) (hk8 : k < 8) (hk : ∀ m', RC m' w → zout 2 667 m m' → Q (.int (srecth w.1 o r k)) m') : zC (d + 5) M8_record 0 0 [.ref 2, .int (nI o), .int (nI r), .int (nI k)] m Q := by
  have n6 := hs.1
  have h5 := (hs.2 o ho).2.2.1
  have e : (sisR w.1 (nI o) (nI r) && sin (nI k) 0 7) = true := by
    unfold sisR
    rw [sisH_nI n6 ho, nI_clamp (show o < 2 ^ 31 by omega), decide_eq_true (nI_pos' (by omega)), decide_eq_true ((nI_ltI (by omega) (by omega)).mpr hr)]
    exact sin_nI (n := 7) (by omega) (by decide)
  have ew : wrecord w (nI o) (nI r) (nI k) = (srecth w.1 o r k, w) := by
    unfold wrecord
    rw [wask_t e, hN_nI (show o < 2 ^ 31 by omega), hN_nI (show r < 2 ^ 31 by omega), hN_nI (show k < 2 ^ 31 by omega)]
  exact record_c hR hs (fun z => record_ne hs hv z) (by rw [ew]; exact hk)
theorem entry_v (hR : RC m w) (hs : sOK w.1) (hv : sV w.1) (ho : o < w.1.2.2.1) (hr : r < (w.1.2.2.2 o).2.2.2.length) (hk5 : k < 5) (hk : ∀ m', RC m' w → zout 2 667 m m' → Q (.int (sentr w.1 o r k)) m') : zC (d + 3) M8_entry 0 0 [.ref 2, .int (nI o), .int (nI r), .int (nI k)] m Q := by
  have n6 := hs.1
  have h6 := (hs.2 o ho).2.2.2.1
  have e : (sisH w.1 (nI o) && (decide (0 ≤ nI r) && sin (nI k) 0 4)) = true := by
    rw [sisH_nI n6 ho, decide_eq_true (nI_pos' (by omega))]
    exact sin_nI (n := 4) (by omega) (by decide)
  have ew : wentry w (nI o) (nI r) (nI k) = (sentr w.1 o r k, w) := by
    unfold wentry
    rw [wask_t e, hN_nI (show o < 2 ^ 31 by omega), hN_nI (show r < 2 ^ 31 by omega), hN_nI (show k < 2 ^ 31 by omega), if_pos ((nI_ltI (by omega) (by omega)).mpr hr)]
  exact entry_c hR hs (fun z => entry_ne hs hv z) (by rw [ew]; exact hk)
theorem all_v (hR : RC m w) (hs : sOK w.1) (hk4 : k < 4) (hk : ∀ m', RC m' w → zout 2 667 m m' → Q (.int (sall w.1 k w.1.2.2.1)) m') : zC (d + 6) M8_all 0 0 [.ref 2, .int (nI k)] m Q := by
  have ew : wall w (nI k) = (sall w.1 k w.1.2.2.1, w) := by
    unfold wall
    rw [wask_t (show sin (nI k) 0 3 = true from sin_nI (n := 3) (by omega) (by decide)), hN_nI (show k < 2 ^ 31 by omega)]
  exact all_c hR hs (fun z => all_ne hs z) (by rw [ew]; exact hk)
theorem told_v (hR : RC m w) (hk11 : k < 11) (hk : ∀ m', RC m' w → zout 2 667 m m' → Q (.int (stold w k)) m') : zC (d + 2) M8_told 0 0 [.ref 2, .int (nI k)] m Q := by
  have ew : wtold w (nI k) = (stold w k, w) := by
    unfold wtold
    rw [wask_t (show sin (nI k) 0 10 = true from sin_nI (n := 10) (by omega) (by decide)), hN_nI (show k < 2 ^ 31 by omega)]
  exact told_c hR (by rw [ew]; exact hk)
/-! a host's part -/
theorem dh_115 {h0 hb : Int64} {n6 : Nat} (hs : sOK w.1) (hv : sV w.1) (ho : o < w.1.2.2.1) (hr : r < (w.1.2.2.2 o).2.2.2.length) (hk : ∀ m1 t9, RC m1 w → zout 2 667 m m1 → zwp (d + 6) M8_digestOfHost 0 0 Q 146 [.ref 2, .long hb, zU, .int (nI o), .long (dR (fun k => sentr w.1 o (k / 5) (k % 5)) (5 * (r + 1)) h0), zU, .int (nI n6), .int (nI (w.1.2.2.2 o).2.2.2.length), .int (nI r), t9] [] 0 0 m1) : ∀ c k m1, 5 - k < c → k ≤ 5 → RC m1 w → zout 2 667 m m1 →
    zwp (d + 6) M8_digestOfHost 0 0 Q 115 [.ref 2, .long hb, zU, .int (nI o), .long (dR (fun k => sentr w.1 o (k / 5) (k % 5)) (5 * r + k) h0), zU, .int (nI n6), .int (nI (w.1.2.2.2 o).2.2.2.length), .int (nI r), .int (nI k)] [] 0 0 m1 := by
  intro c
  induction c with
  | zero => intro k m1 h1; omega
  | succ c ih =>
    intro k m1 h1 h2 hR hz
    refine zr_iload dX8_digestOfHost_115 rfl ?_
    refine zr_iconst (v := nI 4) dX8_digestOfHost_117 rfl ?_
    refine zr_icmp_gtN (tgt := 146) dX8_digestOfHost_118 (by decide) (by omega) (by omega) (fun hc_118 => ?_) (fun hc_118 => ?_)
    · have e : k = 5 := by omega
      subst e
      exact hk m1 _ hR hz
    · refine zr_ldc2 dX8_digestOfHost_121 kc_8_164 ?_
      refine zr_lload dX8_digestOfHost_124 rfl ?_
      refine zr_lmul dX8_digestOfHost_126 ?_
      refine zr_aload_n dX8_digestOfHost_127 rfl ?_
      refine zr_iload_n dX8_digestOfHost_128 rfl ?_
      refine zr_iload dX8_digestOfHost_129 rfl ?_
      refine zr_iload dX8_digestOfHost_131 rfl ?_
      refine zr_cV3 rfl dX8_digestOfHost_133 cv_8_187 (hR.1.ob rfl) (Nat.le_of_ble_eq_true rfl) (entry_v (k := k) hR hs hv ho hr (by omega) (fun m2 r2 z2 => ?_))
      refine zr_i2l dX8_digestOfHost_136 ?_
      refine zr_ladd dX8_digestOfHost_137 ?_
      refine zr_lstore dX8_digestOfHost_138 (by decide) rfl ?_
      dsimp only [zset]
      refine zr_iincN dX8_digestOfHost_140 rfl (by decide) rfl ?_
      dsimp only [zset]
      refine zr_goto (tgt := 115) dX8_digestOfHost_143 (by decide) ?_
      have e : sentr w.1 o r k = (fun k => sentr w.1 o (k / 5) (k % 5)) (5 * r + k) := by
        show _ = sentr w.1 o ((5 * r + k) / 5) ((5 * r + k) % 5)
        rw [show (5 * r + k) / 5 = r by omega, show (5 * r + k) % 5 = k by omega]
      rw [e]
      exact ih (k + 1) m2 (by omega) (by omega) r2 (hz.tr z2)
theorem dh_105 {h0 hb : Int64} {n6 : Nat} (hs : sOK w.1) (hv : sV w.1) (ho : o < w.1.2.2.1) (hk : ∀ m1, RC m1 w → zout 2 667 m m1 → Q (.long (dR (fun k => sentr w.1 o (k / 5) (k % 5)) (5 * (w.1.2.2.2 o).2.2.2.length) h0)) m1) : ∀ c r m1 t9, (w.1.2.2.2 o).2.2.2.length - r < c → r ≤ (w.1.2.2.2 o).2.2.2.length → RC m1 w → zout 2 667 m m1 →
    zwp (d + 6) M8_digestOfHost 0 0 Q 105 [.ref 2, .long hb, zU, .int (nI o), .long (dR (fun k => sentr w.1 o (k / 5) (k % 5)) (5 * r) h0), zU, .int (nI n6), .int (nI (w.1.2.2.2 o).2.2.2.length), .int (nI r), t9] [] 0 0 m1 := by
  have h6 := (hs.2 o ho).2.2.2.1
  intro c
  induction c with
  | zero => intro r m1 t9 h1; omega
  | succ c ih =>
    intro r m1 t9 h1 h2 hR hz
    refine zr_iload dX8_digestOfHost_105 rfl ?_
    refine zr_iload dX8_digestOfHost_107 rfl ?_
    refine zr_icmp_geN (tgt := 152) dX8_digestOfHost_109 (by decide) (by omega) (by omega) (fun hc_109 => ?_) (fun hc_109 => ?_)
    · refine zr_lload dX8_digestOfHost_152 rfl ?_
      refine zr_lreturn dX8_digestOfHost_154 rfl (Nat.le_refl _) (Nat.le_refl _) ?_
      have e : r = (w.1.2.2.2 o).2.2.2.length := by omega
      subst e
      exact hk m1 hR hz
    · refine zr_iconst (v := nI 0) dX8_digestOfHost_112 rfl ?_
      refine zr_istore dX8_digestOfHost_113 (by decide) rfl ?_
      dsimp only [zset]
      refine dh_115 (m := m) hs hv ho hc_109 (fun m2 t9 r2 z2 => ?_) _ 0 m1 (Nat.lt_succ_self _) (Nat.zero_le _) hR hz
      refine zr_iincN dX8_digestOfHost_146 rfl (by decide) rfl ?_
      dsimp only [zset]
      refine zr_goto (tgt := 105) dX8_digestOfHost_149 (by decide) ?_
      exact ih (r + 1) m2 _ (by omega) (by omega) r2 z2
theorem dh_56 {h0 hb : Int64} (hs : sOK w.1) (hv : sV w.1) (ho : o < w.1.2.2.1) (hr : r < (w.1.2.2.2 o).2.2.1.length) (hk : ∀ m1 t8, RC m1 w → zout 2 667 m m1 → zwp (d + 6) M8_digestOfHost 0 0 Q 88 [.ref 2, .long hb, zU, .int (nI o), .long (dR (fun k => srecth w.1 o (k / 8) (k % 8)) (8 * (r + 1)) h0), zU, .int (nI (w.1.2.2.2 o).2.2.1.length), .int (nI r), t8, zU] [] 0 0 m1) : ∀ c k m1, 8 - k < c → k ≤ 8 → RC m1 w → zout 2 667 m m1 →
    zwp (d + 6) M8_digestOfHost 0 0 Q 56 [.ref 2, .long hb, zU, .int (nI o), .long (dR (fun k => srecth w.1 o (k / 8) (k % 8)) (8 * r + k) h0), zU, .int (nI (w.1.2.2.2 o).2.2.1.length), .int (nI r), .int (nI k), zU] [] 0 0 m1 := by
  intro c
  induction c with
  | zero => intro k m1 h1; omega
  | succ c ih =>
    intro k m1 h1 h2 hR hz
    refine zr_iload dX8_digestOfHost_56 rfl ?_
    refine zr_bipush (v := nI 7) dX8_digestOfHost_58 rfl ?_
    refine zr_icmp_gtN (tgt := 88) dX8_digestOfHost_60 (by decide) (by omega) (by omega) (fun hc_60 => ?_) (fun hc_60 => ?_)
    · have e : k = 8 := by omega
      subst e
      exact hk m1 _ hR hz
    · refine zr_ldc2 dX8_digestOfHost_63 kc_8_164 ?_
      refine zr_lload dX8_digestOfHost_66 rfl ?_
      refine zr_lmul dX8_digestOfHost_68 ?_
      refine zr_aload_n dX8_digestOfHost_69 rfl ?_
      refine zr_iload_n dX8_digestOfHost_70 rfl ?_
      refine zr_iload dX8_digestOfHost_71 rfl ?_
      refine zr_iload dX8_digestOfHost_73 rfl ?_
      refine zr_cV3 rfl dX8_digestOfHost_75 cv_8_184 (hR.1.ob rfl) (Nat.le_of_ble_eq_true rfl) (record_v (k := k) hR hs hv ho hr (by omega) (fun m2 r2 z2 => ?_))
      refine zr_i2l dX8_digestOfHost_78 ?_
      refine zr_ladd dX8_digestOfHost_79 ?_
      refine zr_lstore dX8_digestOfHost_80 (by decide) rfl ?_
      dsimp only [zset]
      refine zr_iincN dX8_digestOfHost_82 rfl (by decide) rfl ?_
      dsimp only [zset]
      refine zr_goto (tgt := 56) dX8_digestOfHost_85 (by decide) ?_
      have e : srecth w.1 o r k = (fun k => srecth w.1 o (k / 8) (k % 8)) (8 * r + k) := by
        show _ = srecth w.1 o ((8 * r + k) / 8) ((8 * r + k) % 8)
        rw [show (8 * r + k) / 8 = r by omega, show (8 * r + k) % 8 = k by omega]
      rw [e]
      exact ih (k + 1) m2 (by omega) (by omega) r2 (hz.tr z2)
theorem dh_46 {h0 hb : Int64} (hs : sOK w.1) (hv : sV w.1) (ho : o < w.1.2.2.1) (hk : ∀ m1 t7 t8, RC m1 w → zout 2 667 m m1 → zwp (d + 6) M8_digestOfHost 0 0 Q 94 [.ref 2, .long hb, zU, .int (nI o), .long (dR (fun k => srecth w.1 o (k / 8) (k % 8)) (8 * (w.1.2.2.2 o).2.2.1.length) h0), zU, .int (nI (w.1.2.2.2 o).2.2.1.length), .int t7, t8, zU] [] 0 0 m1) : ∀ c r m1 t8, (w.1.2.2.2 o).2.2.1.length - r < c → r ≤ (w.1.2.2.2 o).2.2.1.length → RC m1 w → zout 2 667 m m1 →
    zwp (d + 6) M8_digestOfHost 0 0 Q 46 [.ref 2, .long hb, zU, .int (nI o), .long (dR (fun k => srecth w.1 o (k / 8) (k % 8)) (8 * r) h0), zU, .int (nI (w.1.2.2.2 o).2.2.1.length), .int (nI r), t8, zU] [] 0 0 m1 := by
  have h5 := (hs.2 o ho).2.2.1
  intro c
  induction c with
  | zero => intro r m1 t8 h1; omega
  | succ c ih =>
    intro r m1 t8 h1 h2 hR hz
    refine zr_iload dX8_digestOfHost_46 rfl ?_
    refine zr_iload dX8_digestOfHost_48 rfl ?_
    refine zr_icmp_geN (tgt := 94) dX8_digestOfHost_50 (by decide) (by omega) (by omega) (fun hc_50 => ?_) (fun hc_50 => ?_)
    · have e : r = (w.1.2.2.2 o).2.2.1.length := by omega
      subst e
      exact hk m1 _ _ hR hz
    · refine zr_iconst (v := nI 0) dX8_digestOfHost_53 rfl ?_
      refine zr_istore dX8_digestOfHost_54 (by decide) rfl ?_
      dsimp only [zset]
      refine dh_56 (m := m) hs hv ho hc_50 (fun m2 t8 r2 z2 => ?_) _ 0 m1 (Nat.lt_succ_self _) (Nat.zero_le _) hR hz
      refine zr_iincN dX8_digestOfHost_88 rfl (by decide) rfl ?_
      dsimp only [zset]
      refine zr_goto (tgt := 46) dX8_digestOfHost_91 (by decide) ?_
      exact ih (r + 1) m2 _ (by omega) (by omega) r2 z2
theorem dh_6 {hb : Int64} (hs : sOK w.1) (ho : o < w.1.2.2.1) (hk : ∀ m1 t6, RC m1 w → zout 2 667 m m1 → zwp (d + 6) M8_digestOfHost 0 0 Q 35 [.ref 2, .long hb, zU, .int (nI o), .long (dR (sof w.1 o) 6 hb), zU, .int t6, zU, zU, zU] [] 0 0 m1) : ∀ c k m1, 6 - k < c → k ≤ 6 → RC m1 w → zout 2 667 m m1 →
    zwp (d + 6) M8_digestOfHost 0 0 Q 6 [.ref 2, .long hb, zU, .int (nI o), .long (dR (sof w.1 o) k hb), zU, .int (nI k), zU, zU, zU] [] 0 0 m1 := by
  intro c
  induction c with
  | zero => intro k m1 h1; omega
  | succ c ih =>
    intro k m1 h1 h2 hR hz
    refine zr_iload dX8_digestOfHost_6 rfl ?_
    refine zr_iconst (v := nI 5) dX8_digestOfHost_8 rfl ?_
    refine zr_icmp_gtN (tgt := 35) dX8_digestOfHost_9 (by decide) (by omega) (by omega) (fun hc_9 => ?_) (fun hc_9 => ?_)
    · have e : k = 6 := by omega
      subst e
      exact hk m1 _ hR hz
    · refine zr_ldc2 dX8_digestOfHost_12 kc_8_164 ?_
      refine zr_lload dX8_digestOfHost_15 rfl ?_
      refine zr_lmul dX8_digestOfHost_17 ?_
      refine zr_aload_n dX8_digestOfHost_18 rfl ?_
      refine zr_iload_n dX8_digestOfHost_19 rfl ?_
      refine zr_iload dX8_digestOfHost_20 rfl ?_
      refine zr_cV2 rfl dX8_digestOfHost_22 cv_8_181 (hR.1.ob rfl) (Nat.le_of_ble_eq_true rfl) (of_v (k := k) hR hs ho (by omega) (fun m2 r2 z2 => ?_))
      refine zr_i2l dX8_digestOfHost_25 ?_
      refine zr_ladd dX8_digestOfHost_26 ?_
      refine zr_lstore dX8_digestOfHost_27 (by decide) rfl ?_
      dsimp only [zset]
      refine zr_iincN dX8_digestOfHost_29 rfl (by decide) rfl ?_
      dsimp only [zset]
      refine zr_goto (tgt := 6) dX8_digestOfHost_32 (by decide) ?_
      exact ih (k + 1) m2 (by omega) (by omega) r2 (hz.tr z2)
theorem digestOfHost_v {hb : Int64} (hR : RC m w) (hs : sOK w.1) (hv : sV w.1) (ho : o < w.1.2.2.1) (hk : ∀ m', RC m' w → zout 2 667 m m' → Q (.long (sdigH w.1 o hb)) m') : zC (d + 6) M8_digestOfHost 0 0 [.ref 2, .long hb, .int (nI o)] m Q := by
  have h5 := (hs.2 o ho).2.2.1
  have h6 := (hs.2 o ho).2.2.2.1
  refine zenterP (Or.inl (by decide +kernel)) rfl (fun h => by cases h) (Nat.le_of_ble_eq_true rfl) ?_
  show zwp _ _ _ _ _ 0 [_, _, _, _, zU, zU, zU, zU, zU, zU] [] 0 0 _
  refine zr_lload_n dX8_digestOfHost_0 rfl ?_
  refine zr_lstore dX8_digestOfHost_1 (by decide) rfl ?_
  dsimp only [zset]
  refine zr_iconst (v := nI 0) dX8_digestOfHost_3 rfl ?_
  refine zr_istore dX8_digestOfHost_4 (by decide) rfl ?_
  dsimp only [zset]
  refine dh_6 (m := m) hs ho (fun m1 t6 r1 z1 => ?_) _ 0 m (Nat.lt_succ_self _) (Nat.zero_le _) hR zout.rf
  refine zr_aload_n dX8_digestOfHost_35 rfl ?_
  refine zr_iload_n dX8_digestOfHost_36 rfl ?_
  refine zr_iconst (v := nI 0) dX8_digestOfHost_37 rfl ?_
  refine zr_cV2 rfl dX8_digestOfHost_38 cv_8_181 (r1.1.ob rfl) (Nat.le_of_ble_eq_true rfl) (of_v (k := 0) r1 hs ho (by decide) (fun m2 r2 z2 => ?_))
  refine zr_istore dX8_digestOfHost_41 (by decide) rfl ?_
  dsimp only [zset]
  refine zr_iconst (v := nI 0) dX8_digestOfHost_43 rfl ?_
  refine zr_istore dX8_digestOfHost_44 (by decide) rfl ?_
  dsimp only [zset]
  refine dh_46 (m := m) (h0 := dR (sof w.1 o) 6 hb) hs hv ho (fun m3 t7 t8 r3 z3 => ?_) _ 0 m2 _ (Nat.lt_succ_self _) (Nat.zero_le _) r2 (z1.tr z2)
  refine zr_aload_n dX8_digestOfHost_94 rfl ?_
  refine zr_iload_n dX8_digestOfHost_95 rfl ?_
  refine zr_iconst (v := nI 3) dX8_digestOfHost_96 rfl ?_
  refine zr_cV2 rfl dX8_digestOfHost_97 cv_8_181 (r3.1.ob rfl) (Nat.le_of_ble_eq_true rfl) (of_v (k := 3) r3 hs ho (by decide) (fun m4 r4 z4 => ?_))
  refine zr_istore dX8_digestOfHost_100 (by decide) rfl ?_
  dsimp only [zset]
  refine zr_iconst (v := nI 0) dX8_digestOfHost_102 rfl ?_
  refine zr_istore dX8_digestOfHost_103 (by decide) rfl ?_
  dsimp only [zset]
  exact dh_105 (m := m) (h0 := dR (fun k => srecth w.1 o (k / 8) (k % 8)) (8 * (w.1.2.2.2 o).2.2.1.length) (dR (sof w.1 o) 6 hb)) hs hv ho hk _ 0 m4 _ (Nat.lt_succ_self _) (Nat.zero_le _) r4 (z3.tr z4)
theorem dc_97 {h0 : Int64} (hs : sOK w.1) (hk : ∀ m', RC m' w → zout 2 667 m m' → Q (.long (dR (fun k => sall w.1 k w.1.2.2.1) 4 h0)) m') : ∀ c k m1, 4 - k < c → k ≤ 4 → RC m1 w → zout 2 667 m m1 →
    zwp (d + 7) M8_digest 0 0 Q 97 [.ref 2, .long (dR (fun k => sall w.1 k w.1.2.2.1) k h0), zU, .int (nI k)] [] 0 0 m1 := by
  intro c
  induction c with
  | zero => intro k m1 h1; omega
  | succ c ih =>
    intro k m1 h1 h2 hR hz
    refine zr_iload_n dX8_digest_97 rfl ?_
    refine zr_iconst (v := nI 3) dX8_digest_98 rfl ?_
    refine zr_icmp_gtN (tgt := 121) dX8_digest_99 (by decide) (by omega) (by omega) (fun hc_99 => ?_) (fun hc_99 => ?_)
    · refine zr_lload_n dX8_digest_121 rfl ?_
      refine zr_lreturn dX8_digest_122 rfl (Nat.le_refl _) (Nat.le_refl _) ?_
      have e : k = 4 := by omega
      subst e
      exact hk m1 hR hz
    · refine zr_ldc2 dX8_digest_102 kc_8_164 ?_
      refine zr_lload_n dX8_digest_105 rfl ?_
      refine zr_lmul dX8_digest_106 ?_
      refine zr_aload_n dX8_digest_107 rfl ?_
      refine zr_iload_n dX8_digest_108 rfl ?_
      refine zr_cV1 rfl dX8_digest_109 cv_8_178 (hR.1.ob rfl) (Nat.le_of_ble_eq_true rfl) (all_v (k := k) hR hs (by omega) (fun m2 r2 z2 => ?_))
      refine zr_i2l dX8_digest_112 ?_
      refine zr_ladd dX8_digest_113 ?_
      refine zr_lstore_n dX8_digest_114 (by decide) rfl ?_
      dsimp only [zset]
      refine zr_iincN dX8_digest_115 rfl (by decide) rfl ?_
      dsimp only [zset]
      refine zr_goto (tgt := 97) dX8_digest_118 (by decide) ?_
      exact ih (k + 1) m2 (by omega) (by omega) r2 (hz.tr z2)
theorem dc_59 {h0 : Int64} (hs : sOK w.1) (hv : sV w.1) (hk : ∀ m1 t3, RC m1 w → zout 2 667 m m1 → zwp (d + 7) M8_digest 0 0 Q 83 [.ref 2, .long (fR (sdigH w.1) w.1.2.2.1 h0), zU, .int t3] [] 0 0 m1) : ∀ c k m1, w.1.2.2.1 - k < c → k ≤ w.1.2.2.1 → RC m1 w → zout 2 667 m m1 →
    zwp (d + 7) M8_digest 0 0 Q 59 [.ref 2, .long (fR (sdigH w.1) k h0), zU, .int (nI k)] [] 0 0 m1 := by
  have n6 := hs.1
  intro c
  induction c with
  | zero => intro k m1 h1; omega
  | succ c ih =>
    intro k m1 h1 h2 hR hz
    refine zr_iload_n dX8_digest_59 rfl ?_
    refine zr_aload_n dX8_digest_60 rfl ?_
    refine zr_getR dX8_digest_61 fd_8_12 rfl (hR.1.ob rfl) hR.link (by decide) ?_
    refine zr_getI dX8_digest_64 fd_8_141 rfl (hR.2.1.1.ob rfl) ?_
    rw [hR.2.1.nh]
    refine zr_icmp_geN (tgt := 83) dX8_digest_67 (by decide) (by omega) (by omega) (fun hc_67 => ?_) (fun hc_67 => ?_)
    · have e : k = w.1.2.2.1 := by omega
      subst e
      exact hk m1 _ hR hz
    · refine zr_aload_n dX8_digest_70 rfl ?_
      refine zr_lload_n dX8_digest_71 rfl ?_
      refine zr_iload_n dX8_digest_72 rfl ?_
      refine zr_cV2 rfl dX8_digest_73 cv_8_172 (hR.1.ob rfl) (Nat.le_of_ble_eq_true rfl) (digestOfHost_v hR hs hv hc_67 (fun m2 r2 z2 => ?_))
      refine zr_lstore_n dX8_digest_76 (by decide) rfl ?_
      dsimp only [zset]
      refine zr_iincN dX8_digest_77 rfl (by decide) rfl ?_
      dsimp only [zset]
      refine zr_goto (tgt := 59) dX8_digest_80 (by decide) ?_
      exact ih (k + 1) m2 (by omega) (by omega) r2 (hz.tr z2)
theorem dc_6 (hk : ∀ m1 t3, RC m1 w → zout 2 667 m m1 → zwp (d + 7) M8_digest 0 0 Q 31 [.ref 2, .long (dR (stold w) 11 2309), zU, .int t3] [] 0 0 m1) : ∀ c k m1, 11 - k < c → k ≤ 11 → RC m1 w → zout 2 667 m m1 →
    zwp (d + 7) M8_digest 0 0 Q 6 [.ref 2, .long (dR (stold w) k 2309), zU, .int (nI k)] [] 0 0 m1 := by
  intro c
  induction c with
  | zero => intro k m1 h1; omega
  | succ c ih =>
    intro k m1 h1 h2 hR hz
    refine zr_iload_n dX8_digest_6 rfl ?_
    refine zr_bipush (v := nI 10) dX8_digest_7 rfl ?_
    refine zr_icmp_gtN (tgt := 31) dX8_digest_9 (by decide) (by omega) (by omega) (fun hc_9 => ?_) (fun hc_9 => ?_)
    · have e : k = 11 := by omega
      subst e
      exact hk m1 _ hR hz
    · refine zr_ldc2 dX8_digest_12 kc_8_164 ?_
      refine zr_lload_n dX8_digest_15 rfl ?_
      refine zr_lmul dX8_digest_16 ?_
      refine zr_aload_n dX8_digest_17 rfl ?_
      refine zr_iload_n dX8_digest_18 rfl ?_
      refine zr_cV1 rfl dX8_digest_19 cv_8_166 (hR.1.ob rfl) (Nat.le_of_ble_eq_true rfl) (told_v (k := k) hR (by omega) (fun m2 r2 z2 => ?_))
      refine zr_i2l dX8_digest_22 ?_
      refine zr_ladd dX8_digest_23 ?_
      refine zr_lstore_n dX8_digest_24 (by decide) rfl ?_
      dsimp only [zset]
      refine zr_iincN dX8_digest_25 rfl (by decide) rfl ?_
      dsimp only [zset]
      refine zr_goto (tgt := 6) dX8_digest_28 (by decide) ?_
      exact ih (k + 1) m2 (by omega) (by omega) r2 (hz.tr z2)
theorem digest_c (hR : RC m w) (hs : sOK w.1) (hv : sV w.1) (hf : w.1.2.1.toNat ≤ 1291845632) (hk : ∀ m', RC m' w → zout 2 667 m m' → Q (.long (sdig w)) m') : zC (d + 7) M8_digest 0 0 [.ref 2] m Q := by
  refine zenterP (Or.inl (by decide +kernel)) rfl (fun h => by cases h) (Nat.le_of_ble_eq_true rfl) ?_
  show zwp _ _ _ _ _ 0 [_, zU, zU, zU] [] 0 0 _
  refine zr_ldc2 dX8_digest_0 kc_8_162 ?_
  refine zr_lstore_n dX8_digest_3 (by decide) rfl ?_
  dsimp only [zset]
  refine zr_iconst (v := nI 0) dX8_digest_4 rfl ?_
  refine zr_istore_n dX8_digest_5 (by decide) rfl ?_
  dsimp only [zset]
  refine dc_6 (m := m) (fun m1 t3 r1 z1 => ?_) _ 0 m (Nat.lt_succ_self _) (Nat.zero_le _) hR zout.rf
  refine zr_ldc2 dX8_digest_31 kc_8_164 ?_
  refine zr_lload_n dX8_digest_34 rfl ?_
  refine zr_lmul dX8_digest_35 ?_
  refine zr_aload_n dX8_digest_36 rfl ?_
  refine zr_iconst (v := nI 0) dX8_digest_37 rfl ?_
  refine zr_cV1 rfl dX8_digest_38 cv_8_169 (r1.1.ob rfl) (Nat.le_of_ble_eq_true rfl) (why_c (k := nI 0) r1 (fun m2 r2 z2 => ?_))
  refine zr_i2l dX8_digest_41 ?_
  refine zr_ladd dX8_digest_42 ?_
  refine zr_lstore_n dX8_digest_43 (by decide) rfl ?_
  dsimp only [zset]
  refine zr_ldc2 dX8_digest_44 kc_8_164 ?_
  refine zr_lload_n dX8_digest_47 rfl ?_
  refine zr_lmul dX8_digest_48 ?_
  refine zr_aload_n dX8_digest_49 rfl ?_
  refine zr_iconst (v := nI 1) dX8_digest_50 rfl ?_
  refine zr_cV1 rfl dX8_digest_51 cv_8_169 (r2.1.ob rfl) (Nat.le_of_ble_eq_true rfl) (why_c (k := nI 1) r2 (fun m3 r3 z3 => ?_))
  refine zr_i2l dX8_digest_54 ?_
  refine zr_ladd dX8_digest_55 ?_
  refine zr_lstore_n dX8_digest_56 (by decide) rfl ?_
  dsimp only [zset]
  refine zr_iconst (v := nI 0) dX8_digest_57 rfl ?_
  refine zr_istore_n dX8_digest_58 (by decide) rfl ?_
  dsimp only [zset]
  refine dc_59 (m := m) (h0 := dg (dg (dR (stold w) 11 2309) w.2.2.2.2.1) w.2.2.2.2.2) hs hv (fun m4 t3 r4 z4 => ?_) _ 0 m3 (Nat.lt_succ_self _) (Nat.zero_le _) r3 ((z1.tr z2).tr z3)
  refine zr_ldc2 dX8_digest_83 kc_8_164 ?_
  refine zr_lload_n dX8_digest_86 rfl ?_
  refine zr_lmul dX8_digest_87 ?_
  refine zr_aload_n dX8_digest_88 rfl ?_
  refine zr_cV0 rfl dX8_digest_89 cv_8_176 (r4.1.ob rfl) (Nat.le_of_ble_eq_true rfl) (rate_c r4 hf ?_)
  refine zr_i2l dX8_digest_92 ?_
  refine zr_ladd dX8_digest_93 ?_
  refine zr_lstore_n dX8_digest_94 (by decide) rfl ?_
  dsimp only [zset]
  refine zr_iconst (v := nI 0) dX8_digest_95 rfl ?_
  refine zr_istore_n dX8_digest_96 (by decide) rfl ?_
  dsimp only [zset]
  exact dc_97 (m := m) (h0 := dg (fR (sdigH w.1) w.1.2.2.1 (dg (dg (dR (stold w) 11 2309) w.2.2.2.2.1) w.2.2.2.2.2)) w.1.2.1.toInt32) hs hk _ 0 m4 (Nat.lt_succ_self _) (Nat.zero_le _) r4 z4
end
