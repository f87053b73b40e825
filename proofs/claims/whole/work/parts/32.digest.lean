/-! ===== the reference: going back, the rate's bits, the digest ===== -/
def fN (x : UInt32) : Prop := Op.cmpValue (FP.fcmp x x) .l = 0
def dg (h : Int64) (x : Int32) : Int64 := 31 * h + x.toInt64
def dR (g : Nat → Int32) : Nat → Int64 → Int64
  | 0, h => h
  | n + 1, h => dg (dR g n h) (g n)
def sdigH (s : sS) (o : Nat) (h : Int64) : Int64 := dR (fun k => sentr s o (k / 5) (k % 5)) (5 * (s.2.2.2 o).2.2.2.length) (dR (fun k => srecth s o (k / 8) (k % 8)) (8 * (s.2.2.2 o).2.2.1.length) (dR (sof s o) 6 h))
def sdig (w : sW) : Int64 := dR (fun k => sall w.1 k w.1.2.2.1) 4 (dg (fR (sdigH w.1) w.1.2.2.1 (dg (dg (dR (stold w) 11 2309) w.2.2.2.2.1) w.2.2.2.2.2)) w.1.2.1.toInt32)
section
variable {d : Nat} {Q : Value → zM → Prop} {m m' : zM} {s s' : sS} {w : sW}
theorem isNaN_ok {x : UInt32} (hn : fN x) (hk : Q (.int (bI false)) m) : zC (d + 1) M12_isNaN 0 0 [.float x] m Q := by
  refine zenterP (Or.inr (by decide +kernel)) rfl (fun h => by cases h) (Nat.le_of_ble_eq_true rfl) ?_
  show zwp _ _ _ _ _ 0 [_] [] 0 0 _
  refine zr_fload_n dJxf58ca_isNaN_12338_0 rfl ?_
  refine zr_fload_n dJxf58ca_isNaN_12338_1 rfl ?_
  refine zr_fcmp dJxf58ca_isNaN_12338_2 ?_
  refine zr_if_eq (tgt := 10) dJxf58ca_isNaN_12338_3 (by decide) (fun hc_3 => ?_) (fun hc_3 => absurd hn hc_3)
  refine zr_iconst (v := nI 0) dJxf58ca_isNaN_12338_10 rfl ?_
  refine zr_z0 dJxf58ca_isNaN_12338_11 rfl (Nat.le_refl _) (Nat.le_refl _) ?_ hk
  rfl
theorem f2b_ok {x : UInt32} (hn : fN x) (hk : Q (.int x.toInt32) m) : zC (d + 2) M12_floatToIntBits 0 0 [.float x] m Q := by
  refine zenterP (Or.inr (by decide +kernel)) rfl (fun h => by cases h) (Nat.le_of_ble_eq_true rfl) ?_
  show zwp _ _ _ _ _ 0 [_] [] 0 0 _
  refine zr_fload_n dJxf58ca_floatToIntBits_5c35a_0 rfl ?_
  refine zr_cS1 rfl dJxf58ca_floatToIntBits_5c35a_1 cv_12_59 (Nat.le_of_ble_eq_true rfl) (isNaN_ok hn ?_)
  refine zr_if_neB (tgt := 12) dJxf58ca_floatToIntBits_5c35a_4 (by decide) (fun hc_4 => absurd hc_4 (by decide)) (fun hc_4 => ?_)
  refine zr_fload_n dJxf58ca_floatToIntBits_5c35a_7 rfl ?_
  refine zr_f2i dJxf58ca_floatToIntBits_5c35a_8 nf_12_74 nf_1 nf_2 nf_3 (Nat.le_of_ble_eq_true rfl) ?_
  refine zr_ireturn dJxf58ca_floatToIntBits_5c35a_11 rfl (Nat.le_refl _) (Nat.le_refl _) ?_
  exact hk
theorem rateBits_m (hR : RS m s) (hn : fN s.2.1) (hk : Q (.int s.2.1.toInt32) m) : zC (d + 3) M9_rateBits 0 0 [.ref 667] m Q := by
  have hM := hR.1
  refine zenterP (Or.inl (by decide +kernel)) rfl (fun h => by cases h) (Nat.le_of_ble_eq_true rfl) ?_
  show zwp _ _ _ _ _ 0 [_] [] 0 0 _
  refine zr_aload_n dX9_rateBits_0 rfl ?_
  refine zr_getF dX9_rateBits_1 fd_9_43 rfl (MI.ob hM ⟨rfl, rfl⟩) ?_
  rw [hR.2.2]
  refine zr_cS1 rfl dX9_rateBits_4 cv_9_182 (Nat.le_of_ble_eq_true rfl) (f2b_ok hn ?_)
  refine zr_ireturn dX9_rateBits_7 rfl (Nat.le_refl _) (Nat.le_refl _) ?_
  exact hk
theorem rate_m (hR : RM m w) (hn : fN w.1.2.1) (hk : Q (.int w.1.2.1.toInt32) m) : zC (d + 4) M9_rate 0 0 [.ref 667] m Q := by
  have hM := hR.1
  refine zenterP (Or.inl (by decide +kernel)) rfl (fun h => by cases h) (Nat.le_of_ble_eq_true rfl) ?_
  show zwp _ _ _ _ _ 0 [_] [] 0 0 _
  refine zr_aload_n dX9_rate_0 rfl ?_
  refine zr_cV0 rfl dX9_rate_1 cv_9_188 (MI.ob hM ⟨rfl, rfl⟩) (Nat.le_of_ble_eq_true rfl) (rateBits_m hR.rs hn ?_)
  refine zr_ireturn dX9_rate_4 rfl (Nat.le_refl _) (Nat.le_refl _) ?_
  exact hk
/-! back -/
theorem RP.pop {n : Int32} {f : Nat → Int32} {q : Nat → UInt32} {l : List sS} (hp : RP n f q l) (h0 : l.length ≠ 0) (s0 : sS) : RP (nI (l.length - 1)) f q l.dropLast ∧ RA (fun k => f (424 * (l.length - 1) + k)) (l.getLastD s0) ∧ q (l.length - 1) = (l.getLastD s0).2.1 := by
  obtain ⟨h1, h2, h3⟩ := hp
  have hl : l[l.length - 1]? = some (l.getLastD s0) := by
    have : l ≠ [] := fun z => h0 (by rw [z]; rfl)
    rw [List.getLastD_eq_getLast?, List.getLast?_eq_getElem?]
    have h : l.length - 1 < l.length := by omega
    rw [List.getElem?_eq_getElem h]
    rfl
  refine ⟨⟨by rw [List.length_dropLast], by rw [List.length_dropLast]; omega, fun j s hj => ?_⟩, h3 _ _ hl⟩
  have hj2 : l[j]? = some s := by
    have hh := (List.getElem?_eq_some_iff.mp hj).1
    rw [List.getElem?_dropLast, if_pos (by rw [List.length_dropLast] at hh; exact hh)] at hj
    exact hj
  exact h3 _ _ hj2
theorem back_26 {n : Nat} (hM : MI m) (hn : n ≤ 4) (h6 : zI m 667 6 = nI n) (hk : Q (.int (nI n)) (zsF (zrow m 668 (cpy (zI m 668) (zI m 669) 0 (424 * n) 424)) 667 1 (zF m 670 n))) : ∀ c i, 424 - i < c → i ≤ 424 →
    zwp (d + 1) M9_back 0 0 Q 26 [.ref 667, .int (nI i)] [] 0 0 (zrow m 668 (cpy (zI m 668) (zI m 669) 0 (424 * n) i)) := by
  intro c
  induction c with
  | zero => intro i h1; omega
  | succ c ih =>
    intro i h1 h2
    have h6' : ∀ g, zI (zrow m 668 g) 667 6 = nI n := fun g => by rw [zrow_n _ _ (by decide), h6]
    refine zr_iload_n dX9_back_26 rfl ?_
    refine zr_sipush (v := nI 424) dX9_back_27 rfl ?_
    refine zr_icmp_geN (tgt := 60) dX9_back_30 (by decide) (by omega) (by omega) (fun hc_30 => ?_) (fun hc_30 => ?_)
    · refine zr_aload_n dX9_back_60 rfl ?_
      refine zr_aload_n dX9_back_61 rfl ?_
      refine zr_getR dX9_back_62 fd_9_16 rfl (MI.ob hM ⟨rfl, rfl⟩) (MI.r3 hM ⟨rfl, rfl⟩) (by decide) ?_
      refine zr_aload_n dX9_back_65 rfl ?_
      refine zr_getI dX9_back_66 fd_9_40 rfl (MI.ob hM ⟨rfl, rfl⟩) ?_
      rw [h6']
      refine zr_faloadN dX9_back_69 (MI.a670 hM ⟨rfl, rfl⟩) (by omega) (by decide) ?_
      refine zr_putF dX9_back_70 fd_9_43 rfl (MI.ob hM ⟨rfl, rfl⟩) ?_
      refine zr_aload_n dX9_back_73 rfl ?_
      refine zr_getI dX9_back_74 fd_9_40 rfl (MI.ob hM ⟨rfl, rfl⟩) ?_
      refine zr_ireturn dX9_back_77 rfl (Nat.le_refl _) (Nat.le_refl _) ?_
      have e : i = 424 := by omega
      subst e
      rw [zF_I]
      have e2 : zI (zsF (zrow m 668 (cpy (zI m 668) (zI m 669) 0 (424 * n) 424)) 667 1 (zF m 670 n)) 667 6 = nI n := h6' (cpy (zI m 668) (zI m 669) 0 (424 * n) 424)
      rw [e2]
      exact hk
    · refine zr_aload_n dX9_back_33 rfl ?_
      refine zr_getR dX9_back_34 fd_9_7 rfl (MI.ob hM ⟨rfl, rfl⟩) (MI.r0 hM ⟨rfl, rfl⟩) (by decide) ?_
      refine zr_iload_n dX9_back_37 rfl ?_
      refine zr_aload_n dX9_back_38 rfl ?_
      refine zr_getR dX9_back_39 fd_9_13 rfl (MI.ob hM ⟨rfl, rfl⟩) (MI.r2 hM ⟨rfl, rfl⟩) (by decide) ?_
      refine zr_sipush (v := nI 424) dX9_back_42 rfl ?_
      refine zr_aload_n dX9_back_45 rfl ?_
      refine zr_getI dX9_back_46 fd_9_40 rfl (MI.ob hM ⟨rfl, rfl⟩) ?_
      rw [h6']
      refine zr_imulN dX9_back_49 ?_
      refine zr_iload_n dX9_back_50 rfl ?_
      refine zr_iaddN dX9_back_51 ?_
      refine zr_ialoadN dX9_back_52 (MI.a669 hM ⟨rfl, rfl⟩) (by omega) (by decide) ?_
      rw [zrow_n _ _ (by decide)]
      refine zr_iastoreA dX9_back_53 (MI.a668 hM ⟨rfl, rfl⟩) (by omega) ?_
      rw [cpy_s0]
      refine zr_iincN dX9_back_54 rfl (by decide) rfl ?_
      dsimp only [zset]
      refine zr_goto (tgt := 26) dX9_back_57 (by decide) ?_
      exact ih (i + 1) (by omega) (by omega)
theorem back_m (hR : RM m w) (hk : ∀ m', RM m' (wback w).2 → zlo m m' → Q (.int (wback w).1) m') : zC (d + 2) M9_back 0 0 [.ref 667] m Q := by
  have hM := hR.1
  have hP := hR.2.2.2.1
  have hP1 := hP.1
  have hP5 := hP.2.1
  unfold wback at hk
  refine zenterP (Or.inl (by decide +kernel)) rfl (fun h => by cases h) (Nat.le_of_ble_eq_true rfl) ?_
  show zwp _ _ _ _ _ 0 [_, zU] [] 0 0 _
  refine zr_aload_n dX9_back_0 rfl ?_
  refine zr_getI dX9_back_1 fd_9_40 rfl (MI.ob hM ⟨rfl, rfl⟩) ?_
  rw [hP1]
  refine zr_if_ne (tgt := 14) dX9_back_4 (by decide) (fun hc_4 => ?_) (fun hc_4 => ?_)
  · have e : ¬ w.2.1.length = 0 := fun z => hc_4 (by rw [z]; rfl)
    rw [if_neg e] at hk
    refine zr_aload_n dX9_back_14 rfl ?_
    refine zr_dup dX9_back_15 rfl ?_
    refine zr_getI dX9_back_16 fd_9_40 rfl (MI.ob hM ⟨rfl, rfl⟩) ?_
    rw [hP1]
    refine zr_iconst (v := nI 1) dX9_back_19 rfl ?_
    refine zr_isubN dX9_back_20 (by omega) ?_
    refine zr_putI dX9_back_21 fd_9_40 rfl (MI.ob hM ⟨rfl, rfl⟩) ?_
    rw [zsI_rw]
    refine zr_iconst (v := nI 0) dX9_back_24 rfl ?_
    refine zr_istore_n dX9_back_25 (by decide) rfl ?_
    dsimp only [zset]
    obtain ⟨p1, p2, p3⟩ := hP.pop e w.1
    have e6 : zI (zrow m 667 (fu (zI m 667) 6 (nI (w.2.1.length - 1)))) 667 6 = nI (w.2.1.length - 1) := by rw [zrow_s, fu_s]
    have := back_26 (d := d + 1) (Q := Q) (m := zrow m 667 (fu (zI m 667) 6 (nI (w.2.1.length - 1)))) (hM.of rfl rfl) (show w.2.1.length - 1 ≤ 4 by omega) e6 (hk _ ?_ ?_) _ 0 (Nat.lt_succ_self _) (Nat.zero_le _)
    · rw [cpy_0, zrow_id] at this
      exact this
    · obtain ⟨a1, a2, a3, a4, a5, a6, a7, a8⟩ := hR
      rw [zsF_rw]
      refine ⟨a1.of rfl rfl, ?_, ?_, ?_, ?_, fun j hj => ?_, ?_, ?_⟩
      · rw [zI_F, zrow_s]
        refine p2.cg (fun j hj => ?_)
        have := cpy_in (f := zI (zrow m 667 (fu (zI m 667) 6 (nI (w.2.1.length - 1)))) 668) (g := zI (zrow m 667 (fu (zI m 667) 6 (nI (w.2.1.length - 1)))) 669) (a := 0) (b := 424 * (w.2.1.length - 1)) hj
        rw [Nat.zero_add] at this
        rw [this, zrow_n _ _ (by decide)]
      · rw [zrwF_s, fu_s]
        exact p3
      · rw [zI_F, zrow_n _ _ (by decide), e6, zrow_n _ _ (by decide), zrow_n _ _ (by decide), zrwF_n _ _ (by decide)]
        exact p1
      · rw [zI_F, zrow_n _ _ (by decide), zrow_s, fu_n _ _ (by decide), zrow_n _ _ (by decide), zrow_n _ _ (by decide)]
        exact a5
      · rw [zI_F, zrow_n _ _ (by decide), zrow_n _ _ (by decide)]
        exact a6 j hj
      · rw [zI_F, zrow_n _ _ (by decide), zrow_s, fu_n _ _ (by decide)]
        exact a7
      · rw [zI_F, zrow_n _ _ (by decide), zrow_s, fu_n _ _ (by decide)]
        exact a8
    · exact ((zlo.row (by decide)).tr (zlo.row (by decide))).tr (zlo.sF (by decide))
  · have e : w.2.1.length = 0 := (nI_eq (by omega) (by decide)).mp hc_4
    rw [if_pos e] at hk
    refine zr_aload_n dX9_back_7 rfl ?_
    refine zr_bipush (v := -3) dX9_back_8 rfl ?_
    refine zr_cV1 rfl dX9_back_10 cv_9_97 (MI.ob hM ⟨rfl, rfl⟩) (Nat.le_of_ble_eq_true rfl) (refuses_m (Or.inr (Or.inl rfl)) hR (fun m' h1 h2 => ?_))
    refine zr_ireturn dX9_back_13 rfl (Nat.le_refl _) (Nat.le_refl _) ?_
    exact hk m' h1 h2
/-! the digest -/
theorem dR_s {g : Nat → Int32} {n : Nat} {h : Int64} : 31 * dR g n h + (g n).toInt64 = dR g (n + 1) h := rfl
theorem digest_203 (hR : RM m w) {h0 : Int64} (hk : Q (.long (dR (fun k => sall w.1 k w.1.2.2.1) 4 h0)) m) : ∀ c i t4, 4 - i < c → i ≤ 4 →
    zwp (d + 5) M9_digest 0 0 Q 203 [.ref 667, .long (dR (fun k => sall w.1 k w.1.2.2.1) i h0), zU, .int (nI i), t4] [] 0 0 m := by
  have hM := hR.1
  have hA := hR.2.1
  intro c
  induction c with
  | zero => intro i t4 h1; omega
  | succ c ih =>
    intro i t4 h1 h2
    refine zr_iload_n dX9_digest_203 rfl ?_
    refine zr_iconst (v := nI 4) dX9_digest_204 rfl ?_
    refine zr_icmp_geN (tgt := 227) dX9_digest_205 (by decide) (by omega) (by omega) (fun hc_205 => ?_) (fun hc_205 => ?_)
    · refine zr_lload_n dX9_digest_227 rfl ?_
      refine zr_lreturn dX9_digest_228 rfl (Nat.le_refl _) (Nat.le_refl _) ?_
      have e : i = 4 := by omega
      subst e
      exact hk
    · refine zr_ldc2 dX9_digest_208 kc_9_286 ?_
      refine zr_lload_n dX9_digest_211 rfl ?_
      refine zr_lmul dX9_digest_212 ?_
      refine zr_aload_n dX9_digest_213 rfl ?_
      refine zr_iload_n dX9_digest_214 rfl ?_
      refine zr_cV1 rfl dX9_digest_215 cv_9_212 (MI.ob hM ⟨rfl, rfl⟩) (Nat.le_of_ble_eq_true rfl) (zCg (allNow_ok hM hA hc_205 ?_))
      rw [zrow_id]
      refine zr_i2l dX9_digest_218 ?_
      refine zr_ladd dX9_digest_219 ?_
      refine zr_lstore_n dX9_digest_220 (by decide) rfl ?_
      dsimp only [zset]
      refine zr_iincN dX9_digest_221 rfl (by decide) rfl ?_
      dsimp only [zset]
      refine zr_goto (tgt := 203) dX9_digest_224 (by decide) ?_
      exact ih (i + 1) t4 (by omega) (by omega)
theorem digest_144 (hR : RM m w) {h0 : Int64} {o : Nat} (ho : o < w.1.2.2.1) (hk : zwp (d + 5) M9_digest 0 0 Q 183 [.ref 667, .long (dR (fun k => sentr w.1 o (k / 5) (k % 5)) (5 * (w.1.2.2.2 o).2.2.2.length) h0), zU, .int (nI o), .int (nI (5 * (w.1.2.2.2 o).2.2.2.length))] [] 0 0 m) : ∀ c i, 5 * (w.1.2.2.2 o).2.2.2.length - i < c → i ≤ 5 * (w.1.2.2.2 o).2.2.2.length →
    zwp (d + 5) M9_digest 0 0 Q 144 [.ref 667, .long (dR (fun k => sentr w.1 o (k / 5) (k % 5)) i h0), zU, .int (nI o), .int (nI i)] [] 0 0 m := by
  have hM := hR.1
  have hA := hR.2.1
  have o6 := hA.h6 ho
  have s6 := hA.s6 ho
  intro c
  induction c with
  | zero => intro i h1; omega
  | succ c ih =>
    intro i h1 h2
    refine zr_iload dX9_digest_144 rfl ?_
    refine zr_iconst (v := nI 5) dX9_digest_146 rfl ?_
    refine zr_aload_n dX9_digest_147 rfl ?_
    refine zr_iload_n dX9_digest_148 rfl ?_
    refine zr_cV1 rfl dX9_digest_149 cv_9_70 (MI.ob hM ⟨rfl, rfl⟩) (Nat.le_of_ble_eq_true rfl) (zCg (entries_ok hM o6 (hA.siz ho) ?_))
    rw [zrow_id]
    refine zr_imulN dX9_digest_152 ?_
    refine zr_icmp_geN (tgt := 183) dX9_digest_153 (by decide) (by omega) (by omega) (fun hc_153 => ?_) (fun hc_153 => ?_)
    · have e : i = 5 * (w.1.2.2.2 o).2.2.2.length := by omega
      subst e
      exact hk
    · refine zr_ldc2 dX9_digest_156 kc_9_286 ?_
      refine zr_lload_n dX9_digest_159 rfl ?_
      refine zr_lmul dX9_digest_160 ?_
      refine zr_aload_n dX9_digest_161 rfl ?_
      refine zr_iload_n dX9_digest_162 rfl ?_
      refine zr_iload dX9_digest_163 rfl ?_
      refine zr_iconst (v := nI 5) dX9_digest_165 rfl ?_
      refine zr_idiv dX9_digest_166 (by decide) ?_
      rw [pk_div (by omega) (by decide) (by decide)]
      refine zr_iload dX9_digest_167 rfl ?_
      refine zr_iconst (v := nI 5) dX9_digest_169 rfl ?_
      refine zr_irem dX9_digest_170 (by decide) ?_
      rw [pk_rem (by omega) (by decide) (by decide)]
      refine zr_cV3 rfl dX9_digest_171 cv_9_199 (MI.ob hM ⟨rfl, rfl⟩) (Nat.le_of_ble_eq_true rfl) (zCg (entryNow_ok hM hA ho (by omega) (Nat.mod_lt _ (by decide)) ?_))
      rw [zrow_id]
      refine zr_i2l dX9_digest_174 ?_
      refine zr_ladd dX9_digest_175 ?_
      refine zr_lstore_n dX9_digest_176 (by decide) rfl ?_
      dsimp only [zset]
      refine zr_iincN dX9_digest_177 rfl (by decide) rfl ?_
      dsimp only [zset]
      refine zr_goto (tgt := 144) dX9_digest_180 (by decide) ?_
      exact ih (i + 1) (by omega) (by omega)
theorem digest_99 (hR : RM m w) (hs : sOK w.1) {h0 : Int64} {o : Nat} (ho : o < w.1.2.2.1) (hk : zwp (d + 5) M9_digest 0 0 Q 141 [.ref 667, .long (dR (fun k => srecth w.1 o (k / 8) (k % 8)) (8 * (w.1.2.2.2 o).2.2.1.length) h0), zU, .int (nI o), .int (nI (8 * (w.1.2.2.2 o).2.2.1.length))] [] 0 0 m) : ∀ c i, 8 * (w.1.2.2.2 o).2.2.1.length - i < c → i ≤ 8 * (w.1.2.2.2 o).2.2.1.length →
    zwp (d + 5) M9_digest 0 0 Q 99 [.ref 667, .long (dR (fun k => srecth w.1 o (k / 8) (k % 8)) i h0), zU, .int (nI o), .int (nI i)] [] 0 0 m := by
  have hM := hR.1
  have hA := hR.2.1
  have o6 := hA.h6 ho
  have c5 := hA.c5 ho
  intro c
  induction c with
  | zero => intro i h1; omega
  | succ c ih =>
    intro i h1 h2
    refine zr_iload dX9_digest_99 rfl ?_
    refine zr_bipush (v := nI 8) dX9_digest_101 rfl ?_
    refine zr_aload_n dX9_digest_103 rfl ?_
    refine zr_iload_n dX9_digest_104 rfl ?_
    refine zr_cV1 rfl dX9_digest_105 cv_9_73 (MI.ob hM ⟨rfl, rfl⟩) (Nat.le_of_ble_eq_true rfl) (zCg (records_ok hM o6 (hA.cnt ho) ?_))
    rw [zrow_id]
    refine zr_imulN dX9_digest_108 ?_
    refine zr_icmp_geN (tgt := 141) dX9_digest_109 (by decide) (by omega) (by omega) (fun hc_109 => ?_) (fun hc_109 => ?_)
    · have e : i = 8 * (w.1.2.2.2 o).2.2.1.length := by omega
      subst e
      exact hk
    · refine zr_ldc2 dX9_digest_112 kc_9_286 ?_
      refine zr_lload_n dX9_digest_115 rfl ?_
      refine zr_lmul dX9_digest_116 ?_
      refine zr_aload_n dX9_digest_117 rfl ?_
      refine zr_iload_n dX9_digest_118 rfl ?_
      refine zr_iload dX9_digest_119 rfl ?_
      refine zr_bipush (v := nI 8) dX9_digest_121 rfl ?_
      refine zr_idiv dX9_digest_123 (by decide) ?_
      rw [pk_div (by omega) (by decide) (by decide)]
      refine zr_iload dX9_digest_124 rfl ?_
      refine zr_bipush (v := nI 8) dX9_digest_126 rfl ?_
      refine zr_irem dX9_digest_128 (by decide) ?_
      rw [pk_rem (by omega) (by decide) (by decide)]
      refine zr_cV3 rfl dX9_digest_129 cv_9_147 (MI.ob hM ⟨rfl, rfl⟩) (Nat.le_of_ble_eq_true rfl) (zCg (recordThen_ok hM hA hs.px ho (by omega) (Nat.mod_lt _ (by decide)) ?_))
      rw [zrow_id]
      refine zr_i2l dX9_digest_132 ?_
      refine zr_ladd dX9_digest_133 ?_
      refine zr_lstore_n dX9_digest_134 (by decide) rfl ?_
      dsimp only [zset]
      refine zr_iincN dX9_digest_135 rfl (by decide) rfl ?_
      dsimp only [zset]
      refine zr_goto (tgt := 99) dX9_digest_138 (by decide) ?_
      exact ih (i + 1) (by omega) (by omega)
theorem digest_68 (hR : RM m w) {h0 : Int64} {o : Nat} (ho : o < w.1.2.2.1) (hk : zwp (d + 5) M9_digest 0 0 Q 96 [.ref 667, .long (dR (sof w.1 o) 6 h0), zU, .int (nI o), .int (nI 6)] [] 0 0 m) : ∀ c i, 6 - i < c → i ≤ 6 →
    zwp (d + 5) M9_digest 0 0 Q 68 [.ref 667, .long (dR (sof w.1 o) i h0), zU, .int (nI o), .int (nI i)] [] 0 0 m := by
  have hM := hR.1
  have hA := hR.2.1
  intro c
  induction c with
  | zero => intro i h1; omega
  | succ c ih =>
    intro i h1 h2
    refine zr_iload dX9_digest_68 rfl ?_
    refine zr_bipush (v := nI 6) dX9_digest_70 rfl ?_
    refine zr_icmp_geN (tgt := 96) dX9_digest_72 (by decide) (by omega) (by omega) (fun hc_72 => ?_) (fun hc_72 => ?_)
    · have e : i = 6 := by omega
      subst e
      exact hk
    · refine zr_ldc2 dX9_digest_75 kc_9_286 ?_
      refine zr_lload_n dX9_digest_78 rfl ?_
      refine zr_lmul dX9_digest_79 ?_
      refine zr_aload_n dX9_digest_80 rfl ?_
      refine zr_iload_n dX9_digest_81 rfl ?_
      refine zr_iload dX9_digest_82 rfl ?_
      refine zr_cV2 rfl dX9_digest_84 cv_9_159 (MI.ob hM ⟨rfl, rfl⟩) (Nat.le_of_ble_eq_true rfl) (zCg (ofNow_ok hM hA ho hc_72 ?_))
      rw [zrow_id]
      refine zr_i2l dX9_digest_87 ?_
      refine zr_ladd dX9_digest_88 ?_
      refine zr_lstore_n dX9_digest_89 (by decide) rfl ?_
      dsimp only [zset]
      refine zr_iincN dX9_digest_90 rfl (by decide) rfl ?_
      dsimp only [zset]
      refine zr_goto (tgt := 68) dX9_digest_93 (by decide) ?_
      exact ih (i + 1) (by omega) (by omega)
theorem digest_55 (hR : RM m w) (hs : sOK w.1) {h0 : Int64} (hk : ∀ t4, zwp (d + 5) M9_digest 0 0 Q 189 [.ref 667, .long (fR (sdigH w.1) w.1.2.2.1 h0), zU, .int (nI w.1.2.2.1), t4] [] 0 0 m) : ∀ c o t4, w.1.2.2.1 - o < c → o ≤ w.1.2.2.1 →
    zwp (d + 5) M9_digest 0 0 Q 55 [.ref 667, .long (fR (sdigH w.1) o h0), zU, .int (nI o), t4] [] 0 0 m := by
  have hM := hR.1
  have hA := hR.2.1
  have n6 := hs.1
  intro c
  induction c with
  | zero => intro o t4 h1; omega
  | succ c ih =>
    intro o t4 h1 h2
    refine zr_iload_n dX9_digest_55 rfl ?_
    refine zr_aload_n dX9_digest_56 rfl ?_
    refine zr_getR dX9_digest_57 fd_9_7 rfl (MI.ob hM ⟨rfl, rfl⟩) (MI.r0 hM ⟨rfl, rfl⟩) (by decide) ?_
    refine zr_iconst (v := nI 0) dX9_digest_60 rfl ?_
    refine zr_ialoadN dX9_digest_61 (MI.a668 hM ⟨rfl, rfl⟩) (by omega) (by decide) ?_
    rw [hA.1]
    refine zr_icmp_geN (tgt := 189) dX9_digest_62 (by decide) (by omega) (by omega) (fun hc_62 => ?_) (fun hc_62 => ?_)
    · have e : o = w.1.2.2.1 := by omega
      subst e
      exact hk _
    · refine zr_iconst (v := nI 0) dX9_digest_65 rfl ?_
      refine zr_istore dX9_digest_66 (by decide) rfl ?_
      dsimp only [zset]
      refine digest_68 hR hc_62 ?_ _ 0 (Nat.lt_succ_self _) (Nat.zero_le _)
      refine zr_iconst (v := nI 0) dX9_digest_96 rfl ?_
      refine zr_istore dX9_digest_97 (by decide) rfl ?_
      dsimp only [zset]
      refine digest_99 hR hs hc_62 ?_ _ 0 (Nat.lt_succ_self _) (Nat.zero_le _)
      refine zr_iconst (v := nI 0) dX9_digest_141 rfl ?_
      refine zr_istore dX9_digest_142 (by decide) rfl ?_
      dsimp only [zset]
      refine digest_144 hR hc_62 ?_ _ 0 (Nat.lt_succ_self _) (Nat.zero_le _)
      refine zr_iincN dX9_digest_183 rfl (by decide) rfl ?_
      dsimp only [zset]
      refine zr_goto (tgt := 55) dX9_digest_186 (by decide) ?_
      exact ih (o + 1) _ (by omega) (by omega)
theorem digest_6 (hR : RM m w) (hk : zwp (d + 5) M9_digest 0 0 Q 31 [.ref 667, .long (dR (stold w) 11 2309), zU, .int (nI 11), zU] [] 0 0 m) : ∀ c i, 11 - i < c → i ≤ 11 →
    zwp (d + 5) M9_digest 0 0 Q 6 [.ref 667, .long (dR (stold w) i 2309), zU, .int (nI i), zU] [] 0 0 m := by
  have hM := hR.1
  intro c
  induction c with
  | zero => intro i h1; omega
  | succ c ih =>
    intro i h1 h2
    refine zr_iload_n dX9_digest_6 rfl ?_
    refine zr_bipush (v := nI 11) dX9_digest_7 rfl ?_
    refine zr_icmp_geN (tgt := 31) dX9_digest_9 (by decide) (by omega) (by omega) (fun hc_9 => ?_) (fun hc_9 => ?_)
    · have e : i = 11 := by omega
      subst e
      exact hk
    · refine zr_ldc2 dX9_digest_12 kc_9_286 ?_
      refine zr_lload_n dX9_digest_15 rfl ?_
      refine zr_lmul dX9_digest_16 ?_
      refine zr_aload_n dX9_digest_17 rfl ?_
      refine zr_iload_n dX9_digest_18 rfl ?_
      refine zr_cV1 rfl dX9_digest_19 cv_9_281 (MI.ob hM ⟨rfl, rfl⟩) (Nat.le_of_ble_eq_true rfl) (toldOf_m hR hc_9 ?_)
      refine zr_i2l dX9_digest_22 ?_
      refine zr_ladd dX9_digest_23 ?_
      refine zr_lstore_n dX9_digest_24 (by decide) rfl ?_
      dsimp only [zset]
      refine zr_iincN dX9_digest_25 rfl (by decide) rfl ?_
      dsimp only [zset]
      refine zr_goto (tgt := 6) dX9_digest_28 (by decide) ?_
      exact ih (i + 1) (by omega) (by omega)
theorem digest_m (hR : RM m w) (hs : sOK w.1) (hn : fN w.1.2.1) (hk : Q (.long (sdig w)) m) : zC (d + 5) M9_digest 0 0 [.ref 667] m Q := by
  have hM := hR.1
  refine zenterP (Or.inl (by decide +kernel)) rfl (fun h => by cases h) (Nat.le_of_ble_eq_true rfl) ?_
  show zwp _ _ _ _ _ 0 [_, zU, zU, zU, zU] [] 0 0 _
  refine zr_ldc2 dX9_digest_0 kc_9_284 ?_
  refine zr_lstore_n dX9_digest_3 (by decide) rfl ?_
  dsimp only [zset]
  refine zr_iconst (v := nI 0) dX9_digest_4 rfl ?_
  refine zr_istore_n dX9_digest_5 (by decide) rfl ?_
  dsimp only [zset]
  refine digest_6 hR ?_ _ 0 (Nat.lt_succ_self _) (Nat.zero_le _)
  refine zr_ldc2 dX9_digest_31 kc_9_286 ?_
  refine zr_ldc2 dX9_digest_34 kc_9_286 ?_
  refine zr_lload_n dX9_digest_37 rfl ?_
  refine zr_lmul dX9_digest_38 ?_
  refine zr_aload_n dX9_digest_39 rfl ?_
  refine zr_getI dX9_digest_40 fd_9_270 rfl (MI.ob hM ⟨rfl, rfl⟩) ?_
  rw [hR.2.2.2.2.2.2.1]
  refine zr_i2l dX9_digest_43 ?_
  refine zr_ladd dX9_digest_44 ?_
  refine zr_lmul dX9_digest_45 ?_
  refine zr_aload_n dX9_digest_46 rfl ?_
  refine zr_getI dX9_digest_47 fd_9_36 rfl (MI.ob hM ⟨rfl, rfl⟩) ?_
  rw [hR.2.2.2.2.2.2.2]
  refine zr_i2l dX9_digest_50 ?_
  refine zr_ladd dX9_digest_51 ?_
  refine zr_lstore_n dX9_digest_52 (by decide) rfl ?_
  dsimp only [zset]
  refine zr_iconst (v := nI 0) dX9_digest_53 rfl ?_
  refine zr_istore_n dX9_digest_54 (by decide) rfl ?_
  dsimp only [zset]
  refine digest_55 (h0 := dg (dg (dR (stold w) 11 2309) w.2.2.2.2.1) w.2.2.2.2.2) hR hs (fun t4 => ?_) _ 0 _ (Nat.lt_succ_self _) (Nat.zero_le _)
  refine zr_ldc2 dX9_digest_189 kc_9_286 ?_
  refine zr_lload_n dX9_digest_192 rfl ?_
  refine zr_lmul dX9_digest_193 ?_
  refine zr_aload_n dX9_digest_194 rfl ?_
  refine zr_cV0 rfl dX9_digest_195 cv_9_188 (MI.ob hM ⟨rfl, rfl⟩) (Nat.le_of_ble_eq_true rfl) (rateBits_m hR.rs hn ?_)
  refine zr_i2l dX9_digest_198 ?_
  refine zr_ladd dX9_digest_199 ?_
  refine zr_lstore_n dX9_digest_200 (by decide) rfl ?_
  dsimp only [zset]
  refine zr_iconst (v := nI 0) dX9_digest_201 rfl ?_
  refine zr_istore_n dX9_digest_202 (by decide) rfl ?_
  dsimp only [zset]
  exact digest_203 hR hk _ 0 _ (Nat.lt_succ_self _) (Nat.zero_le _)
end
