/-! ===== the class: asking ===== -/
section
variable {d : Nat} {Q : Value → zM → Prop} {m m' : zM} {L C h o : Nat} {s : sS} {n k t : Int32} {p p' : Int32 → Bool} {l : List sR} {q : sQ}
theorem DC.cg (h : DC m L p) (e : ∀ j, j < 256 → p (nI j) = p' (nI j)) : DC m L p' := fun j hj => by rw [← e j hj]; exact h j hj
theorem noteKnown_ok (hC : CC m C l) (hR : LR m L) (hlo : C + 8 ≤ L + 93) (hd : ∀ i, i < l.length → ∃ q, q < 256 ∧ zg l i 2 = nI q) (hD : DC m L (fun _ => false)) (hk : ∀ m', zout (L + 93) (L + 94) m m' → DC m' L (sknown l n k t l.length) → Q .null m') : zC (d + 3) M0_noteKnown 0 0 [.ref C, .int n, .int k, .int t, .ref (L + 92)] m Q := by
  have loop : ∀ c i m1 t6, l.length - i < c → i ≤ l.length → zout (L + 93) (L + 94) m m1 → DC m1 L (sknown l n k t i) → zwp (d + 3) M0_noteKnown 0 0 Q 3 [.ref C, .int n, .int k, .int t, .ref (L + 92), .int (nI i), t6] [] 0 0 m1 := by
    intro c
    induction c with
    | zero => intro i m1 t6 h1; omega
    | succ c ih =>
      intro i m1 t6 h1 h2 ho hD1
      have hR1 : LR m1 L := hR.of ho.1 (ho.R (by omega)) (ho.R (by omega)) (ho.R (by omega))
      have hC1 : CC m1 C l := hC.out ho (by omega)
      have h6 := hC1.2.2.2.2.2.1
      have hsz := hC1.2.2.2.2.1
      have skip : i < l.length → (snam (zg l i) n k && decide (zg l i 3 ≤ 2 * (zg l i 4 - t))) = false → DC m1 L (sknown l n k t (i + 1)) := fun _ e => hD1.cg (fun j hj => by
        show _ = (sknown l n k t i (nI j) || (snam (zg l i) n k && decide (zg l i 3 ≤ 2 * (zg l i 4 - t)) && (zg l i 2 == nI j)))
        rw [e, Bool.false_and, Bool.or_false])
      refine zr_iload dX0_noteKnown_3 rfl ?_
      refine zr_aload_n dX0_noteKnown_5 rfl ?_
      refine zr_getI dX0_noteKnown_6 fd_0_18 rfl (hC1.ob rfl) ?_
      rw [hsz]
      refine zr_icmp_geN (tgt := 64) dX0_noteKnown_9 (by decide) (by omega) (by omega) (fun hc_9 => ?_) (fun hc_9 => ?_)
      · refine zr_return dX0_noteKnown_64 rfl (Nat.le_refl _) (Nat.le_refl _) ?_
        have e : i = l.length := by omega
        subst e
        exact hk m1 ho hD1
      · refine zr_aload_n dX0_noteKnown_12 rfl ?_
        refine zr_getR dX0_noteKnown_13 fd_0_11 rfl (hC1.ob rfl) hC1.2.2.1 (by omega) ?_
        refine zr_iload dX0_noteKnown_16 rfl ?_
        refine zr_aaloadN dX0_noteKnown_18 (hC1.ar rfl) (by decide) (by decide) (by omega) (by decide) rfl (hC1.nz (by omega)) ?_
        refine zr_astore dX0_noteKnown_19 (by decide) rfl ?_
        dsimp only [zset]
        refine zr_aload dX0_noteKnown_21 rfl ?_
        refine zr_iload_n dX0_noteKnown_23 rfl ?_
        refine zr_iload_n dX0_noteKnown_24 rfl ?_
        refine zr_cV2 rfl dX0_noteKnown_25 cv_0_63 (hC1.eo (by omega) rfl) (Nat.le_of_ble_eq_true rfl) (Eisn_ok (e := zg l i) (hC1.eo (by omega) rfl) (hC1.at (by omega) (by decide)) (hC1.at (by omega) (by decide)) ?_)
        refine zr_if_eqB (tgt := 58) dX0_noteKnown_28 (by decide) (fun hc_28 => ?_) (fun hc_28 => ?_)
        · have e := skip (by omega) (by rw [hc_28, Bool.false_and])
          refine zr_iincN dX0_noteKnown_58 rfl (by decide) rfl ?_
          dsimp only [zset]
          refine zr_goto (tgt := 3) dX0_noteKnown_61 (by decide) ?_
          first
          | exact ih (i + 1) m1 _ (by omega) (by omega) ho e
          | (refine ih (i + 1) m2 _ (by omega) (by omega) (ho.tr o2) (D2.cg (fun j hj => ?_))
             show (sknown l n k t i (nI j) || (nI j == nI dq)) = (sknown l n k t i (nI j) || (snam (zg l i) n k && decide (zg l i 3 ≤ 2 * (zg l i 4 - t)) && (zg l i 2 == nI j)))
             have e5 : zg l i 3 ≤ 2 * (zg l i 4 - t) := Int32.not_lt.mp hc_45
             rw [hc_28, decide_eq_true e5, dq2, BEq.comm]
             rfl)
          | fail "none"
        · refine zr_iconst (v := nI 2) dX0_noteKnown_31 rfl ?_
          refine zr_aload dX0_noteKnown_32 rfl ?_
          refine zr_getI dX0_noteKnown_34 fd_0_35 rfl (hC1.eo (by omega) rfl) ?_
          rw [hC1.at (by omega) (by decide)]
          refine zr_iload_n dX0_noteKnown_37 rfl ?_
          refine zr_isub dX0_noteKnown_38 ?_
          refine zr_imul dX0_noteKnown_39 ?_
          refine zr_aload dX0_noteKnown_40 rfl ?_
          refine zr_getI dX0_noteKnown_42 fd_0_54 rfl (hC1.eo (by omega) rfl) ?_
          rw [hC1.at (by omega) (by decide)]
          refine zr_icmp_lt (tgt := 58) dX0_noteKnown_45 (by decide) (fun hc_45 => ?_) (fun hc_45 => ?_)
          · have e6 : ¬ zg l i 3 ≤ 2 * (zg l i 4 - t) := Int32.not_le.mpr hc_45
            have e := skip (by omega) (by rw [decide_eq_false e6, Bool.and_false])
            refine zr_iincN dX0_noteKnown_58 rfl (by decide) rfl ?_
            dsimp only [zset]
            refine zr_goto (tgt := 3) dX0_noteKnown_61 (by decide) ?_
            first
            | exact ih (i + 1) m1 _ (by omega) (by omega) ho e
            | (refine ih (i + 1) m2 _ (by omega) (by omega) (ho.tr o2) (D2.cg (fun j hj => ?_))
               show (sknown l n k t i (nI j) || (nI j == nI dq)) = (sknown l n k t i (nI j) || (snam (zg l i) n k && decide (zg l i 3 ≤ 2 * (zg l i 4 - t)) && (zg l i 2 == nI j)))
               have e5 : zg l i 3 ≤ 2 * (zg l i 4 - t) := Int32.not_lt.mp hc_45
               rw [hc_28, decide_eq_true e5, dq2, BEq.comm]
               rfl)
            | fail "none"
          · obtain ⟨dq, dq1, dq2⟩ := hd i (by omega)
            refine zr_aload dX0_noteKnown_48 rfl ?_
            refine zr_aload dX0_noteKnown_50 rfl ?_
            refine zr_getI dX0_noteKnown_52 fd_0_32 rfl (hC1.eo (by omega) rfl) ?_
            rw [hC1.at (by omega) (by decide), dq2]
            refine zr_cV1v rfl dX0_noteKnown_55 cv_0_67 (hR1.dob rfl) (Nat.le_of_ble_eq_true rfl) (Dadd_ok hR1 dq1 hD1 (fun m2 o2 D2 => ?_))
            refine zr_iincN dX0_noteKnown_58 rfl (by decide) rfl ?_
            dsimp only [zset]
            refine zr_goto (tgt := 3) dX0_noteKnown_61 (by decide) ?_
            first
            | exact ih (i + 1) m1 _ (by omega) (by omega) ho e
            | (refine ih (i + 1) m2 _ (by omega) (by omega) (ho.tr o2) (D2.cg (fun j hj => ?_))
               show (sknown l n k t i (nI j) || (nI j == nI dq)) = (sknown l n k t i (nI j) || (snam (zg l i) n k && decide (zg l i 3 ≤ 2 * (zg l i 4 - t)) && (zg l i 2 == nI j)))
               have e5 : zg l i 3 ≤ 2 * (zg l i 4 - t) := Int32.not_lt.mp hc_45
               rw [hc_28, decide_eq_true e5, dq2, BEq.comm]
               rfl)
            | fail "none"
  refine zenterP (Or.inl (by decide +kernel)) rfl (fun h => by cases h) (Nat.le_of_ble_eq_true rfl) ?_
  show zwp _ _ _ _ _ 0 [_, _, _, _, _, zU, zU] [] 0 0 _
  refine zr_iconst (v := nI 0) dX0_noteKnown_0 rfl ?_
  refine zr_istore dX0_noteKnown_1 (by decide) rfl ?_
  dsimp only [zset]
  exact loop _ 0 m _ (Nat.lt_succ_self _) (Nat.zero_le _) zout.rf hD
theorem sans_spk (hs : sOK s) (ho : o < s.2.2.1) (hne : o ≠ h) : (sspk s o = -1 ∧ sans s h o = false) ∨ ∃ p, p < s.2.2.1 ∧ sspk s o = nI p ∧ sans s h o = true ∧ (sby s o).toNatClampNeg = p := by
  have n6 := hs.1
  have e1 : (o != h) = true := by simp [hne]
  unfold sspk sans sby
  rw [e1]
  cases h1 : sawk (s.2.2.2 o)
  · rcases (hs.2 o ho).2.1 with z | ⟨p, p1, p2⟩
    · refine Or.inl ?_
      rw [z]
      have : sisH s (-1) = false := rfl
      simp [this]
    · have e2 : (nI p != -1) = true := by simp [nI_ne_m1 (show p < 2 ^ 31 by omega)]
      simp only [p2, Bool.false_eq_true, if_false]
      rw [sisH_nI n6 p1, hN_nI (show p < 2 ^ 31 by omega), e2, show (nI p).toNatClampNeg = p from nI_clamp (by omega)]
      cases h2 : sawk (s.2.2.2 p)
      · exact Or.inl ⟨rfl, rfl⟩
      · exact Or.inr ⟨p, p1, rfl, rfl, rfl⟩
  · refine Or.inr ⟨o, ho, by simp, ?_, by simp [nI_clamp (show o < 2 ^ 31 by omega)]⟩
    have e2 : (nI o != -1) = true := by simp [nI_ne_m1 (show o < 2 ^ 31 by omega)]
    rw [if_pos rfl, e2, show (nI o).toNatClampNeg = o from nI_clamp (by omega), h1]
    rfl
theorem ans_29 {b H : Nat} {q0 : sQ} (hH0 : H = hb L o) (hs : sOK q0.2) (ho : o < q0.2.2.2.1) (hb1 : b < 6)
    (hk : ∀ m', LK m' L (fR (saskR n k b o) (q0.2.2.2.2 o).2.2.1.length q0).2 → DC m' L (fR (saskR n k b o) (q0.2.2.2.2 o).2.2.1.length q0).1 → zout L (L + 94) m m' → Q (.int ((fR (saskR n k b o) (q0.2.2.2.2 o).2.2.1.length q0).2.1 2 - q0.2.1 2)) m') : ∀ c r m1 t8, (q0.2.2.2.2 o).2.2.1.length - r < c → r ≤ (q0.2.2.2.2 o).2.2.1.length → LK m1 L (fR (saskR n k b o) r q0).2 → DC m1 L (fR (saskR n k b o) r q0).1 → zout L (L + 94) m m1 →
    zwp (d + 4) M5_answerFor 0 0 Q 29 [.ref L, .int (nI o), .int n, .int k, .int (nI b), .int ((fR (saskR n k b o) r q0).2.1 2 - q0.2.1 2), .ref H, .int (nI r), t8] [] 0 0 m1 := by
  subst hH0
  intro c
  induction c with
  | zero => intro r m1 t8 h1; omega
  | succ c ih =>
    intro r m1 t8 h1 h2 hL hD hout
    have sh := fR_shpq (f := saskR n k b o) (fun r q => saskR_shp) q0 r
    have hok := hs.askRs (n := n) (k := k) (b := b) ho r h2
    have ihr := fun m1 t8 => ih (r + 1) m1 t8
    rw [fR_s] at ihr
    generalize hq : fR (saskR n k b o) r q0 = q at *
    have n6 := hL.n6
    have ho2 : o < q.2.2.2.1 := by rw [sh.1]; exact ho
    have hlen := (sh.2.2 o).2.2
    have hH := hL.hc ho2
    have h5 := hH.c5
    refine zr_iload dX5_answerFor_29 rfl ?_
    refine zr_aload dX5_answerFor_31 rfl ?_
    refine zr_getI dX5_answerFor_33 fd_5_59 rfl (hH.ob rfl) ?_
    rw [hH.cn, hlen]
    refine zr_icmp_geN (tgt := 127) dX5_answerFor_36 (by decide) (by omega) (by omega) (fun hc_36 => ?_) (fun hc_36 => ?_)
    · refine zr_iload dX5_answerFor_127 rfl ?_
      refine zr_ireturn dX5_answerFor_129 rfl (Nat.le_refl _) (Nat.le_refl _) ?_
      have e : r = (q0.2.2.2.2 o).2.2.1.length := by omega
      rw [← e, hq] at hk
      exact hk _ hL hD hout
    · have hr2 : r < (q.2.2.2.2 o).2.2.1.length := by rw [hlen]; exact hc_36
      have hR := hL.rcl ho2 hr2
      have hz := hL.ra_rz (r := r) ho2 (by omega)
      have hrk := hok.rec ho2 hr2
      obtain ⟨dq, dq1, dq2⟩ := hrk.2.1
      have hzi : L + 1 < ra m1 L o r ∧ ra m1 L o r < L + 92 := by
        obtain ⟨o', o1, o2, o3⟩ := hz
        have := hb_in (L := L) o1
        omega
      refine zr_aload dX5_answerFor_39 rfl ?_
      refine zr_getR dX5_answerFor_41 fd_5_146 rfl (hH.ob rfl) hH.r0 (by omega) ?_
      refine zr_iload dX5_answerFor_44 rfl ?_
      refine zr_aaloadN dX5_answerFor_46 (hH.ar rfl) (by decide) (by decide) (by omega) (by decide) (show zR m1 (hb L o + 1) r = ra m1 L o r from rfl) (hH.nz (by omega)) ?_
      refine zr_astore dX5_answerFor_47 (by decide) rfl ?_
      dsimp only [zset]
      refine zr_aload dX5_answerFor_49 rfl ?_
      refine zr_cV0 rfl dX5_answerFor_51 cv_5_107 hR.1 (Nat.le_of_ble_eq_true rfl) (Rown_ok (e := zg (q.2.2.2.2 o).2.2.1 r) hR.1 (hR.2 4 (by decide)) ?_)
      refine zr_if_eqB (tgt := 121) dX5_answerFor_54 (by decide) (fun hc_54 => ?_) (fun hc_54 => ?_)
      · have ev : saskR n k b o r q = q := by unfold saskR; dsimp only; rw [if_neg (by rw [hc_54, Bool.false_and]; decide)]
        refine zr_iincN dX5_answerFor_121 rfl (by decide) rfl ?_
        dsimp only [zset]
        refine zr_goto (tgt := 29) dX5_answerFor_124 (by decide) ?_
        rw [ev] at ihr
        first
        | exact ihr m1 _ (by omega) (by omega) hL hD hout
        | exact ihr _ _ (by omega) (by omega) (hL.sc (k := 5) (by decide) (by decide) _) (hD.out (zout.sI (lo := L) (hi := L + 1) (by omega) (by omega)) (by omega)) (hout.tr (zout.sI (by omega) (by omega)))
        | (rw [← dq2] at D2
           exact ihr m3 _ (by omega) (by omega) l3 (D2.out o3 (by omega)) ((hout.tr (o2.wd (by omega) (by omega))).tr (o3.wd (by omega) (by omega))))
        | fail "none"
      · refine zr_aload dX5_answerFor_57 rfl ?_
        refine zr_iload_n dX5_answerFor_59 rfl ?_
        refine zr_iload_n dX5_answerFor_60 rfl ?_
        refine zr_cV2 rfl dX5_answerFor_61 cv_5_193 hR.1 (Nat.le_of_ble_eq_true rfl) (Risn_ok (e := zg (q.2.2.2.2 o).2.2.1 r) hR.1 (hR.2 0 (by decide)) (hR.2 1 (by decide)) ?_)
        refine zr_if_neB (tgt := 70) dX5_answerFor_64 (by decide) (fun hc_64 => ?_) (fun hc_64 => ?_)
        · refine zr_aload_n dX5_answerFor_70 rfl ?_
          refine zr_getR dX5_answerFor_71 fd_5_21 rfl (hL.1.ob rfl) hL.r1 (by omega) ?_
          refine zr_aload dX5_answerFor_74 rfl ?_
          refine zr_getI dX5_answerFor_76 fd_5_127 rfl hR.1 ?_
          rw [hR.2 2 (by decide), dq2]
          refine zr_cV1 rfl dX5_answerFor_79 cv_5_196 (hL.1.dob rfl) (Nat.le_of_ble_eq_true rfl) (Dhas_ok hL.1 dq1 hD ?_)
          refine zr_if_eqB (tgt := 98) dX5_answerFor_82 (by decide) (fun hc_82 => ?_) (fun hc_82 => ?_)
          · have ev : saskR n k b o r q = ((fun x => q.1 x || x == zg (q.2.2.2.2 o).2.2.1 r 2), ssays q.2 b (zg (q.2.2.2.2 o).2.2.1 r)) := by unfold saskR; dsimp only; rw [if_pos (by rw [hc_54, hc_64]; rfl), if_neg (by rw [dq2, hc_82]; decide)]
            refine zr_aload_n dX5_answerFor_98 rfl ?_
            refine zr_getR dX5_answerFor_99 fd_5_21 rfl (hL.1.ob rfl) hL.r1 (by omega) ?_
            refine zr_aload dX5_answerFor_102 rfl ?_
            refine zr_getI dX5_answerFor_104 fd_5_127 rfl hR.1 ?_
            rw [hR.2 2 (by decide), dq2]
            refine zr_cV1v rfl dX5_answerFor_107 cv_5_198 (hL.1.dob rfl) (Nat.le_of_ble_eq_true rfl) (Dadd_ok hL.1 dq1 hD (fun m2 o2 D2 => ?_))
            have hL2 := hL.dout o2
            have hR2 : RCl m2 (ra m1 L o r) (zg (q.2.2.2.2 o).2.2.1 r) := hR.out o2 (by omega)
            refine zr_aload_n dX5_answerFor_110 rfl ?_
            refine zr_iload dX5_answerFor_111 rfl ?_
            refine zr_aload dX5_answerFor_113 rfl ?_
            refine zr_cV2v rfl dX5_answerFor_115 cv_5_86 (hL2.1.ob rfl) (Nat.le_of_ble_eq_true rfl) (announce_ok hL2 hok (by omega) hR2 hz hrk.2.2.1 (fun m3 l3 o3 r3 => ?_))
            refine zr_iinc (v := q.2.1 2 + 1 - q0.2.1 2) dX5_answerFor_118 rfl (i_cnt _ _) (by decide) rfl ?_
            dsimp only [zset]
            refine zr_iincN dX5_answerFor_121 rfl (by decide) rfl ?_
            dsimp only [zset]
            refine zr_goto (tgt := 29) dX5_answerFor_124 (by decide) ?_
            rw [ev] at ihr
            first
            | exact ihr m1 _ (by omega) (by omega) hL hD hout
            | exact ihr _ _ (by omega) (by omega) (hL.sc (k := 5) (by decide) (by decide) _) (hD.out (zout.sI (lo := L) (hi := L + 1) (by omega) (by omega)) (by omega)) (hout.tr (zout.sI (by omega) (by omega)))
            | (rw [← dq2] at D2
               exact ihr m3 _ (by omega) (by omega) l3 (D2.out o3 (by omega)) ((hout.tr (o2.wd (by omega) (by omega))).tr (o3.wd (by omega) (by omega))))
            | fail "none"
          · have ev : saskR n k b o r q = (q.1, scnt q.2 5 (q.2.1 5 + 1)) := by unfold saskR; dsimp only; rw [if_pos (by rw [hc_54, hc_64]; rfl), dq2, if_pos hc_82]
            refine zr_aload_n dX5_answerFor_85 rfl ?_
            refine zr_dup dX5_answerFor_86 rfl ?_
            refine zr_getI dX5_answerFor_87 fd_5_48 rfl (hL.1.ob rfl) ?_
            rw [hL.2.1.2.2.2.2.2.2.1]
            refine zr_iconst (v := nI 1) dX5_answerFor_90 rfl ?_
            refine zr_iadd dX5_answerFor_91 ?_
            refine zr_putI dX5_answerFor_92 fd_5_48 rfl (hL.1.ob rfl) ?_
            refine zr_goto (tgt := 121) dX5_answerFor_95 (by decide) ?_
            refine zr_iincN dX5_answerFor_121 rfl (by decide) rfl ?_
            dsimp only [zset]
            refine zr_goto (tgt := 29) dX5_answerFor_124 (by decide) ?_
            rw [ev] at ihr
            first
            | exact ihr m1 _ (by omega) (by omega) hL hD hout
            | exact ihr _ _ (by omega) (by omega) (hL.sc (k := 5) (by decide) (by decide) _) (hD.out (zout.sI (lo := L) (hi := L + 1) (by omega) (by omega)) (by omega)) (hout.tr (zout.sI (by omega) (by omega)))
            | (rw [← dq2] at D2
               exact ihr m3 _ (by omega) (by omega) l3 (D2.out o3 (by omega)) ((hout.tr (o2.wd (by omega) (by omega))).tr (o3.wd (by omega) (by omega))))
            | fail "none"
        · have ev : saskR n k b o r q = q := by unfold saskR; dsimp only; rw [if_neg (by rw [hc_64, Bool.and_false]; decide)]
          refine zr_goto (tgt := 121) dX5_answerFor_67 (by decide) ?_
          refine zr_iincN dX5_answerFor_121 rfl (by decide) rfl ?_
          dsimp only [zset]
          refine zr_goto (tgt := 29) dX5_answerFor_124 (by decide) ?_
          rw [ev] at ihr
          first
          | exact ihr m1 _ (by omega) (by omega) hL hD hout
          | exact ihr _ _ (by omega) (by omega) (hL.sc (k := 5) (by decide) (by decide) _) (hD.out (zout.sI (lo := L) (hi := L + 1) (by omega) (by omega)) (by omega)) (hout.tr (zout.sI (by omega) (by omega)))
          | (rw [← dq2] at D2
             exact ihr m3 _ (by omega) (by omega) l3 (D2.out o3 (by omega)) ((hout.tr (o2.wd (by omega) (by omega))).tr (o3.wd (by omega) (by omega))))
          | fail "none"
theorem answerFor_ok (hL : LK m L q.2) (hD : DC m L q.1) (hs : sOK q.2) (ho : o < q.2.2.2.1) (hne : o ≠ h)
    (hk : ∀ m', LK m' L (saskH n k h o q).2 → DC m' L (saskH n k h o q).1 → zout L (L + 94) m m' → Q (.int ((saskH n k h o q).2.1 2 - q.2.1 2)) m') : zC (d + 4) M5_answerFor 0 0 [.ref L, .int (nI o), .int n, .int k] m Q := by
  have n6 := hL.n6
  unfold saskH at hk
  rcases sans_spk (h := h) hs ho hne with ⟨e1, e2⟩ | ⟨b, b1, e1, e2, e3⟩
  · rw [e2, if_neg (by decide)] at hk
    have := hk m hL hD zout.rf
    rw [Int32.sub_self] at this
    refine zenterP (Or.inl (by decide +kernel)) rfl (fun h => by cases h) (Nat.le_of_ble_eq_true rfl) ?_
    show zwp _ _ _ _ _ 0 [_, _, _, _, zU, zU, zU, zU, zU] [] 0 0 _
    refine zr_aload_n dX5_answerFor_0 rfl ?_
    refine zr_iload_n dX5_answerFor_1 rfl ?_
    refine zr_cV1 rfl dX5_answerFor_2 cv_5_139 (hL.1.ob rfl) (Nat.le_of_ble_eq_true rfl) (speaker_ok hL hs ho ?_)
    refine zr_istore dX5_answerFor_5 (by decide) rfl ?_
    dsimp only [zset]
    refine zr_iload dX5_answerFor_7 rfl ?_
    refine zr_iconst (v := -1) dX5_answerFor_9 rfl ?_
    refine zr_icmp_ne (tgt := 15) dX5_answerFor_10 (by decide) (fun hc_10 => absurd e1 hc_10) (fun hc_10 => ?_)
    refine zr_iconst (v := nI 0) dX5_answerFor_13 rfl ?_
    refine zr_ireturn dX5_answerFor_14 rfl (Nat.le_refl _) (Nat.le_refl _) ?_
    exact this
  · rw [e2, if_pos rfl, e3] at hk
    refine zenterP (Or.inl (by decide +kernel)) rfl (fun h => by cases h) (Nat.le_of_ble_eq_true rfl) ?_
    show zwp _ _ _ _ _ 0 [_, _, _, _, zU, zU, zU, zU, zU] [] 0 0 _
    refine zr_aload_n dX5_answerFor_0 rfl ?_
    refine zr_iload_n dX5_answerFor_1 rfl ?_
    refine zr_cV1 rfl dX5_answerFor_2 cv_5_139 (hL.1.ob rfl) (Nat.le_of_ble_eq_true rfl) (speaker_ok hL hs ho ?_)
    rw [e1]
    refine zr_istore dX5_answerFor_5 (by decide) rfl ?_
    dsimp only [zset]
    refine zr_iload dX5_answerFor_7 rfl ?_
    refine zr_iconst (v := -1) dX5_answerFor_9 rfl ?_
    refine zr_icmp_ne (tgt := 15) dX5_answerFor_10 (by decide) (fun hc_10 => ?_) (fun hc_10 => absurd hc_10 (nI_ne_m1 (show b < 2 ^ 31 by omega)))
    refine zr_iconst (v := nI 0) dX5_answerFor_15 rfl ?_
    refine zr_istore dX5_answerFor_16 (by decide) rfl ?_
    dsimp only [zset]
    refine zr_aload_n dX5_answerFor_18 rfl ?_
    refine zr_getR dX5_answerFor_19 fd_5_11 rfl (hL.1.ob rfl) hL.r0 (by omega) ?_
    refine zr_iload_n dX5_answerFor_22 rfl ?_
    refine zr_aaloadN dX5_answerFor_23 (hL.1.ar rfl) (by decide) (by decide) (by omega) (by decide) (hL.rh (by omega)) (by unfold hb; omega) ?_
    refine zr_astore dX5_answerFor_24 (by decide) rfl ?_
    dsimp only [zset]
    refine zr_iconst (v := nI 0) dX5_answerFor_26 rfl ?_
    refine zr_istore dX5_answerFor_27 (by decide) rfl ?_
    dsimp only [zset]
    have := ans_29 (d := d) (Q := Q) (m := m) rfl hs ho (show b < 6 by omega) hk _ 0 m zU (Nat.lt_succ_self _) (Nat.zero_le _) hL hD zout.rf
    have e0 : (fR (saskR n k b o) 0 q).2.1 2 - q.2.1 2 = nI 0 := Int32.sub_self _
    rw [e0] at this
    exact this
theorem i_tele (a b c : Int32) : a - c + (b - a) = b - c := by
  rw [Int32.sub_eq_add_neg, Int32.sub_eq_add_neg, Int32.sub_eq_add_neg, Int32.add_comm b, ← Int32.add_assoc, Int32.add_assoc a, Int32.add_comm (-c), ← Int32.add_assoc, Int32.add_right_neg, Int32.zero_add, Int32.add_comm]
theorem ask_ok {a : Int32} (hL : LK m L s) (hs : sOK s) (hno : oc (nI 97) (xs [a, n, k]) s < 0 → Q (.int (oc (nI 97) (xs [a, n, k]) s)) m) (hyes : oc (nI 97) (xs [a, n, k]) s = 0 → ∀ m', LK m' L (od (nI 97) (xs [a, n, k]) s).2 → zout L (L + 94) m m' → Q (.int (od (nI 97) (xs [a, n, k]) s).1) m') : zC (d + 5) M5_ask 0 0 [.ref L, .int a, .int n, .int k] m Q := by
  have n6 := hL.n6
  have eo : oc (nI 97) (xs [a, n, k]) s = scanAsk s a n k := rfl
  rw [eo] at hno hyes
  unfold scanAsk at hno hyes
  have loop : ∀ h, h < s.2.2.1 → ∀ q0 : sQ, sOK q0.2 → q0.2.2.2.1 = s.2.2.1 → (∀ m', LK m' L (fR (saskH n k h) s.2.2.1 q0).2 → zout L (L + 94) m m' → Q (.int ((fR (saskH n k h) s.2.2.1 q0).2.1 2 - q0.2.1 2)) m') → ∀ c o m1, s.2.2.1 - o < c → o ≤ s.2.2.1 → LK m1 L (fR (saskH n k h) o q0).2 → DC m1 L (fR (saskH n k h) o q0).1 → zout L (L + 94) m m1 →
      zwp (d + 5) M5_ask 0 0 Q 69 [.ref L, .int (nI h), .int n, .int k, .int ((fR (saskH n k h) o q0).2.1 2 - q0.2.1 2), .int (nI o)] [] 0 0 m1 := by
    intro h hh q0 hs0 hn0 hk c
    induction c with
    | zero => intro o m1 h1; omega
    | succ c ih =>
      intro o m1 h1 h2 hL1 hD1 hout
      have sh := fR_shpq (f := saskH n k h) (fun r q => saskH_shp) q0 o
      have hok := hs0.askHs (n := n) (k := k) (h := h) o (by rw [hn0]; exact h2)
      have iho := fun m1 => ih (o + 1) m1
      rw [fR_s] at iho
      generalize hq : fR (saskH n k h) o q0 = q at *
      have hn2 : q.2.2.2.1 = s.2.2.1 := sh.1.trans hn0
      refine zr_iload dX5_ask_69 rfl ?_
      refine zr_aload_n dX5_ask_71 rfl ?_
      refine zr_getI dX5_ask_72 fd_5_25 rfl (hL1.1.ob rfl) ?_
      rw [hL1.nh, hn2]
      refine zr_icmp_geN (tgt := 103) dX5_ask_75 (by decide) (by omega) (by omega) (fun hc_75 => ?_) (fun hc_75 => ?_)
      · refine zr_iload dX5_ask_103 rfl ?_
        refine zr_ireturn dX5_ask_105 rfl (Nat.le_refl _) (Nat.le_refl _) ?_
        have e : o = s.2.2.1 := by omega
        rw [← e, hq] at hk
        exact hk m1 hL1 hout
      · refine zr_iload dX5_ask_78 rfl ?_
        refine zr_iload_n dX5_ask_80 rfl ?_
        refine zr_icmp_eqN (tgt := 97) dX5_ask_81 (by decide) (by omega) (by omega) (fun hc_81 => ?_) (fun hc_81 => ?_)
        · have ev : saskH n k h o q = q := by
            unfold saskH
            rw [if_neg]
            simp [sans, hc_81]
          refine zr_iincN dX5_ask_97 rfl (by decide) rfl ?_
          dsimp only [zset]
          refine zr_goto (tgt := 69) dX5_ask_100 (by decide) ?_
          first
          | (rw [ev] at iho
             exact iho m1 (by omega) (by omega) hL1 hD1 hout)
          | exact iho m2 (by omega) (by omega) l2 D2 (hout.tr o2)
          | fail "none"
        · refine zr_iload dX5_ask_84 rfl ?_
          refine zr_aload_n dX5_ask_86 rfl ?_
          refine zr_iload dX5_ask_87 rfl ?_
          refine zr_iload_n dX5_ask_89 rfl ?_
          refine zr_iload_n dX5_ask_90 rfl ?_
          refine zr_cV3 rfl dX5_ask_91 cv_5_189 (hL1.1.ob rfl) (Nat.le_of_ble_eq_true rfl) (answerFor_ok (h := h) hL1 hD1 hok (show o < q.2.2.2.1 by rw [hn2]; exact hc_75) hc_81 (fun m2 l2 D2 o2 => ?_))
          refine zr_iadd dX5_ask_94 ?_
          rw [i_tele]
          refine zr_istore dX5_ask_95 (by decide) rfl ?_
          dsimp only [zset]
          refine zr_iincN dX5_ask_97 rfl (by decide) rfl ?_
          dsimp only [zset]
          refine zr_goto (tgt := 69) dX5_ask_100 (by decide) ?_
          first
          | (rw [ev] at iho
             exact iho m1 (by omega) (by omega) hL1 hD1 hout)
          | exact iho m2 (by omega) (by omega) l2 D2 (hout.tr o2)
          | fail "none"
  refine zenterP (Or.inl (by decide +kernel)) rfl (fun h => by cases h) (Nat.le_of_ble_eq_true rfl) ?_
  show zwp _ _ _ _ _ 0 [_, _, _, _, zU, zU] [] 0 0 _
  refine zr_aload_n dX5_ask_0 rfl ?_
  refine zr_iload_n dX5_ask_1 rfl ?_
  refine zr_cV1 rfl dX5_ask_2 cv_5_55 (hL.1.ob rfl) (Nat.le_of_ble_eq_true rfl) (LisHost_ok hL ?_)
  refine zr_if_eqB (tgt := 16) dX5_ask_5 (by decide) (fun hc_5 => ?_) (fun hc_5 => ?_)
  · rw [if_pos (by rw [hc_5]; rfl)] at hno
    refine zr_bipush (v := -2) dX5_ask_16 rfl ?_
    refine zr_ireturn dX5_ask_18 rfl (Nat.le_refl _) (Nat.le_refl _) ?_
    exact hno (by decide)
  · refine zr_iload_n dX5_ask_8 rfl ?_
    refine zr_iload_n dX5_ask_9 rfl ?_
    refine zr_cS2 rfl dX5_ask_10 cv_5_90 (Nat.le_of_ble_eq_true rfl) (LisName_ok ?_)
    refine zr_if_neB (tgt := 19) dX5_ask_13 (by decide) (fun hc_13 => ?_) (fun hc_13 => ?_)
    · rw [if_neg (by rw [hc_5, hc_13]; decide)] at hno hyes
      obtain ⟨i, i1, rfl⟩ := sisH_of n6 hc_5
      rw [nI_clamp (show i < 2 ^ 31 by omega)] at hno hyes
      have hH := hL.hc i1
      have hi := hb_in (L := L) (h := i) (by omega)
      refine zr_aload_n dX5_ask_19 rfl ?_
      refine zr_getR dX5_ask_20 fd_5_11 rfl (hL.1.ob rfl) hL.r0 (by omega) ?_
      refine zr_iload_n dX5_ask_23 rfl ?_
      refine zr_aaloadN dX5_ask_24 (hL.1.ar rfl) (by decide) (by decide) (by omega) (by decide) (hL.rh (by omega)) (by unfold hb; omega) ?_
      refine zr_getI dX5_ask_25 fd_5_94 rfl (hH.ob rfl) ?_
      rw [hH.aw]
      refine zr_if_ne (tgt := 34) dX5_ask_28 (by decide) (fun hc_28 => ?_) (fun hc_28 => ?_)
      · rw [if_pos (by have := ((hs.2 i i1).1).resolve_left hc_28; simp [sawk, this])] at hyes
        have hyes := hyes rfl
        rw [od_a] at hyes
        dsimp only [xs, List.getD, List.getElem?_cons_zero, List.getElem?_cons_succ, Option.getD_some] at hyes
        rw [hN_nI (show i < 2 ^ 31 by omega)] at hyes
        refine zr_aload_n dX5_ask_34 rfl ?_
        refine zr_getR dX5_ask_35 fd_5_21 rfl (hL.1.ob rfl) hL.r1 (by omega) ?_
        refine zr_cV0v rfl dX5_ask_38 cv_5_182 (hL.1.dob rfl) (Nat.le_of_ble_eq_true rfl) (Dempty_ok hL.1 (fun m1 o1 D1 => ?_))
        have hL1 := hL.dout o1
        have hH1 := hL1.hc i1
        refine zr_aload_n dX5_ask_41 rfl ?_
        refine zr_getR dX5_ask_42 fd_5_11 rfl (hL1.1.ob rfl) hL1.r0 (by omega) ?_
        refine zr_iload_n dX5_ask_45 rfl ?_
        refine zr_aaloadN dX5_ask_46 (hL1.1.ar rfl) (by decide) (by decide) (by omega) (by decide) (hL1.rh (by omega)) (by unfold hb; omega) ?_
        refine zr_getR dX5_ask_47 fd_5_111 rfl (hH1.ob rfl) hH1.r1 (by omega) ?_
        refine zr_iload_n dX5_ask_50 rfl ?_
        refine zr_iload_n dX5_ask_51 rfl ?_
        refine zr_aload_n dX5_ask_52 rfl ?_
        refine zr_getI dX5_ask_53 fd_5_33 rfl (hL1.1.ob rfl) ?_
        rw [hL1.2.1.2.1]
        refine zr_aload_n dX5_ask_56 rfl ?_
        refine zr_getR dX5_ask_57 fd_5_21 rfl (hL1.1.ob rfl) hL1.r1 (by omega) ?_
        refine zr_cV4v rfl dX5_ask_60 cv_5_185 (hH1.cc.ob rfl) (Nat.le_of_ble_eq_true rfl) (noteKnown_ok hH1.cc hL1.1 (by omega) (fun j hj => ((hs.2 i i1).2.2.2.2.2.1 _ (zg_mem hj)).1) D1 (fun m2 o2 D2 => ?_))
        refine zr_iconst (v := nI 0) dX5_ask_63 rfl ?_
        refine zr_istore dX5_ask_64 (by decide) rfl ?_
        dsimp only [zset]
        refine zr_iconst (v := nI 0) dX5_ask_66 rfl ?_
        refine zr_istore dX5_ask_67 (by decide) rfl ?_
        dsimp only [zset]
        have hL2 := hL1.dout o2
        have := loop i i1 (sknown (s.2.2.2 i).2.2.2 n k (s.1 1) (s.2.2.2 i).2.2.2.length, s) hs rfl (fun m' l' o' => hyes m' l' o') _ 0 m2 (Nat.lt_succ_self _) (Nat.zero_le _) hL2 D2 ((o1.wd (by omega) (by omega)).tr (o2.wd (by omega) (by omega)))
        have e0 : ((fR (saskH n k i) 0 (sknown (s.2.2.2 i).2.2.2 n k (s.1 1) (s.2.2.2 i).2.2.2.length, s)).2.1 2 - ((sknown (s.2.2.2 i).2.2.2 n k (s.1 1) (s.2.2.2 i).2.2.2.length, s) : sQ).2.1 2) = nI 0 := Int32.sub_self _
        rw [e0] at this
        exact this
      · rw [if_neg (by simp [sawk, hc_28])] at hno
        refine zr_bipush (v := -3) dX5_ask_31 rfl ?_
        refine zr_ireturn dX5_ask_33 rfl (Nat.le_refl _) (Nat.le_refl _) ?_
        exact hno (by decide)
    · rw [if_pos (by rw [hc_13]; simp)] at hno
      refine zr_bipush (v := -2) dX5_ask_16 rfl ?_
      refine zr_ireturn dX5_ask_18 rfl (Nat.le_refl _) (Nat.le_refl _) ?_
      exact hno (by decide)
end
