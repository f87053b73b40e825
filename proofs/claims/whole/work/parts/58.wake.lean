/-! ===== the class: waking ===== -/
section
variable {d : Nat} {Q : Value → zM → Prop} {m m' : zM} {L h i : Nat} {s : sS}
theorem i_cnt (a x : Int32) : a - x + Int32.ofInt 1 = a + 1 - x := by
  rw [Int32.sub_eq_add_neg, Int32.sub_eq_add_neg, Int32.add_assoc, Int32.add_assoc, Int32.add_comm (-x)]
  rfl
theorem wk_43 {x0 : Int32} {s0 : sS} {H : Nat} (hH0 : H = hb L h) (hs : sOK s0) (hh : h < s0.2.2.1) (hk : ∀ m', LK m' L (fR (swakeR h) (s0.2.2.2 h).2.2.1.length s0) → zout L (L + 92) m m' → Q (.int ((fR (swakeR h) (s0.2.2.2 h).2.2.1.length s0).1 2 - x0)) m') : ∀ c r m1 t5, (s0.2.2.2 h).2.2.1.length - r < c → r ≤ (s0.2.2.2 h).2.2.1.length → LK m1 L (fR (swakeR h) r s0) → zout L (L + 92) m m1 →
    zwp (d + 4) M5_wakeUp 0 0 Q 43 [.ref L, .int (nI h), .ref H, .int ((fR (swakeR h) r s0).1 2 - x0), .int (nI r), t5] [] 0 0 m1 := by
  subst hH0
  intro c
  induction c with
  | zero => intro r m1 t5 h1; omega
  | succ c ih =>
    intro r m1 t5 h1 h2 hL ho
    have sh : sShp s0 (fR (swakeR h) r s0) := fR_shp (fun r s => swakeR_shp) r
    have hok := hs.wakeRs hh r h2
    have ihr := fun m1 t5 => ih (r + 1) m1 t5
    rw [fR_s] at ihr
    generalize hq : fR (swakeR h) r s0 = s at *
    have n6 := hL.n6
    have hh2 : h < s.2.2.1 := by rw [sh.1]; exact hh
    have hlen := (sh.2.2 h).2.2
    have hH := hL.hc hh2
    have h5 := hH.c5
    refine zr_iload dX5_wakeUp_43 rfl ?_
    refine zr_aload_n dX5_wakeUp_45 rfl ?_
    refine zr_getI dX5_wakeUp_46 fd_5_59 rfl (hH.ob rfl) ?_
    rw [hH.cn, hlen]
    refine zr_icmp_geN (tgt := 115) dX5_wakeUp_49 (by decide) (by omega) (by omega) (fun hc_49 => ?_) (fun hc_49 => ?_)
    · refine zr_iload_n dX5_wakeUp_115 rfl ?_
      refine zr_ireturn dX5_wakeUp_116 rfl (Nat.le_refl _) (Nat.le_refl _) ?_
      have e : r = (s0.2.2.2 h).2.2.1.length := by omega
      rw [← e, hq] at hk
      exact hk _ hL ho
    · have hr2 : r < (s.2.2.2 h).2.2.1.length := by rw [hlen]; exact hc_49
      have hR := hL.rcl hh2 hr2
      have hz := hL.ra_rz (r := r) hh2 (by omega)
      have hrk := hok.rec hh2 hr2
      have hzi : L ≤ ra m1 L h r ∧ ra m1 L h r < L + 92 := by
        obtain ⟨o, o1, o2, o3⟩ := hz
        have := hb_in (L := L) o1
        omega
      refine zr_aload_n dX5_wakeUp_52 rfl ?_
      refine zr_getR dX5_wakeUp_53 fd_5_146 rfl (hH.ob rfl) hH.r0 (by omega) ?_
      refine zr_iload dX5_wakeUp_56 rfl ?_
      refine zr_aaloadN dX5_wakeUp_58 (hH.ar rfl) (by decide) (by decide) (by omega) (by decide) (show zR m1 (hb L h + 1) r = ra m1 L h r from rfl) (hH.nz (by omega)) ?_
      refine zr_astore dX5_wakeUp_59 (by decide) rfl ?_
      dsimp only [zset]
      refine zr_aload dX5_wakeUp_61 rfl ?_
      refine zr_cV0 rfl dX5_wakeUp_63 cv_5_107 hR.1 (Nat.le_of_ble_eq_true rfl) (Rown_ok (e := zg (s.2.2.2 h).2.2.1 r) hR.1 (hR.2 4 (by decide)) ?_)
      refine zr_if_neB (tgt := 72) dX5_wakeUp_66 (by decide) (fun hc_66 => ?_) (fun hc_66 => ?_)
      · refine zr_aload dX5_wakeUp_72 rfl ?_
        refine zr_getI dX5_wakeUp_74 fd_5_77 rfl hR.1 ?_
        rw [hR.2 6 (by decide)]
        refine zr_if_eq (tgt := 99) dX5_wakeUp_77 (by decide) (fun hc_77 => ?_) (fun hc_77 => ?_)
        · have ev : swakeR h r s = ssays s h (zg (s.2.2.2 h).2.2.1 r) := by unfold swakeR; dsimp only; rw [if_pos hc_66, if_neg (by rw [hc_77]; simp)]
          refine zr_aload_n dX5_wakeUp_99 rfl ?_
          refine zr_iload_n dX5_wakeUp_100 rfl ?_
          refine zr_aload dX5_wakeUp_101 rfl ?_
          refine zr_cV2v rfl dX5_wakeUp_103 cv_5_86 (hL.1.ob rfl) (Nat.le_of_ble_eq_true rfl) (announce_ok hL hok (by omega) hR hz hrk.2.2.1 (fun m2 l2 o2 r2 => ?_))
          refine zr_iinc (v := s.1 2 + 1 - x0) dX5_wakeUp_106 rfl (i_cnt _ _) (by decide) rfl ?_
          dsimp only [zset]
          refine zr_iincN dX5_wakeUp_109 rfl (by decide) rfl ?_
          dsimp only [zset]
          refine zr_goto (tgt := 43) dX5_wakeUp_112 (by decide) ?_
          rw [ev] at ihr
          first
          | exact ihr m1 _ (by omega) (by omega) hL ho
          | exact ihr m2 _ (by omega) (by omega) l2 (ho.tr o2)
          | exact ihr _ _ (by omega) (by omega) (((hL.set1 hr2).setr2 hh2 hr2 4 _).setr2 hh2 hr2 5 _) (ho.tr ((zout.sI (by omega) (by omega)).tr (zout.sI (by omega) (by omega))))
          | fail "none"
        · refine zr_aload_n dX5_wakeUp_80 rfl ?_
          refine zr_iload_n dX5_wakeUp_81 rfl ?_
          refine zr_aload dX5_wakeUp_82 rfl ?_
          refine zr_cV2 rfl dX5_wakeUp_84 cv_5_165 (hL.1.ob rfl) (Nat.le_of_ble_eq_true rfl) (isTaken_ok hL hok (by omega) hR ?_)
          refine zr_if_eqB (tgt := 99) dX5_wakeUp_87 (by decide) (fun hc_87 => ?_) (fun hc_87 => ?_)
          · have ev : swakeR h r s = ssays s h (zg (s.2.2.2 h).2.2.1 r) := by unfold swakeR; dsimp only; rw [if_pos hc_66, if_neg (by rw [hc_87, Bool.and_false]; decide)]
            refine zr_aload_n dX5_wakeUp_99 rfl ?_
            refine zr_iload_n dX5_wakeUp_100 rfl ?_
            refine zr_aload dX5_wakeUp_101 rfl ?_
            refine zr_cV2v rfl dX5_wakeUp_103 cv_5_86 (hL.1.ob rfl) (Nat.le_of_ble_eq_true rfl) (announce_ok hL hok (by omega) hR hz hrk.2.2.1 (fun m2 l2 o2 r2 => ?_))
            refine zr_iinc (v := s.1 2 + 1 - x0) dX5_wakeUp_106 rfl (i_cnt _ _) (by decide) rfl ?_
            dsimp only [zset]
            refine zr_iincN dX5_wakeUp_109 rfl (by decide) rfl ?_
            dsimp only [zset]
            refine zr_goto (tgt := 43) dX5_wakeUp_112 (by decide) ?_
            rw [ev] at ihr
            first
            | exact ihr m1 _ (by omega) (by omega) hL ho
            | exact ihr m2 _ (by omega) (by omega) l2 (ho.tr o2)
            | exact ihr _ _ (by omega) (by omega) (((hL.set1 hr2).setr2 hh2 hr2 4 _).setr2 hh2 hr2 5 _) (ho.tr ((zout.sI (by omega) (by omega)).tr (zout.sI (by omega) (by omega))))
            | fail "none"
          · have ev : swakeR h r s = ssetr s h r (fu (fu (zg (s.2.2.2 h).2.2.1 r) 4 0) 5 0) := by
              unfold swakeR
              dsimp only
              rw [if_pos hc_66, if_pos]
              have h61 := hrk.2.2.1.resolve_left hc_77
              rw [h61, hc_87]
              rfl
            refine zr_aload dX5_wakeUp_90 rfl ?_
            refine zr_iconst (v := nI 0) dX5_wakeUp_92 rfl ?_
            refine zr_cV1v rfl dX5_wakeUp_93 cv_5_169 hR.1 (Nat.le_of_ble_eq_true rfl) (Rrst_ok hR.1 ?_)
            refine zr_goto (tgt := 109) dX5_wakeUp_96 (by decide) ?_
            refine zr_iincN dX5_wakeUp_109 rfl (by decide) rfl ?_
            dsimp only [zset]
            refine zr_goto (tgt := 43) dX5_wakeUp_112 (by decide) ?_
            rw [ev] at ihr
            first
            | exact ihr m1 _ (by omega) (by omega) hL ho
            | exact ihr m2 _ (by omega) (by omega) l2 (ho.tr o2)
            | exact ihr _ _ (by omega) (by omega) (((hL.set1 hr2).setr2 hh2 hr2 4 _).setr2 hh2 hr2 5 _) (ho.tr ((zout.sI (by omega) (by omega)).tr (zout.sI (by omega) (by omega))))
            | fail "none"
      · have ev : swakeR h r s = s := by unfold swakeR; dsimp only; rw [if_neg (by rw [hc_66]; decide)]
        refine zr_goto (tgt := 109) dX5_wakeUp_69 (by decide) ?_
        refine zr_iincN dX5_wakeUp_109 rfl (by decide) rfl ?_
        dsimp only [zset]
        refine zr_goto (tgt := 43) dX5_wakeUp_112 (by decide) ?_
        rw [ev] at ihr
        first
        | exact ihr m1 _ (by omega) (by omega) hL ho
        | exact ihr m2 _ (by omega) (by omega) l2 (ho.tr o2)
        | exact ihr _ _ (by omega) (by omega) (((hL.set1 hr2).setr2 hh2 hr2 4 _).setr2 hh2 hr2 5 _) (ho.tr ((zout.sI (by omega) (by omega)).tr (zout.sI (by omega) (by omega))))
        | fail "none"
theorem wakeUp_ok {a : Int32} (hL : LK m L s) (hs : sOK s) (hno : oc (nI 119) (xs [a]) s < 0 → Q (.int (oc (nI 119) (xs [a]) s)) m) (hyes : oc (nI 119) (xs [a]) s = 0 → ∀ m', LK m' L (od (nI 119) (xs [a]) s).2 → zout L (L + 94) m m' → Q (.int (od (nI 119) (xs [a]) s).1) m') : zC (d + 4) M5_wakeUp 0 0 [.ref L, .int a] m Q := by
  have n6 := hL.n6
  have eo : oc (nI 119) (xs [a]) s = scanWake s a := rfl
  rw [eo] at hno hyes
  unfold scanWake at hno hyes
  refine zenterP (Or.inl (by decide +kernel)) rfl (fun h => by cases h) (Nat.le_of_ble_eq_true rfl) ?_
  show zwp _ _ _ _ _ 0 [_, _, zU, zU, zU, zU] [] 0 0 _
  refine zr_aload_n dX5_wakeUp_0 rfl ?_
  refine zr_iload_n dX5_wakeUp_1 rfl ?_
  refine zr_cV1 rfl dX5_wakeUp_2 cv_5_55 (hL.1.ob rfl) (Nat.le_of_ble_eq_true rfl) (LisHost_ok hL ?_)
  refine zr_if_neB (tgt := 11) dX5_wakeUp_5 (by decide) (fun hc_5 => ?_) (fun hc_5 => ?_)
  · rw [if_neg (by rw [hc_5]; decide)] at hno hyes
    obtain ⟨i, i1, rfl⟩ := sisH_of n6 hc_5
    rw [nI_clamp (show i < 2 ^ 31 by omega)] at hno hyes
    have hH := hL.hc i1
    have hi := hb_in (L := L) (h := i) (by omega)
    refine zr_aload_n dX5_wakeUp_11 rfl ?_
    refine zr_getR dX5_wakeUp_12 fd_5_11 rfl (hL.1.ob rfl) hL.r0 (by omega) ?_
    refine zr_iload_n dX5_wakeUp_15 rfl ?_
    refine zr_aaloadN dX5_wakeUp_16 (hL.1.ar rfl) (by decide) (by decide) (by omega) (by decide) (hL.rh (by omega)) (by unfold hb; omega) ?_
    refine zr_astore_n dX5_wakeUp_17 (by decide) rfl ?_
    dsimp only [zset]
    refine zr_aload_n dX5_wakeUp_18 rfl ?_
    refine zr_getI dX5_wakeUp_19 fd_5_94 rfl (hH.ob rfl) ?_
    rw [hH.aw]
    refine zr_if_eq (tgt := 28) dX5_wakeUp_22 (by decide) (fun hc_22 => ?_) (fun hc_22 => ?_)
    · rw [if_neg (by simp [sawk, hc_22])] at hyes
      have hyes := hyes rfl
      rw [od_w] at hyes
      dsimp only [xs, List.getD, List.getElem?_cons_zero, Option.getD_some] at hyes
      rw [hN_nI (show i < 2 ^ 31 by omega)] at hyes
      have ho2 : zout (hb L i) (hb L i + 15) m (zsI (zsI m (hb L i) 3 (nI 1)) (hb L i) 4 (-1)) := (zout.sI (by omega) (by omega)).tr (zout.sI (by omega) (by omega))
      have hL2 : LK (zsI (zsI m (hb L i) 3 (nI 1)) (hb L i) 4 (-1)) L (swake0 s i) := hL.host i1 ho2 ((hH.awake (nI 1)).proxy (-1))
      refine zr_aload_n dX5_wakeUp_28 rfl ?_
      refine zr_iconst (v := nI 1) dX5_wakeUp_29 rfl ?_
      refine zr_putZ dX5_wakeUp_30 fd_5_94 rfl (hH.ob rfl) (by first | exact Or.inl rfl | exact Or.inr rfl | exact bI_01 _) ?_
      refine zr_aload_n dX5_wakeUp_33 rfl ?_
      refine zr_iconst (v := -1) dX5_wakeUp_34 rfl ?_
      refine zr_putI dX5_wakeUp_35 fd_5_136 rfl (hH.ob rfl) ?_
      refine zr_iconst (v := nI 0) dX5_wakeUp_38 rfl ?_
      refine zr_istore_n dX5_wakeUp_39 (by decide) rfl ?_
      dsimp only [zset]
      refine zr_iconst (v := nI 0) dX5_wakeUp_40 rfl ?_
      refine zr_istore dX5_wakeUp_41 (by decide) rfl ?_
      dsimp only [zset]
      have := wk_43 (d := d) (Q := Q) (m := m) (x0 := s.1 2) (s0 := swake0 s i) (h := i) rfl (hs.wake0 i1) i1 (fun m' l' o' => ?_) _ 0 _ zU (Nat.lt_succ_self _) (Nat.zero_le _) hL2 (ho2.wd (by omega) (by omega))
      · have e0 : (fR (swakeR i) 0 (swake0 s i)).1 2 - s.1 2 = nI 0 := Int32.sub_self _
        rw [e0] at this
        exact this
      · rw [swake0_recs] at l' ⊢
        exact hyes _ l' (o'.wd (Nat.le_refl _) (by omega))
    · rw [if_pos (by have := ((hs.2 i i1).1).resolve_left hc_22; simp [sawk, this])] at hno
      refine zr_bipush (v := -3) dX5_wakeUp_25 rfl ?_
      refine zr_ireturn dX5_wakeUp_27 rfl (Nat.le_refl _) (Nat.le_refl _) ?_
      exact hno (by decide)
  · rw [if_pos (by rw [hc_5]; rfl)] at hno
    refine zr_bipush (v := -2) dX5_wakeUp_8 rfl ?_
    refine zr_ireturn dX5_wakeUp_10 rfl (Nat.le_refl _) (Nat.le_refl _) ?_
    exact hno (by decide)
end
