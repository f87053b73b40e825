/-! ===== the class: ticks pass ===== -/
section
variable {d : Nat} {Q : Value → zM → Prop} {m m' : zM} {L h : Nat} {s0 : sS} {n k x2 : Int32}
theorem pt_44 {i : Nat} (hs : sOK s0) (hh : h < s0.2.2.1) (hk : ∀ m', LK m' L (sadvH s0 h) → zout L (L + 92) m m' → ∀ t5, zwp (d + 5) M5_passTicks 0 0 Q 84 [.ref L, .int n, .int x2, .int (nI i), .int (nI h), t5] [] 0 0 m') : ∀ c r m1, (s0.2.2.2 h).2.2.1.length - r < c → r ≤ (s0.2.2.2 h).2.2.1.length → LK m1 L (fR (fun r s => sadv s h r) r s0) → zout L (L + 92) m m1 →
    zwp (d + 5) M5_passTicks 0 0 Q 44 [.ref L, .int n, .int x2, .int (nI i), .int (nI h), .int (nI r)] [] 0 0 m1 := by
  intro c
  induction c with
  | zero => intro r m1 h1; omega
  | succ c ih =>
    intro r m1 h1 h2 hL ho
    have sh : sShp s0 (fR (fun r s => sadv s h r) r s0) := fR_shp (fun r s => sadv_shp) r
    have hok := hs.advR hh r h2
    have ihr := fun m1 => ih (r + 1) m1
    rw [fR_s] at ihr
    generalize hq : fR (fun r s => sadv s h r) r s0 = s at *
    have n6 := hL.n6
    have hh2 : h < s.2.2.1 := by rw [sh.1]; exact hh
    have hlen := (sh.2.2 h).2.2
    have hH := hL.hc hh2
    have h5 := hH.c5
    refine zr_iload dX5_passTicks_44 rfl ?_
    refine zr_aload_n dX5_passTicks_46 rfl ?_
    refine zr_getR dX5_passTicks_47 fd_5_11 rfl (hL.1.ob rfl) hL.r0 (by omega) ?_
    refine zr_iload dX5_passTicks_50 rfl ?_
    refine zr_aaloadN dX5_passTicks_52 (hL.1.ar rfl) (by decide) (by decide) (by omega) (by decide) (hL.rh (by omega)) (by unfold hb; omega) ?_
    refine zr_getI dX5_passTicks_53 fd_5_59 rfl (hH.ob rfl) ?_
    rw [hH.cn, hlen]
    refine zr_icmp_geN (tgt := 84) dX5_passTicks_56 (by decide) (by omega) (by omega) (fun hc_56 => ?_) (fun hc_56 => ?_)
    · have e : r = (s0.2.2.2 h).2.2.1.length := by omega
      refine hk m1 ?_ ho _
      unfold sadvH
      rw [← e, hq]
      exact hL
    · refine zr_aload_n dX5_passTicks_59 rfl ?_
      refine zr_iload dX5_passTicks_60 rfl ?_
      refine zr_aload_n dX5_passTicks_62 rfl ?_
      refine zr_getR dX5_passTicks_63 fd_5_11 rfl (hL.1.ob rfl) hL.r0 (by omega) ?_
      refine zr_iload dX5_passTicks_66 rfl ?_
      refine zr_aaloadN dX5_passTicks_68 (hL.1.ar rfl) (by decide) (by decide) (by omega) (by decide) (hL.rh (by omega)) (by unfold hb; omega) ?_
      refine zr_getR dX5_passTicks_69 fd_5_146 rfl (hH.ob rfl) hH.r0 (by omega) ?_
      refine zr_iload dX5_passTicks_72 rfl ?_
      refine zr_aaloadN dX5_passTicks_74 (hH.ar rfl) (by decide) (by decide) (by omega) (by decide) rfl (hH.nz (by omega)) ?_
      refine zr_cV2v rfl dX5_passTicks_75 cv_5_150 (hL.1.ob rfl) (Nat.le_of_ble_eq_true rfl) (advance_ok (r := r) hL hok hh2 (by omega) (fun m2 l2 o2 => ?_))
      refine zr_iincN dX5_passTicks_78 rfl (by decide) rfl ?_
      dsimp only [zset]
      refine zr_goto (tgt := 44) dX5_passTicks_81 (by decide) ?_
      exact ihr m2 (by omega) (by omega) l2 (ho.tr o2)
theorem pt_32 {i : Nat} {s1 : sS} (hs : sOK s1) (hk : ∀ m', LK m' L (fR (fun h s => sadvH s h) s1.2.2.1 s1) → zout L (L + 92) m m' → ∀ t4 t5, zwp (d + 5) M5_passTicks 0 0 Q 90 [.ref L, .int n, .int x2, .int (nI i), t4, t5] [] 0 0 m') : ∀ c h m1 t5, s1.2.2.1 - h < c → h ≤ s1.2.2.1 → LK m1 L (fR (fun h s => sadvH s h) h s1) → zout L (L + 92) m m1 →
    zwp (d + 5) M5_passTicks 0 0 Q 32 [.ref L, .int n, .int x2, .int (nI i), .int (nI h), t5] [] 0 0 m1 := by
  intro c
  induction c with
  | zero => intro h m1 t5 h1; omega
  | succ c ih =>
    intro h m1 t5 h1 h2 hL ho
    have sh : sShp s1 (fR (fun h s => sadvH s h) h s1) := fR_shp (fun h s => sadvH_shp) h
    have hok := hs.advH h h2
    have ihr := fun m1 t5 => ih (h + 1) m1 t5
    rw [fR_s] at ihr
    generalize hq : fR (fun h s => sadvH s h) h s1 = s at *
    have n6 := hL.n6
    rw [sh.1] at n6
    have hnh : zI m1 L 2 = nI s1.2.2.1 := by rw [hL.nh, sh.1]
    refine zr_iload dX5_passTicks_32 rfl ?_
    refine zr_aload_n dX5_passTicks_34 rfl ?_
    refine zr_getI dX5_passTicks_35 fd_5_25 rfl (hL.1.ob rfl) ?_
    rw [hnh]
    refine zr_icmp_geN (tgt := 90) dX5_passTicks_38 (by decide) (by omega) (by omega) (fun hc_38 => ?_) (fun hc_38 => ?_)
    · have e : h = s1.2.2.1 := by omega
      refine hk m1 ?_ ho _ _
      rw [← e, hq]
      exact hL
    · refine zr_iconst (v := nI 0) dX5_passTicks_41 rfl ?_
      refine zr_istore dX5_passTicks_42 (by decide) rfl ?_
      dsimp only [zset]
      refine pt_44 (m := m) (s0 := s) hok (by rw [sh.1]; exact hc_38) (fun m2 l2 o2 t5 => ?_) _ 0 m1 (Nat.lt_succ_self _) (Nat.zero_le _) hL ho
      refine zr_iincN dX5_passTicks_84 rfl (by decide) rfl ?_
      dsimp only [zset]
      refine zr_goto (tgt := 32) dX5_passTicks_87 (by decide) ?_
      exact ihr m2 t5 (by omega) (by omega) l2 o2
theorem pt_20 {N : Nat} (hn : N ≤ 60) (hs : sOK s0) (hF : fT s0) (hk : ∀ m', LK m' L (sticks s0 N) → zout L (L + 92) m m' → Q (.int ((sticks s0 N).1 2 - x2)) m') : ∀ c i m1 t4 t5, N - i < c → i ≤ N → LK m1 L (sticks s0 i) → zout L (L + 92) m m1 →
    zwp (d + 5) M5_passTicks 0 0 Q 20 [.ref L, .int (nI N), .int x2, .int (nI i), t4, t5] [] 0 0 m1 := by
  intro c
  induction c with
  | zero => intro i m1 t4 t5 h1; omega
  | succ c ih =>
    intro i m1 t4 t5 h1 h2 hL ho
    have hok := hs.ticks i
    have hL' := hL
    refine zr_iload_n dX5_passTicks_20 rfl ?_
    refine zr_iload_n dX5_passTicks_21 rfl ?_
    refine zr_icmp_geN (tgt := 100) dX5_passTicks_22 (by decide) (by omega) (by omega) (fun hc_22 => ?_) (fun hc_22 => ?_)
    · refine zr_aload_n dX5_passTicks_100 rfl ?_
      refine zr_getI dX5_passTicks_101 fd_5_36 rfl (hL.1.ob rfl) ?_
      rw [hL.2.1.2.2.1]
      refine zr_iload_n dX5_passTicks_104 rfl ?_
      refine zr_isub dX5_passTicks_105 ?_
      refine zr_ireturn dX5_passTicks_106 rfl (Nat.le_refl _) (Nat.le_refl _) ?_
      have e : i = N := by omega
      subst e
      exact hk m1 hL ho
    · refine zr_aload_n dX5_passTicks_25 rfl ?_
      refine zr_cV0v rfl dX5_passTicks_26 cv_5_143 (hL.1.ob rfl) (Nat.le_of_ble_eq_true rfl) (beginTick_ok hL (fun m2 l2 o2 => ?_))
      refine zr_iconst (v := nI 0) dX5_passTicks_29 rfl ?_
      refine zr_istore dX5_passTicks_30 (by decide) rfl ?_
      dsimp only [zset]
      refine pt_32 (m := m) (s1 := sages (sticks s0 i) (sticks s0 i).2.2.1) hok.ages (fun m3 l3 o3 t4 t5 => ?_) _ 0 m2 _ (Nat.lt_succ_self _) (Nat.zero_le _) l2 (ho.tr o2)
      refine zr_aload_n dX5_passTicks_90 rfl ?_
      refine zr_cV0v rfl dX5_passTicks_91 cv_5_153 (l3.1.ob rfl) (Nat.le_of_ble_eq_true rfl) (measure_ok l3 (hF i (by omega)) (fun m4 l4 o4 => ?_))
      refine zr_iincN dX5_passTicks_94 rfl (by decide) rfl ?_
      dsimp only [zset]
      refine zr_goto (tgt := 20) dX5_passTicks_97 (by decide) ?_
      exact ih (i + 1) m4 t4 t5 (by omega) (by omega) l4 (o3.tr o4)
theorem passTicks_ok {s : sS} {a : Int32} (hL : LK m L s) (hs : sOK s) (hF : fT s) (hno : oc (nI 116) (xs [a]) s < 0 → Q (.int (oc (nI 116) (xs [a]) s)) m) (hyes : oc (nI 116) (xs [a]) s = 0 → ∀ m', LK m' L (od (nI 116) (xs [a]) s).2 → zout L (L + 94) m m' → Q (.int (od (nI 116) (xs [a]) s).1) m') : zC (d + 5) M5_passTicks 0 0 [.ref L, .int a] m Q := by
  refine zenterP (Or.inl (by decide +kernel)) rfl (fun h => by cases h) (Nat.le_of_ble_eq_true rfl) ?_
  show zwp _ _ _ _ _ 0 [_, _, zU, zU, zU, zU] [] 0 0 _
  refine zr_iload_n dX5_passTicks_0 rfl ?_
  refine zr_iconst (v := nI 1) dX5_passTicks_1 rfl ?_
  refine zr_bipush (v := nI 60) dX5_passTicks_2 rfl ?_
  refine zr_cSN3 rfl dX5_passTicks_4 cv_5_62 (Nat.le_of_ble_eq_true rfl) (within_ok ?_)
  refine zr_if_neB (tgt := 13) dX5_passTicks_7 (by decide) (fun hc_7 => ?_) (fun hc_7 => ?_)
  · have e : oc (nI 116) (xs [a]) s = 0 := by rw [oc_t]; show (if sin a 1 60 = true then (0 : Int32) else -2) = 0; rw [show sin a 1 60 = true from hc_7]; rfl
    obtain ⟨N, n1, n2, rfl⟩ := sin_of (a := 1) (b := 60) hc_7 rfl rfl (by decide) (by decide)
    have hyes := hyes e
    rw [od_t] at hyes
    dsimp only [xs, List.getD, List.getElem?_cons_zero, Option.getD_some] at hyes
    rw [hN_nI (show N < 2 ^ 31 by omega)] at hyes
    refine zr_aload_n dX5_passTicks_13 rfl ?_
    refine zr_getI dX5_passTicks_14 fd_5_36 rfl (hL.1.ob rfl) ?_
    rw [hL.2.1.2.2.1]
    refine zr_istore_n dX5_passTicks_17 (by decide) rfl ?_
    dsimp only [zset]
    refine zr_iconst (v := nI 0) dX5_passTicks_18 rfl ?_
    refine zr_istore_n dX5_passTicks_19 (by decide) rfl ?_
    dsimp only [zset]
    exact pt_20 (m := m) n2 hs hF (fun m' l' o' => hyes m' l' (o'.wd (Nat.le_refl _) (by omega))) _ 0 m _ _ (Nat.lt_succ_self _) (Nat.zero_le _) hL zout.rf
  · have e : oc (nI 116) (xs [a]) s = -2 := by rw [oc_t]; show (if sin a 1 60 = true then (0 : Int32) else -2) = -2; rw [show sin a 1 60 = false from hc_7]; rfl
    rw [e] at hno
    refine zr_bipush (v := -2) dX5_passTicks_10 rfl ?_
    refine zr_ireturn dX5_passTicks_12 rfl (Nat.le_refl _) (Nat.le_refl _) ?_
    exact hno (by decide)
end
