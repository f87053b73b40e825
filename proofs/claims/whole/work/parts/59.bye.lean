/-! ===== the class: goodbyes ===== -/
section
variable {d : Nat} {Q : Value → zM → Prop} {m m' : zM} {L h i b : Nat} {s : sS} {rc : sR}
theorem LisRecord_ok {a c : Int32} (hL : LK m L s) (hk : Q (.int (bI (sisR s a c))) m) : zC (d + 2) M5_isRecord 0 0 [.ref L, .int a, .int c] m Q := by
  have n6 := hL.n6
  unfold sisR at hk
  refine zenterP (Or.inl (by decide +kernel)) rfl (fun h => by cases h) (Nat.le_of_ble_eq_true rfl) ?_
  show zwp _ _ _ _ _ 0 [_, _, _] [] 0 0 _
  refine zr_aload_n dX5_isRecord_0 rfl ?_
  refine zr_iload_n dX5_isRecord_1 rfl ?_
  refine zr_cV1 rfl dX5_isRecord_2 cv_5_55 (hL.1.ob rfl) (Nat.le_of_ble_eq_true rfl) (LisHost_ok hL ?_)
  refine zr_if_eqB (tgt := 29) dX5_isRecord_5 (by decide) (fun hc_5 => ?_) (fun hc_5 => ?_)
  · rw [hc_5, Bool.false_and] at hk
    refine zr_iconst (v := bI false) dX5_isRecord_29 rfl ?_
    refine zr_zreturnB dX5_isRecord_30 rfl (Nat.le_refl _) (Nat.le_refl _) ?_
    exact hk
  · obtain ⟨i, i1, rfl⟩ := sisH_of n6 hc_5
    have hH := hL.hc i1
    rw [nI_clamp (show i < 2 ^ 31 by omega), hc_5, Bool.true_and] at hk
    refine zr_iload_n dX5_isRecord_8 rfl ?_
    refine zr_if_lt (tgt := 29) dX5_isRecord_9 (by decide) (fun hc_9 => ?_) (fun hc_9 => ?_)
    · have e : (decide (0 ≤ c) && decide (c < nI (s.2.2.2 i).2.2.1.length)) = false := by rw [decide_eq_false (Int32.not_le.mpr hc_9)]; rfl
      rw [e] at hk
      refine zr_iconst (v := bI false) dX5_isRecord_29 rfl ?_
      refine zr_zreturnB dX5_isRecord_30 rfl (Nat.le_refl _) (Nat.le_refl _) ?_
      exact hk
    · refine zr_iload_n dX5_isRecord_12 rfl ?_
      refine zr_aload_n dX5_isRecord_13 rfl ?_
      refine zr_getR dX5_isRecord_14 fd_5_11 rfl (hL.1.ob rfl) hL.r0 (by omega) ?_
      refine zr_iload_n dX5_isRecord_17 rfl ?_
      refine zr_aaloadN dX5_isRecord_18 (hL.1.ar rfl) (by decide) (by decide) (by omega) (by decide) (hL.rh (by omega)) (by unfold hb; omega) ?_
      refine zr_getI dX5_isRecord_19 fd_5_59 rfl (hH.ob rfl) ?_
      rw [hH.cn]
      refine zr_icmp_ge (tgt := 29) dX5_isRecord_22 (by decide) (fun hc_22 => ?_) (fun hc_22 => ?_)
      · have e : (decide (0 ≤ c) && decide (c < nI (s.2.2.2 i).2.2.1.length)) = false := by rw [decide_eq_false (Int32.not_lt.mpr hc_22), Bool.and_false]
        rw [e] at hk
        refine zr_iconst (v := bI false) dX5_isRecord_29 rfl ?_
        refine zr_zreturnB dX5_isRecord_30 rfl (Nat.le_refl _) (Nat.le_refl _) ?_
        exact hk
      · have e : (decide (0 ≤ c) && decide (c < nI (s.2.2.2 i).2.2.1.length)) = true := by rw [decide_eq_true (Int32.not_lt.mp hc_9), decide_eq_true (Int32.not_le.mp hc_22)]; rfl
        rw [e] at hk
        refine zr_iconst (v := bI true) dX5_isRecord_25 rfl ?_
        refine zr_goto (tgt := 30) dX5_isRecord_26 (by decide) ?_
        refine zr_zreturnB dX5_isRecord_30 rfl (Nat.le_refl _) (Nat.le_refl _) ?_
        exact hk
theorem cbye_0 : sbyeN s rc 0 = s := sS_ext rfl rfl rfl (fun h => by simp [sbyeN])
theorem cbye_s : sbyeN s rc (h + 1) = shst (sbyeN s rc h) h (sbye (s.1 1) rc (s.2.2.2 h)) := by
  refine sS_ext rfl rfl rfl (fun j => ?_)
  show (if j < h + 1 then sbye (s.1 1) rc (s.2.2.2 j) else s.2.2.2 j) = fu (fun j => if j < h then sbye (s.1 1) rc (s.2.2.2 j) else s.2.2.2 j) h (sbye (s.1 1) rc (s.2.2.2 h)) j
  by_cases e : j = h
  · subst e; rw [fu_s, if_pos (by omega)]
  · rw [fu_n _ _ e]
    by_cases e2 : j < h
    · rw [if_pos e2, if_pos (by omega)]
    · rw [if_neg e2, if_neg (by omega)]
theorem cbye_at : (sbyeN s rc h).2.2.2 h = s.2.2.2 h := by show (if h < h then _ else _) = _; rw [if_neg (by omega)]
theorem sbye_recs {x : sH} {t : Int32} : (sbye t rc x).2.2.1 = x.2.2.1 := by unfold sbye; split <;> rfl
theorem bye_58 {x1 x2 : Int32} (hs : sOK s) (hz : rz L b) (hk : ∀ m', LK m' L (sbyeN s rc s.2.2.1) → zout L (L + 92) m m' → ∀ t4, zwp (d + 3) M5_sayGoodbye 0 0 Q 106 [.ref L, .int x1, .int x2, .ref b, t4] [] 0 0 m') : ∀ c i m1, s.2.2.1 - i < c → i ≤ s.2.2.1 → LK m1 L (sbyeN s rc i) → RCl m1 b rc → zout L (L + 92) m m1 →
    zwp (d + 3) M5_sayGoodbye 0 0 Q 58 [.ref L, .int x1, .int x2, .ref b, .int (nI i)] [] 0 0 m1 := by
  intro c
  induction c with
  | zero => intro i m1 h1; omega
  | succ c ih =>
    intro i m1 h1 h2 hL hR ho
    have n6 : s.2.2.1 ≤ 6 := hL.n6
    have hnh : zI m1 L 2 = nI s.2.2.1 := hL.nh
    have htm : zI m1 L 3 = s.1 1 := hL.2.1.2.1
    have hH : i < s.2.2.1 → HC m1 (hb L i) (s.2.2.2 i) := fun hi => by
      have := hL.hc (h := i) hi
      rw [cbye_at] at this
      exact this
    refine zr_iload dX5_sayGoodbye_58 rfl ?_
    refine zr_aload_n dX5_sayGoodbye_60 rfl ?_
    refine zr_getI dX5_sayGoodbye_61 fd_5_25 rfl (hL.1.ob rfl) ?_
    rw [hnh]
    refine zr_icmp_geN (tgt := 106) dX5_sayGoodbye_64 (by decide) (by omega) (by omega) (fun hc_64 => ?_) (fun hc_64 => ?_)
    · have e : i = s.2.2.1 := by omega
      subst e
      exact hk m1 hL ho _
    · refine zr_aload_n dX5_sayGoodbye_67 rfl ?_
      refine zr_getR dX5_sayGoodbye_68 fd_5_11 rfl (hL.1.ob rfl) hL.r0 (by omega) ?_
      refine zr_iload dX5_sayGoodbye_71 rfl ?_
      refine zr_aaloadN dX5_sayGoodbye_73 (hL.1.ar rfl) (by decide) (by decide) (by omega) (by decide) (hL.rh (by omega)) (by unfold hb; omega) ?_
      refine zr_getI dX5_sayGoodbye_74 fd_5_94 rfl ((hH hc_64).ob rfl) ?_
      rw [(hH hc_64).aw]
      refine zr_if_eq (tgt := 100) dX5_sayGoodbye_77 (by decide) (fun hc_77 => ?_) (fun hc_77 => ?_)
      · have e : LK m1 L (sbyeN s rc (i + 1)) := by
          rw [cbye_s]
          have e1 : sbye (s.1 1) rc (s.2.2.2 i) = s.2.2.2 i := by unfold sbye; rw [if_neg (by simp [sawk, hc_77])]
          rw [e1]
          have e2 := shst_id (s := sbyeN s rc i) (h := i)
          rw [cbye_at] at e2
          rw [e2]
          exact hL
        refine zr_iincN dX5_sayGoodbye_100 rfl (by decide) rfl ?_
        dsimp only [zset]
        refine zr_goto (tgt := 58) dX5_sayGoodbye_103 (by decide) ?_
        first
        | exact ih (i + 1) m1 (by omega) (by omega) e hR ho
        | (have hL2 := hL.host (h := i) hc_64 (o2.wd (by omega) (by omega)) ((hH hc_64).cache o2 c2)
           rw [← e1, ← cbye_s] at hL2
           exact ih (i + 1) m2 (by omega) (by omega) hL2 (hR.out o2 (rz_off hz (by omega))) (ho.tr (o2.wd (by omega) (by omega))))
        | fail "none"
      · have e1 : sbye (s.1 1) rc (s.2.2.2 i) = ((s.2.2.2 i).1, (s.2.2.2 i).2.1, (s.2.2.2 i).2.2.1, (s.2.2.2 i).2.2.2.map (fun e => if ssame e rc then sshort (s.1 1) e else e)) := by
          have haw := ((hs.2 i hc_64).1).resolve_left hc_77
          unfold sbye
          rw [if_pos (by simp [sawk, haw])]
        have hi := hb_in (L := L) (h := i) (by omega)
        refine zr_aload_n dX5_sayGoodbye_80 rfl ?_
        refine zr_getR dX5_sayGoodbye_81 fd_5_11 rfl (hL.1.ob rfl) hL.r0 (by omega) ?_
        refine zr_iload dX5_sayGoodbye_84 rfl ?_
        refine zr_aaloadN dX5_sayGoodbye_86 (hL.1.ar rfl) (by decide) (by decide) (by omega) (by decide) (hL.rh (by omega)) (by unfold hb; omega) ?_
        refine zr_getR dX5_sayGoodbye_87 fd_5_111 rfl ((hH hc_64).ob rfl) (hH hc_64).r1 (by omega) ?_
        refine zr_aload_n dX5_sayGoodbye_90 rfl ?_
        refine zr_aload_n dX5_sayGoodbye_91 rfl ?_
        refine zr_getI dX5_sayGoodbye_92 fd_5_33 rfl (hL.1.ob rfl) ?_
        rw [htm]
        refine zr_iconst (v := nI 1) dX5_sayGoodbye_95 rfl ?_
        refine zr_iadd dX5_sayGoodbye_96 ?_
        refine zr_cV2v rfl dX5_sayGoodbye_97 cv_5_115 ((hH hc_64).cc.ob rfl) (Nat.le_of_ble_eq_true rfl) (endOf_ok (hH hc_64).cc (hs.2 i hc_64).2.2.2.2.2.2 hR (fun m2 c2 o2 => ?_))
        refine zr_iincN dX5_sayGoodbye_100 rfl (by decide) rfl ?_
        dsimp only [zset]
        refine zr_goto (tgt := 58) dX5_sayGoodbye_103 (by decide) ?_
        first
        | exact ih (i + 1) m1 (by omega) (by omega) e hR ho
        | (have hL2 := hL.host (h := i) hc_64 (o2.wd (by omega) (by omega)) ((hH hc_64).cache o2 c2)
           rw [← e1, ← cbye_s] at hL2
           exact ih (i + 1) m2 (by omega) (by omega) hL2 (hR.out o2 (rz_off hz (by omega))) (ho.tr (o2.wd (by omega) (by omega))))
        | fail "none"
theorem sdrop_bye {r k : Nat} {v : Int32} : sdrop (scnt (sbyeN s rc k) 2 v) h r = sbyeN (scnt (sdrop s h r) 2 v) rc k := by
  refine sS_ext rfl rfl rfl (fun j => ?_)
  show fu (fun j => if j < k then sbye (s.1 1) rc (s.2.2.2 j) else s.2.2.2 j) h _ j = (if j < k then sbye (s.1 1) rc (fu s.2.2.2 h _ j) else fu s.2.2.2 h _ j)
  by_cases e : j = h
  · subst e
    rw [fu_s, fu_s]
    show ((if j < k then sbye (s.1 1) rc (s.2.2.2 j) else s.2.2.2 j).1, (if j < k then sbye (s.1 1) rc (s.2.2.2 j) else s.2.2.2 j).2.1, (if j < k then sbye (s.1 1) rc (s.2.2.2 j) else s.2.2.2 j).2.2.1.eraseIdx r, (if j < k then sbye (s.1 1) rc (s.2.2.2 j) else s.2.2.2 j).2.2.2) = _
    by_cases e2 : j < k
    · simp only [if_pos e2]
      unfold sbye sawk
      dsimp only
      split <;> rfl
    · simp only [if_neg e2]
  · rw [fu_n _ _ e, fu_n _ _ e]
theorem sayGoodbye_ok {a c : Int32} (hL : LK m L s) (hs : sOK s) (hno : oc (nI 103) (xs [a, c]) s < 0 → Q (.int (oc (nI 103) (xs [a, c]) s)) m) (hyes : oc (nI 103) (xs [a, c]) s = 0 → ∀ m', LK m' L (od (nI 103) (xs [a, c]) s).2 → zout L (L + 94) m m' → Q (.int (od (nI 103) (xs [a, c]) s).1) m') : zC (d + 3) M5_sayGoodbye 0 0 [.ref L, .int a, .int c] m Q := by
  have n6 := hL.n6
  have eo : oc (nI 103) (xs [a, c]) s = scanLeave s a c := rfl
  rw [eo] at hno hyes
  unfold scanLeave at hno hyes
  refine zenterP (Or.inl (by decide +kernel)) rfl (fun h => by cases h) (Nat.le_of_ble_eq_true rfl) ?_
  show zwp _ _ _ _ _ 0 [_, _, _, zU, zU] [] 0 0 _
  refine zr_aload_n dX5_sayGoodbye_0 rfl ?_
  refine zr_iload_n dX5_sayGoodbye_1 rfl ?_
  refine zr_iload_n dX5_sayGoodbye_2 rfl ?_
  refine zr_cV2 rfl dX5_sayGoodbye_3 cv_5_100 (hL.1.ob rfl) (Nat.le_of_ble_eq_true rfl) (LisRecord_ok hL ?_)
  refine zr_if_neB (tgt := 12) dX5_sayGoodbye_6 (by decide) (fun hc_6 => ?_) (fun hc_6 => ?_)
  · rw [if_neg (by rw [hc_6]; decide)] at hno hyes
    unfold sisR at hc_6
    rw [Bool.and_eq_true] at hc_6
    obtain ⟨i, i1, rfl⟩ := sisH_of n6 hc_6.1
    rw [nI_clamp (show i < 2 ^ 31 by omega)] at hno hyes hc_6
    have hH := hL.hc i1
    have h5 := hH.c5
    obtain ⟨r, r1, rfl⟩ := sisX_of (by omega) hc_6.2
    have hi := hb_in (L := L) (h := i) (by omega)
    refine zr_aload_n dX5_sayGoodbye_12 rfl ?_
    refine zr_getR dX5_sayGoodbye_13 fd_5_11 rfl (hL.1.ob rfl) hL.r0 (by omega) ?_
    refine zr_iload_n dX5_sayGoodbye_16 rfl ?_
    refine zr_aaloadN dX5_sayGoodbye_17 (hL.1.ar rfl) (by decide) (by decide) (by omega) (by decide) (hL.rh (by omega)) (by unfold hb; omega) ?_
    refine zr_getI dX5_sayGoodbye_18 fd_5_94 rfl (hH.ob rfl) ?_
    rw [hH.aw]
    refine zr_if_ne (tgt := 27) dX5_sayGoodbye_21 (by decide) (fun hc_21 => ?_) (fun hc_21 => ?_)
    · rw [if_pos (by have := ((hs.2 i i1).1).resolve_left hc_21; simp [sawk, this])] at hyes
      have hyes := hyes rfl
      rw [od_g] at hyes
      dsimp only [xs, List.getD, List.getElem?_cons_zero, List.getElem?_cons_succ, Option.getD_some] at hyes
      rw [hN_nI (show i < 2 ^ 31 by omega), hN_nI (show r < 2 ^ 31 by omega)] at hyes
      unfold sleave at hyes
      dsimp only at hyes
      refine zr_aload_n dX5_sayGoodbye_27 rfl ?_
      refine zr_getR dX5_sayGoodbye_28 fd_5_11 rfl (hL.1.ob rfl) hL.r0 (by omega) ?_
      refine zr_iload_n dX5_sayGoodbye_31 rfl ?_
      refine zr_aaloadN dX5_sayGoodbye_32 (hL.1.ar rfl) (by decide) (by decide) (by omega) (by decide) (hL.rh (by omega)) (by unfold hb; omega) ?_
      refine zr_iload_n dX5_sayGoodbye_33 rfl ?_
      refine zr_cV1 rfl dX5_sayGoodbye_34 cv_5_103 (hH.ob rfl) (Nat.le_of_ble_eq_true rfl) (takeOut_ok hH r1 (fun m1 h1 q1 o1 => ?_))
      have hL1 : LK m1 L (sdrop s i r) := hL.host i1 o1 h1
      have hz : rz L (zR m (hb L i + 1) r) := ⟨i, by omega, hH.rg (by omega)⟩
      have hlen : ((sdrop s i r).2.2.2 i).2.2.1.length = (s.2.2.2 i).2.2.1.length - 1 := by
        show (fu s.2.2.2 i _ i).2.2.1.length = _
        rw [fu_s]
        exact List.length_eraseIdx_of_lt r1
      refine zr_astore_n dX5_sayGoodbye_37 (by decide) rfl ?_
      dsimp only [zset]
      refine zr_aload_n dX5_sayGoodbye_38 rfl ?_
      refine zr_cV0 rfl dX5_sayGoodbye_39 cv_5_107 q1.1 (Nat.le_of_ble_eq_true rfl) (Rown_ok (e := zg (s.2.2.2 i).2.2.1 r) q1.1 (q1.2 4 (by decide)) ?_)
      refine zr_if_eqB (tgt := 106) dX5_sayGoodbye_42 (by decide) (fun hc_42 => ?_) (fun hc_42 => ?_)
      · rw [if_neg (by rw [hc_42]; decide)] at hyes
        have hcn := (hL1.hc (h := i) i1).cn
        refine zr_aload_n dX5_sayGoodbye_106 rfl ?_
        refine zr_getR dX5_sayGoodbye_107 fd_5_11 rfl (hL1.1.ob rfl) hL1.r0 (by omega) ?_
        refine zr_iload_n dX5_sayGoodbye_110 rfl ?_
        refine zr_aaloadN dX5_sayGoodbye_111 (hL1.1.ar rfl) (by decide) (by decide) (by omega) (by decide) (hL1.rh (by omega)) (by unfold hb; omega) ?_
        refine zr_getI dX5_sayGoodbye_112 fd_5_59 rfl ((hL1.hc (h := i) i1).ob rfl) ?_
        rw [hcn, hlen]
        refine zr_ireturn dX5_sayGoodbye_115 rfl (Nat.le_refl _) (Nat.le_refl _) ?_
        exact hyes _ hL1 (o1.wd (by omega) (by omega))
      · rw [if_pos hc_42, sdrop_bye] at hyes
        refine zr_aload_n dX5_sayGoodbye_45 rfl ?_
        refine zr_dup dX5_sayGoodbye_46 rfl ?_
        refine zr_getI dX5_sayGoodbye_47 fd_5_36 rfl (hL1.1.ob rfl) ?_
        rw [hL1.2.1.2.2.1]
        refine zr_iconst (v := nI 1) dX5_sayGoodbye_50 rfl ?_
        refine zr_iadd dX5_sayGoodbye_51 ?_
        refine zr_putI dX5_sayGoodbye_52 fd_5_36 rfl (hL1.1.ob rfl) ?_
        refine zr_iconst (v := nI 0) dX5_sayGoodbye_55 rfl ?_
        refine zr_istore dX5_sayGoodbye_56 (by decide) rfl ?_
        dsimp only [zset]
        have hL2 := hL1.sc (k := 2) (by decide) (by decide) ((sdrop s i r).1 2 + nI 1)
        have hs2 : sOK (scnt (sdrop s i r) 2 ((sdrop s i r).1 2 + nI 1)) := (hs.drop i1).sc (by decide) _
        have hRz := rz_L hz
        refine bye_58 (m := m) (rc := zg (s.2.2.2 i).2.2.1 r) hs2 hz (fun m3 l3 o3 t4 => ?_) _ 0 _ (Nat.lt_succ_self _) (Nat.zero_le _) (by rw [cbye_0]; exact hL2) (q1.out (zout.sI (lo := L) (hi := L + 1) (by omega) (by omega)) (by omega)) ((o1.wd (by omega) (by omega)).tr (zout.sI (by omega) (by omega)))
        have hlen3 : ((sbyeN (scnt (sdrop s i r) 2 ((sdrop s i r).1 2 + nI 1)) (zg (s.2.2.2 i).2.2.1 r) s.2.2.1).2.2.2 i).2.2.1.length = (s.2.2.2 i).2.2.1.length - 1 := by
          show (if i < s.2.2.1 then sbye _ _ ((sdrop s i r).2.2.2 i) else _).2.2.1.length = _
          rw [if_pos i1, sbye_recs]
          exact hlen
        refine zr_aload_n dX5_sayGoodbye_106 rfl ?_
        refine zr_getR dX5_sayGoodbye_107 fd_5_11 rfl (l3.1.ob rfl) l3.r0 (by omega) ?_
        refine zr_iload_n dX5_sayGoodbye_110 rfl ?_
        refine zr_aaloadN dX5_sayGoodbye_111 (l3.1.ar rfl) (by decide) (by decide) (by omega) (by decide) (l3.rh (by omega)) (by unfold hb; omega) ?_
        refine zr_getI dX5_sayGoodbye_112 fd_5_59 rfl ((l3.hc (h := i) i1).ob rfl) ?_
        rw [(l3.hc (h := i) i1).cn]
        refine zr_ireturn dX5_sayGoodbye_115 rfl (Nat.le_refl _) (Nat.le_refl _) ?_
        have := hyes _ l3 (o3.wd (by omega) (by omega))
        rw [← hlen3] at this
        exact this
    · rw [if_neg (by simp [sawk, hc_21])] at hno
      refine zr_bipush (v := -3) dX5_sayGoodbye_24 rfl ?_
      refine zr_ireturn dX5_sayGoodbye_26 rfl (Nat.le_refl _) (Nat.le_refl _) ?_
      exact hno (by decide)
  · rw [if_pos (by rw [hc_6]; rfl)] at hno
    refine zr_bipush (v := -2) dX5_sayGoodbye_9 rfl ?_
    refine zr_ireturn dX5_sayGoodbye_11 rfl (Nat.le_refl _) (Nat.le_refl _) ?_
    exact hno (by decide)
end
