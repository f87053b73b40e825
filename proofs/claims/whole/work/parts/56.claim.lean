/-! ===== the class: claims and shares ===== -/
section
variable {d : Nat} {Q : Value → zM → Prop} {m m' : zM} {L h i : Nat} {s : sS} {y z : sR}
theorem sadd_recs : ((sadd s i y).2.2.2 i).2.2.1 = (s.2.2.2 i).2.2.1 ++ [y] := by
  show (fu s.2.2.2 i _ i).2.2.1 = _
  rw [fu_s]
theorem ssetr_sadd : ssetr (sadd s i y) i (s.2.2.2 i).2.2.1.length z = sadd s i z := by
  refine sS_ext rfl rfl rfl (fun j => ?_)
  unfold ssetr sadd shst
  dsimp only
  by_cases e : j = i
  · subst e; simp [fu_s]
  · rw [fu_n _ _ e, fu_n _ _ e, fu_n _ _ e]
theorem zg_add : zg ((s.2.2.2 i).2.2.1 ++ [y]) (s.2.2.2 i).2.2.1.length = y := by
  funext k
  exact zat_app_r
theorem LK.adds (hL : LK m L (sadd s i y)) (hi : i < s.2.2.1) (k : Nat) (v : Int32) : LK (zsI m (ra m L i (s.2.2.2 i).2.2.1.length) k v) L (sadd s i (fu y k v)) := by
  have := LK.setr (s := sadd s i y) (h := i) (r := (s.2.2.2 i).2.2.1.length) hL hi (by rw [sadd_recs, List.length_append]; show _ < _ + 1; omega) k v
  rw [sadd_recs, zg_add, ssetr_sadd] at this
  exact this
theorem LK.addc (hL : LK m L (sadd s i y)) (hi : i < s.2.2.1) (h : ∀ k, k < 7 → y k = z k) : LK m L (sadd s i z) := by
  have hH := hL.hc (h := i) hi
  have e1 : (sadd s i y).2.2.2 i = ((s.2.2.2 i).1, (s.2.2.2 i).2.1, (s.2.2.2 i).2.2.1 ++ [y], (s.2.2.2 i).2.2.2) := fu_s _ _ _
  rw [e1] at hH
  have hH2 := hH.recs (l := (s.2.2.2 i).2.2.1 ++ [z]) (by simp) (fun r hr k hk => by
    rw [List.length_append] at hr
    have hr2 : r < (s.2.2.2 i).2.2.1.length + 1 := hr
    by_cases e : r = (s.2.2.2 i).2.2.1.length
    · subst e
      show zg ((s.2.2.2 i).2.2.1 ++ [y]) _ k = _
      rw [zg_add, zg_add]
      exact h k hk
    · exact (zat_app_l (l' := [y]) (k := k) (show r < (s.2.2.2 i).2.2.1.length by omega)).trans (zat_app_l (l' := [z]) (k := k) (show r < (s.2.2.2 i).2.2.1.length by omega)).symm)
  have := hL.host (h := i) hi zout.rf hH2
  have e2 : shst (sadd s i y) i ((s.2.2.2 i).1, (s.2.2.2 i).2.1, (s.2.2.2 i).2.2.1 ++ [z], (s.2.2.2 i).2.2.2) = sadd s i z := by
    refine sS_ext rfl rfl rfl (fun j => ?_)
    unfold sadd shst
    dsimp only
    by_cases e : j = i
    · subst e; rw [fu_s, fu_s]
    · rw [fu_n _ _ e, fu_n _ _ e, fu_n _ _ e]
  rw [e2] at this
  exact this
theorem claim_ok {a b c q l : Int32} (hL : LK m L s) (hs : sOK s) (hno : oc (nI 99) (xs [a, b, c, q, l]) s < 0 → Q (.int (oc (nI 99) (xs [a, b, c, q, l]) s)) m) (hyes : oc (nI 99) (xs [a, b, c, q, l]) s = 0 → ∀ m', LK m' L (od (nI 99) (xs [a, b, c, q, l]) s).2 → zout L (L + 94) m m' → Q (.int (od (nI 99) (xs [a, b, c, q, l]) s).1) m') : zC (d + 4) M5_claim 0 0 [.ref L, .int a, .int b, .int c, .int q, .int l] m Q := by
  have n6 := hL.n6
  refine zenterP (Or.inl (by decide +kernel)) rfl (fun h => by cases h) (Nat.le_of_ble_eq_true rfl) ?_
  show zwp _ _ _ _ _ 0 [_, _, _, _, _, _, zU, zU] [] 0 0 _
  refine zr_aload_n dX5_claim_0 rfl ?_
  refine zr_iload_n dX5_claim_1 rfl ?_
  refine zr_iload_n dX5_claim_2 rfl ?_
  refine zr_iload_n dX5_claim_3 rfl ?_
  refine zr_iload dX5_claim_4 rfl ?_
  refine zr_iload dX5_claim_6 rfl ?_
  refine zr_cV5 rfl dX5_claim_8 cv_5_69 (hL.1.ob rfl) (Nat.le_of_ble_eq_true rfl) (errorOf_ok hL hs ?_)
  refine zr_istore dX5_claim_11 (by decide) rfl ?_
  dsimp only [zset]
  refine zr_iload dX5_claim_13 rfl ?_
  refine zr_if_eq (tgt := 21) dX5_claim_15 (by decide) (fun hc_15 => ?_) (fun hc_15 => ?_)
  · have hyes := hyes hc_15
    obtain ⟨i, i1, i2, -, -, -, -, -, i3⟩ := scanRecord_0 n6 hc_15
    have hH := hL.hc i1
    have h5 := hH.c5
    subst i2
    rw [od_c] at hyes
    dsimp only [xs, List.getD, List.getElem?_cons_zero, List.getElem?_cons_succ, Option.getD_some] at hyes
    rw [hN_nI (show i < 2 ^ 31 by omega)] at hyes
    have hi := hb_in (L := L) (h := i) (by omega)
    refine zr_aload_n dX5_claim_21 rfl ?_
    refine zr_getR dX5_claim_22 fd_5_11 rfl (hL.1.ob rfl) hL.r0 (by omega) ?_
    refine zr_iload_n dX5_claim_25 rfl ?_
    refine zr_aaloadN dX5_claim_26 (hL.1.ar rfl) (by decide) (by decide) (by omega) (by decide) (hL.rh (by omega)) (by unfold hb; omega) ?_
    refine zr_iload_n dX5_claim_27 rfl ?_
    refine zr_iload_n dX5_claim_28 rfl ?_
    refine zr_iload dX5_claim_29 rfl ?_
    refine zr_iload dX5_claim_31 rfl ?_
    refine zr_cV4 rfl dX5_claim_33 cv_5_73 (hH.ob rfl) (Nat.le_of_ble_eq_true rfl) (add_ok hH (by omega) (fun m1 rc r0 r1 r2 r3 r5 h1 o1 e1 => ?_))
    have hL1 : LK m1 L (sadd s i rc) := hL.host i1 o1 h1
    have era : ra m1 L i (s.2.2.2 i).2.2.1.length = zR m (hb L i + 1) (s.2.2.2 i).2.2.1.length := by unfold ra; rw [e1]
    have hL2 := (hL1.adds i1 6 (nI 1)).adds i1 4 (nI 0)
    have era2 : ra (zsI m1 (ra m1 L i (s.2.2.2 i).2.2.1.length) 6 (nI 1)) L i (s.2.2.2 i).2.2.1.length = zR m (hb L i + 1) (s.2.2.2 i).2.2.1.length := era
    rw [era2, era] at hL2
    have hL3 := hL2.addc (z := srec b c q l true) i1 (fun k hk => by
      match k, hk with
      | 0, _ => exact r0
      | 1, _ => exact r1
      | 2, _ => exact r2
      | 3, _ => exact r3
      | 4, _ => rfl
      | 5, _ => exact r5
      | 6, _ => rfl)
    have hro : ∀ m', zn m' = zn m → zOb m' (zR m (hb L i + 1) (s.2.2.2 i).2.2.1.length) 6 := fun m' e => hH.ro (by omega) e
    have hrg := hH.rg (r := (s.2.2.2 i).2.2.1.length) (by omega)
    refine zr_astore dX5_claim_36 (by decide) rfl ?_
    dsimp only [zset]
    refine zr_aload dX5_claim_38 rfl ?_
    refine zr_iconst (v := nI 1) dX5_claim_40 rfl ?_
    refine zr_putZ dX5_claim_41 fd_5_77 rfl (hro _ o1.1) (by first | exact Or.inl rfl | exact Or.inr rfl | exact bI_01 _) ?_
    refine zr_aload dX5_claim_44 rfl ?_
    refine zr_iconst (v := nI 0) dX5_claim_46 rfl ?_
    refine zr_putI dX5_claim_47 fd_5_83 rfl (hro _ o1.1) ?_
    refine zr_aload_n dX5_claim_50 rfl ?_
    refine zr_getR dX5_claim_51 fd_5_11 rfl (hL3.1.ob rfl) hL3.r0 (by omega) ?_
    refine zr_iload_n dX5_claim_54 rfl ?_
    refine zr_aaloadN dX5_claim_55 (hL3.1.ar rfl) (by decide) (by decide) (by omega) (by decide) (hL3.rh (by omega)) (by unfold hb; omega) ?_
    refine zr_getI dX5_claim_56 fd_5_59 rfl ((hL3.hc (h := i) i1).ob rfl) ?_
    rw [(hL3.hc (h := i) i1).cn, sadd_recs, List.length_append, List.length_singleton]
    refine zr_iconst (v := nI 1) dX5_claim_59 rfl ?_
    refine zr_isubN dX5_claim_60 (by omega) ?_
    refine zr_ireturn dX5_claim_61 rfl (Nat.le_refl _) (Nat.le_refl _) ?_
    refine hyes _ hL3 (((o1.wd (by omega) (by omega)).tr (zout.sI (by omega) (by omega))).tr (zout.sI (by omega) (by omega)))
  · have e : oc (nI 99) (xs [a, b, c, q, l]) s < 0 := by
      rcases oc_v (s := s) (nI 99) (xs [a, b, c, q, l]) with z | z
      · exact absurd z hc_15
      · exact z.lt
    refine zr_iload dX5_claim_18 rfl ?_
    refine zr_ireturn dX5_claim_20 rfl (Nat.le_refl _) (Nat.le_refl _) ?_
    exact hno e
theorem share_ok {a b c q l : Int32} (hL : LK m L s) (hs : sOK s) (hno : oc (nI 115) (xs [a, b, c, q, l]) s < 0 → Q (.int (oc (nI 115) (xs [a, b, c, q, l]) s)) m) (hyes : oc (nI 115) (xs [a, b, c, q, l]) s = 0 → ∀ m', LK m' L (od (nI 115) (xs [a, b, c, q, l]) s).2 → zout L (L + 94) m m' → Q (.int (od (nI 115) (xs [a, b, c, q, l]) s).1) m') : zC (d + 4) M5_share 0 0 [.ref L, .int a, .int b, .int c, .int q, .int l] m Q := by
  have n6 := hL.n6
  refine zenterP (Or.inl (by decide +kernel)) rfl (fun h => by cases h) (Nat.le_of_ble_eq_true rfl) ?_
  show zwp _ _ _ _ _ 0 [_, _, _, _, _, _, zU, zU] [] 0 0 _
  refine zr_aload_n dX5_share_0 rfl ?_
  refine zr_iload_n dX5_share_1 rfl ?_
  refine zr_iload_n dX5_share_2 rfl ?_
  refine zr_iload_n dX5_share_3 rfl ?_
  refine zr_iload dX5_share_4 rfl ?_
  refine zr_iload dX5_share_6 rfl ?_
  refine zr_cV5 rfl dX5_share_8 cv_5_69 (hL.1.ob rfl) (Nat.le_of_ble_eq_true rfl) (errorOf_ok hL hs ?_)
  refine zr_istore dX5_share_11 (by decide) rfl ?_
  dsimp only [zset]
  refine zr_iload dX5_share_13 rfl ?_
  refine zr_if_eq (tgt := 21) dX5_share_15 (by decide) (fun hc_15 => ?_) (fun hc_15 => ?_)
  · have hyes := hyes hc_15
    obtain ⟨i, i1, i2, -, i4, i5, -, -, i3⟩ := scanRecord_0 n6 hc_15
    have hH := hL.hc i1
    have h5 := hH.c5
    subst i2
    rw [od_s] at hyes
    dsimp only [xs, List.getD, List.getElem?_cons_zero, List.getElem?_cons_succ, Option.getD_some] at hyes
    rw [hN_nI (show i < 2 ^ 31 by omega)] at hyes
    have hi := hb_in (L := L) (h := i) (by omega)
    refine zr_aload_n dX5_share_21 rfl ?_
    refine zr_getR dX5_share_22 fd_5_11 rfl (hL.1.ob rfl) hL.r0 (by omega) ?_
    refine zr_iload_n dX5_share_25 rfl ?_
    refine zr_aaloadN dX5_share_26 (hL.1.ar rfl) (by decide) (by decide) (by omega) (by decide) (hL.rh (by omega)) (by unfold hb; omega) ?_
    refine zr_iload_n dX5_share_27 rfl ?_
    refine zr_iload_n dX5_share_28 rfl ?_
    refine zr_iload dX5_share_29 rfl ?_
    refine zr_iload dX5_share_31 rfl ?_
    refine zr_cV4 rfl dX5_share_33 cv_5_73 (hH.ob rfl) (Nat.le_of_ble_eq_true rfl) (add_ok hH (by omega) (fun m1 rc r0 r1 r2 r3 r5 h1 o1 e1 => ?_))
    have hL1 : LK m1 L (sadd s i rc) := hL.host i1 o1 h1
    have era : ra m1 L i (s.2.2.2 i).2.2.1.length = zR m (hb L i + 1) (s.2.2.2 i).2.2.1.length := by unfold ra; rw [e1]
    have hL2 := (hL1.adds i1 6 (nI 0)).adds i1 4 (nI 3)
    have era2 : ra (zsI m1 (ra m1 L i (s.2.2.2 i).2.2.1.length) 6 (nI 0)) L i (s.2.2.2 i).2.2.1.length = zR m (hb L i + 1) (s.2.2.2 i).2.2.1.length := era
    rw [era2, era] at hL2
    have hL3 := hL2.addc (z := srec b c q l false) i1 (fun k hk => by
      match k, hk with
      | 0, _ => exact r0
      | 1, _ => exact r1
      | 2, _ => exact r2
      | 3, _ => exact r3
      | 4, _ => rfl
      | 5, _ => exact r5
      | 6, _ => rfl)
    have hs3 := hs.add i1 (Nat.lt_of_le_of_ne h5 i3) (srec_ok (n := b) (k := c) (sole := false) i4 i5)
    have hR3 := LK.rcl (s := sadd s i (srec b c q l false)) (h := i) (r := (s.2.2.2 i).2.2.1.length) hL3 i1 (by rw [sadd_recs, List.length_append]; show _ < _ + 1; omega)
    rw [sadd_recs, zg_add] at hR3
    have hz3 := LK.ra_rz (h := i) (r := (s.2.2.2 i).2.2.1.length) hL3 i1 (by omega)
    have era3 : ra (zsI (zsI m1 (zR m (hb L i + 1) (s.2.2.2 i).2.2.1.length) 6 (nI 0)) (zR m (hb L i + 1) (s.2.2.2 i).2.2.1.length) 4 (nI 3)) L i (s.2.2.2 i).2.2.1.length = zR m (hb L i + 1) (s.2.2.2 i).2.2.1.length := era
    rw [era3] at hR3 hz3
    have hro : ∀ m', zn m' = zn m → zOb m' (zR m (hb L i + 1) (s.2.2.2 i).2.2.1.length) 6 := fun m' e => hH.ro (by omega) e
    have hrg := hH.rg (r := (s.2.2.2 i).2.2.1.length) (by omega)
    refine zr_astore dX5_share_36 (by decide) rfl ?_
    dsimp only [zset]
    refine zr_aload dX5_share_38 rfl ?_
    refine zr_iconst (v := nI 0) dX5_share_40 rfl ?_
    refine zr_putZ dX5_share_41 fd_5_77 rfl (hro _ o1.1) (by first | exact Or.inl rfl | exact Or.inr rfl | exact bI_01 _) ?_
    refine zr_aload dX5_share_44 rfl ?_
    refine zr_iconst (v := nI 3) dX5_share_46 rfl ?_
    refine zr_putI dX5_share_47 fd_5_83 rfl (hro _ o1.1) ?_
    refine zr_aload_n dX5_share_50 rfl ?_
    refine zr_iload_n dX5_share_51 rfl ?_
    refine zr_aload dX5_share_52 rfl ?_
    refine zr_cV2v rfl dX5_share_54 cv_5_86 (hL3.1.ob rfl) (Nat.le_of_ble_eq_true rfl) (announce_ok hL3 hs3 (by omega) hR3 hz3 (Or.inl rfl) (fun m4 l4 o4 r4 => ?_))
    refine zr_aload_n dX5_share_57 rfl ?_
    refine zr_getR dX5_share_58 fd_5_11 rfl (l4.1.ob rfl) l4.r0 (by omega) ?_
    refine zr_iload_n dX5_share_61 rfl ?_
    refine zr_aaloadN dX5_share_62 (l4.1.ar rfl) (by decide) (by decide) (by omega) (by decide) (l4.rh (by omega)) (by unfold hb; omega) ?_
    refine zr_getI dX5_share_63 fd_5_59 rfl ((l4.hc (h := i) i1).ob rfl) ?_
    rw [(l4.hc (h := i) i1).cn, (ssays_shp.2.2 i).2.2, sadd_recs, List.length_append, List.length_singleton]
    refine zr_iconst (v := nI 1) dX5_share_66 rfl ?_
    refine zr_isubN dX5_share_67 (by omega) ?_
    refine zr_ireturn dX5_share_68 rfl (Nat.le_refl _) (Nat.le_refl _) ?_
    refine hyes _ l4 ((((o1.wd (by omega) (by omega)).tr (zout.sI (by omega) (by omega))).tr (zout.sI (by omega) (by omega))).tr (o4.wd (by omega) (by omega)))
  · have e : oc (nI 115) (xs [a, b, c, q, l]) s < 0 := by
      rcases oc_v (s := s) (nI 115) (xs [a, b, c, q, l]) with z | z
      · exact absurd z hc_15
      · exact z.lt
    refine zr_iload dX5_share_18 rfl ?_
    refine zr_ireturn dX5_share_20 rfl (Nat.le_refl _) (Nat.le_refl _) ?_
    exact hno e
end
