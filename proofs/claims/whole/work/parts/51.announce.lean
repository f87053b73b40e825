/-! ===== the class: announcing ===== -/
section
variable {d : Nat} {Q : Value → zM → Prop} {m m' : zM} {L b h sp : Nat} {s : sS} {n k q : Int32} {rc : sR} {x : sH}
theorem shst_id : shst s h (s.2.2.2 h) = s := by
  refine sS_ext rfl rfl rfl (fun j => ?_)
  show fu s.2.2.2 h (s.2.2.2 h) j = s.2.2.2 j
  by_cases e : j = h
  · subst e; rw [fu_s]
  · rw [fu_n _ _ e]
theorem announce_ok (hL : LK m L s) (hs : sOK s) (hsp : sp < 65536) (hb' : RCl m b rc) (hz : rz L b) (hso : rc 6 = 0 ∨ rc 6 = 1) (hk : ∀ m', LK m' L (ssays s sp rc) → zout L (L + 92) m m' → RCl m' b rc → Q .null m') : zC (d + 3) M5_announce 0 0 [.ref L, .int (nI sp), .ref b] m Q := by
  have n6 := hL.n6
  have loop : ∀ c i m1 t4, s.2.2.1 - i < c → i ≤ s.2.2.1 → LK m1 L (sheard s sp rc i) → zout L (L + 92) m m1 → RCl m1 b rc → zwp (d + 3) M5_announce 0 0 Q 2 [.ref L, .int (nI sp), .ref b, .int (nI i), t4] [] 0 0 m1 := by
    intro c
    induction c with
    | zero => intro i m1 t4 h1; omega
    | succ c ih =>
      intro i m1 t4 h1 h2 hL1 ho hb1
      have hnh : zI m1 L 2 = nI s.2.2.1 := hL1.nh
      have htm : zI m1 L 3 = s.1 1 := hL1.2.1.2.1
      have hmg : zI m1 L 4 = s.1 2 := hL1.2.1.2.2.1
      have hH : i < s.2.2.1 → HC m1 (hb L i) (s.2.2.2 i) := fun hi => by
        have := hL1.hc (h := i) hi
        rw [sheard_at] at this
        exact this
      have skip : shear (s.1 1) (s.2.2.2 i) rc = s.2.2.2 i → LK m1 L (sheard s sp rc (i + 1)) := by
        intro e
        by_cases ei : i = sp
        · rw [sheard_b ei]; exact hL1
        · rw [← sheard_s ei, e]
          have e2 := shst_id (s := sheard s sp rc i) (h := i)
          rw [sheard_at] at e2
          rw [e2]
          exact hL1
      refine zr_iload_n dX5_announce_2 rfl ?_
      refine zr_aload_n dX5_announce_3 rfl ?_
      refine zr_getI dX5_announce_4 fd_5_25 rfl (hL1.1.ob rfl) ?_
      rw [hnh]
      refine zr_icmp_geN (tgt := 70) dX5_announce_7 (by decide) (by omega) (by omega) (fun hc_7 => ?_) (fun hc_7 => ?_)
      · refine zr_aload_n dX5_announce_70 rfl ?_
        refine zr_dup dX5_announce_71 rfl ?_
        refine zr_getI dX5_announce_72 fd_5_36 rfl (hL1.1.ob rfl) ?_
        rw [hmg]
        refine zr_iconst (v := nI 1) dX5_announce_75 rfl ?_
        refine zr_iadd dX5_announce_76 ?_
        refine zr_putI dX5_announce_77 fd_5_36 rfl (hL1.1.ob rfl) ?_
        refine zr_return dX5_announce_80 rfl (Nat.le_refl _) (Nat.le_refl _) ?_
        have e : i = s.2.2.1 := by omega
        subst e
        refine hk _ (hL1.sc (k := 2) (by decide) (by decide) _) (ho.tr (zout.sI (by omega) (by omega))) (hb1.out (zout.sI (lo := L) (hi := L + 1) (by omega) (by omega)) (by have := rz_L hz; omega))
      · refine zr_aload_n dX5_announce_10 rfl ?_
        refine zr_getR dX5_announce_11 fd_5_11 rfl (hL1.1.ob rfl) hL1.r0 (by omega) ?_
        refine zr_iload_n dX5_announce_14 rfl ?_
        refine zr_aaloadN dX5_announce_15 (hL1.1.ar rfl) (by decide) (by decide) (by omega) (by decide) (hL1.rh (by omega)) (by unfold hb; omega) ?_
        refine zr_astore dX5_announce_16 (by decide) rfl ?_
        dsimp only [zset]
        refine zr_iload_n dX5_announce_18 rfl ?_
        refine zr_iload_n dX5_announce_19 rfl ?_
        refine zr_icmp_eqN (tgt := 64) dX5_announce_20 (by decide) (by omega) (by omega) (fun hc_20 => ?_) (fun hc_20 => ?_)
        · have e : LK m1 L (sheard s sp rc (i + 1)) := by rw [sheard_b hc_20]; exact hL1
          refine zr_iincN dX5_announce_64 rfl (by decide) rfl ?_
          dsimp only [zset]
          refine zr_goto (tgt := 2) dX5_announce_67 (by decide) ?_
          first
          | exact ih (i + 1) m1 _ (by omega) (by omega) e ho hb1
          | (have hi := hb_in (L := L) (h := i) (by omega)
             have hL2 := hL1.host (h := i) hc_7 (o2.wd (by omega) (by omega)) ((hH hc_7).cache o2 c2)
             have haw : sawk (s.2.2.2 i) = true := by
               have := ((hs.2 i hc_7).1).resolve_left hc_28
               simp [sawk, this]
             have e1 : shear (s.1 1) (s.2.2.2 i) rc = ((s.2.2.2 i).1, (s.2.2.2 i).2.1, (s.2.2.2 i).2.2.1, if rc 6 == 1 then (shc3 (s.1 1) (s.2.2.2 i) rc).map (srival (s.1 1) rc) else shc3 (s.1 1) (s.2.2.2 i) rc) := by
               unfold shear
               rw [if_pos]
               rw [haw, hc_48]
               rfl
             rw [← e1, sheard_s hc_20] at hL2
             exact ih (i + 1) m2 _ (by omega) (by omega) hL2 (ho.tr (o2.wd (by omega) (by omega))) (hb1.out o2 (rz_off hz (by omega))))
          | fail "none"
        · refine zr_aload dX5_announce_23 rfl ?_
          refine zr_getI dX5_announce_25 fd_5_94 rfl ((hH hc_7).ob rfl) ?_
          rw [(hH hc_7).aw]
          refine zr_if_eq (tgt := 64) dX5_announce_28 (by decide) (fun hc_28 => ?_) (fun hc_28 => ?_)
          · have e : LK m1 L (sheard s sp rc (i + 1)) := skip (by unfold shear; rw [if_neg (by simp [sawk, hc_28])])
            refine zr_iincN dX5_announce_64 rfl (by decide) rfl ?_
            dsimp only [zset]
            refine zr_goto (tgt := 2) dX5_announce_67 (by decide) ?_
            first
            | exact ih (i + 1) m1 _ (by omega) (by omega) e ho hb1
            | (have hi := hb_in (L := L) (h := i) (by omega)
               have hL2 := hL1.host (h := i) hc_7 (o2.wd (by omega) (by omega)) ((hH hc_7).cache o2 c2)
               have haw : sawk (s.2.2.2 i) = true := by
                 have := ((hs.2 i hc_7).1).resolve_left hc_28
                 simp [sawk, this]
               have e1 : shear (s.1 1) (s.2.2.2 i) rc = ((s.2.2.2 i).1, (s.2.2.2 i).2.1, (s.2.2.2 i).2.2.1, if rc 6 == 1 then (shc3 (s.1 1) (s.2.2.2 i) rc).map (srival (s.1 1) rc) else shc3 (s.1 1) (s.2.2.2 i) rc) := by
                 unfold shear
                 rw [if_pos]
                 rw [haw, hc_48]
                 rfl
               rw [← e1, sheard_s hc_20] at hL2
               exact ih (i + 1) m2 _ (by omega) (by omega) hL2 (ho.tr (o2.wd (by omega) (by omega))) (hb1.out o2 (rz_off hz (by omega))))
            | fail "none"
          · refine zr_aload dX5_announce_31 rfl ?_
            refine zr_aload_n dX5_announce_33 rfl ?_
            refine zr_getI dX5_announce_34 fd_5_121 rfl hb1.1 ?_
            rw [hb1.2 0 (by decide)]
            refine zr_aload_n dX5_announce_37 rfl ?_
            refine zr_getI dX5_announce_38 fd_5_124 rfl hb1.1 ?_
            rw [hb1.2 1 (by decide)]
            refine zr_aload_n dX5_announce_41 rfl ?_
            refine zr_getI dX5_announce_42 fd_5_127 rfl hb1.1 ?_
            rw [hb1.2 2 (by decide)]
            refine zr_cV3 rfl dX5_announce_45 cv_5_130 ((hH hc_7).ob rfl) (Nat.le_of_ble_eq_true rfl) (has_ok (hH hc_7) ?_)
            rw [skey_same]
            refine zr_if_neB (tgt := 64) dX5_announce_48 (by decide) (fun hc_48 => ?_) (fun hc_48 => ?_)
            · have e : LK m1 L (sheard s sp rc (i + 1)) := skip (by unfold shear; rw [if_neg (by rw [hc_48]; simp)])
              refine zr_iincN dX5_announce_64 rfl (by decide) rfl ?_
              dsimp only [zset]
              refine zr_goto (tgt := 2) dX5_announce_67 (by decide) ?_
              first
              | exact ih (i + 1) m1 _ (by omega) (by omega) e ho hb1
              | (have hi := hb_in (L := L) (h := i) (by omega)
                 have hL2 := hL1.host (h := i) hc_7 (o2.wd (by omega) (by omega)) ((hH hc_7).cache o2 c2)
                 have haw : sawk (s.2.2.2 i) = true := by
                   have := ((hs.2 i hc_7).1).resolve_left hc_28
                   simp [sawk, this]
                 have e1 : shear (s.1 1) (s.2.2.2 i) rc = ((s.2.2.2 i).1, (s.2.2.2 i).2.1, (s.2.2.2 i).2.2.1, if rc 6 == 1 then (shc3 (s.1 1) (s.2.2.2 i) rc).map (srival (s.1 1) rc) else shc3 (s.1 1) (s.2.2.2 i) rc) := by
                   unfold shear
                   rw [if_pos]
                   rw [haw, hc_48]
                   rfl
                 rw [← e1, sheard_s hc_20] at hL2
                 exact ih (i + 1) m2 _ (by omega) (by omega) hL2 (ho.tr (o2.wd (by omega) (by omega))) (hb1.out o2 (rz_off hz (by omega))))
              | fail "none"
            · refine zr_aload dX5_announce_51 rfl ?_
              refine zr_getR dX5_announce_53 fd_5_111 rfl ((hH hc_7).ob rfl) (hH hc_7).r1 (by omega) ?_
              refine zr_aload_n dX5_announce_56 rfl ?_
              refine zr_aload_n dX5_announce_57 rfl ?_
              refine zr_getI dX5_announce_58 fd_5_33 rfl (hL1.1.ob rfl) ?_
              rw [htm]
              refine zr_cV2v rfl dX5_announce_61 cv_5_133 ((hH hc_7).cc.ob rfl) (Nat.le_of_ble_eq_true rfl) (learn_ok (x := s.2.2.2 i) (hH hc_7).cc (hs.2 i hc_7).2.2.2.2.2.2 hb1 (rz_off hz (by omega)) hso (fun m2 c2 o2 => ?_))
              refine zr_iincN dX5_announce_64 rfl (by decide) rfl ?_
              dsimp only [zset]
              refine zr_goto (tgt := 2) dX5_announce_67 (by decide) ?_
              first
              | exact ih (i + 1) m1 _ (by omega) (by omega) e ho hb1
              | (have hi := hb_in (L := L) (h := i) (by omega)
                 have hL2 := hL1.host (h := i) hc_7 (o2.wd (by omega) (by omega)) ((hH hc_7).cache o2 c2)
                 have haw : sawk (s.2.2.2 i) = true := by
                   have := ((hs.2 i hc_7).1).resolve_left hc_28
                   simp [sawk, this]
                 have e1 : shear (s.1 1) (s.2.2.2 i) rc = ((s.2.2.2 i).1, (s.2.2.2 i).2.1, (s.2.2.2 i).2.2.1, if rc 6 == 1 then (shc3 (s.1 1) (s.2.2.2 i) rc).map (srival (s.1 1) rc) else shc3 (s.1 1) (s.2.2.2 i) rc) := by
                   unfold shear
                   rw [if_pos]
                   rw [haw, hc_48]
                   rfl
                 rw [← e1, sheard_s hc_20] at hL2
                 exact ih (i + 1) m2 _ (by omega) (by omega) hL2 (ho.tr (o2.wd (by omega) (by omega))) (hb1.out o2 (rz_off hz (by omega))))
              | fail "none"
  refine zenterP (Or.inl (by decide +kernel)) rfl (fun h => by cases h) (Nat.le_of_ble_eq_true rfl) ?_
  show zwp _ _ _ _ _ 0 [_, _, _, zU, zU] [] 0 0 _
  refine zr_iconst (v := nI 0) dX5_announce_0 rfl ?_
  refine zr_istore_n dX5_announce_1 (by decide) rfl ?_
  dsimp only [zset]
  exact loop _ 0 m _ (Nat.lt_succ_self _) (Nat.zero_le _) (by rw [sheard_0]; exact hL) zout.rf hb'
end
