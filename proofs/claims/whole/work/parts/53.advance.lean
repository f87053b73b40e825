/-! ===== the class: a record advances ===== -/
section
variable {d : Nat} {Q : Value → zM → Prop} {m m' : zM} {L b h r : Nat} {s : sS} {n k q : Int32} {rc y : sR} {x : sH}
/-- where a record lies -/
def ra (m : zM) (L h r : Nat) : Nat := zR m (hb L h + 1) r
theorem LK.ra_rz (hL : LK m L s) (hh : h < s.2.2.1) (hr : r < 5) : rz L (ra m L h r) := ⟨h, by have := hL.n6; omega, (hL.hc hh).rg hr⟩
theorem LK.setr (hL : LK m L s) (hh : h < s.2.2.1) (hr : r < (s.2.2.2 h).2.2.1.length) (k : Nat) (v : Int32) : LK (zsI m (ra m L h r) k v) L (ssetr s h r (fu (zg (s.2.2.2 h).2.2.1 r) k v)) :=
  hL.host hh ((hL.hc hh).seto (by have := (hL.hc hh).c5; omega) k v) ((hL.hc hh).setr hr k v)
theorem LK.set1 (hL : LK m L s) (hr : r < (s.2.2.2 h).2.2.1.length) : LK m L (ssetr s h r (zg (s.2.2.2 h).2.2.1 r)) := by rw [ssetr_id hr]; exact hL
theorem LK.setr2 (hL : LK m L (ssetr s h r y)) (hh : h < s.2.2.1) (hr : r < (s.2.2.2 h).2.2.1.length) (k : Nat) (v : Int32) : LK (zsI m (ra m L h r) k v) L (ssetr s h r (fu y k v)) := by
  have := LK.setr (s := ssetr s h r y) hL hh (r := r) (by rw [ssetr_recs, List.length_set]; exact hr) k v
  rw [ssetr_ssetr, ssetr_recs, zg_set_s hr] at this
  exact this
theorem LK.rcl (hL : LK m L s) (hh : h < s.2.2.1) (hr : r < (s.2.2.2 h).2.2.1.length) : RCl m (ra m L h r) (zg (s.2.2.2 h).2.2.1 r) := (hL.hc hh).rcl hr
theorem LK.rclS (hL : LK m L (ssetr s h r y)) (hh : h < s.2.2.1) (hr : r < (s.2.2.2 h).2.2.1.length) : RCl m (ra m L h r) y := by
  have := LK.rcl (s := ssetr s h r y) hL hh (r := r) (by rw [ssetr_recs, List.length_set]; exact hr)
  rw [ssetr_recs, zg_set_s hr] at this
  exact this
theorem advance_ok (hL : LK m L s) (hs : sOK s) (hh : h < s.2.2.1) (hr : r < (s.2.2.2 h).2.2.1.length) (hk : ∀ m', LK m' L (sadv s h r) → zout L (L + 92) m m' → Q .null m') : zC (d + 4) M5_advance 0 0 [.ref L, .int (nI h), .ref (ra m L h r)] m Q := by
  have n6 := hL.n6
  have h5 := (hL.hc hh).c5
  have hH := hL.hc hh
  have hR := hL.rcl hh hr
  have hz := hL.ra_rz (r := r) hh (by omega)
  have hrk := hs.rec hh hr
  have hnL := rz_L hz
  have hL1 : LK (zsI m L 6 (s.1 3 + nI 1)) L (scnt s 3 (s.1 3 + nI 1)) := hL.sc (k := 3) (by decide) (by decide) (s.1 3 + nI 1)
  have hs1 := hs.sc (k := 3) (by decide) (s.1 3 + nI 1)
  have hR1 : RCl (zsI m L 6 (s.1 3 + nI 1)) (ra m L h r) (zg (s.2.2.2 h).2.2.1 r) := hL1.rcl (h := h) (r := r) hh hr
  have hL2 : LK (zsI m L 6 (s.1 3 + nI 1)) L (ssetr (scnt s 3 (s.1 3 + nI 1)) h r (zg (s.2.2.2 h).2.2.1 r)) := hL1.set1 (h := h) (r := r) hr
  have hzi : L ≤ ra m L h r ∧ ra m L h r < L + 92 := by
    obtain ⟨o, o1, o2, o3⟩ := hz
    have := hb_in (L := L) o1
    omega
  rw [sadv_eq] at hk
  unfold sprobe at hk
  dsimp only at hk
  refine zenterP (Or.inl (by decide +kernel)) rfl (fun h => by cases h) (Nat.le_of_ble_eq_true rfl) ?_
  show zwp _ _ _ _ _ 0 [_, _, _] [] 0 0 _
  refine zr_aload_n dX5_advance_0 rfl ?_
  refine zr_getR dX5_advance_1 fd_5_11 rfl (hL.1.ob rfl) hL.r0 (by omega) ?_
  refine zr_iload_n dX5_advance_4 rfl ?_
  refine zr_aaloadN dX5_advance_5 (hL.1.ar rfl) (by decide) (by decide) (by omega) (by decide) (hL.rh (by omega)) (by unfold hb; omega) ?_
  refine zr_getI dX5_advance_6 fd_5_94 rfl (hH.ob rfl) ?_
  rw [hH.aw]
  refine zr_if_eq (tgt := 19) dX5_advance_9 (by decide) (fun hc_9 => ?_) (fun hc_9 => ?_)
  · rw [if_pos (by simp [sawk, hc_9])] at hk
    refine zr_return dX5_advance_19 rfl (Nat.le_refl _) (Nat.le_refl _) ?_
    exact hk _ hL zout.rf
  · refine zr_aload_n dX5_advance_12 rfl ?_
    refine zr_cV0 rfl dX5_advance_13 cv_5_107 hR.1 (Nat.le_of_ble_eq_true rfl) (Rown_ok (e := zg (s.2.2.2 h).2.2.1 r) hR.1 (hR.2 4 (by decide)) ?_)
    refine zr_if_eqB (tgt := 20) dX5_advance_16 (by decide) (fun hc_16 => ?_) (fun hc_16 => ?_)
    · rw [if_neg (by have := ((hs.2 h hh).1).resolve_left hc_9; simp [sawk, this, hc_16])] at hk
      refine zr_aload_n dX5_advance_20 rfl ?_
      refine zr_getI dX5_advance_21 fd_5_162 rfl hR.1 ?_
      rw [hR.2 5 (by decide)]
      refine zr_if_le (tgt := 38) dX5_advance_24 (by decide) (fun hc_24 => ?_) (fun hc_24 => ?_)
      · rw [if_neg (Int32.not_lt.mpr hc_24)] at hk
        refine zr_aload_n dX5_advance_38 rfl ?_
        refine zr_dup dX5_advance_39 rfl ?_
        refine zr_getI dX5_advance_40 fd_5_42 rfl (hL.1.ob rfl) ?_
        rw [hL.2.1.2.2.2.2.1]
        refine zr_iconst (v := nI 1) dX5_advance_43 rfl ?_
        refine zr_iadd dX5_advance_44 ?_
        refine zr_putI dX5_advance_45 fd_5_42 rfl (hL.1.ob rfl) ?_
        refine zr_aload_n dX5_advance_48 rfl ?_
        refine zr_iload_n dX5_advance_49 rfl ?_
        refine zr_aload_n dX5_advance_50 rfl ?_
        refine zr_cV2 rfl dX5_advance_51 cv_5_165 (hL.1.ob rfl) (Nat.le_of_ble_eq_true rfl) (isTaken_ok hL1 hs1 (by omega) hR1 ?_)
        refine zr_if_eqB (tgt := 88) dX5_advance_54 (by decide) (fun hc_54 => ?_) (fun hc_54 => ?_)
        · rw [if_neg (by rw [hc_54]; decide)] at hk
          refine zr_aload_n dX5_advance_88 rfl ?_
          refine zr_iload_n dX5_advance_89 rfl ?_
          refine zr_aload_n dX5_advance_90 rfl ?_
          refine zr_cV2 rfl dX5_advance_91 cv_5_172 (hL.1.ob rfl) (Nat.le_of_ble_eq_true rfl) (LisOutbid_ok hL1 hs1 (by omega) hR1 ?_)
          refine zr_if_eqB (tgt := 105) dX5_advance_94 (by decide) (fun hc_94 => ?_) (fun hc_94 => ?_)
          · rw [if_neg (by rw [hc_94]; decide)] at hk
            refine zr_aload_n dX5_advance_105 rfl ?_
            refine zr_dup dX5_advance_106 rfl ?_
            refine zr_getI dX5_advance_107 fd_5_83 rfl hR.1 ?_
            rw [hR1.2 4 (by decide)]
            refine zr_iconst (v := nI 1) dX5_advance_110 rfl ?_
            refine zr_iadd dX5_advance_111 ?_
            refine zr_putI dX5_advance_112 fd_5_83 rfl hR.1 ?_
            refine zr_aload_n dX5_advance_115 rfl ?_
            refine zr_cV0 rfl dX5_advance_116 cv_5_107 hR.1 (Nat.le_of_ble_eq_true rfl) (Rown_ok (e := fu (zg (s.2.2.2 h).2.2.1 r) 4 (zg (s.2.2.2 h).2.2.1 r 4 + nI 1)) hR.1 ((hL2.setr2 hh hr 4 _).rclS hh hr |>.2 4 (by decide)) ?_)
            have hL3 := hL2.setr2 hh hr 4 (zg (s.2.2.2 h).2.2.1 r 4 + nI 1)
            have ev : sown (fu (zg (s.2.2.2 h).2.2.1 r) 4 (zg (s.2.2.2 h).2.2.1 r 4 + nI 1)) = decide (zg (s.2.2.2 h).2.2.1 r 4 + nI 1 = nI 3) := by
              unfold sown
              rw [fu_s]
              rfl
            rw [ev]
            refine zr_if_eqB (tgt := 128) dX5_advance_119 (by decide) (fun hc_119 => ?_) (fun hc_119 => ?_)
            · have hk := fun m' (h1 : LK m' L (ssetr (scnt s 3 (s.1 3 + nI 1)) h r (fu (zg (s.2.2.2 h).2.2.1 r) 4 (zg (s.2.2.2 h).2.2.1 r 4 + nI 1)))) h2 => hk m' (by rw [if_neg (of_decide_eq_false hc_119)]; exact h1) h2
              refine zr_return dX5_advance_128 rfl (Nat.le_refl _) (Nat.le_refl _) ?_
              first
              | exact hk _ (((hL2.setr2 hh hr 4 _).setr2 hh hr 5 _)) (((zout.sI (by omega) (by omega)).tr (zout.sI (by omega) (by omega))).tr (zout.sI (by omega) (by omega)))
              | exact hk _ ((((hL2.setr2 hh hr 0 _).setr2 hh hr 4 _).setr2 hh hr 5 _).sc (k := 4) (by decide) (by decide) _) (((((zout.sI (by omega) (by omega)).tr (zout.sI (by omega) (by omega))).tr (zout.sI (by omega) (by omega))).tr (zout.sI (by omega) (by omega))).tr (zout.sI (by omega) (by omega)))
              | exact hk _ hL3 ((zout.sI (by omega) (by omega)).tr (zout.sI (by omega) (by omega)))
              | exact hk _ l4 (((zout.sI (by omega) (by omega)).tr (zout.sI (by omega) (by omega))).tr o4)
              | fail "none"
            · have hk := fun m' (h1 : LK m' L (ssays (ssetr (scnt s 3 (s.1 3 + nI 1)) h r (fu (zg (s.2.2.2 h).2.2.1 r) 4 (zg (s.2.2.2 h).2.2.1 r 4 + nI 1))) h (fu (zg (s.2.2.2 h).2.2.1 r) 4 (zg (s.2.2.2 h).2.2.1 r 4 + nI 1)))) h2 => hk m' (by rw [if_pos (of_decide_eq_true hc_119)]; exact h1) h2
              have hrk3 : rOK (fu (zg (s.2.2.2 h).2.2.1 r) 4 (zg (s.2.2.2 h).2.2.1 r 4 + nI 1)) := by
                obtain ⟨j1, j2, j3, j4⟩ := hrk
                refine ⟨⟨3, by decide, ?_⟩, ?_, ?_, ?_⟩
                · rw [fu_s]; exact of_decide_eq_true hc_119
                · rw [fu_n _ _ (by decide)]; exact j2
                · rw [fu_n _ _ (by decide)]; exact j3
                · rw [fu_n _ _ (by decide)]; exact j4
              have hs3 := hs1.setr (h := h) (r := r) hh hrk3
              refine zr_aload_n dX5_advance_122 rfl ?_
              refine zr_iload_n dX5_advance_123 rfl ?_
              refine zr_aload_n dX5_advance_124 rfl ?_
              refine zr_cV2v rfl dX5_advance_125 cv_5_86 (hL.1.ob rfl) (Nat.le_of_ble_eq_true rfl) (announce_ok hL3 hs3 (by omega) (hL3.rclS hh hr) hz hrk3.2.2.1 (fun m4 l4 o4 r4 => ?_))
              refine zr_return dX5_advance_128 rfl (Nat.le_refl _) (Nat.le_refl _) ?_
              first
              | exact hk _ (((hL2.setr2 hh hr 4 _).setr2 hh hr 5 _)) (((zout.sI (by omega) (by omega)).tr (zout.sI (by omega) (by omega))).tr (zout.sI (by omega) (by omega)))
              | exact hk _ ((((hL2.setr2 hh hr 0 _).setr2 hh hr 4 _).setr2 hh hr 5 _).sc (k := 4) (by decide) (by decide) _) (((((zout.sI (by omega) (by omega)).tr (zout.sI (by omega) (by omega))).tr (zout.sI (by omega) (by omega))).tr (zout.sI (by omega) (by omega))).tr (zout.sI (by omega) (by omega)))
              | exact hk _ hL3 ((zout.sI (by omega) (by omega)).tr (zout.sI (by omega) (by omega)))
              | exact hk _ l4 (((zout.sI (by omega) (by omega)).tr (zout.sI (by omega) (by omega))).tr o4)
              | fail "none"
          · rw [if_pos hc_94] at hk
            refine zr_aload_n dX5_advance_97 rfl ?_
            refine zr_iconst (v := nI 1) dX5_advance_98 rfl ?_
            refine zr_cV1v rfl dX5_advance_99 cv_5_169 hR.1 (Nat.le_of_ble_eq_true rfl) (Rrst_ok hR.1 ?_)
            refine zr_goto (tgt := 128) dX5_advance_102 (by decide) ?_
            refine zr_return dX5_advance_128 rfl (Nat.le_refl _) (Nat.le_refl _) ?_
            first
            | exact hk _ (((hL2.setr2 hh hr 4 _).setr2 hh hr 5 _)) (((zout.sI (by omega) (by omega)).tr (zout.sI (by omega) (by omega))).tr (zout.sI (by omega) (by omega)))
            | exact hk _ ((((hL2.setr2 hh hr 0 _).setr2 hh hr 4 _).setr2 hh hr 5 _).sc (k := 4) (by decide) (by decide) _) (((((zout.sI (by omega) (by omega)).tr (zout.sI (by omega) (by omega))).tr (zout.sI (by omega) (by omega))).tr (zout.sI (by omega) (by omega))).tr (zout.sI (by omega) (by omega)))
            | exact hk _ hL3 ((zout.sI (by omega) (by omega)).tr (zout.sI (by omega) (by omega)))
            | exact hk _ l4 (((zout.sI (by omega) (by omega)).tr (zout.sI (by omega) (by omega))).tr o4)
            | fail "none"
        · rw [if_pos hc_54] at hk
          refine zr_aload_n dX5_advance_57 rfl ?_
          refine zr_aload_n dX5_advance_58 rfl ?_
          refine zr_getI dX5_advance_59 fd_5_121 rfl hR.1 ?_
          rw [hR1.2 0 (by decide)]
          refine zr_iconst (v := nI 1) dX5_advance_62 rfl ?_
          refine zr_iadd dX5_advance_63 ?_
          refine zr_bipush (v := nI 16) dX5_advance_64 rfl ?_
          refine zr_irem dX5_advance_66 (by decide) ?_
          refine zr_putI dX5_advance_67 fd_5_121 rfl hR.1 ?_
          refine zr_aload_n dX5_advance_70 rfl ?_
          refine zr_iconst (v := nI 0) dX5_advance_71 rfl ?_
          refine zr_cV1v rfl dX5_advance_72 cv_5_169 hR.1 (Nat.le_of_ble_eq_true rfl) (Rrst_ok hR.1 ?_)
          refine zr_aload_n dX5_advance_75 rfl ?_
          refine zr_dup dX5_advance_76 rfl ?_
          refine zr_getI dX5_advance_77 fd_5_45 rfl (hL.1.ob rfl) ?_
          rw [zI_n _ _ (Or.inl hnL.symm), zI_n _ _ (Or.inl hnL.symm), zI_n _ _ (Or.inl hnL.symm), hL1.2.1.2.2.2.2.2.1]
          refine zr_iconst (v := nI 1) dX5_advance_80 rfl ?_
          refine zr_iadd dX5_advance_81 ?_
          refine zr_putI dX5_advance_82 fd_5_45 rfl (hL.1.ob rfl) ?_
          refine zr_goto (tgt := 128) dX5_advance_85 (by decide) ?_
          refine zr_return dX5_advance_128 rfl (Nat.le_refl _) (Nat.le_refl _) ?_
          first
          | exact hk _ (((hL2.setr2 hh hr 4 _).setr2 hh hr 5 _)) (((zout.sI (by omega) (by omega)).tr (zout.sI (by omega) (by omega))).tr (zout.sI (by omega) (by omega)))
          | exact hk _ ((((hL2.setr2 hh hr 0 _).setr2 hh hr 4 _).setr2 hh hr 5 _).sc (k := 4) (by decide) (by decide) _) (((((zout.sI (by omega) (by omega)).tr (zout.sI (by omega) (by omega))).tr (zout.sI (by omega) (by omega))).tr (zout.sI (by omega) (by omega))).tr (zout.sI (by omega) (by omega)))
          | exact hk _ hL3 ((zout.sI (by omega) (by omega)).tr (zout.sI (by omega) (by omega)))
          | exact hk _ l4 (((zout.sI (by omega) (by omega)).tr (zout.sI (by omega) (by omega))).tr o4)
          | fail "none"
      · rw [if_pos (Int32.not_le.mp hc_24)] at hk
        refine zr_aload_n dX5_advance_27 rfl ?_
        refine zr_dup dX5_advance_28 rfl ?_
        refine zr_getI dX5_advance_29 fd_5_162 rfl hR.1 ?_
        rw [hR.2 5 (by decide)]
        refine zr_iconst (v := nI 1) dX5_advance_32 rfl ?_
        refine zr_isub dX5_advance_33 ?_
        refine zr_putI dX5_advance_34 fd_5_162 rfl hR.1 ?_
        refine zr_return dX5_advance_37 rfl (Nat.le_refl _) (Nat.le_refl _) ?_
        exact hk _ (hL.setr hh hr 5 _) (zout.sI (by omega) (by omega))
    · rw [if_pos (by rw [hc_16, Bool.or_true])] at hk
      refine zr_return dX5_advance_19 rfl (Nat.le_refl _) (Nat.le_refl _) ?_
      exact hk _ hL zout.rf
end
