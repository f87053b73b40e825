/-! ===== the reference: probes, a tick, ticks ===== -/
section
variable {s : sS} {h r : Nat} {x y : sR} {f : Nat → Int32}
theorem ssetr_ssetr : ssetr (ssetr s h r x) h r y = ssetr s h r y := by
  refine sS_ext rfl rfl rfl (fun j => ?_)
  unfold ssetr shst
  dsimp only
  by_cases e : j = h
  · subst e; simp [fu_s]
  · simp [fu_n _ _ e]
theorem ssetr_id (hr : r < (s.2.2.2 h).2.2.1.length) : ssetr s h r (zg (s.2.2.2 h).2.2.1 r) = s := by
  refine sS_ext rfl rfl rfl (fun j => ?_)
  unfold ssetr shst
  dsimp only
  by_cases e : j = h
  · subst e; rw [fu_s, zg_lt hr, List.set_getElem_self]
  · rw [fu_n _ _ e]
theorem ssetr_recs : ((ssetr s h r x).2.2.2 h).2.2.1 = (s.2.2.2 h).2.2.1.set r x := by
  unfold ssetr shst
  dsimp only
  rw [fu_s]
theorem RA.setr2 (hA : RA f (ssetr s h r x)) (hh : h < s.2.2.1) (hr : r < (s.2.2.2 h).2.2.1.length) {k : Nat} (hk : k < 7) (v : Int32) : RA (fu f (34 + 7 * (5 * h + r) + k) v) (ssetr s h r (fu x k v)) := by
  have := RA.setr (s := ssetr s h r x) hA hh (r := r) (by rw [ssetr_recs, List.length_set]; exact hr) hk v
  rw [ssetr_ssetr, ssetr_recs, zg_set_s hr] at this
  exact this
theorem RA.set1 (hA : RA f s) (hr : r < (s.2.2.2 h).2.2.1.length) : RA f (ssetr s h r (zg (s.2.2.2 h).2.2.1 r)) := by rw [ssetr_id hr]; exact hA
/-- a probe -/
def sprobe (s : sS) (h r : Nat) : sS :=
  let a := zg (s.2.2.2 h).2.2.1 r
  let s1 := scnt s 3 (s.1 3 + nI 1)
  if sopp s1 h a then scnt (ssetr s1 h r (fu (fu (fu a 0 (a 0 + nI 1 - (a 0 + nI 1) / nI 16 * nI 16)) 4 (nI 0)) 5 (nI 0))) 4 (s.1 4 + nI 1)
  else if soutb s1 h a then ssetr s1 h r (fu (fu a 4 (nI 0)) 5 (nI 1))
  else if a 4 + nI 1 = nI 3 then ssays (ssetr s1 h r (fu a 4 (a 4 + nI 1))) h (fu a 4 (a 4 + nI 1)) else ssetr s1 h r (fu a 4 (a 4 + nI 1))
theorem sadv_eq : sadv s h r = if !(sawk (s.2.2.2 h)) || sown (zg (s.2.2.2 h).2.2.1 r) then s else if 0 < zg (s.2.2.2 h).2.2.1 r 5 then ssetr s h r (fu (zg (s.2.2.2 h).2.2.1 r) 5 (zg (s.2.2.2 h).2.2.1 r 5 - 1)) else sprobe s h r := rfl
end
section
variable {d : Nat} {Q : Value → zM → Prop} {m : zM} {s : sS} {h r : Nat} {f : Nat → Int32}
theorem probes_ok (hM : MI m) (hA : RA f s) (hs : sOK s) (hh : h < s.2.2.1) (hr : r < (s.2.2.2 h).2.2.1.length) (hk : ∀ g, RA g (sprobe s h r) → Q .null (zrow m 668 g)) : zC (d + 6) M9_probes 0 0 [.ref 667, .int (nI h), .int (nI (34 + 7 * (5 * h + r)))] (zrow m 668 f) Q := by
  have h6 := hA.h6 hh
  have h5 := hA.c5 hh
  have hA1 := hA.sc (k := 3) (by decide) (by decide) (s.1 3 + nI 1)
  have hs1 := hs.sc (k := 3) (by decide) (s.1 3 + nI 1)
  have hrc : ∀ k, k < 7 → fu f 3 (s.1 3 + nI 1) (34 + 7 * (5 * h + r) + k) = zg (s.2.2.2 h).2.2.1 r k := fun k hk => (fu_n _ _ (by omega)).trans (hA.rec hh hr k hk)
  have hA2 := hA1.set1 (h := h) (r := r) hr
  refine zenterP (Or.inl (by decide +kernel)) rfl (fun h => by cases h) (Nat.le_of_ble_eq_true rfl) ?_
  show zwp _ _ _ _ _ 0 [_, _, _] [] 0 0 _
  refine zr_aload_n dX9_probes_0 rfl ?_
  refine zr_getR dX9_probes_1 fd_9_7 rfl (MI.ob hM ⟨rfl, rfl⟩) (MI.r0 hM ⟨rfl, rfl⟩) (by decide) ?_
  refine zr_iconst (v := nI 3) dX9_probes_4 rfl ?_
  refine zr_dup2 dX9_probes_5 rfl rfl ?_
  refine zr_ialoadA dX9_probes_6 (MI.a668 hM ⟨rfl, rfl⟩) (by omega) ?_
  rw [hA.2.2.1 3 (by decide) (by decide)]
  refine zr_iconst (v := nI 1) dX9_probes_7 rfl ?_
  refine zr_iadd dX9_probes_8 ?_
  refine zr_iastoreA dX9_probes_9 (MI.a668 hM ⟨rfl, rfl⟩) (by omega) ?_
  refine zr_aload_n dX9_probes_10 rfl ?_
  refine zr_iload_n dX9_probes_11 rfl ?_
  refine zr_iload_n dX9_probes_12 rfl ?_
  refine zr_cV2 rfl dX9_probes_13 cv_9_162 (MI.ob hM ⟨rfl, rfl⟩) (Nat.le_of_ble_eq_true rfl) (isOpposed_ok (s := scnt s 3 (s.1 3 + nI 1)) hM hA1 hs1.px h6 (by omega) (fun k hk => hrc k (by omega)) ?_)
  refine zr_if_eqB (tgt := 71) dX9_probes_16 (by decide) (fun hc_16 => ?_) (fun hc_16 => ?_)
  · refine zr_aload_n dX9_probes_71 rfl ?_
    refine zr_iload_n dX9_probes_72 rfl ?_
    refine zr_iload_n dX9_probes_73 rfl ?_
    refine zr_cV2 rfl dX9_probes_74 cv_9_165 (MI.ob hM ⟨rfl, rfl⟩) (Nat.le_of_ble_eq_true rfl) (isOutbid_ok (s := scnt s 3 (s.1 3 + nI 1)) hM hA1 hs1.st h6 (by omega) (fun k hk => hrc k (by omega)) ?_)
    refine zr_if_eqB (tgt := 101) dX9_probes_77 (by decide) (fun hc_77 => ?_) (fun hc_77 => ?_)
    · refine zr_aload_n dX9_probes_101 rfl ?_
      refine zr_getR dX9_probes_102 fd_9_7 rfl (MI.ob hM ⟨rfl, rfl⟩) (MI.r0 hM ⟨rfl, rfl⟩) (by decide) ?_
      refine zr_iload_n dX9_probes_105 rfl ?_
      refine zr_iconst (v := nI 4) dX9_probes_106 rfl ?_
      refine zr_iaddN dX9_probes_107 ?_
      refine zr_dup2 dX9_probes_108 rfl rfl ?_
      refine zr_ialoadA dX9_probes_109 (MI.a668 hM ⟨rfl, rfl⟩) (by omega) ?_
      rw [hrc 4 (by decide)]
      refine zr_iconst (v := nI 1) dX9_probes_110 rfl ?_
      refine zr_iadd dX9_probes_111 ?_
      refine zr_iastoreA dX9_probes_112 (MI.a668 hM ⟨rfl, rfl⟩) (by omega) ?_
      refine zr_aload_n dX9_probes_113 rfl ?_
      refine zr_getR dX9_probes_114 fd_9_7 rfl (MI.ob hM ⟨rfl, rfl⟩) (MI.r0 hM ⟨rfl, rfl⟩) (by decide) ?_
      refine zr_iload_n dX9_probes_117 rfl ?_
      refine zr_iconst (v := nI 4) dX9_probes_118 rfl ?_
      refine zr_iaddN dX9_probes_119 ?_
      refine zr_ialoadA dX9_probes_120 (MI.a668 hM ⟨rfl, rfl⟩) (by omega) ?_
      rw [fu_s]
      refine zr_iconst (v := nI 3) dX9_probes_121 rfl ?_
      refine zr_icmp_ne (tgt := 131) dX9_probes_122 (by decide) (fun hc_122 => ?_) (fun hc_122 => ?_)
      · have hk := fun g (hg : RA g (ssetr (scnt s 3 (s.1 3 + nI 1)) h r (fu (zg (s.2.2.2 h).2.2.1 r) 4 (zg (s.2.2.2 h).2.2.1 r 4 + nI 1)))) => hk g (by unfold sprobe; dsimp only; rw [hc_16, hc_77, if_neg hc_122]; exact hg)
        refine zr_return dX9_probes_131 rfl (Nat.le_refl _) (Nat.le_refl _) ?_
        first
        | exact hk _ hg
        | exact hk _ (hA2.setr2 hh hr (k := 4) (by decide) _)
        | exact hk _ ((hA2.setr2 hh hr (k := 4) (by decide) _).setr2 hh hr (k := 5) (by decide) _)
        | exact hk _ ((((hA2.setr2 hh hr (k := 0) (by decide) _).setr2 hh hr (k := 4) (by decide) _).setr2 hh hr (k := 5) (by decide) _).sc (k := 4) (by decide) (by decide) _)
      · have hk := fun g (hg : RA g (ssays (ssetr (scnt s 3 (s.1 3 + nI 1)) h r (fu (zg (s.2.2.2 h).2.2.1 r) 4 (zg (s.2.2.2 h).2.2.1 r 4 + nI 1))) h (fu (zg (s.2.2.2 h).2.2.1 r) 4 (zg (s.2.2.2 h).2.2.1 r 4 + nI 1)))) => hk g (by unfold sprobe; dsimp only; rw [hc_16, hc_77, if_pos hc_122]; exact hg)
        refine zr_aload_n dX9_probes_125 rfl ?_
        refine zr_iload_n dX9_probes_126 rfl ?_
        refine zr_iload_n dX9_probes_127 rfl ?_
        refine zr_cV2v rfl dX9_probes_128 cv_9_122 (MI.ob hM ⟨rfl, rfl⟩) (Nat.le_of_ble_eq_true rfl) (says_ok (s := ssetr (scnt s 3 (s.1 3 + nI 1)) h r (fu (zg (s.2.2.2 h).2.2.1 r) 4 (zg (s.2.2.2 h).2.2.1 r 4 + nI 1))) (rc := fu (zg (s.2.2.2 h).2.2.1 r) 4 (zg (s.2.2.2 h).2.2.1 r 4 + nI 1)) hM (hA2.setr2 hh hr (by decide) _) (by omega) (by omega) (by omega) (fun k hk => ?_) (fun g hg => ?_))
        · have := RA.rec (hA2.setr2 hh hr (k := 4) (by decide) (zg (s.2.2.2 h).2.2.1 r 4 + nI 1)) (h := h) hh (r := r) (by rw [ssetr_recs, List.length_set]; exact hr) k hk
          rw [ssetr_recs, zg_set_s (by exact hr)] at this
          exact this
        refine zr_return dX9_probes_131 rfl (Nat.le_refl _) (Nat.le_refl _) ?_
        first
        | exact hk _ hg
        | exact hk _ (hA2.setr2 hh hr (k := 4) (by decide) _)
        | exact hk _ ((hA2.setr2 hh hr (k := 4) (by decide) _).setr2 hh hr (k := 5) (by decide) _)
        | exact hk _ ((((hA2.setr2 hh hr (k := 0) (by decide) _).setr2 hh hr (k := 4) (by decide) _).setr2 hh hr (k := 5) (by decide) _).sc (k := 4) (by decide) (by decide) _)
    · have hk := fun g (hg : RA g (ssetr (scnt s 3 (s.1 3 + nI 1)) h r (fu (fu (zg (s.2.2.2 h).2.2.1 r) 4 (nI 0)) 5 (nI 1)))) => hk g (by unfold sprobe; dsimp only; rw [hc_16, hc_77]; exact hg)
      refine zr_aload_n dX9_probes_80 rfl ?_
      refine zr_getR dX9_probes_81 fd_9_7 rfl (MI.ob hM ⟨rfl, rfl⟩) (MI.r0 hM ⟨rfl, rfl⟩) (by decide) ?_
      refine zr_iload_n dX9_probes_84 rfl ?_
      refine zr_iconst (v := nI 4) dX9_probes_85 rfl ?_
      refine zr_iaddN dX9_probes_86 ?_
      refine zr_iconst (v := nI 0) dX9_probes_87 rfl ?_
      refine zr_iastoreA dX9_probes_88 (MI.a668 hM ⟨rfl, rfl⟩) (by omega) ?_
      refine zr_aload_n dX9_probes_89 rfl ?_
      refine zr_getR dX9_probes_90 fd_9_7 rfl (MI.ob hM ⟨rfl, rfl⟩) (MI.r0 hM ⟨rfl, rfl⟩) (by decide) ?_
      refine zr_iload_n dX9_probes_93 rfl ?_
      refine zr_iconst (v := nI 5) dX9_probes_94 rfl ?_
      refine zr_iaddN dX9_probes_95 ?_
      refine zr_iconst (v := nI 1) dX9_probes_96 rfl ?_
      refine zr_iastoreA dX9_probes_97 (MI.a668 hM ⟨rfl, rfl⟩) (by omega) ?_
      refine zr_goto (tgt := 131) dX9_probes_98 (by decide) ?_
      refine zr_return dX9_probes_131 rfl (Nat.le_refl _) (Nat.le_refl _) ?_
      first
      | exact hk _ hg
      | exact hk _ (hA2.setr2 hh hr (k := 4) (by decide) _)
      | exact hk _ ((hA2.setr2 hh hr (k := 4) (by decide) _).setr2 hh hr (k := 5) (by decide) _)
      | exact hk _ ((((hA2.setr2 hh hr (k := 0) (by decide) _).setr2 hh hr (k := 4) (by decide) _).setr2 hh hr (k := 5) (by decide) _).sc (k := 4) (by decide) (by decide) _)
  · have hk := fun g (hg : RA g (scnt (ssetr (scnt s 3 (s.1 3 + nI 1)) h r (fu (fu (fu (zg (s.2.2.2 h).2.2.1 r) 0 (zg (s.2.2.2 h).2.2.1 r 0 + nI 1 - (zg (s.2.2.2 h).2.2.1 r 0 + nI 1) / nI 16 * nI 16)) 4 (nI 0)) 5 (nI 0))) 4 (s.1 4 + nI 1))) => hk g (by unfold sprobe; dsimp only; rw [if_pos hc_16]; exact hg)
    refine zr_aload_n dX9_probes_19 rfl ?_
    refine zr_getR dX9_probes_20 fd_9_7 rfl (MI.ob hM ⟨rfl, rfl⟩) (MI.r0 hM ⟨rfl, rfl⟩) (by decide) ?_
    refine zr_iload_n dX9_probes_23 rfl ?_
    refine zr_iconst (v := nI 0) dX9_probes_24 rfl ?_
    refine zr_iaddN dX9_probes_25 ?_
    refine zr_aload_n dX9_probes_26 rfl ?_
    refine zr_getR dX9_probes_27 fd_9_7 rfl (MI.ob hM ⟨rfl, rfl⟩) (MI.r0 hM ⟨rfl, rfl⟩) (by decide) ?_
    refine zr_iload_n dX9_probes_30 rfl ?_
    refine zr_iconst (v := nI 0) dX9_probes_31 rfl ?_
    refine zr_iaddN dX9_probes_32 ?_
    refine zr_ialoadA dX9_probes_33 (MI.a668 hM ⟨rfl, rfl⟩) (by omega) ?_
    rw [hrc 0 (by decide)]
    refine zr_iconst (v := nI 1) dX9_probes_34 rfl ?_
    refine zr_iadd dX9_probes_35 ?_
    refine zr_bipush (v := nI 16) dX9_probes_36 rfl ?_
    refine zr_irem dX9_probes_38 (by decide) ?_
    refine zr_iastoreA dX9_probes_39 (MI.a668 hM ⟨rfl, rfl⟩) (by omega) ?_
    refine zr_aload_n dX9_probes_40 rfl ?_
    refine zr_getR dX9_probes_41 fd_9_7 rfl (MI.ob hM ⟨rfl, rfl⟩) (MI.r0 hM ⟨rfl, rfl⟩) (by decide) ?_
    refine zr_iload_n dX9_probes_44 rfl ?_
    refine zr_iconst (v := nI 4) dX9_probes_45 rfl ?_
    refine zr_iaddN dX9_probes_46 ?_
    refine zr_iconst (v := nI 0) dX9_probes_47 rfl ?_
    refine zr_iastoreA dX9_probes_48 (MI.a668 hM ⟨rfl, rfl⟩) (by omega) ?_
    refine zr_aload_n dX9_probes_49 rfl ?_
    refine zr_getR dX9_probes_50 fd_9_7 rfl (MI.ob hM ⟨rfl, rfl⟩) (MI.r0 hM ⟨rfl, rfl⟩) (by decide) ?_
    refine zr_iload_n dX9_probes_53 rfl ?_
    refine zr_iconst (v := nI 5) dX9_probes_54 rfl ?_
    refine zr_iaddN dX9_probes_55 ?_
    refine zr_iconst (v := nI 0) dX9_probes_56 rfl ?_
    refine zr_iastoreA dX9_probes_57 (MI.a668 hM ⟨rfl, rfl⟩) (by omega) ?_
    refine zr_aload_n dX9_probes_58 rfl ?_
    refine zr_getR dX9_probes_59 fd_9_7 rfl (MI.ob hM ⟨rfl, rfl⟩) (MI.r0 hM ⟨rfl, rfl⟩) (by decide) ?_
    refine zr_iconst (v := nI 4) dX9_probes_62 rfl ?_
    refine zr_dup2 dX9_probes_63 rfl rfl ?_
    refine zr_ialoadA dX9_probes_64 (MI.a668 hM ⟨rfl, rfl⟩) (by omega) ?_
    rw [fu_n _ _ (by omega), fu_n _ _ (by omega), fu_n _ _ (by omega), fu_n _ _ (by decide), hA.2.2.1 4 (by decide) (by decide)]
    refine zr_iconst (v := nI 1) dX9_probes_65 rfl ?_
    refine zr_iadd dX9_probes_66 ?_
    refine zr_iastoreA dX9_probes_67 (MI.a668 hM ⟨rfl, rfl⟩) (by omega) ?_
    refine zr_goto (tgt := 131) dX9_probes_68 (by decide) ?_
    refine zr_return dX9_probes_131 rfl (Nat.le_refl _) (Nat.le_refl _) ?_
    first
    | exact hk _ hg
    | exact hk _ (hA2.setr2 hh hr (k := 4) (by decide) _)
    | exact hk _ ((hA2.setr2 hh hr (k := 4) (by decide) _).setr2 hh hr (k := 5) (by decide) _)
    | exact hk _ ((((hA2.setr2 hh hr (k := 0) (by decide) _).setr2 hh hr (k := 4) (by decide) _).setr2 hh hr (k := 5) (by decide) _).sc (k := 4) (by decide) (by decide) _)
end
