/-! ===== the reference: a tick, ticks ===== -/
/-- the rate's three steps answer numbers -/
def fOK (s : sS) : Prop := vf_n32 (FP.fmul s.2.1 1061158912) ∧ vf_n32 (FP.fmul (FP.i2f (s.1 2 - s.1 6)) 1048576000) ∧ vf_n32 (FP.fadd (FP.fmul s.2.1 1061158912) (FP.fmul (FP.i2f (s.1 2 - s.1 6)) 1048576000))
/-- a tick up to its rate -/
def stick0 (s : sS) : sS := fR (fun h s => sadvH s h) s.2.2.1 (sages s s.2.2.1)
section
variable {s : sS} {h r : Nat}
theorem sadv_sleep (hw : sawk (s.2.2.2 h) = false) : sadv s h r = s := by
  rw [sadv_eq, hw]
  rfl
theorem sadvR_sleep (hw : sawk (s.2.2.2 h) = false) : ∀ k, fR (fun r s => sadv s h r) k s = s
  | 0 => rfl
  | k + 1 => by rw [fR, sadvR_sleep hw k, sadv_sleep hw]
theorem sages_shp : (sages s s.2.2.1).2.2.1 = s.2.2.1 ∧ (sages s s.2.2.1).2.1 = s.2.1 := ⟨rfl, rfl⟩
theorem stick0_rate : (stick0 s).2.1 = s.2.1 := (fR_shp (s := sages s s.2.2.1) (fun h s => sadvH_shp) s.2.2.1).2.1
end
section
variable {d : Nat} {Q : Value → zM → Prop} {m : zM} {s : sS} {f : Nat → Int32}
theorem zsF_row (m : zM) (f : Nat → Int32) (q v : UInt32) : zsF (zrow (zsF m 667 1 q) 668 f) 667 1 v = zrow (zsF m 667 1 v) 668 f := by
  have e : zu (zu m.2.2.2.1 667 1 q) 667 1 v = zu m.2.2.2.1 667 1 v := by
    funext x j
    unfold zu
    split <;> rfl
  unfold zrow zsF
  simp only
  rw [e]
theorem zF_row (m : zM) (f : Nat → Int32) (q : UInt32) : zF (zrow (zsF m 667 1 q) 668 f) 667 1 = q := by simp [zF, zrow, zsF, zu]
theorem ticksOne_97 {s0 : sS} {q : UInt32} (hM : MI m) (hA : RA f s0) (hq : q = s0.2.1) (hf : fOK s0) (hk : ∀ g, RA g (srate s0) → Q .null (zrow (zsF m 667 1 (srate s0).2.1) 668 g)) (t1 t2 t3 : Value) :
    zwp (d + 7) M9_ticksOne 0 0 Q 97 [.ref 667, t1, t2, t3] [] 0 0 (zrow (zsF m 667 1 q) 668 f) := by
  subst hq
  obtain ⟨n1, n2, n3⟩ := hf
  refine zr_aload_n dX9_ticksOne_97 rfl ?_
  refine zr_getF dX9_ticksOne_98 fd_9_43 rfl (MI.ob hM ⟨rfl, rfl⟩) ?_
  rw [zF_row]
  refine zr_ldcf dX9_ticksOne_101 kc_9_174 ?_
  refine zr_fmul dX9_ticksOne_103 n1 ?_
  refine zr_fstore_n dX9_ticksOne_104 (by decide) rfl ?_
  dsimp only [zset]
  refine zr_aload_n dX9_ticksOne_105 rfl ?_
  refine zr_getR dX9_ticksOne_106 fd_9_7 rfl (MI.ob hM ⟨rfl, rfl⟩) (MI.r0 hM ⟨rfl, rfl⟩) (by decide) ?_
  refine zr_iconst (v := nI 2) dX9_ticksOne_109 rfl ?_
  refine zr_ialoadA dX9_ticksOne_110 (MI.a668 hM ⟨rfl, rfl⟩) (by omega) ?_
  rw [hA.2.2.1 2 (by decide) (by decide)]
  refine zr_aload_n dX9_ticksOne_111 rfl ?_
  refine zr_getR dX9_ticksOne_112 fd_9_7 rfl (MI.ob hM ⟨rfl, rfl⟩) (MI.r0 hM ⟨rfl, rfl⟩) (by decide) ?_
  refine zr_bipush (v := nI 6) dX9_ticksOne_115 rfl ?_
  refine zr_ialoadA dX9_ticksOne_117 (MI.a668 hM ⟨rfl, rfl⟩) (by omega) ?_
  rw [hA.2.2.1 6 (by decide) (by decide)]
  refine zr_isub dX9_ticksOne_118 ?_
  refine zr_i2f dX9_ticksOne_119 ?_
  refine zr_ldcf dX9_ticksOne_120 kc_9_175 ?_
  refine zr_fmul dX9_ticksOne_122 n2 ?_
  refine zr_fstore_n dX9_ticksOne_123 (by decide) rfl ?_
  dsimp only [zset]
  refine zr_aload_n dX9_ticksOne_124 rfl ?_
  refine zr_fload_n dX9_ticksOne_125 rfl ?_
  refine zr_fload_n dX9_ticksOne_126 rfl ?_
  refine zr_fadd dX9_ticksOne_127 n3 ?_
  refine zr_putF dX9_ticksOne_128 fd_9_43 rfl (MI.ob hM ⟨rfl, rfl⟩) ?_
  rw [zsF_row]
  refine zr_aload_n dX9_ticksOne_131 rfl ?_
  refine zr_getR dX9_ticksOne_132 fd_9_7 rfl (MI.ob hM ⟨rfl, rfl⟩) (MI.r0 hM ⟨rfl, rfl⟩) (by decide) ?_
  refine zr_bipush (v := nI 6) dX9_ticksOne_135 rfl ?_
  refine zr_aload_n dX9_ticksOne_137 rfl ?_
  refine zr_getR dX9_ticksOne_138 fd_9_7 rfl (MI.ob hM ⟨rfl, rfl⟩) (MI.r0 hM ⟨rfl, rfl⟩) (by decide) ?_
  refine zr_iconst (v := nI 2) dX9_ticksOne_141 rfl ?_
  refine zr_ialoadA dX9_ticksOne_142 (MI.a668 hM ⟨rfl, rfl⟩) (by omega) ?_
  rw [hA.2.2.1 2 (by decide) (by decide)]
  refine zr_iastoreA dX9_ticksOne_143 (MI.a668 hM ⟨rfl, rfl⟩) (by omega) ?_
  refine zr_return dX9_ticksOne_144 rfl (Nat.le_refl _) (Nat.le_refl _) ?_
  refine hk _ ?_
  have := hA.sc (k := 6) (by decide) (by decide) (s0.1 2)
  exact this
theorem ticksOne_loop {s1 : sS} {q : UInt32} (hM : MI m) (hs1 : sOK s1) (hk : ∀ g (t1 t2 t3 : Value), RA g (fR (fun h s => sadvH s h) s1.2.2.1 s1) → zwp (d + 7) M9_ticksOne 0 0 Q 97 [.ref 667, t1, t2, t3] [] 0 0 (zrow (zsF m 667 1 q) 668 g)) : ∀ c h f t2 t3, s1.2.2.1 - h < c → h ≤ s1.2.2.1 → RA f (fR (fun h s => sadvH s h) h s1) →
    zwp (d + 7) M9_ticksOne 0 0 Q 6 [.ref 667, .int (nI h), t2, t3] [] 0 0 (zrow (zsF m 667 1 q) 668 f) := by
  have n6 := hs1.1
  have hM2 : MI (zsF m 667 1 q) := hM.of rfl rfl
  intro c
  induction c with
  | zero => intro h f t2 t3 h1; omega
  | succ c ih =>
    intro h f t2 t3 h1 h2 hA
    have sh : sShp s1 (fR (fun h s => sadvH s h) h s1) := fR_shp (fun h s => sadvH_shp) h
    have hok := hs1.advH h h2
    have ihh := fun f t2 t3 => ih (h + 1) f t2 t3
    rw [fR] at ihh
    generalize hsh : fR (fun h s => sadvH s h) h s1 = sh0 at *
    have inner : h < s1.2.2.1 → ∀ e r f t3, (sh0.2.2.2 h).2.2.1.length - r < e → r ≤ (sh0.2.2.2 h).2.2.1.length → (r = 0 ∨ sawk (sh0.2.2.2 h) = true) → RA f (fR (fun r s => sadv s h r) r sh0) →
        zwp (d + 7) M9_ticksOne 0 0 Q 18 [.ref 667, .int (nI h), .int (nI r), t3] [] 0 0 (zrow (zsF m 667 1 q) 668 f) := by
      intro ho e
      have hh0 : h < sh0.2.2.1 := by rw [sh.1]; exact ho
      induction e with
      | zero => intro r f t3 h3; omega
      | succ e ih2 =>
        intro r f t3 h3 h4 h5 hA2
        have sh2 : sShp sh0 (fR (fun r s => sadv s h r) r sh0) := fR_shp (fun r s => sadv_shp) r
        have hok2 := hok.advR hh0 r h4
        have ihr := fun f t3 => ih2 (r + 1) f t3
        rw [fR] at ihr
        have hexit : (sawk (sh0.2.2.2 h) = false ∨ (sh0.2.2.2 h).2.2.1.length ≤ r) → fR (fun r s => sadv s h r) r sh0 = sadvH sh0 h := by
          intro hx
          rcases hx with hx | hx
          · unfold sadvH; rw [sadvR_sleep hx, sadvR_sleep hx]
          · unfold sadvH; rw [show r = (sh0.2.2.2 h).2.2.1.length by omega]
        generalize hsr : fR (fun r s => sadv s h r) r sh0 = sr at *
        have hh2 : h < sr.2.2.1 := by rw [sh2.1]; exact hh0
        have hlen := (sh2.2.2 h).2.2
        have hawk : sawk (sr.2.2.2 h) = sawk (sh0.2.2.2 h) := by unfold sawk; rw [(sh2.2.2 h).1]
        have c5 := hA2.c5 hh2
        have hM := hM2
        refine zr_iload_n dX9_ticksOne_18 rfl ?_
        refine zr_aload_n dX9_ticksOne_19 rfl ?_
        refine zr_iload_n dX9_ticksOne_20 rfl ?_
        refine zr_cV1 rfl dX9_ticksOne_21 cv_9_73 (MI.ob hM ⟨rfl, rfl⟩) (Nat.le_of_ble_eq_true rfl) (records_ok hM2 (hA2.h6 hh2) (hA2.cnt hh2) ?_)
        rw [hlen]
        refine zr_icmp_geN (tgt := 91) dX9_ticksOne_24 (by decide) (by omega) (by omega) (fun hc_24 => ?_) (fun hc_24 => ?_)
        · refine zr_iincN dX9_ticksOne_91 rfl (by decide) rfl ?_
          dsimp only [zset]
          refine zr_goto (tgt := 6) dX9_ticksOne_94 (by decide) ?_
          refine ihh f _ _ (by omega) (by omega) ?_
          first
          | (rw [← hexit (Or.inl hc_32)]; exact hA2)
          | (rw [← hexit (Or.inr hc_24)]; exact hA2)
        · refine zr_aload_n dX9_ticksOne_27 rfl ?_
          refine zr_iload_n dX9_ticksOne_28 rfl ?_
          refine zr_cV1 rfl dX9_ticksOne_29 cv_9_59 (MI.ob hM ⟨rfl, rfl⟩) (Nat.le_of_ble_eq_true rfl) (isAwake_ok hM2 (hA2.h6 hh2) (hA2.awk hh2) ?_)
          rw [hawk]
          refine zr_if_eqB (tgt := 91) dX9_ticksOne_32 (by decide) (fun hc_32 => ?_) (fun hc_32 => ?_)
          · refine zr_iincN dX9_ticksOne_91 rfl (by decide) rfl ?_
            dsimp only [zset]
            refine zr_goto (tgt := 6) dX9_ticksOne_94 (by decide) ?_
            refine ihh f _ _ (by omega) (by omega) ?_
            first
            | (rw [← hexit (Or.inl hc_32)]; exact hA2)
            | (rw [← hexit (Or.inr hc_24)]; exact hA2)
          · refine zr_iload_n dX9_ticksOne_35 rfl ?_
            refine zr_iload_n dX9_ticksOne_36 rfl ?_
            refine zr_cS2 rfl dX9_ticksOne_37 cv_9_55 (Nat.le_of_ble_eq_true rfl) (at_ok ?_)
            refine zr_istore_n dX9_ticksOne_40 (by decide) rfl ?_
            dsimp only [zset]
            refine zr_aload_n dX9_ticksOne_41 rfl ?_
            refine zr_getR dX9_ticksOne_42 fd_9_7 rfl (MI.ob hM ⟨rfl, rfl⟩) (MI.r0 hM ⟨rfl, rfl⟩) (by decide) ?_
            refine zr_iload_n dX9_ticksOne_45 rfl ?_
            refine zr_iconst (v := nI 4) dX9_ticksOne_46 rfl ?_
            refine zr_iaddN dX9_ticksOne_47 ?_
            refine zr_ialoadA dX9_ticksOne_48 (MI.a668 hM ⟨rfl, rfl⟩) (by omega) ?_
            obtain ⟨j, hj3, hj⟩ := hok2.st.at hh2 (show r < (sr.2.2.2 h).2.2.1.length by rw [hlen]; exact hc_24)
            rw [hA2.rec hh2 (show r < (sr.2.2.2 h).2.2.1.length by rw [hlen]; exact hc_24) 4 (by decide), hj]
            refine zr_iconst (v := nI 3) dX9_ticksOne_49 rfl ?_
            refine zr_icmp_geN (tgt := 85) dX9_ticksOne_50 (by decide) (by omega) (by omega) (fun hc_50 => ?_) (fun hc_50 => ?_)
            · refine zr_iincN dX9_ticksOne_85 rfl (by decide) rfl ?_
              dsimp only [zset]
              refine zr_goto (tgt := 18) dX9_ticksOne_88 (by decide) ?_
              first
              | (refine ihr g _ (by omega) (by omega) (Or.inr hc_32) ?_
                 rw [sadv_eq, if_neg (by rw [hawk, hc_32, sown_nI hj hj3]; simp; omega), if_neg (by rw [Int32.not_lt]; exact hc_61)]
                 exact hg)
              | (refine ihr _ _ (by omega) (by omega) (Or.inr hc_32) ?_
                 rw [sadv_eq, if_neg (by rw [hawk, hc_32, sown_nI hj hj3]; simp; omega), if_pos (by rw [← Int32.not_le]; exact hc_61)]
                 exact hA2.setr hh2 (show r < (sr.2.2.2 h).2.2.1.length by rw [hlen]; exact hc_24) (k := 5) (by decide) _)
              | (refine ihr f _ (by omega) (by omega) (Or.inr hc_32) ?_
                 rw [sadv_eq, if_pos (by rw [sown_nI hj hj3]; simp [hc_50])]
                 exact hA2)
            · refine zr_aload_n dX9_ticksOne_53 rfl ?_
              refine zr_getR dX9_ticksOne_54 fd_9_7 rfl (MI.ob hM ⟨rfl, rfl⟩) (MI.r0 hM ⟨rfl, rfl⟩) (by decide) ?_
              refine zr_iload_n dX9_ticksOne_57 rfl ?_
              refine zr_iconst (v := nI 5) dX9_ticksOne_58 rfl ?_
              refine zr_iaddN dX9_ticksOne_59 ?_
              refine zr_ialoadA dX9_ticksOne_60 (MI.a668 hM ⟨rfl, rfl⟩) (by omega) ?_
              rw [hA2.rec hh2 (show r < (sr.2.2.2 h).2.2.1.length by rw [hlen]; exact hc_24) 5 (by decide)]
              refine zr_if_le (tgt := 79) dX9_ticksOne_61 (by decide) (fun hc_61 => ?_) (fun hc_61 => ?_)
              · refine zr_aload_n dX9_ticksOne_79 rfl ?_
                refine zr_iload_n dX9_ticksOne_80 rfl ?_
                refine zr_iload_n dX9_ticksOne_81 rfl ?_
                refine zr_cV2v rfl dX9_ticksOne_82 cv_9_171 (MI.ob hM ⟨rfl, rfl⟩) (Nat.le_of_ble_eq_true rfl) (probes_ok hM2 hA2 hok2 hh2 (show r < (sr.2.2.2 h).2.2.1.length by rw [hlen]; exact hc_24) (fun g hg => ?_))
                refine zr_iincN dX9_ticksOne_85 rfl (by decide) rfl ?_
                dsimp only [zset]
                refine zr_goto (tgt := 18) dX9_ticksOne_88 (by decide) ?_
                first
                | (refine ihr g _ (by omega) (by omega) (Or.inr hc_32) ?_
                   rw [sadv_eq, if_neg (by rw [hawk, hc_32, sown_nI hj hj3]; simp; omega), if_neg (by rw [Int32.not_lt]; exact hc_61)]
                   exact hg)
                | (refine ihr _ _ (by omega) (by omega) (Or.inr hc_32) ?_
                   rw [sadv_eq, if_neg (by rw [hawk, hc_32, sown_nI hj hj3]; simp; omega), if_pos (by rw [← Int32.not_le]; exact hc_61)]
                   exact hA2.setr hh2 (show r < (sr.2.2.2 h).2.2.1.length by rw [hlen]; exact hc_24) (k := 5) (by decide) _)
                | (refine ihr f _ (by omega) (by omega) (Or.inr hc_32) ?_
                   rw [sadv_eq, if_pos (by rw [sown_nI hj hj3]; simp [hc_50])]
                   exact hA2)
              · refine zr_aload_n dX9_ticksOne_64 rfl ?_
                refine zr_getR dX9_ticksOne_65 fd_9_7 rfl (MI.ob hM ⟨rfl, rfl⟩) (MI.r0 hM ⟨rfl, rfl⟩) (by decide) ?_
                refine zr_iload_n dX9_ticksOne_68 rfl ?_
                refine zr_iconst (v := nI 5) dX9_ticksOne_69 rfl ?_
                refine zr_iaddN dX9_ticksOne_70 ?_
                refine zr_dup2 dX9_ticksOne_71 rfl rfl ?_
                refine zr_ialoadA dX9_ticksOne_72 (MI.a668 hM ⟨rfl, rfl⟩) (by omega) ?_
                rw [hA2.rec hh2 (show r < (sr.2.2.2 h).2.2.1.length by rw [hlen]; exact hc_24) 5 (by decide)]
                refine zr_iconst (v := nI 1) dX9_ticksOne_73 rfl ?_
                refine zr_isub dX9_ticksOne_74 ?_
                refine zr_iastoreA dX9_ticksOne_75 (MI.a668 hM ⟨rfl, rfl⟩) (by omega) ?_
                refine zr_goto (tgt := 85) dX9_ticksOne_76 (by decide) ?_
                refine zr_iincN dX9_ticksOne_85 rfl (by decide) rfl ?_
                dsimp only [zset]
                refine zr_goto (tgt := 18) dX9_ticksOne_88 (by decide) ?_
                first
                | (refine ihr g _ (by omega) (by omega) (Or.inr hc_32) ?_
                   rw [sadv_eq, if_neg (by rw [hawk, hc_32, sown_nI hj hj3]; simp; omega), if_neg (by rw [Int32.not_lt]; exact hc_61)]
                   exact hg)
                | (refine ihr _ _ (by omega) (by omega) (Or.inr hc_32) ?_
                   rw [sadv_eq, if_neg (by rw [hawk, hc_32, sown_nI hj hj3]; simp; omega), if_pos (by rw [← Int32.not_le]; exact hc_61)]
                   exact hA2.setr hh2 (show r < (sr.2.2.2 h).2.2.1.length by rw [hlen]; exact hc_24) (k := 5) (by decide) _)
                | (refine ihr f _ (by omega) (by omega) (Or.inr hc_32) ?_
                   rw [sadv_eq, if_pos (by rw [sown_nI hj hj3]; simp [hc_50])]
                   exact hA2)
    have hM := hM2
    refine zr_iload_n dX9_ticksOne_6 rfl ?_
    refine zr_aload_n dX9_ticksOne_7 rfl ?_
    refine zr_getR dX9_ticksOne_8 fd_9_7 rfl (MI.ob hM ⟨rfl, rfl⟩) (MI.r0 hM ⟨rfl, rfl⟩) (by decide) ?_
    refine zr_iconst (v := nI 0) dX9_ticksOne_11 rfl ?_
    refine zr_ialoadA dX9_ticksOne_12 (MI.a668 hM ⟨rfl, rfl⟩) (by omega) ?_
    rw [hA.1, sh.1]
    refine zr_icmp_geN (tgt := 97) dX9_ticksOne_13 (by decide) (by omega) (by omega) (fun hc_13 => ?_) (fun hc_13 => ?_)
    · have e : h = s1.2.2.1 := by omega
      refine hk f _ _ _ ?_
      rw [← e, hsh]
      exact hA
    · refine zr_iconst (v := nI 0) dX9_ticksOne_16 rfl ?_
      refine zr_istore_n dX9_ticksOne_17 (by decide) rfl ?_
      dsimp only [zset]
      exact inner hc_13 _ 0 f _ (Nat.lt_succ_self _) (Nat.zero_le _) (Or.inl rfl) hA
theorem ticksOne_ok (hM : MI m) (hA : RA f s) (hs : sOK s) (hf : fOK (stick0 s)) (hk : ∀ g, RA g (stick s) → Q .null (zrow (zsF m 667 1 (stick s).2.1) 668 g)) : zC (d + 7) M9_ticksOne 0 0 [.ref 667] (zrow (zsF m 667 1 s.2.1) 668 f) Q := by
  have hM2 : MI (zsF m 667 1 s.2.1) := hM.of rfl rfl
  refine zenterP (Or.inl (by decide +kernel)) rfl (fun h => by cases h) (Nat.le_of_ble_eq_true rfl) ?_
  show zwp _ _ _ _ _ 0 [_, zU, zU, zU] [] 0 0 _
  have hM0 := hM
  have hM := hM2
  refine zr_aload_n dX9_ticksOne_0 rfl ?_
  refine zr_cV0v rfl dX9_ticksOne_1 cv_9_168 (MI.ob hM ⟨rfl, rfl⟩) (Nat.le_of_ble_eq_true rfl) (ages_ok hM2 hA (fun g hg => ?_))
  refine zr_iconst (v := nI 0) dX9_ticksOne_4 rfl ?_
  refine zr_istore_n dX9_ticksOne_5 (by decide) rfl ?_
  dsimp only [zset]
  refine ticksOne_loop (s1 := sages s s.2.2.1) hM0 hs.ages (fun g' t1 t2 t3 hg' => ?_) _ 0 g _ _ (Nat.lt_succ_self _) (Nat.zero_le _) hg
  exact ticksOne_97 (s0 := stick0 s) hM0 hg' stick0_rate.symm hf hk t1 t2 t3
theorem tickNow_loop {s0 : sS} {n : Nat} {x : Int32} (hM : MI m) (hs : sOK s0) (hn : n < 65536) (hf : ∀ i, i < n → fOK (stick0 (sticks s0 i))) (hk : ∀ g, RA g (sticks s0 n) → Q (.int ((sticks s0 n).1 2 - x)) (zrow (zsF m 667 1 (sticks s0 n).2.1) 668 g)) : ∀ c i f, n - i < c → i ≤ n → RA f (sticks s0 i) →
    zwp (d + 8) M9_tickNow 0 0 Q 9 [.ref 667, .int (nI n), .int x, .int (nI i)] [] 0 0 (zrow (zsF m 667 1 (sticks s0 i).2.1) 668 f) := by
  intro c
  induction c with
  | zero => intro i f h1; omega
  | succ c ih =>
    intro i f h1 h2 hA
    have hM2 : MI (zsF m 667 1 (sticks s0 i).2.1) := hM.of rfl rfl
    have hM0 := hM
    have hM := hM2
    refine zr_iload_n dX9_tickNow_9 rfl ?_
    refine zr_iload_n dX9_tickNow_10 rfl ?_
    refine zr_icmp_geN (tgt := 24) dX9_tickNow_11 (by decide) (by omega) (by omega) (fun hc_11 => ?_) (fun hc_11 => ?_)
    · refine zr_aload_n dX9_tickNow_24 rfl ?_
      refine zr_getR dX9_tickNow_25 fd_9_7 rfl (MI.ob hM ⟨rfl, rfl⟩) (MI.r0 hM ⟨rfl, rfl⟩) (by decide) ?_
      refine zr_iconst (v := nI 2) dX9_tickNow_28 rfl ?_
      refine zr_ialoadA dX9_tickNow_29 (MI.a668 hM ⟨rfl, rfl⟩) (by omega) ?_
      rw [hA.2.2.1 2 (by decide) (by decide)]
      refine zr_iload_n dX9_tickNow_30 rfl ?_
      refine zr_isub dX9_tickNow_31 ?_
      refine zr_ireturn dX9_tickNow_32 rfl (Nat.le_refl _) (Nat.le_refl _) ?_
      have e : i = n := by omega
      subst e
      exact hk _ hA
    · refine zr_aload_n dX9_tickNow_14 rfl ?_
      refine zr_cV0v rfl dX9_tickNow_15 cv_9_176 (MI.ob hM ⟨rfl, rfl⟩) (Nat.le_of_ble_eq_true rfl) (ticksOne_ok hM0 hA (hs.ticks i) (hf i hc_11) (fun g hg => ?_))
      refine zr_iincN dX9_tickNow_18 rfl (by decide) rfl ?_
      dsimp only [zset]
      refine zr_goto (tgt := 9) dX9_tickNow_21 (by decide) ?_
      exact ih (i + 1) g (by omega) (by omega) hg
theorem tickNow_ok {n : Nat} (hM : MI m) (hA : RA f s) (hs : sOK s) (hn : n < 65536) (hf : ∀ i, i < n → fOK (stick0 (sticks s i))) (hk : ∀ g, RA g (sticks s n) → Q (.int ((sticks s n).1 2 - s.1 2)) (zrow (zsF m 667 1 (sticks s n).2.1) 668 g)) : zC (d + 8) M9_tickNow 0 0 [.ref 667, .int (nI n)] (zrow (zsF m 667 1 s.2.1) 668 f) Q := by
  have hM2 : MI (zsF m 667 1 s.2.1) := hM.of rfl rfl
  refine zenterP (Or.inl (by decide +kernel)) rfl (fun h => by cases h) (Nat.le_of_ble_eq_true rfl) ?_
  show zwp _ _ _ _ _ 0 [_, _, zU, zU] [] 0 0 _
  have hM0 := hM
  have hM := hM2
  refine zr_aload_n dX9_tickNow_0 rfl ?_
  refine zr_getR dX9_tickNow_1 fd_9_7 rfl (MI.ob hM ⟨rfl, rfl⟩) (MI.r0 hM ⟨rfl, rfl⟩) (by decide) ?_
  refine zr_iconst (v := nI 2) dX9_tickNow_4 rfl ?_
  refine zr_ialoadA dX9_tickNow_5 (MI.a668 hM ⟨rfl, rfl⟩) (by omega) ?_
  rw [hA.2.2.1 2 (by decide) (by decide)]
  refine zr_istore_n dX9_tickNow_6 (by decide) rfl ?_
  dsimp only [zset]
  refine zr_iconst (v := nI 0) dX9_tickNow_7 rfl ?_
  refine zr_istore_n dX9_tickNow_8 (by decide) rfl ?_
  dsimp only [zset]
  exact tickNow_loop (s0 := s) hM0 hs hn hf hk _ 0 f (Nat.lt_succ_self _) (Nat.zero_le _) hA
/-! waking -/
theorem wakeNow_loop {s0 : sS} {h : Nat} {x : Int32} (hM : MI m) (hs : sOK s0) (hh : h < s0.2.2.1) (hk : ∀ g, RA g (fR (swakeR h) (s0.2.2.2 h).2.2.1.length s0) → Q (.int ((fR (swakeR h) (s0.2.2.2 h).2.2.1.length s0).1 2 - x)) (zrow m 668 g)) (hok : ∀ k, k ≤ (s0.2.2.2 h).2.2.1.length → sOK (fR (swakeR h) k s0)) (hshp : ∀ k, sShp s0 (fR (swakeR h) k s0)) : ∀ c r f t4, (s0.2.2.2 h).2.2.1.length - r < c → r ≤ (s0.2.2.2 h).2.2.1.length → RA f (fR (swakeR h) r s0) →
    zwp (d + 6) M9_wakeNow 0 0 Q 35 [.ref 667, .int (nI h), .int x, .int (nI r), t4] [] 0 0 (zrow m 668 f) := by
  intro c
  induction c with
  | zero => intro r f t4 h1; omega
  | succ c ih =>
    intro r f t4 h1 h2 hA
    have hok2 := hok r h2
    have sh2 := hshp r
    have ihr := fun f t4 => ih (r + 1) f t4
    rw [fR] at ihr
    generalize hsr : fR (swakeR h) r s0 = sr at *
    have hh2 : h < sr.2.2.1 := by rw [sh2.1]; exact hh
    have hlen := (sh2.2.2 h).2.2
    have c5 := hA.c5 hh2
    have h6 := hA.h6 hh2
    refine zr_iload_n dX9_wakeNow_35 rfl ?_
    refine zr_aload_n dX9_wakeNow_36 rfl ?_
    refine zr_iload_n dX9_wakeNow_37 rfl ?_
    refine zr_cV1 rfl dX9_wakeNow_38 cv_9_73 (MI.ob hM ⟨rfl, rfl⟩) (Nat.le_of_ble_eq_true rfl) (records_ok hM h6 ((hA.cnt hh2).trans (by rw [hlen])) ?_)
    refine zr_icmp_geN (tgt := 124) dX9_wakeNow_41 (by decide) (by omega) (by omega) (fun hc_41 => ?_) (fun hc_41 => ?_)
    · refine zr_aload_n dX9_wakeNow_124 rfl ?_
      refine zr_getR dX9_wakeNow_125 fd_9_7 rfl (MI.ob hM ⟨rfl, rfl⟩) (MI.r0 hM ⟨rfl, rfl⟩) (by decide) ?_
      refine zr_iconst (v := nI 2) dX9_wakeNow_128 rfl ?_
      refine zr_ialoadA dX9_wakeNow_129 (MI.a668 hM ⟨rfl, rfl⟩) (by omega) ?_
      rw [hA.2.2.1 2 (by decide) (by decide)]
      refine zr_iload_n dX9_wakeNow_130 rfl ?_
      refine zr_isub dX9_wakeNow_131 ?_
      refine zr_ireturn dX9_wakeNow_132 rfl (Nat.le_refl _) (Nat.le_refl _) ?_
      have e : r = (s0.2.2.2 h).2.2.1.length := by omega
      rw [← e, hsr] at hk
      exact hk _ hA
    · have hr2 : r < (sr.2.2.2 h).2.2.1.length := by rw [hlen]; exact hc_41
      have hrec := hA.rec hh2 hr2
      refine zr_iload_n dX9_wakeNow_44 rfl ?_
      refine zr_iload_n dX9_wakeNow_45 rfl ?_
      refine zr_cS2 rfl dX9_wakeNow_46 cv_9_55 (Nat.le_of_ble_eq_true rfl) (at_ok ?_)
      refine zr_istore dX9_wakeNow_49 (by decide) rfl ?_
      dsimp only [zset]
      refine zr_aload_n dX9_wakeNow_51 rfl ?_
      refine zr_getR dX9_wakeNow_52 fd_9_7 rfl (MI.ob hM ⟨rfl, rfl⟩) (MI.r0 hM ⟨rfl, rfl⟩) (by decide) ?_
      refine zr_iload dX9_wakeNow_55 rfl ?_
      refine zr_iconst (v := nI 4) dX9_wakeNow_57 rfl ?_
      refine zr_iaddN dX9_wakeNow_58 ?_
      refine zr_ialoadA dX9_wakeNow_59 (MI.a668 hM ⟨rfl, rfl⟩) (by omega) ?_
      rw [hrec 4 (by decide)]
      refine zr_iconst (v := nI 3) dX9_wakeNow_60 rfl ?_
      refine zr_icmp_ne (tgt := 118) dX9_wakeNow_61 (by decide) (fun hc_61 => ?_) (fun hc_61 => ?_)
      · have ev : swakeR h r sr = sr := by unfold swakeR; dsimp only; rw [if_neg (by simp [sown]; exact hc_61)]
        refine zr_iincN dX9_wakeNow_118 rfl (by decide) rfl ?_
        dsimp only [zset]
        refine zr_goto (tgt := 35) dX9_wakeNow_121 (by decide) ?_
        rw [ev] at ihr
        first
        | exact ihr _ _ (by omega) (by omega) hg
        | exact ihr _ _ (by omega) (by omega) hA
        | exact ihr _ _ (by omega) (by omega) (((hA.set1 hr2).setr2 hh2 hr2 (k := 4) (by decide) _).setr2 hh2 hr2 (k := 5) (by decide) _)
      · refine zr_aload_n dX9_wakeNow_64 rfl ?_
        refine zr_getR dX9_wakeNow_65 fd_9_7 rfl (MI.ob hM ⟨rfl, rfl⟩) (MI.r0 hM ⟨rfl, rfl⟩) (by decide) ?_
        refine zr_iload dX9_wakeNow_68 rfl ?_
        refine zr_bipush (v := nI 6) dX9_wakeNow_70 rfl ?_
        refine zr_iaddN dX9_wakeNow_72 ?_
        refine zr_ialoadA dX9_wakeNow_73 (MI.a668 hM ⟨rfl, rfl⟩) (by omega) ?_
        rw [hrec 6 (by decide)]
        refine zr_iconst (v := nI 1) dX9_wakeNow_74 rfl ?_
        refine zr_icmp_ne (tgt := 111) dX9_wakeNow_75 (by decide) (fun hc_75 => ?_) (fun hc_75 => ?_)
        · have ev : swakeR h r sr = ssays sr h (zg (sr.2.2.2 h).2.2.1 r) := by unfold swakeR; dsimp only; rw [if_pos (by simp [sown]; exact hc_61), if_neg (by simp; intro z; exact absurd z hc_75)]
          refine zr_aload_n dX9_wakeNow_111 rfl ?_
          refine zr_iload_n dX9_wakeNow_112 rfl ?_
          refine zr_iload dX9_wakeNow_113 rfl ?_
          refine zr_cV2v rfl dX9_wakeNow_115 cv_9_122 (MI.ob hM ⟨rfl, rfl⟩) (Nat.le_of_ble_eq_true rfl) (says_ok (rc := zg (sr.2.2.2 h).2.2.1 r) hM hA (by omega) (by omega) (by omega) hrec (fun g hg => ?_))
          refine zr_iincN dX9_wakeNow_118 rfl (by decide) rfl ?_
          dsimp only [zset]
          refine zr_goto (tgt := 35) dX9_wakeNow_121 (by decide) ?_
          rw [ev] at ihr
          first
          | exact ihr _ _ (by omega) (by omega) hg
          | exact ihr _ _ (by omega) (by omega) hA
          | exact ihr _ _ (by omega) (by omega) (((hA.set1 hr2).setr2 hh2 hr2 (k := 4) (by decide) _).setr2 hh2 hr2 (k := 5) (by decide) _)
        · refine zr_aload_n dX9_wakeNow_78 rfl ?_
          refine zr_iload_n dX9_wakeNow_79 rfl ?_
          refine zr_iload dX9_wakeNow_80 rfl ?_
          refine zr_cV2 rfl dX9_wakeNow_82 cv_9_162 (MI.ob hM ⟨rfl, rfl⟩) (Nat.le_of_ble_eq_true rfl) (isOpposed_ok hM hA hok2.px h6 (by omega) (fun k hk => hrec k (by omega)) ?_)
          refine zr_if_eqB (tgt := 111) dX9_wakeNow_85 (by decide) (fun hc_85 => ?_) (fun hc_85 => ?_)
          · have ev : swakeR h r sr = ssays sr h (zg (sr.2.2.2 h).2.2.1 r) := by unfold swakeR; dsimp only; rw [if_pos (by simp [sown]; exact hc_61), if_neg (by simp [hc_85])]
            refine zr_aload_n dX9_wakeNow_111 rfl ?_
            refine zr_iload_n dX9_wakeNow_112 rfl ?_
            refine zr_iload dX9_wakeNow_113 rfl ?_
            refine zr_cV2v rfl dX9_wakeNow_115 cv_9_122 (MI.ob hM ⟨rfl, rfl⟩) (Nat.le_of_ble_eq_true rfl) (says_ok (rc := zg (sr.2.2.2 h).2.2.1 r) hM hA (by omega) (by omega) (by omega) hrec (fun g hg => ?_))
            refine zr_iincN dX9_wakeNow_118 rfl (by decide) rfl ?_
            dsimp only [zset]
            refine zr_goto (tgt := 35) dX9_wakeNow_121 (by decide) ?_
            rw [ev] at ihr
            first
            | exact ihr _ _ (by omega) (by omega) hg
            | exact ihr _ _ (by omega) (by omega) hA
            | exact ihr _ _ (by omega) (by omega) (((hA.set1 hr2).setr2 hh2 hr2 (k := 4) (by decide) _).setr2 hh2 hr2 (k := 5) (by decide) _)
          · have ev : swakeR h r sr = ssetr sr h r (fu (fu (zg (sr.2.2.2 h).2.2.1 r) 4 0) 5 0) := by unfold swakeR; dsimp only; rw [if_pos (by simp [sown]; exact hc_61), if_pos (by simp [hc_85]; exact hc_75)]
            refine zr_aload_n dX9_wakeNow_88 rfl ?_
            refine zr_getR dX9_wakeNow_89 fd_9_7 rfl (MI.ob hM ⟨rfl, rfl⟩) (MI.r0 hM ⟨rfl, rfl⟩) (by decide) ?_
            refine zr_iload dX9_wakeNow_92 rfl ?_
            refine zr_iconst (v := nI 4) dX9_wakeNow_94 rfl ?_
            refine zr_iaddN dX9_wakeNow_95 ?_
            refine zr_iconst (v := nI 0) dX9_wakeNow_96 rfl ?_
            refine zr_iastoreA dX9_wakeNow_97 (MI.a668 hM ⟨rfl, rfl⟩) (by omega) ?_
            refine zr_aload_n dX9_wakeNow_98 rfl ?_
            refine zr_getR dX9_wakeNow_99 fd_9_7 rfl (MI.ob hM ⟨rfl, rfl⟩) (MI.r0 hM ⟨rfl, rfl⟩) (by decide) ?_
            refine zr_iload dX9_wakeNow_102 rfl ?_
            refine zr_iconst (v := nI 5) dX9_wakeNow_104 rfl ?_
            refine zr_iaddN dX9_wakeNow_105 ?_
            refine zr_iconst (v := nI 0) dX9_wakeNow_106 rfl ?_
            refine zr_iastoreA dX9_wakeNow_107 (MI.a668 hM ⟨rfl, rfl⟩) (by omega) ?_
            refine zr_goto (tgt := 118) dX9_wakeNow_108 (by decide) ?_
            refine zr_iincN dX9_wakeNow_118 rfl (by decide) rfl ?_
            dsimp only [zset]
            refine zr_goto (tgt := 35) dX9_wakeNow_121 (by decide) ?_
            rw [ev] at ihr
            first
            | exact ihr _ _ (by omega) (by omega) hg
            | exact ihr _ _ (by omega) (by omega) hA
            | exact ihr _ _ (by omega) (by omega) (((hA.set1 hr2).setr2 hh2 hr2 (k := 4) (by decide) _).setr2 hh2 hr2 (k := 5) (by decide) _)
end
