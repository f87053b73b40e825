/-! ===== the reference: waking and asking ===== -/
section
variable {s : sS} {h r o b : Nat} {n k : Int32} {a : sR}
theorem swakeR_shp : sShp s (swakeR h r s) := by
  unfold swakeR
  dsimp only
  split
  · split
    · exact ssetr_shp
    · exact ssays_shp
  · exact sShp.rf
theorem sOK.wakeR (hs : sOK s) (hh : h < s.2.2.1) (hr : r < (s.2.2.2 h).2.2.1.length) : sOK (swakeR h r s) := by
  have ha := hs.rec hh hr
  unfold swakeR
  generalize zg (s.2.2.2 h).2.2.1 r = a at ha
  dsimp only
  split
  · split
    · obtain ⟨⟨j, j1, j2⟩, ⟨q, q1, q2⟩, so, l, l1, l2, l3⟩ := ha
      exact hs.setr hh ⟨⟨0, by omega, by rw [fu_n _ _ (by decide), fu_s]; rfl⟩, ⟨q, q1, by rw [fu_n _ _ (by decide), fu_n _ _ (by decide)]; exact q2⟩, by rw [fu_n _ _ (by decide), fu_n _ _ (by decide)]; exact so, l, l1, l2, by rw [fu_n _ _ (by decide), fu_n _ _ (by decide)]; exact l3⟩
    · exact hs.says ha
  · exact hs
theorem sOK.wakeRs (hs : sOK s) (hh : h < s.2.2.1) : ∀ k, k ≤ (s.2.2.2 h).2.2.1.length → sOK (fR (swakeR h) k s)
  | 0, _ => hs
  | k + 1, hk => by
    have sh : sShp s (fR (swakeR h) k s) := fR_shp (fun r s => swakeR_shp) k
    exact (hs.wakeRs hh k (by omega)).wakeR (by rw [sh.1]; exact hh) (by rw [(sh.2.2 h).2.2]; omega)
theorem sOK.wake0 (hs : sOK s) (hh : h < s.2.2.1) : sOK (swake0 s h) := by
  have hx := hs.2 h hh
  exact hs.host ⟨Or.inr rfl, Or.inl rfl, hx.2.2⟩
theorem swake0_recs : ((swake0 s h).2.2.2 h).2.2.1 = (s.2.2.2 h).2.2.1 := by
  unfold swake0 shst
  dsimp only
  rw [fu_s]
theorem sOK.wake (hs : sOK s) (hh : h < s.2.2.1) : sOK (swake s h) := (hs.wake0 hh).wakeRs hh _ (by rw [swake0_recs]; exact Nat.le_refl _)
theorem sOK.sleep (hs : sOK s) (hh : h < s.2.2.1) {p : Int32} (hp : p = -1 ∨ ∃ q, q < s.2.2.1 ∧ p = nI q) : sOK (ssleep s h p) := by
  have hx := hs.2 h hh
  exact hs.host ⟨Or.inl rfl, hp, hx.2.2⟩
/-! asking -/
abbrev sQ : Type := (Int32 → Bool) × sS
theorem saskR_shp {q : sQ} : sShp q.2 (saskR n k b o r q).2 := by
  unfold saskR
  dsimp only
  split
  · split
    · exact scnt_shp
    · exact ssays_shp
  · exact sShp.rf
theorem fR_shpq {f : Nat → sQ → sQ} (hf : ∀ i q, sShp q.2 (f i q).2) (q : sQ) : ∀ n, sShp q.2 (fR f n q).2
  | 0 => sShp.rf
  | n + 1 => (fR_shpq hf q n).tr (hf n _)
theorem saskH_shp {q : sQ} : sShp q.2 (saskH n k h o q).2 := by
  unfold saskH
  split
  · exact fR_shpq (fun r q => saskR_shp) q _
  · exact sShp.rf
theorem sOK.askR {q : sQ} (hs : sOK q.2) (hh : o < q.2.2.2.1) (hr : r < (q.2.2.2.2 o).2.2.1.length) : sOK (saskR n k b o r q).2 := by
  have ha := hs.rec hh hr
  unfold saskR
  dsimp only
  split
  · split
    · exact hs.sc (by decide) _
    · exact hs.says ha
  · exact hs
theorem sOK.askRs {q : sQ} (hs : sOK q.2) (hh : o < q.2.2.2.1) : ∀ c, c ≤ (q.2.2.2.2 o).2.2.1.length → sOK (fR (saskR n k b o) c q).2
  | 0, _ => hs
  | c + 1, hc => by
    have sh := fR_shpq (f := saskR n k b o) (fun r q => saskR_shp) q c
    exact sOK.askR (hs.askRs hh c (by omega)) (by rw [sh.1]; exact hh) (by rw [(sh.2.2 o).2.2]; omega)
theorem sOK.askH {q : sQ} (hs : sOK q.2) (hh : o < q.2.2.2.1) : sOK (saskH n k h o q).2 := by
  unfold saskH
  split
  · exact hs.askRs hh _ (Nat.le_refl _)
  · exact hs
theorem sOK.askHs {q : sQ} (hs : sOK q.2) : ∀ c, c ≤ q.2.2.2.1 → sOK (fR (saskH n k h) c q).2
  | 0, _ => hs
  | c + 1, hc => by
    have sh := fR_shpq (f := saskH n k h) (fun r q => saskH_shp) q c
    exact sOK.askH (hs.askHs c (by omega)) (by rw [sh.1]; omega)
theorem sOK.ask (hs : sOK s) : sOK (sask s h n k) := sOK.askHs (q := (sknown (s.2.2.2 h).2.2.2 n k (s.1 1) (s.2.2.2 h).2.2.2.length, s)) hs _ (Nat.le_refl _)
theorem sby_of (hs : sOK s) (ho : o < s.2.2.1) (hb : ¬ sby s o = -1) : ∃ p, p < s.2.2.1 ∧ sby s o = nI p := by
  unfold sby at hb ⊢
  split
  · exact ⟨o, ho, rfl⟩
  · rename_i hw
    rw [if_neg hw] at hb
    exact (hs.px o ho).resolve_left hb
end
section
variable {d : Nat} {Q : Value → zM → Prop} {m : zM} {s : sS} {f : Nat → Int32}
theorem wakeNow_ok {h : Nat} (hM : MI m) (hA : RA f s) (hs : sOK s) (hh : h < s.2.2.1) (hk : ∀ g, RA g (swake s h) → Q (.int ((swake s h).1 2 - s.1 2)) (zrow m 668 g)) : zC (d + 6) M9_wakeNow 0 0 [.ref 667, .int (nI h)] (zrow m 668 f) Q := by
  have h6 := hA.h6 hh
  have hA2 : RA (fu (fu f (10 + 4 * h) (nI 1)) (10 + 4 * h + 1) (-1)) (swake0 s h) := by
    obtain ⟨a1, a2, a3, a4, a5, a6, a7, a8⟩ := hA.2.2.2 h hh
    refine hA.host hh (fun j hj => ?_) ⟨by rw [fu_n _ _ (by omega), fu_s]; rfl, by rw [fu_s], by rw [fu_n _ _ (by omega), fu_n _ _ (by omega)]; exact a3, by rw [fu_n _ _ (by omega), fu_n _ _ (by omega)]; exact a4, a5, a6, fun r hr k hk => ?_, fun i hi k hk => ?_⟩
    · unfold hreg at hj
      rw [fu_n _ _ (by omega), fu_n _ _ (by omega)]
    · rw [fu_n _ _ (by omega), fu_n _ _ (by omega)]; exact a7 r hr k hk
    · rw [fu_n _ _ (by omega), fu_n _ _ (by omega)]; exact a8 i hi k hk
  have hs2 := hs.wake0 hh
  refine zenterP (Or.inl (by decide +kernel)) rfl (fun h => by cases h) (Nat.le_of_ble_eq_true rfl) ?_
  show zwp _ _ _ _ _ 0 [_, _, zU, zU, zU] [] 0 0 _
  refine zr_aload_n dX9_wakeNow_0 rfl ?_
  refine zr_getR dX9_wakeNow_1 fd_9_7 rfl (MI.ob hM ⟨rfl, rfl⟩) (MI.r0 hM ⟨rfl, rfl⟩) (by decide) ?_
  refine zr_iconst (v := nI 2) dX9_wakeNow_4 rfl ?_
  refine zr_ialoadA dX9_wakeNow_5 (MI.a668 hM ⟨rfl, rfl⟩) (by omega) ?_
  rw [hA.2.2.1 2 (by decide) (by decide)]
  refine zr_istore_n dX9_wakeNow_6 (by decide) rfl ?_
  dsimp only [zset]
  refine zr_aload_n dX9_wakeNow_7 rfl ?_
  refine zr_getR dX9_wakeNow_8 fd_9_7 rfl (MI.ob hM ⟨rfl, rfl⟩) (MI.r0 hM ⟨rfl, rfl⟩) (by decide) ?_
  refine zr_bipush (v := nI 10) dX9_wakeNow_11 rfl ?_
  refine zr_iconst (v := nI 4) dX9_wakeNow_13 rfl ?_
  refine zr_iload_n dX9_wakeNow_14 rfl ?_
  refine zr_imulN dX9_wakeNow_15 ?_
  refine zr_iaddN dX9_wakeNow_16 ?_
  refine zr_iconst (v := nI 1) dX9_wakeNow_17 rfl ?_
  refine zr_iastoreA dX9_wakeNow_18 (MI.a668 hM ⟨rfl, rfl⟩) (by omega) ?_
  refine zr_aload_n dX9_wakeNow_19 rfl ?_
  refine zr_getR dX9_wakeNow_20 fd_9_7 rfl (MI.ob hM ⟨rfl, rfl⟩) (MI.r0 hM ⟨rfl, rfl⟩) (by decide) ?_
  refine zr_bipush (v := nI 10) dX9_wakeNow_23 rfl ?_
  refine zr_iconst (v := nI 4) dX9_wakeNow_25 rfl ?_
  refine zr_iload_n dX9_wakeNow_26 rfl ?_
  refine zr_imulN dX9_wakeNow_27 ?_
  refine zr_iaddN dX9_wakeNow_28 ?_
  refine zr_iconst (v := nI 1) dX9_wakeNow_29 rfl ?_
  refine zr_iaddN dX9_wakeNow_30 ?_
  refine zr_iconst (v := -1) dX9_wakeNow_31 rfl ?_
  refine zr_iastoreA dX9_wakeNow_32 (MI.a668 hM ⟨rfl, rfl⟩) (by omega) ?_
  refine zr_iconst (v := nI 0) dX9_wakeNow_33 rfl ?_
  refine zr_istore_n dX9_wakeNow_34 (by decide) rfl ?_
  dsimp only [zset]
  refine wakeNow_loop (s0 := swake0 s h) hM hs2 (show h < (swake0 s h).2.2.1 from hh) ?_ (fun k hk => hs2.wakeRs (show h < (swake0 s h).2.2.1 from hh) k hk) (fun k => fR_shp (fun r s => swakeR_shp) k) _ 0 _ _ (Nat.lt_succ_self _) (Nat.zero_le _) hA2
  intro g hg
  rw [swake0_recs] at hg ⊢
  exact hk g hg
/-! the row 'heard' -/
abbrev zhd (m : zM) (hd f : Nat → Int32) : zM := zrow (zrow m 673 hd) 668 f
theorem zhd_sI (m : zM) (hd f : Nat → Int32) (j : Nat) (v : Int32) : zsI (zhd m hd f) 673 j v = zhd m (fu hd j v) f := by
  unfold zhd
  rw [zrow_comm _ _ _ (by decide), zsI_row, zrow_comm _ _ _ (by decide)]
theorem zhd_I (m : zM) (hd f : Nat → Int32) (j : Nat) : zI (zhd m hd f) 673 j = hd j := by
  unfold zhd
  rw [zrow_n _ _ (by decide), zrow_s]
theorem zr_hload {M : zMeth} {pc : Nat} {ls st : List Value} {hd : Nat → Int32} {j : Nat} (hdc : decode M.2.2.1 pc = .ok (.baload, 1)) (hM : MI m) (hj : j < 256) (kk : zwp d M 0 0 Q (pc + 1) ls (.int (hd j) :: st) 0 0 (zhd m hd f)) : zwp d M 0 0 Q pc ls (.int (nI j) :: .ref 673 :: st) 0 0 (zhd m hd f) :=
  zr_zaload hdc (MI.a673 hM ⟨rfl, rfl⟩) (vp_in_nI hj (by omega)) (by rw [nI_clamp (by omega), zhd_I]; exact kk)
theorem zr_hstore {M : zMeth} {pc : Nat} {ls st : List Value} {hd : Nat → Int32} {j : Nat} {v : Int32} (hdc : decode M.2.2.1 pc = .ok (.bastore, 1)) (hM : MI m) (hj : j < 256) (hv : v = 0 ∨ v = 1) (kk : zwp d M 0 0 Q (pc + 1) ls st 0 0 (zhd m (fu hd j v) f)) : zwp d M 0 0 Q pc ls (.int v :: .int (nI j) :: .ref 673 :: st) 0 0 (zhd m hd f) :=
  zr_zastore hdc (MI.a673 hM ⟨rfl, rfl⟩) (vp_in_nI hj (by omega)) hv (by rw [nI_clamp (by omega), zhd_sI]; exact kk)
/-- 'heard' holds a set of data -/
def hdOK (hd : Nat → Int32) (p : Int32 → Bool) : Prop := ∀ j, j < 256 → hd j = bI (p (nI j))
theorem hdOK.add {hd : Nat → Int32} {p p' : Int32 → Bool} {q : Nat} (h : hdOK hd p) (hq : q < 256) (h1 : ∀ j, j < 256 → j ≠ q → p' (nI j) = p (nI j)) : hdOK (fu hd q (bI (p' (nI q)))) p' := by
  intro j hj
  by_cases e : j = q
  · subst e; rw [fu_s]
  · rw [fu_n _ _ e, h1 j hj e]; exact h j hj
end
