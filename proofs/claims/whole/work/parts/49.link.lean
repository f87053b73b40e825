/-! ===== the class: a link ===== -/
def hb (L h : Nat) : Nat := L + 2 + 15 * h
def LL (L : Nat) : Prop := 2 ≤ L ∧ L + 94 ≤ 663 ∧ (zLay L).1 = 5 ∧ zLay (L + 1) = (16, 6) ∧ (∀ h, h < 6 → LH (hb L h)) ∧ (zLay (L + 92)).1 = 1 ∧ zLay (L + 93) = (13, 4)
def LN (m : zM) (L : Nat) (s : sS) : Prop := zI m L 2 = nI s.2.2.1 ∧ zI m L 3 = s.1 1 ∧ zI m L 4 = s.1 2 ∧ zI m L 5 = s.1 6 ∧ zI m L 6 = s.1 3 ∧ zI m L 7 = s.1 4 ∧ zI m L 8 = s.1 5 ∧ zF m L 9 = s.2.1
def LR (m : zM) (L : Nat) : Prop := zn m = 676 ∧ LL L ∧ zR m L 0 = L + 1 ∧ zR m L 1 = L + 92 ∧ (∀ h, h < 6 → zR m (L + 1) h = hb L h) ∧ zR m (L + 92) 0 = L + 93
def LK (m : zM) (L : Nat) (s : sS) : Prop := LR m L ∧ LN m L s ∧ s.2.2.1 ≤ 6 ∧ (∀ h, h < 6 → ∃ x, HC m (hb L h) x) ∧ ∀ h, h < s.2.2.1 → HC m (hb L h) (s.2.2.2 h)
section
variable {m m' : zM} {L h : Nat} {s : sS} {x : sH}
theorem hb_ne {h h' : Nat} (e : h ≠ h') : hb L h + 15 ≤ hb L h' ∨ hb L h' + 15 ≤ hb L h := by unfold hb; omega
theorem hb_in (hh : h < 6) : L + 2 ≤ hb L h ∧ hb L h + 15 ≤ L + 92 := by unfold hb; omega
theorem LR.ob (h : LR m L) (e : zn m' = zn m) : zOb m' L 5 := ⟨h.2.1.2.2.1, h.2.1.1, by rw [e, h.1]; have := h.2.1.2.1; omega⟩
theorem LR.ar (h : LR m L) (e : zn m' = zn m) : zAr m' (L + 1) 16 6 := ⟨h.2.1.2.2.2.1, by have := h.2.1.1; omega, by rw [e, h.1]; have := h.2.1.2.1; omega⟩
theorem LR.dob (h : LR m L) (e : zn m' = zn m) : zOb m' (L + 92) 1 := ⟨h.2.1.2.2.2.2.2.1, by have := h.2.1.1; omega, by rw [e, h.1]; have := h.2.1.2.1; omega⟩
theorem LR.dar (h : LR m L) (e : zn m' = zn m) : zAr m' (L + 93) 13 4 := ⟨h.2.1.2.2.2.2.2.2, by have := h.2.1.1; omega, by rw [e, h.1]; have := h.2.1.2.1; omega⟩
theorem LR.of (h : LR m L) (hz : zn m' = zn m) (h0 : zR m' L = zR m L) (h1 : zR m' (L + 1) = zR m (L + 1)) (h2 : zR m' (L + 92) = zR m (L + 92)) : LR m' L := ⟨hz.trans h.1, h.2.1, by rw [h0]; exact h.2.2.1, by rw [h0]; exact h.2.2.2.1, by rw [h1]; exact h.2.2.2.2.1, by rw [h2]; exact h.2.2.2.2.2⟩
theorem LK.n6 (h : LK m L s) : s.2.2.1 ≤ 6 := h.2.2.1
theorem LK.nh (h : LK m L s) : zI m L 2 = nI s.2.2.1 := h.2.1.1
theorem LK.r0 (h : LK m L s) : zR m L 0 = L + 1 := h.1.2.2.1
theorem LK.r1 (h : LK m L s) : zR m L 1 = L + 92 := h.1.2.2.2.1
theorem LK.rh (h : LK m L s) {k : Nat} (hk : k < 6) : zR m (L + 1) k = hb L k := h.1.2.2.2.2.1 k hk
theorem LK.hc (hL : LK m L s) (hh : h < s.2.2.1) : HC m (hb L h) (s.2.2.2 h) := hL.2.2.2.2 h hh
theorem LK.out {lo hi : Nat} (h : LK m L s) (ho : zout lo hi m m') (hd : L + 94 ≤ lo ∨ hi ≤ L) : LK m' L s := by
  obtain ⟨h1, ⟨n1, n2, n3, n4, n5, n6, n7, n8⟩, h3, h4, h5⟩ := h
  refine ⟨h1.of ho.1 (ho.R (by omega)) (ho.R (by omega)) (ho.R (by omega)), ?_, h3, fun k hk => ?_, fun k hk => (h5 k hk).out ho (by have := hb_in (L := L) (h := k) (by omega); omega)⟩
  · unfold LN
    rw [ho.I (by omega), (ho.2 L (by omega)).2.2.2]
    exact ⟨n1, n2, n3, n4, n5, n6, n7, n8⟩
  · obtain ⟨x, hx⟩ := h4 k hk
    exact ⟨x, hx.out ho (by have := hb_in (L := L) hk; omega)⟩
theorem LK.host (hL : LK m L s) (hh : h < s.2.2.1) (ho : zout (hb L h) (hb L h + 15) m m') (hx : HC m' (hb L h) x) : LK m' L (shst s h x) := by
  obtain ⟨h1, ⟨n1, n2, n3, n4, n5, n6, n7, n8⟩, h3, h4, h5⟩ := hL
  have hi := hb_in (L := L) (h := h) (by omega)
  refine ⟨h1.of ho.1 (ho.R (by omega)) (ho.R (by omega)) (ho.R (by omega)), ?_, h3, fun k hk => ?_, fun k hk => ?_⟩
  · unfold LN
    rw [ho.I (by omega), (ho.2 L (by omega)).2.2.2]
    exact ⟨n1, n2, n3, n4, n5, n6, n7, n8⟩
  · by_cases e : k = h
    · subst e; exact ⟨_, hx⟩
    · obtain ⟨y, hy⟩ := h4 k hk
      exact ⟨y, hy.out ho (hb_ne e)⟩
  · show HC m' (hb L k) (fu s.2.2.2 h x k)
    by_cases e : k = h
    · subst e; rw [fu_s]; exact hx
    · rw [fu_n _ _ e]; exact (h5 k hk).out ho (hb_ne e)
/-- the place of a count -/
def lkf (k : Nat) : Nat := if k = 1 then 3 else if k = 2 then 4 else if k = 6 then 5 else if k = 3 then 6 else if k = 4 then 7 else 8
theorem LK.at1 (hL : LK m L s) {j : Nat} {v : Int32} (h2 : j ≠ 0) (hN : LN (zsI m L j v) L s) : LK (zsI m L j v) L s := by
  obtain ⟨h1, -, h3, h4, h5⟩ := hL
  have ho : zout L (L + 1) m (zsI m L j v) := zout.sI (by omega) (by omega)
  refine ⟨h1.of rfl rfl rfl rfl, hN, h3, fun k hk => ?_, fun k hk => (h5 k hk).out ho (by have := hb_in (L := L) (h := k) (by omega); omega)⟩
  obtain ⟨x, hx⟩ := h4 k hk
  exact ⟨x, hx.out ho (by have := hb_in (L := L) hk; omega)⟩
theorem LK.sc (hL : LK m L s) {k : Nat} (hk1 : 1 ≤ k) (hk6 : k ≤ 6) (v : Int32) : LK (zsI m L (lkf k) v) L (scnt s k v) := by
  have hN : LN (zsI m L (lkf k) v) L (scnt s k v) := by
    obtain ⟨n1, n2, n3, n4, n5, n6, n7, n8⟩ := hL.2.1
    have hg : ∀ j f, 1 ≤ j → j ≤ 6 → f = lkf j → zI m L f = s.1 j → zI (zsI m L (lkf k) v) L f = fu s.1 k v j := by
      intro j f j1 j2 hf hz
      by_cases e : j = k
      · subst e; rw [hf, zI_s, fu_s]
      · rw [fu_n _ _ e, zI_n _ _ (Or.inr ?_)]
        · exact hz
        · subst hf
          unfold lkf
          repeat' split
          all_goals omega
    refine ⟨?_, hg 1 3 (by decide) (by decide) rfl n2, hg 2 4 (by decide) (by decide) rfl n3, hg 6 5 (by decide) (by decide) rfl n4, hg 3 6 (by decide) (by decide) rfl n5, hg 4 7 (by decide) (by decide) rfl n6, hg 5 8 (by decide) (by decide) rfl n7, n8⟩
    have e2 : (2 : Nat) ≠ lkf k := by
      unfold lkf
      (repeat' split) <;> omega
    rw [zI_n _ _ (Or.inr e2)]
    exact n1
  obtain ⟨h1, -, h3, h4, h5⟩ := hL
  have ho : zout L (L + 1) m (zsI m L (lkf k) v) := zout.sI (by omega) (by omega)
  refine ⟨h1.of rfl rfl rfl rfl, hN, h3, fun j hj => ?_, fun j hj => ?_⟩
  · obtain ⟨x, hx⟩ := h4 j hj
    exact ⟨x, hx.out ho (by have := hb_in (L := L) hj; omega)⟩
  · have hj2 : j < s.2.2.1 := hj
    exact (h5 j hj).out ho (by have := hb_in (L := L) (h := j) (by omega); omega)
end
section
variable {d : Nat} {Q : Value → zM → Prop} {m : zM} {L b : Nat} {s : sS} {n k q : Int32} {rc : sR}
theorem LisHost_ok {h : Int32} (hL : LK m L s) (hk : Q (.int (bI (sisH s h))) m) : zC (d + 1) M5_isHost 0 0 [.ref L, .int h] m Q := by
  refine zenterP (Or.inl (by decide +kernel)) rfl (fun h => by cases h) (Nat.le_of_ble_eq_true rfl) ?_
  show zwp _ _ _ _ _ 0 [_, _] [] 0 0 _
  refine zr_iload_n dX5_isHost_0 rfl ?_
  refine zr_if_lt (tgt := 16) dX5_isHost_1 (by decide) (fun hc_1 => ?_) (fun hc_1 => ?_)
  · refine zr_iconst (v := nI 0) dX5_isHost_16 rfl ?_
    refine zr_z0 dX5_isHost_17 rfl (Nat.le_refl _) (Nat.le_refl _) ?_ hk
    first
    | (have := Int32.not_le.mpr hc_1
       simp [sisH, this]; done)
    | (have h1 := Int32.not_lt.mp hc_1
       have h2 := Int32.not_lt.mpr hc_9
       simp [sisH, h1, h2]; done)
    | (have h1 := Int32.not_lt.mp hc_1
       have h2 := Int32.not_le.mp hc_9
       simp [sisH, h1, h2]; done)
    | fail "none"
  · refine zr_iload_n dX5_isHost_4 rfl ?_
    refine zr_aload_n dX5_isHost_5 rfl ?_
    refine zr_getI dX5_isHost_6 fd_5_25 rfl (hL.1.ob rfl) ?_
    rw [hL.nh]
    refine zr_icmp_ge (tgt := 16) dX5_isHost_9 (by decide) (fun hc_9 => ?_) (fun hc_9 => ?_)
    · refine zr_iconst (v := nI 0) dX5_isHost_16 rfl ?_
      refine zr_z0 dX5_isHost_17 rfl (Nat.le_refl _) (Nat.le_refl _) ?_ hk
      first
      | (have := Int32.not_le.mpr hc_1
         simp [sisH, this]; done)
      | (have h1 := Int32.not_lt.mp hc_1
         have h2 := Int32.not_lt.mpr hc_9
         simp [sisH, h1, h2]; done)
      | (have h1 := Int32.not_lt.mp hc_1
         have h2 := Int32.not_le.mp hc_9
         simp [sisH, h1, h2]; done)
      | fail "none"
    · refine zr_iconst (v := nI 1) dX5_isHost_12 rfl ?_
      refine zr_goto (tgt := 17) dX5_isHost_13 (by decide) ?_
      refine zr_z1 dX5_isHost_17 rfl (Nat.le_refl _) (Nat.le_refl _) ?_ hk
      first
      | (have := Int32.not_le.mpr hc_1
         simp [sisH, this]; done)
      | (have h1 := Int32.not_lt.mp hc_1
         have h2 := Int32.not_lt.mpr hc_9
         simp [sisH, h1, h2]; done)
      | (have h1 := Int32.not_lt.mp hc_1
         have h2 := Int32.not_le.mp hc_9
         simp [sisH, h1, h2]; done)
      | fail "none"
theorem LisName_ok (hk : Q (.int (bI (sisN n k))) m) : zC (d + 2) M5_isName 0 0 [.int n, .int k] m Q := by
  refine zenterP (Or.inl (by decide +kernel)) rfl (fun h => by cases h) (Nat.le_of_ble_eq_true rfl) ?_
  show zwp _ _ _ _ _ 0 [_, _] [] 0 0 _
  refine zr_iload_n dX5_isName_0 rfl ?_
  refine zr_iconst (v := nI 0) dX5_isName_1 rfl ?_
  refine zr_bipush (v := nI 15) dX5_isName_2 rfl ?_
  refine zr_cSN3 rfl dX5_isName_4 cv_5_62 (Nat.le_of_ble_eq_true rfl) (within_ok ?_)
  refine zr_if_eqB (tgt := 23) dX5_isName_7 (by decide) (fun hc_7 => ?_) (fun hc_7 => ?_)
  · refine zr_iconst (v := nI 0) dX5_isName_23 rfl ?_
    refine zr_z0 dX5_isName_24 rfl (Nat.le_refl _) (Nat.le_refl _) ?_ hk
    have e1 : sin n (nI 0) (nI 15) = sin n 0 15 := rfl
    have e2 : sin k (nI 0) (nI 3) = sin k 0 3 := rfl
    unfold sisN
    first
    | (rw [← e1, hc_7]; rfl)
    | (rw [← e1, ← e2, hc_7, hc_16]; rfl)
  · refine zr_iload_n dX5_isName_10 rfl ?_
    refine zr_iconst (v := nI 0) dX5_isName_11 rfl ?_
    refine zr_iconst (v := nI 3) dX5_isName_12 rfl ?_
    refine zr_cSN3 rfl dX5_isName_13 cv_5_62 (Nat.le_of_ble_eq_true rfl) (within_ok ?_)
    refine zr_if_eqB (tgt := 23) dX5_isName_16 (by decide) (fun hc_16 => ?_) (fun hc_16 => ?_)
    · refine zr_iconst (v := nI 0) dX5_isName_23 rfl ?_
      refine zr_z0 dX5_isName_24 rfl (Nat.le_refl _) (Nat.le_refl _) ?_ hk
      have e1 : sin n (nI 0) (nI 15) = sin n 0 15 := rfl
      have e2 : sin k (nI 0) (nI 3) = sin k 0 3 := rfl
      unfold sisN
      first
      | (rw [← e1, hc_7]; rfl)
      | (rw [← e1, ← e2, hc_7, hc_16]; rfl)
    · refine zr_iconst (v := nI 1) dX5_isName_19 rfl ?_
      refine zr_goto (tgt := 24) dX5_isName_20 (by decide) ?_
      refine zr_z1 dX5_isName_24 rfl (Nat.le_refl _) (Nat.le_refl _) ?_ hk
      have e1 : sin n (nI 0) (nI 15) = sin n 0 15 := rfl
      have e2 : sin k (nI 0) (nI 3) = sin k 0 3 := rfl
      unfold sisN
      first
      | (rw [← e1, hc_7]; rfl)
      | (rw [← e1, ← e2, hc_7, hc_16]; rfl)
/-- who speaks for a host: itself, its proxy, or none -/
def sspk (s : sS) (h : Nat) : Int32 := if sawk (s.2.2.2 h) then nI h else if sisH s (s.2.2.2 h).2.1 && sawk (s.2.2.2 (hN (s.2.2.2 h).2.1)) then (s.2.2.2 h).2.1 else -1
theorem speaker_ok {h : Nat} (hL : LK m L s) (hs : sOK s) (hh : h < s.2.2.1) (hk : Q (.int (sspk s h)) m) : zC (d + 2) M5_speakerFor 0 0 [.ref L, .int (nI h)] m Q := by
  have n6 := hL.n6
  have hH := hL.hc hh
  have haw := (hs.2 h hh).1
  unfold sspk at hk
  refine zenterP (Or.inl (by decide +kernel)) rfl (fun h => by cases h) (Nat.le_of_ble_eq_true rfl) ?_
  show zwp _ _ _ _ _ 0 [_, _, zU] [] 0 0 _
  refine zr_aload_n dX5_speakerFor_0 rfl ?_
  refine zr_getR dX5_speakerFor_1 fd_5_11 rfl (hL.1.ob rfl) hL.r0 (by omega) ?_
  refine zr_iload_n dX5_speakerFor_4 rfl ?_
  refine zr_aaloadN dX5_speakerFor_5 (hL.1.ar rfl) (by decide) (by decide) (by omega) (by decide) (hL.rh (by omega)) (by unfold hb; omega) ?_
  refine zr_astore_n dX5_speakerFor_6 (by decide) rfl ?_
  dsimp only [zset]
  refine zr_aload_n dX5_speakerFor_7 rfl ?_
  refine zr_getI dX5_speakerFor_8 fd_5_94 rfl (hH.ob rfl) ?_
  rw [hH.aw]
  refine zr_if_eq (tgt := 16) dX5_speakerFor_11 (by decide) (fun hc_11 => ?_) (fun hc_11 => ?_)
  · rw [if_neg (by simp [sawk, hc_11])] at hk
    refine zr_aload_n dX5_speakerFor_16 rfl ?_
    refine zr_aload_n dX5_speakerFor_17 rfl ?_
    refine zr_getI dX5_speakerFor_18 fd_5_136 rfl (hH.ob rfl) ?_
    rw [hH.px]
    refine zr_cV1 rfl dX5_speakerFor_21 cv_5_55 (hL.1.ob rfl) (Nat.le_of_ble_eq_true rfl) (LisHost_ok hL ?_)
    refine zr_if_eqB (tgt := 49) dX5_speakerFor_24 (by decide) (fun hc_24 => ?_) (fun hc_24 => ?_)
    · rw [if_neg (by rw [hc_24, Bool.false_and]; decide)] at hk
      refine zr_iconst (v := -1) dX5_speakerFor_49 rfl ?_
      refine zr_ireturn dX5_speakerFor_50 rfl (Nat.le_refl _) (Nat.le_refl _) ?_
      exact hk
    · obtain ⟨p, p1, p2⟩ := sisH_of n6 hc_24
      have hP := hL.hc p1
      have hpw := (hs.2 p p1).1
      have hcl : hN (s.2.2.2 h).2.1 = p := by rw [p2]; exact hN_nI (by omega)
      rw [hc_24, hcl, Bool.true_and] at hk
      refine zr_aload_n dX5_speakerFor_27 rfl ?_
      refine zr_getR dX5_speakerFor_28 fd_5_11 rfl (hL.1.ob rfl) hL.r0 (by omega) ?_
      refine zr_aload_n dX5_speakerFor_31 rfl ?_
      refine zr_getI dX5_speakerFor_32 fd_5_136 rfl (hH.ob rfl) ?_
      rw [hH.px]
      rw [p2]
      refine zr_aaloadN dX5_speakerFor_35 (hL.1.ar rfl) (by decide) (by decide) (by omega) (by decide) (hL.rh (by omega)) (by unfold hb; omega) ?_
      refine zr_getI dX5_speakerFor_36 fd_5_94 rfl (hP.ob rfl) ?_
      rw [hP.aw]
      refine zr_if_eq (tgt := 49) dX5_speakerFor_39 (by decide) (fun hc_39 => ?_) (fun hc_39 => ?_)
      · rw [if_neg (by simp [sawk, hc_39])] at hk
        refine zr_iconst (v := -1) dX5_speakerFor_49 rfl ?_
        refine zr_ireturn dX5_speakerFor_50 rfl (Nat.le_refl _) (Nat.le_refl _) ?_
        exact hk
      · rw [if_pos (by have := hpw.resolve_left hc_39; simp [sawk, this])] at hk
        refine zr_aload_n dX5_speakerFor_42 rfl ?_
        refine zr_getI dX5_speakerFor_43 fd_5_136 rfl (hH.ob rfl) ?_
        rw [hH.px]
        refine zr_goto (tgt := 50) dX5_speakerFor_46 (by decide) ?_
        refine zr_ireturn dX5_speakerFor_50 rfl (Nat.le_refl _) (Nat.le_refl _) ?_
        exact hk
  · rw [if_pos (by have := haw.resolve_left hc_11; simp [sawk, this])] at hk
    refine zr_iload_n dX5_speakerFor_14 rfl ?_
    refine zr_ireturn dX5_speakerFor_15 rfl (Nat.le_refl _) (Nat.le_refl _) ?_
    exact hk
theorem sspk_std {h : Nat} (hs : sOK s) (hh : h < s.2.2.1) : (sspk s h = -1) ↔ sstd s h = false := by
  have n6 := hs.1
  unfold sspk sstd
  cases h1 : sawk (s.2.2.2 h)
  · rw [if_neg (by decide), Bool.false_or]
    rcases (hs.2 h hh).2.1 with z | ⟨p, p1, p2⟩
    · rw [z]
      simp
    · rw [p2, show (nI p).toNatClampNeg = p from nI_clamp (by omega), hN_nI (by omega), sisH_nI n6 p1, Bool.true_and]
      have e : (nI p != -1) = true := by simp [nI_ne_m1 (show p < 2 ^ 31 by omega)]
      rw [e, Bool.true_and]
      cases h2 : sawk (s.2.2.2 p)
      · simp
      · simp [nI_ne_m1 (show p < 2 ^ 31 by omega)]
  · simp [nI_ne_m1 (show h < 2 ^ 31 by omega)]
end
