/-! ===== the reference: reads ===== -/
def sexec : Nat → List sO → sS → Option (Nat × Int32) × sS
  | _, [], s => (none, s)
  | k, o :: os, s => if oc o.1 o.2 s < 0 then (some (k, oc o.1 o.2 s), s) else sexec (k + 1) os (od o.1 o.2 s).2
def fX : List sO → sS → Prop
  | [], s => fT s
  | o :: os, s => fT s ∧ (oc o.1 o.2 s = 0 → fX os (od o.1 o.2 s).2)
def wreads (w : sW) : Int32 × sW :=
  match tEnd w.2.2.1 with
  | (p, none) => (-10 - nI p, w)
  | (_, some os) => match sexec 0 os w.1 with
    | (some (k, e), _) => (-1000 - nI k, (w.1, w.2.1, w.2.2.1, w.2.2.2.1, e, nI k))
    | (none, s) => (nI os.length, (s, skeep w.2.1 w.1, w.2.2))
section
variable {s : sS} {h r : Nat} {a : sR}
theorem sOK.hostNow (hs : sOK s) (h6 : s.2.2.1 < 6) : sOK (shostNow s) := by
  refine ⟨by show s.2.2.1 + 1 ≤ 6; omega, fun h hh => ?_⟩
  have hh2 : h < s.2.2.1 + 1 := hh
  show hOK (s.2.2.1 + 1) (s.1 1) (fu s.2.2.2 s.2.2.1 (1, -1, [], []) h)
  by_cases e : h = s.2.2.1
  · subst e
    rw [fu_s]
    exact ⟨Or.inr rfl, Or.inl rfl, Nat.zero_le _, Nat.zero_le _, (fun a ha => by cases ha), (fun a ha => by cases ha), List.Pairwise.nil⟩
  · rw [fu_n _ _ e]
    obtain ⟨x1, x2, x3⟩ := hs.2 h (by omega)
    refine ⟨x1, ?_, x3⟩
    rcases x2 with z | ⟨p, z1, z2⟩
    · exact Or.inl z
    · exact Or.inr ⟨p, by omega, z2⟩
theorem sOK.add (hs : sOK s) (hh : h < s.2.2.1) (h5 : (s.2.2.2 h).2.2.1.length < 5) (ha : rOK a) : sOK (sadd s h a) := by
  obtain ⟨x1, x2, x3, x4, x5, x6, x7⟩ := hs.2 h hh
  refine hs.host ⟨x1, x2, ?_, x4, fun b hb => ?_, x6, x7⟩
  · show ((s.2.2.2 h).2.2.1 ++ [a]).length ≤ 5
    rw [List.length_append]
    show (s.2.2.2 h).2.2.1.length + 1 ≤ 5
    omega
  · rcases List.mem_append.mp hb with z | z
    · exact x5 b z
    · rw [List.mem_singleton.mp z]; exact ha
theorem srec_ok {n k q l : Int32} {sole : Bool} (hq : sin q 0 255 = true) (hl : sin l 2 60 = true) : rOK (srec n k q l sole) := by
  obtain ⟨i, -, i2, i3⟩ := sin_of (a := 0) (b := 255) hq rfl rfl (by decide) (by decide)
  obtain ⟨j, j1, j2, j3⟩ := sin_of (a := 2) (b := 60) hl rfl rfl (by decide) (by decide)
  refine ⟨?_, ⟨i, by omega, i3⟩, ?_, j, j1, j2, j3⟩
  · cases sole
    · exact ⟨3, by decide, rfl⟩
    · exact ⟨0, by decide, rfl⟩
  · cases sole
    · exact Or.inl rfl
    · exact Or.inr rfl
theorem sOK.recordNow (hs : sOK s) {sole : Bool} (hh : h < s.2.2.1) (h5 : (s.2.2.2 h).2.2.1.length < 5) (ha : rOK a) : sOK (srecordNow s h a sole) := by
  unfold srecordNow
  split
  · exact hs.add hh h5 ha
  · exact (hs.add hh h5 ha).says ha
theorem sOK.drop (hs : sOK s) (hh : h < s.2.2.1) : sOK (sdrop s h r) := by
  obtain ⟨x1, x2, x3, x4, x5, x6, x7⟩ := hs.2 h hh
  refine hs.host ⟨x1, x2, ?_, x4, fun b hb => x5 b (List.mem_of_mem_eraseIdx hb), x6, x7⟩
  exact Nat.le_trans (List.length_eraseIdx_le _ _) x3
theorem hOK.bye {n : Nat} {t : Int32} {x : sH} (hx : hOK n t x) : hOK n t (sbye t a x) := by
  unfold sbye
  split
  · refine hx.cache ?_ (fun e he => ?_) ?_
    · rw [List.length_map]; exact hx.2.2.2.1
    · obtain ⟨e0, h0, rfl⟩ := List.mem_map.mp he
      split
      · exact sshort_ok (hx.2.2.2.2.2.1 e0 h0)
      · exact hx.2.2.2.2.2.1 e0 h0
    · refine pw_map (fun e => ?_) hx.2.2.2.2.2.2
      split
      · exact sshort_key
      · exact ⟨rfl, rfl, rfl⟩
  · exact hx
theorem sOK.byeN (hs : sOK s) (k : Nat) : sOK (sbyeN s a k) := by
  refine ⟨hs.1, fun h hh => ?_⟩
  show hOK s.2.2.1 (s.1 1) (if h < k then sbye (s.1 1) a (s.2.2.2 h) else s.2.2.2 h)
  split
  · exact (hs.2 h hh).bye
  · exact hs.2 h hh
theorem sOK.leave (hs : sOK s) (hh : h < s.2.2.1) : sOK (sleave s h r) := by
  unfold sleave
  dsimp only
  split
  · exact ((hs.byeN _).sc (by decide) _).drop hh
  · exact hs.drop hh
theorem sOK.od (hs : sOK s) {c : Int32} {x : Nat → Int32} (hc : olet c) (h0 : oc c x s = 0) : sOK (od c x s).2 := by
  have n6 := hs.1
  rcases hc with rfl | rfl | rfl | rfl | rfl | rfl | rfl | rfl
  · exact hs.hostNow (scanHost_0 n6 h0)
  · exact hs.ticks _
  · obtain ⟨i, i1, i2, i3⟩ := scanSleep_0 n6 h0
    rw [od_z, i2, hN_nI (by omega)]
    exact hs.sleep i1 i3
  · obtain ⟨i, i1, i2, i3⟩ := scanWake_0 n6 h0
    rw [od_w, i2, hN_nI (by omega)]
    exact hs.wake i1
  · obtain ⟨i, i1, i2, -, -⟩ := scanLeave_0 hs h0
    rw [od_g, i2, hN_nI (show i < 2 ^ 31 by omega)]
    exact hs.leave i1
  · exact hs.ask
  · obtain ⟨i, i1, i2, -, i4, i5, -, -, i3⟩ := scanRecord_0 n6 h0
    rw [od_c, i2, hN_nI (by omega)]
    exact hs.recordNow i1 (Nat.lt_of_le_of_ne (hs.2 i i1).2.2.1 i3) (srec_ok i4 i5)
  · obtain ⟨i, i1, i2, -, i4, i5, -, -, i3⟩ := scanRecord_0 n6 h0
    rw [od_s, i2, hN_nI (by omega)]
    exact hs.recordNow i1 (Nat.lt_of_le_of_ne (hs.2 i i1).2.2.1 i3) (srec_ok i4 i5)
end
section
variable {t : List Int32}
theorem tst_pre {q q' : sT} {c : Int32} (h : tst q c = some q') : ∃ r, q'.1 = q.1 ++ r := by
  unfold tst at h
  repeat' split at h
  all_goals first
    | (cases h; done)
    | (injection h with h; subst h; exact ⟨[], (List.append_nil _).symm⟩)
    | (injection h with h; subst h; exact ⟨_, rfl⟩)
theorem tAt_pre {p n : Nat} {q qn : sT} (h : tAt t p q) (hn : tAt t n qn) (hpn : p ≤ n) : ∃ r, qn.1 = q.1 ++ r := by
  induction n generalizing qn with
  | zero =>
    have e : p = 0 := by omega
    subst e
    unfold tAt at h hn
    rw [h] at hn
    injection hn with _ hn
    injection hn with hn
    exact ⟨[], by rw [← hn]; simp⟩
  | succ n ih =>
    by_cases e : p = n + 1
    · subst e
      unfold tAt at h hn
      rw [h] at hn
      injection hn with _ hn
      injection hn with hn
      exact ⟨[], by rw [← hn]; simp⟩
    · unfold tAt at hn
      rw [tScan] at hn
      cases hs : tScan t n with
      | mk k o =>
        rw [hs] at hn
        cases o with
        | none => dsimp only at hn; injection hn with _ hn; cases hn
        | some q1 =>
          dsimp only at hn
          cases ht : tst q1 (tg t n) with
          | none => rw [ht] at hn; dsimp only at hn; injection hn with _ hn; cases hn
          | some q2 =>
            rw [ht] at hn
            dsimp only at hn
            injection hn with _ hn
            injection hn with hn
            subst hn
            have hk : k = n := by
              have hks : ∀ n k q, tScan t n = (k, some q) → k = n := by
                intro n
                induction n with
                | zero => intro k q h; injection h with h _; exact h.symm
                | succ n ih =>
                  intro k q h
                  rw [tScan] at h
                  split at h
                  · injection h with _ h; cases h
                  · split at h
                    · injection h with _ h; cases h
                    · injection h with h _; exact h.symm
              exact hks n k q1 hs
            subst hk
            obtain ⟨r1, e1⟩ := ih hs (by omega)
            obtain ⟨r2, e2⟩ := tst_pre ht
            exact ⟨r1 ++ r2, by rw [e2, e1, List.append_assoc]⟩
theorem tAt_end {q : sT} (h : tAt t t.length q) (h1 : q.2.1 = false) (h2 : q.1 ≠ []) : tEnd t = (t.length, some q.1) := by
  unfold tEnd
  unfold tAt at h
  rw [h]
  dsimp only
  rw [if_neg]
  rw [h1]
  cases hq : q.1 with
  | nil => exact absurd hq h2
  | cons a l => simp
theorem tBad_not {os : List sO} {n : Nat} (h : tEnd t = (n, some os)) (p : Nat) : ¬ tBad t p := by
  intro z
  rw [z.fin] at h
  injection h with _ h
  cases h
theorem tAt_0 : tAt t 0 ([], false, 0, (fun _ => -1), 0, 0) := rfl
end
section
variable {d : Nat} {Q : Value → zM → Prop} {m : zM} {w : sW} {s : sS} {t : List Int32}
theorem zpn_of (m : zM) (p : Nat) : zsI m 667 11 (nI p) = zpn m p (zI m 675) := by unfold zpn; rw [zrow_id, zsI_rw]
theorem zpn_id {p : Nat} (h : zI m 667 11 = nI p) : zpn m p (zI m 675) = m := by
  unfold zpn
  rw [zrow_id, ← h]
  have : fu (zI m 667) 11 (zI m 667 11) = zI m 667 := by
    funext j
    unfold fu
    split
    · rename_i z; rw [z]
    · rfl
  rw [this, zrow_id]
theorem zpn_lo {p : Nat} {g : Nat → Int32} : zlo m (zpn m p g) := (zlo.row (by decide)).tr (zlo.row (by decide))
theorem RM.pn {p : Nat} {g : Nat → Int32} (h : RM m w) : RM (zpn m p g) w := by
  obtain ⟨a1, a2, a3, a4, a5, a6, a7, a8⟩ := h
  refine ⟨a1.of rfl rfl, ?_, a3, ?_, ?_, fun k hk => ?_, ?_, ?_⟩
  · rw [zpn_n (by decide) (by decide)]; exact a2
  · rw [zpn_f (by decide), zpn_n (by decide) (by decide)]; exact a4
  · rw [zpn_f (by decide), zpn_n (by decide) (by decide)]; exact a5
  · rw [zpn_n (by decide) (by decide)]; exact a6 k hk
  · rw [zpn_f (by decide)]; exact a7
  · rw [zpn_f (by decide)]; exact a8
theorem XM.pn {p : Nat} {g : Nat → Int32} (h : XM m w s) : XM (zpn m p g) w s := ⟨h.1.pn, by rw [zpn_n (by decide) (by decide)]; exact h.2.1, h.2.2⟩
theorem RM.fld {k : Nat} {v : Int32} (h : RM m w) (h1 : k ≠ 6) (h2 : k ≠ 10) (h3 : k ≠ 14) (h4 : k ≠ 15) : RM (zsI m 667 k v) w := by
  obtain ⟨a1, a2, a3, a4, a5, a6, a7, a8⟩ := h
  rw [zsI_rw]
  refine ⟨a1.of rfl rfl, ?_, a3, ?_, ?_, fun k hk => ?_, ?_, ?_⟩
  · rw [zrow_n _ _ (by decide)]; exact a2
  · rw [zrow_s, fu_n _ _ (Ne.symm h1), zrow_n _ _ (by decide)]; exact a4
  · rw [zrow_s, fu_n _ _ (Ne.symm h2), zrow_n _ _ (by decide)]; exact a5
  · rw [zrow_n _ _ (by decide)]; exact a6 k hk
  · rw [zrow_s, fu_n _ _ (Ne.symm h3)]; exact a7
  · rw [zrow_s, fu_n _ _ (Ne.symm h4)]; exact a8
theorem XM.fld {k : Nat} {v : Int32} (h : XM m w s) (h1 : k ≠ 6) (h2 : k ≠ 10) (h3 : k ≠ 14) (h4 : k ≠ 15) : XM (zsI m 667 k v) w s := ⟨h.1.fld h1 h2 h3 h4, by rw [zsI_rw, zrow_n _ _ (by decide)]; exact h.2.1, h.2.2⟩
theorem RM.why2 {a b : Int32} (h : RM m w) : RM (zsI (zsI m 667 14 a) 667 15 b) (w.1, w.2.1, w.2.2.1, w.2.2.2.1, a, b) := by
  obtain ⟨a1, a2, a3, a4, a5, a6, a7, a8⟩ := h
  rw [zsI_rw, zsI_rw]
  refine ⟨a1.of rfl rfl, ?_, a3, ?_, ?_, fun k hk => ?_, ?_, ?_⟩
  · rw [zrow_n _ _ (by decide), zrow_n _ _ (by decide)]; exact a2
  · rw [zrow_s, fu_n _ _ (by decide), zrow_s, fu_n _ _ (by decide), zrow_n _ _ (by decide), zrow_n _ _ (by decide)]; exact a4
  · rw [zrow_s, fu_n _ _ (by decide), zrow_s, fu_n _ _ (by decide), zrow_n _ _ (by decide), zrow_n _ _ (by decide)]; exact a5
  · rw [zrow_n _ _ (by decide), zrow_n _ _ (by decide)]; exact a6 k hk
  · rw [zrow_s, fu_n _ _ (by decide), zrow_s, fu_s]
  · rw [zrow_s, fu_s]
theorem fX.ft {l : List sO} (h : fX l s) : fT s := by
  cases l with
  | nil => exact h
  | cons a l => exact h.1
/-- after reading: the orders are done -/
theorem reads_60 {os : List sO} {m0 : zM} (hE : tEnd w.2.2.1 = (w.2.2.1.length, some os)) (htx : ∀ j, j < w.2.2.1.length → tg w.2.2.1 j ≠ -1) (hqn : ∃ qn, tAt w.2.2.1 w.2.2.1.length qn ∧ qn.1 = os)
    (hk : ∀ m', RM m' (wreads w).2 → zlo m0 m' → Q (.int (wreads w).1) m') : ∀ c p m s q rest t1, w.2.2.1.length - p < c → p ≤ w.2.2.1.length → XM m w s → zlo m0 m → zI m 667 11 = nI p → sOK s → fX rest s → tAt w.2.2.1 p q → q.2.1 = false → os = q.1 ++ rest → sexec q.1.length rest s = sexec 0 os w.1 →
    zwp (d + 11) M9_reads 0 0 Q 60 [.ref 667, .int t1, .int (nI q.1.length)] [] 0 0 m := by
  obtain ⟨qn, hn1, hn2⟩ := hqn
  unfold wreads at hk
  rw [hE] at hk
  dsimp only at hk
  intro c
  induction c with
  | zero => intro p m s q rest t1 h1; omega
  | succ c ih =>
    intro p m s q rest t1 h1 h2 hX hlo hp hs hF hq hio hos hex
    have hM := hX.1.1
    have hT : RT (zI m 667 10) (zI m 674) w.2.2.1 := hX.1.2.2.2.2.1
    have hT2 := hT.2.1
    have hpn := zpn_id hp
    rw [← hex] at hk
    rw [← hpn]
    refine zr_aload_n dX9_reads_60 rfl ?_
    refine zr_cV0 rfl dX9_reads_61 cv_9_239 (MI.ob hM ⟨rfl, rfl⟩) (Nat.le_of_ble_eq_true rfl) (here_ok hM hT h2 hq (fun p1 k1 a1 a2 a3 a4 a5 a6 => ?_))
    refine zr_iconst (v := -1) dX9_reads_64 rfl ?_
    refine zr_icmp_eq (tgt := 110) dX9_reads_65 (by decide) (fun hc_65 => ?_) (fun hc_65 => ?_)
    · have hl : p1 = w.2.2.1.length := by
        by_cases z : p1 < w.2.2.1.length
        · unfold tc at hc_65
          rw [if_pos z] at hc_65
          exact absurd hc_65 (htx p1 z)
        · have := a2
          omega
      subst hl
      have hrest : rest = [] := by
        unfold tAt at a3 hn1
        rw [a3] at hn1
        injection hn1 with _ hn1
        injection hn1 with hn1
        rw [← hn1] at hn2
        dsimp only at hn2
        rw [hos] at hn2
        exact List.self_eq_append_right.mp hn2
      subst hrest
      rw [List.append_nil] at hos
      subst hos
      rw [sexec] at hk
      dsimp only at hk
      refine zr_aload_n dX9_reads_110 rfl ?_
      refine zr_cV0v rfl dX9_reads_111 cv_9_273 (MI.ob hM ⟨rfl, rfl⟩) (Nat.le_of_ble_eq_true rfl) (keepsAside_m hX.pn (fun m1 r1 l1 => ?_))
      refine zr_iload_n dX9_reads_114 rfl ?_
      refine zr_ireturn dX9_reads_115 rfl (Nat.le_refl _) (Nat.le_refl _) ?_
      exact hk m1 r1 ((hlo.tr zpn_lo).tr l1)
    · have hl := tc_m1 hc_65
      refine zr_aload_n dX9_reads_68 rfl ?_
      refine zr_iconst (v := bI true) dX9_reads_69 rfl ?_
      refine zr_cV1 rfl dX9_reads_70 cv_9_260 (MI.ob hM ⟨rfl, rfl⟩) (Nat.le_of_ble_eq_true rfl) (readsOrder_t hM hT a2 a3 hio (Or.inr ⟨hl, a6 hl⟩) (tBad_not hE) hX.1.rs hs hF.ft (fun p2 g2 cc N2 q2 b1 b2 b3 b4 b5 b6 => ?_))
      obtain ⟨r, hr⟩ := tAt_pre b4 hn1 b2
      have hrest : rest = (cc, N2) :: r := by
        rw [hn2, b6, hos, List.append_assoc] at hr
        exact List.append_cancel_left hr
      subst hrest
      rw [sexec] at hk hex
      dsimp only at hk hex
      refine ⟨fun hlt => ?_, fun h0 m' y1 y2 => ?_⟩
      · rw [if_pos hlt] at hk
        dsimp only at hk
        have hX2 : XM (zsI (zpn m p2 g2) 667 13 (oc cc N2 s)) w s := hX.pn.fld (by decide) (by decide) (by decide) (by decide)
        have hM := hX2.1.1
        have e13 : zI (zsI (zpn m p2 g2) 667 13 (oc cc N2 s)) 667 13 = oc cc N2 s := by rw [zsI_rw, zrow_s, fu_s]
        refine zr_istore_n dX9_reads_73 (by decide) rfl ?_
        dsimp only [zset]
        refine zr_aload_n dX9_reads_74 rfl ?_
        refine zr_getI dX9_reads_75 fd_9_254 rfl (MI.ob hM ⟨rfl, rfl⟩) ?_
        rw [e13]
        refine zr_if_ge (tgt := 104) dX9_reads_78 (by decide) (fun hc_78 => absurd hlt (Int32.not_lt.mpr hc_78)) (fun hc_78 => ?_)
        refine zr_aload_n dX9_reads_81 rfl ?_
        refine zr_cV0v rfl dX9_reads_82 cv_9_267 (MI.ob hM ⟨rfl, rfl⟩) (Nat.le_of_ble_eq_true rfl) (takesAside_m hX2 (fun m3 r3 l3 e3 => ?_))
        have hM := r3.1
        refine zr_aload_n dX9_reads_85 rfl ?_
        refine zr_aload_n dX9_reads_86 rfl ?_
        refine zr_getI dX9_reads_87 fd_9_254 rfl (MI.ob hM ⟨rfl, rfl⟩) ?_
        rw [e3, e13]
        refine zr_putI dX9_reads_90 fd_9_270 rfl (MI.ob hM ⟨rfl, rfl⟩) ?_
        refine zr_aload_n dX9_reads_93 rfl ?_
        refine zr_iload_n dX9_reads_94 rfl ?_
        refine zr_putI dX9_reads_95 fd_9_36 rfl (MI.ob hM ⟨rfl, rfl⟩) ?_
        refine zr_sipush (v := -1000) dX9_reads_98 rfl ?_
        refine zr_iload_n dX9_reads_101 rfl ?_
        refine zr_isub dX9_reads_102 ?_
        refine zr_ireturn dX9_reads_103 rfl (Nat.le_refl _) (Nat.le_refl _) ?_
        exact hk _ r3.why2 (((hlo.tr zpn_lo).tr (zlo.sI (by decide))).tr (l3.tr ((zlo.sI (by decide)).tr (zlo.sI (by decide)))))
      · rw [if_neg (by rw [h0]; decide)] at hex
        have hX2 : XM (zsI (zpn m p2 g2) 667 13 0) w s := hX.pn.fld (by decide) (by decide) (by decide) (by decide)
        have e13 : zI m' 667 13 = 0 := by rw [y1.2.2.2.1 667 (by decide) (by decide), zsI_rw, zrow_s, fu_s]
        have hM := y2.1
        refine zr_istore_n dX9_reads_73 (by decide) rfl ?_
        dsimp only [zset]
        refine zr_aload_n dX9_reads_74 rfl ?_
        refine zr_getI dX9_reads_75 fd_9_254 rfl (MI.ob hM ⟨rfl, rfl⟩) ?_
        rw [e13]
        refine zr_if_ge (tgt := 104) dX9_reads_78 (by decide) (fun hc_78 => ?_) (fun hc_78 => absurd hc_78 (by decide))
        refine zr_iincN dX9_reads_104 rfl (by decide) rfl ?_
        dsimp only [zset]
        refine zr_goto (tgt := 60) dX9_reads_107 (by decide) ?_
        have hlen : q2.1.length = q.1.length + 1 := by rw [b6, List.length_append]; rfl
        rw [← hlen] at hex ⊢
        refine ih p2 m' _ q2 r _ (by omega) b2 ⟨hX2.1.cur y1 y2, ?_, ?_⟩ ?_ ?_ (hs.od b3 h0) (hF.2 h0) b4 b5 ?_ hex
        · rw [y1.2.2.2.1 671 (by decide) (by decide)]; exact hX2.2.1
        · rw [y1.2.2.2.2.2 5 (by decide)]; exact hX2.2.2
        · exact ((hlo.tr zpn_lo).tr (zlo.sI (by decide))).tr y1.lo
        · rw [y1.2.2.2.1 667 (by decide) (by decide), zsI_rw, zrow_s, fu_n _ _ (by decide), zpn_p]
        · rw [b6, List.append_assoc]; exact hos
theorem reads_32f (hR : RM m w) (hk : ∀ m', RM m' (wreads w).2 → zlo m m' → Q (.int (wreads w).1) m') {p : Nat} {g : Nat → Int32} {t2 : Value} (hb : tBad w.2.2.1 p) : zwp (d + 11) M9_reads 0 0 Q 32 [.ref 667, .int (bI false), t2] [] 0 0 (zpn m p g) := by
  have hM := hR.1
  refine zr_iload_n dX9_reads_32 rfl ?_
  refine zr_if_neB (tgt := 44) dX9_reads_33 (by decide) (fun hc_33 => absurd hc_33 (by decide)) (fun hc_33 => ?_)
  refine zr_bipush (v := -10) dX9_reads_36 rfl ?_
  refine zr_aload_n dX9_reads_38 rfl ?_
  refine zr_getI dX9_reads_39 fd_9_232 rfl (MI.ob hM ⟨rfl, rfl⟩) ?_
  rw [zpn_p]
  refine zr_isub dX9_reads_42 ?_
  refine zr_ireturn dX9_reads_43 rfl (Nat.le_refl _) (Nat.le_refl _) ?_
  unfold wreads at hk
  rw [hb.fin] at hk
  exact hk _ hR.pn zpn_lo
theorem reads_32t (hR : RM m w) (htx : ∀ j, j < w.2.2.1.length → tg w.2.2.1 j ≠ -1) (hs : sOK w.1) (hF : ∀ os, tEnd w.2.2.1 = (w.2.2.1.length, some os) → fX os w.1) (hk : ∀ m', RM m' (wreads w).2 → zlo m m' → Q (.int (wreads w).1) m') {p : Nat} {g : Nat → Int32} {t2 : Value} {q : sT} (hq : tAt w.2.2.1 w.2.2.1.length q) (hio : q.2.1 = false) (hne : q.1 ≠ []) : zwp (d + 11) M9_reads 0 0 Q 32 [.ref 667, .int (bI true), t2] [] 0 0 (zpn m p g) := by
  have hM := hR.1
  have hE := tAt_end hq hio hne
  refine zr_iload_n dX9_reads_32 rfl ?_
  refine zr_if_neB (tgt := 44) dX9_reads_33 (by decide) (fun hc_33 => ?_) (fun hc_33 => absurd hc_33 (by decide))
  refine zr_aload_n dX9_reads_44 rfl ?_
  refine zr_cV0v rfl dX9_reads_45 cv_9_264 (MI.ob hM ⟨rfl, rfl⟩) (Nat.le_of_ble_eq_true rfl) (setsAside_m hR.pn (fun m1 x1 l1 e1 => ?_))
  have hM := x1.1.1
  refine zr_iconst (v := nI 0) dX9_reads_48 rfl ?_
  refine zr_istore_n dX9_reads_49 (by decide) rfl ?_
  dsimp only [zset]
  refine zr_aload_n dX9_reads_50 rfl ?_
  refine zr_iconst (v := nI 0) dX9_reads_51 rfl ?_
  refine zr_putI dX9_reads_52 fd_9_232 rfl (MI.ob hM ⟨rfl, rfl⟩) ?_
  refine zr_aload_n dX9_reads_55 rfl ?_
  refine zr_iconst (v := nI 0) dX9_reads_56 rfl ?_
  refine zr_putI dX9_reads_57 fd_9_254 rfl (MI.ob hM ⟨rfl, rfl⟩) ?_
  refine reads_60 (m0 := m) (rest := q.1) (q := ([], false, 0, (fun _ => -1), 0, 0)) hE htx ⟨q, hq, rfl⟩ hk _ 0 _ _ _ (Nat.lt_succ_self _) (Nat.zero_le _) ((x1.fld (by decide) (by decide) (by decide) (by decide)).fld (by decide) (by decide) (by decide) (by decide)) ((zpn_lo.tr l1).tr ((zlo.sI (by decide)).tr (zlo.sI (by decide)))) ?_ hs (hF _ hE) tAt_0 rfl rfl rfl
  rw [zsI_rw, zrow_s, fu_n _ _ (by decide), zsI_rw, zrow_s, fu_s]
theorem reads_11 (hR : RM m w) (htx : ∀ j, j < w.2.2.1.length → tg w.2.2.1 j ≠ -1) (hs : sOK w.1) (hF : ∀ os, tEnd w.2.2.1 = (w.2.2.1.length, some os) → fX os w.1)
    (hk : ∀ m', RM m' (wreads w).2 → zlo m m' → Q (.int (wreads w).1) m') : ∀ c r p g t2, w.2.2.1.length - p < c → p ≤ w.2.2.1.length → (r = true → ∃ q, tAt w.2.2.1 p q ∧ q.2.1 = false ∧ q.1 ≠ []) → (r = false → tBad w.2.2.1 p) →
    zwp (d + 11) M9_reads 0 0 Q 11 [.ref 667, .int (bI r), t2] [] 0 0 (zpn m p g) := by
  have hM := hR.1
  have hT : RT (zI m 667 10) (zI m 674) w.2.2.1 := hR.2.2.2.2.1
  intro c
  induction c with
  | zero => intro r p g t2 h1; omega
  | succ c ih =>
    intro r p g t2 h1 h2 hr1 hr2
    refine zr_iload_n dX9_reads_11 rfl ?_
    refine zr_if_eqB (tgt := 32) dX9_reads_12 (by decide) (fun hc_12 => ?_) (fun hc_12 => ?_)
    · first
      | (subst hc_12
         exact reads_32f hR hk (hr2 rfl))
      | (subst hc_12
         have hl : p1 = w.2.2.1.length := by
           by_cases z : p1 < w.2.2.1.length
           · unfold tc at hc_20
             rw [if_pos z] at hc_20
             exact absurd hc_20 (htx p1 z)
           · omega
         subst hl
         exact reads_32t hR htx hs hF hk a3 hio hne)
      | fail "none"
    · obtain ⟨q, hq, hio, hne⟩ := hr1 hc_12
      refine zr_aload_n dX9_reads_15 rfl ?_
      refine zr_cV0 rfl dX9_reads_16 cv_9_239 (MI.ob hM ⟨rfl, rfl⟩) (Nat.le_of_ble_eq_true rfl) (here_ok hM hT h2 hq (fun p1 k1 a1 a2 a3 a4 a5 a6 => ?_))
      refine zr_iconst (v := -1) dX9_reads_19 rfl ?_
      refine zr_icmp_eq (tgt := 32) dX9_reads_20 (by decide) (fun hc_20 => ?_) (fun hc_20 => ?_)
      · first
        | (subst hc_12
           exact reads_32f hR hk (hr2 rfl))
        | (subst hc_12
           have hl : p1 = w.2.2.1.length := by
             by_cases z : p1 < w.2.2.1.length
             · unfold tc at hc_20
               rw [if_pos z] at hc_20
               exact absurd hc_20 (htx p1 z)
             · omega
           subst hl
           exact reads_32t hR htx hs hF hk a3 hio hne)
        | fail "none"
      · have hl := tc_m1 hc_20
        refine zr_aload_n dX9_reads_23 rfl ?_
        refine zr_iconst (v := bI false) dX9_reads_24 rfl ?_
        refine zr_cV1 rfl dX9_reads_25 cv_9_260 (MI.ob hM ⟨rfl, rfl⟩) (Nat.le_of_ble_eq_true rfl) (readsOrder_f hM hT a2 a3 hio (Or.inr ⟨hl, a6 hl⟩) (fun r2 p2 g2 b1 b2 => ?_))
        refine zr_istore_n dX9_reads_28 (by decide) rfl ?_
        dsimp only [zset]
        refine zr_goto (tgt := 11) dX9_reads_29 (by decide) ?_
        cases r2 with
        | true =>
          obtain ⟨c1, c2, q', c3, c4, c5⟩ := b1 rfl
          exact ih true p2 g2 _ (by omega) c2 (fun _ => ⟨q', c3, c4, c5⟩) (fun z => by cases z)
        | false =>
          refine zr_iload_n dX9_reads_11 rfl (zr_if_eqB (tgt := 32) dX9_reads_12 (by decide) (fun _ => ?_) (fun z => by cases z))
          exact reads_32f hR hk (b2 rfl)
theorem reads_m (hR : RM m w) (htx : ∀ j, j < w.2.2.1.length → tg w.2.2.1 j ≠ -1) (hs : sOK w.1) (hF : ∀ os, tEnd w.2.2.1 = (w.2.2.1.length, some os) → fX os w.1)
    (hk : ∀ m', RM m' (wreads w).2 → zlo m m' → Q (.int (wreads w).1) m') : zC (d + 11) M9_reads 0 0 [.ref 667] m Q := by
  have hM := hR.1
  have hT : RT (zI m 667 10) (zI m 674) w.2.2.1 := hR.2.2.2.2.1
  refine zenterP (Or.inl (by decide +kernel)) rfl (fun h => by cases h) (Nat.le_of_ble_eq_true rfl) ?_
  show zwp _ _ _ _ _ 0 [_, zU, zU] [] 0 0 _
  refine zr_aload_n dX9_reads_0 rfl ?_
  refine zr_iconst (v := nI 0) dX9_reads_1 rfl ?_
  refine zr_putI dX9_reads_2 fd_9_232 rfl (MI.ob hM ⟨rfl, rfl⟩) ?_
  rw [zpn_of]
  refine zr_aload_n dX9_reads_5 rfl ?_
  refine zr_iconst (v := bI false) dX9_reads_6 rfl ?_
  refine zr_cV1 rfl dX9_reads_7 cv_9_260 (MI.ob hM ⟨rfl, rfl⟩) (Nat.le_of_ble_eq_true rfl) (readsOrder_f hM hT (Nat.zero_le _) tAt_0 rfl (Or.inl rfl) (fun r2 p2 g2 b1 b2 => ?_))
  refine zr_istore_n dX9_reads_10 (by decide) rfl ?_
  dsimp only [zset]
  cases r2 with
  | true =>
    obtain ⟨c1, c2, q', c3, c4, c5⟩ := b1 rfl
    exact reads_11 hR htx hs hF hk _ true p2 g2 _ (Nat.lt_succ_self _) c2 (fun _ => ⟨q', c3, c4, c5⟩) (fun z => by cases z)
  | false =>
    refine zr_iload_n dX9_reads_11 rfl (zr_if_eqB (tgt := 32) dX9_reads_12 (by decide) (fun _ => ?_) (fun z => by cases z))
    exact reads_32f hR hk (b2 rfl)
end
