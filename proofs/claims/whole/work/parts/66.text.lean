/-! ===== the class: the text ===== -/
def TX (m : zM) (t : List Int32) : Prop := zn m = 676 ∧ zR m 663 0 = 664 ∧ zR m 663 2 = 665 ∧ zR m 663 3 = 666 ∧ zI m 663 1 = nI t.length ∧ t.length ≤ 120 ∧ (∀ i c, t[i]? = some c → zI m 664 i = c) ∧ ∀ c ∈ t, ∃ j, j < 128 ∧ c = nI j
/-- the orders that ended -/
def TO (m : zM) (os : List sO) : Prop := ∀ (o : Nat) (x : sO), os[o]? = some x → zI m 665 o = x.1 ∧ ∀ i, i < 5 → zI m 666 (o * 5 + i) = x.2 i
def TS (m : zM) (q : sT) : Prop := zI m 663 4 = nI q.1.length ∧ zI m 663 5 = bI q.2.1 ∧ TO m q.1 ∧ (q.2.1 = true → zI m 665 q.1.length = q.2.2.1 ∧ (∀ i, i < 5 → zI m 666 (q.1.length * 5 + i) = q.2.2.2.1 i) ∧ zI m 663 6 = nI q.2.2.2.2.1 ∧ zI m 663 7 = nI q.2.2.2.2.2)
def tI (q : sT) (i : Nat) : Prop := 2 * q.1.length ≤ i ∧ (q.2.1 = true → 2 * q.1.length + 1 ≤ i ∧ olet q.2.2.1 ∧ q.2.2.2.2.1 ≤ oneed q.2.2.1 ∧ q.2.2.2.2.2 ≤ 3 ∧ (q.2.2.2.2.2 ≠ 0 → 1 ≤ q.2.2.2.2.1))
theorem tI.step {q q' : sT} {i : Nat} {c : Int32} (h : tI q i) (e : tst q c = some q') : tI q' (i + 1) := by
  obtain ⟨h1, h2⟩ := h
  unfold tst at e
  split at e
  · injection e with e
    subst e
    exact ⟨Nat.le_succ_of_le h1, fun z => by
      obtain ⟨a1, a2, a3, a4, a5⟩ := h2 z
      exact ⟨Nat.le_succ_of_le a1, a2, a3, Nat.zero_le _, fun w => absurd rfl w⟩⟩
  · split at e
    · split at e
      · rename_i z
        injection e with e
        subst e
        exact ⟨Nat.le_succ_of_le h1, fun _ => ⟨Nat.succ_le_succ h1, olb_iff.mp z, Nat.zero_le _, Nat.zero_le _, fun w => absurd rfl w⟩⟩
      · cases e
    · rename_i hf
      obtain ⟨a1, a2, a3, a4, a5⟩ := h2 (by simpa using hf)
      split at e
      · split at e
        · cases e
        · rename_i hn
          split at e
          · rename_i hz
            injection e with e
            subst e
            refine ⟨Nat.le_succ_of_le h1, fun _ => ⟨Nat.le_succ_of_le a1, a2, ?_, (by show (1 : Nat) ≤ 3; decide), fun _ => Nat.succ_le_succ (Nat.zero_le _)⟩⟩
            have : ¬ q.2.2.2.2.1 = oneed q.2.2.1 := fun w => hn (Or.inr ⟨hz, w⟩)
            show q.2.2.2.2.1 + 1 ≤ oneed q.2.2.1
            omega
          · rename_i hz
            injection e with e
            subst e
            have : ¬ q.2.2.2.2.2 = 3 := fun w => hn (Or.inl w)
            exact ⟨Nat.le_succ_of_le h1, fun _ => ⟨Nat.le_succ_of_le a1, a2, a3, by show q.2.2.2.2.2 + 1 ≤ 3; omega, fun _ => a5 hz⟩⟩
      · split at e
        · injection e with e
          subst e
          refine ⟨?_, fun z => by cases z⟩
          show 2 * (q.1 ++ [(q.2.2.1, q.2.2.2.1)]).length ≤ i + 1
          rw [List.length_append, List.length_singleton]
          omega
        · cases e
theorem i8_128 {j : Nat} (hj : j < 128) : (nI j).toInt8.toInt32 = nI j ∧ narrow .byte (.int (nI j)) = .int (nI j) := by
  have h1 : ∀ j : Fin 128, (nI j).toInt8.toInt32 = nI j := by decide +kernel
  refine ⟨h1 ⟨j, hj⟩, ?_⟩
  show Value.int (nI j).toInt8.toInt32 = _
  rw [h1 ⟨j, hj⟩]
theorem sin_nI {j n : Nat} (h : j ≤ n) (hn : n < 2 ^ 31) : sin (nI j) (nI 0) (nI n) = true := by
  unfold sin
  rw [decide_eq_true ((nI_leI (by decide) (by omega)).mpr (Nat.zero_le j)), decide_eq_true ((nI_leI (by omega) hn).mpr h)]
  rfl
section
variable {d : Nat} {Q : Value → zM → Prop} {m m' : zM} {t : List Int32} {q : sT} {c : Int32} {os : List sO}
theorem TX.ob (h : TX m t) (e : zn m' = zn m) : zOb m' 663 7 := ⟨by decide, by decide, by rw [e, h.1]; decide⟩
theorem TX.a4 (h : TX m t) (e : zn m' = zn m) : zAr m' 664 10 120 := ⟨by decide, by decide, by rw [e, h.1]; decide⟩
theorem TX.a5 (h : TX m t) (e : zn m' = zn m) : zAr m' 665 12 60 := ⟨by decide, by decide, by rw [e, h.1]; decide⟩
theorem TX.a6 (h : TX m t) (e : zn m' = zn m) : zAr m' 666 12 300 := ⟨by decide, by decide, by rw [e, h.1]; decide⟩
theorem TX.sI (h : TX m t) {a k : Nat} {v : Int32} (ha : (a ≠ 663 ∨ k ≠ 1) ∧ a ≠ 664) : TX (zsI m a k v) t := by
  obtain ⟨h1, h2, h3, h4, h5, h6, h7, h8⟩ := h
  exact ⟨h1, h2, h3, h4, by rw [zI_n _ _ (by omega)]; exact h5, h6, fun i c hi => by rw [zI_n _ _ (by omega)]; exact h7 i c hi, h8⟩
theorem TX.out {lo hi : Nat} (h : TX m t) (ho : zout lo hi m m') (hd : hi ≤ 663 ∨ 667 ≤ lo) : TX m' t := by
  obtain ⟨h1, h2, h3, h4, h5, h6, h7, h8⟩ := h
  exact ⟨ho.1.trans h1, by rw [ho.R (by omega)]; exact h2, by rw [ho.R (by omega)]; exact h3, by rw [ho.R (by omega)]; exact h4, by rw [ho.I (by omega)]; exact h5, h6, by rw [ho.I (by omega)]; exact h7, h8⟩
theorem lt_of_getO {i : Nat} {x : sO} (h : os[i]? = some x) : i < os.length := (List.getElem?_eq_some_iff.mp h).1
theorem TO.s3 (h : TO m os) {k : Nat} {v : Int32} : TO (zsI m 663 k v) os := fun o x hx => by
  obtain ⟨a1, a2⟩ := h o x hx
  exact ⟨by rw [zI_n _ _ (Or.inl (by decide))]; exact a1, fun i hi => by rw [zI_n _ _ (Or.inl (by decide))]; exact a2 i hi⟩
theorem TO.s5 (h : TO m os) {k : Nat} {v : Int32} (hk : os.length ≤ k) : TO (zsI m 665 k v) os := fun o x hx => by
  obtain ⟨a1, a2⟩ := h o x hx
  have := lt_of_getO hx
  exact ⟨by rw [zI_n _ _ (Or.inr (by omega))]; exact a1, fun i hi => by rw [zI_n _ _ (Or.inl (by decide))]; exact a2 i hi⟩
theorem TO.s6 (h : TO m os) {k : Nat} {v : Int32} (hk : os.length * 5 ≤ k) : TO (zsI m 666 k v) os := fun o x hx => by
  obtain ⟨a1, a2⟩ := h o x hx
  have := lt_of_getO hx
  exact ⟨by rw [zI_n _ _ (Or.inl (by decide))]; exact a1, fun i hi => by rw [zI_n _ _ (Or.inr (by omega))]; exact a2 i hi⟩
theorem TO.out {lo hi : Nat} (h : TO m os) (ho : zout lo hi m m') (hd : hi ≤ 663 ∨ 667 ≤ lo) : TO m' os := fun o x hx => by
  rw [ho.I (by omega), ho.I (by omega)]
  exact h o x hx
theorem append_ok (hT : TX m t) (h1 : sin c 0 127 = false → Q (.int (-2)) m) (h2 : sin c 0 127 = true → t.length = 120 → Q (.int (-4)) m) (h3 : sin c 0 127 = true → t.length ≠ 120 → ∀ m', TX m' (t ++ [c]) → zout 663 667 m m' → Q (.int (nI (t.length + 1))) m') : zC (d + 2) M7_append 0 0 [.ref 663, .int c] m Q := by
  have h6 := hT.2.2.2.2.2.1
  have hl := hT.2.2.2.2.1
  refine zenterP (Or.inl (by decide +kernel)) rfl (fun h => by cases h) (Nat.le_of_ble_eq_true rfl) ?_
  show zwp _ _ _ _ _ 0 [_, _] [] 0 0 _
  refine zr_iload_n dX7_append_0 rfl ?_
  refine zr_iconst (v := nI 0) dX7_append_1 rfl ?_
  refine zr_bipush (v := nI 127) dX7_append_2 rfl ?_
  refine zr_cSN3 rfl dX7_append_4 cv_7_22 (Nat.le_of_ble_eq_true rfl) (within_ok (lo := 0) (hi := 127) ?_)
  refine zr_if_neB (tgt := 13) dX7_append_7 (by decide) (fun hc_7 => ?_) (fun hc_7 => ?_)
  · obtain ⟨j, j1, j2, rfl⟩ := sin_of (a := 0) (b := 127) hc_7 rfl rfl (by decide) (by decide)
    refine zr_aload_n dX7_append_13 rfl ?_
    refine zr_getI dX7_append_14 fd_7_26 rfl (hT.ob rfl) ?_
    rw [hl]
    refine zr_bipush (v := nI 120) dX7_append_17 rfl ?_
    refine zr_icmp_ltN (tgt := 25) dX7_append_19 (by decide) (by omega) (by omega) (fun hc_19 => ?_) (fun hc_19 => ?_)
    · refine zr_aload_n dX7_append_25 rfl ?_
      refine zr_getR dX7_append_26 fd_7_9 rfl (hT.ob rfl) hT.2.1 (by decide) ?_
      refine zr_aload_n dX7_append_29 rfl ?_
      refine zr_getI dX7_append_30 fd_7_26 rfl (hT.ob rfl) ?_
      rw [hl]
      refine zr_iload_n dX7_append_33 rfl ?_
      refine zr_i2b dX7_append_34 ?_
      rw [(i8_128 (by omega)).1]
      refine zr_bastore dX7_append_35 (hT.a4 rfl) (vp_in_nI (by omega) (by omega)) (i8_128 (by omega)).2 ?_
      rw [nI_clamp (by omega)]
      refine zr_aload_n dX7_append_36 rfl ?_
      refine zr_dup dX7_append_37 rfl ?_
      refine zr_getI dX7_append_38 fd_7_26 rfl (hT.ob rfl) ?_
      rw [zI_n _ _ (Or.inl (by decide)), hl]
      refine zr_iconst (v := nI 1) dX7_append_41 rfl ?_
      refine zr_iaddN dX7_append_42 ?_
      refine zr_putI dX7_append_43 fd_7_26 rfl (hT.ob rfl) ?_
      refine zr_aload_n dX7_append_46 rfl ?_
      refine zr_getI dX7_append_47 fd_7_26 rfl (hT.ob rfl) ?_
      rw [zI_s]
      refine zr_ireturn dX7_append_50 rfl (Nat.le_refl _) (Nat.le_refl _) ?_
      refine h3 hc_7 (by omega) _ ?_ ((zout.sI (by decide) (by decide)).tr (zout.sI (by decide) (by decide)))
      obtain ⟨a1, a2, a3, a4, a5, a6, a7, a8⟩ := hT
      refine ⟨a1, a2, a3, a4, by rw [zI_s, List.length_append]; rfl, by rw [List.length_append, List.length_singleton]; omega, fun i x hx => ?_, fun x hx => ?_⟩
      · rw [zI_n _ _ (Or.inl (by decide))]
        by_cases e : i < t.length
        · rw [List.getElem?_append_left e] at hx
          rw [zI_n _ _ (Or.inr (by omega))]
          exact a7 i x hx
        · have e2 := (List.getElem?_eq_some_iff.mp hx).1
          rw [List.length_append, List.length_singleton] at e2
          have e3 : i = t.length := by omega
          subst e3
          rw [List.getElem?_append_right (Nat.le_refl _), Nat.sub_self] at hx
          injection hx with hx
          rw [zI_s]
          exact hx
      · rcases List.mem_append.mp hx with z | z
        · exact a8 x z
        · exact ⟨j, by omega, List.mem_singleton.mp z⟩
    · refine zr_bipush (v := -4) dX7_append_22 rfl ?_
      refine zr_ireturn dX7_append_24 rfl (Nat.le_refl _) (Nat.le_refl _) ?_
      exact h2 hc_7 (by omega)
  · refine zr_bipush (v := -2) dX7_append_10 rfl ?_
    refine zr_ireturn dX7_append_12 rfl (Nat.le_refl _) (Nat.le_refl _) ?_
    exact h1 hc_7
theorem least_ok (hk : Q (.int (if olb c then nI (oleast c) else -1)) m) : zC (d + 1) M7_leastNumbers 0 0 [.int c] m Q := by
  refine zenterP (Or.inl (by decide +kernel)) rfl (fun h => by cases h) (Nat.le_of_ble_eq_true rfl) ?_
  show zwp _ _ _ _ _ 0 [_] [] 0 0 _
  by_cases hl : olet c
  · rw [if_pos (olb_iff.mpr hl)] at hk
    rcases hl with rfl | rfl | rfl | rfl | rfl | rfl | rfl | rfl
    · refine zr_iload_n dX7_leastNumbers_0 rfl ?_
      refine zr_tableIn (off := 119) (tgt := 120) dX7_leastNumbers_1 (by decide) (by decide) rfl (by decide) ?_
      refine zr_iconst (v := nI 0) dX7_leastNumbers_120 rfl ?_
      refine zr_ireturn dX7_leastNumbers_121 rfl (Nat.le_refl _) (Nat.le_refl _) ?_
      exact hk
    · refine zr_iload_n dX7_leastNumbers_0 rfl ?_
      refine zr_tableIn (off := 121) (tgt := 122) dX7_leastNumbers_1 (by decide) (by decide) rfl (by decide) ?_
      refine zr_iconst (v := nI 1) dX7_leastNumbers_122 rfl ?_
      refine zr_ireturn dX7_leastNumbers_123 rfl (Nat.le_refl _) (Nat.le_refl _) ?_
      exact hk
    · refine zr_iload_n dX7_leastNumbers_0 rfl ?_
      refine zr_tableIn (off := 121) (tgt := 122) dX7_leastNumbers_1 (by decide) (by decide) rfl (by decide) ?_
      refine zr_iconst (v := nI 1) dX7_leastNumbers_122 rfl ?_
      refine zr_ireturn dX7_leastNumbers_123 rfl (Nat.le_refl _) (Nat.le_refl _) ?_
      exact hk
    · refine zr_iload_n dX7_leastNumbers_0 rfl ?_
      refine zr_tableIn (off := 121) (tgt := 122) dX7_leastNumbers_1 (by decide) (by decide) rfl (by decide) ?_
      refine zr_iconst (v := nI 1) dX7_leastNumbers_122 rfl ?_
      refine zr_ireturn dX7_leastNumbers_123 rfl (Nat.le_refl _) (Nat.le_refl _) ?_
      exact hk
    · refine zr_iload_n dX7_leastNumbers_0 rfl ?_
      refine zr_tableIn (off := 123) (tgt := 124) dX7_leastNumbers_1 (by decide) (by decide) rfl (by decide) ?_
      refine zr_iconst (v := nI 2) dX7_leastNumbers_124 rfl ?_
      refine zr_ireturn dX7_leastNumbers_125 rfl (Nat.le_refl _) (Nat.le_refl _) ?_
      exact hk
    · refine zr_iload_n dX7_leastNumbers_0 rfl ?_
      refine zr_tableIn (off := 125) (tgt := 126) dX7_leastNumbers_1 (by decide) (by decide) rfl (by decide) ?_
      refine zr_iconst (v := nI 3) dX7_leastNumbers_126 rfl ?_
      refine zr_ireturn dX7_leastNumbers_127 rfl (Nat.le_refl _) (Nat.le_refl _) ?_
      exact hk
    · refine zr_iload_n dX7_leastNumbers_0 rfl ?_
      refine zr_tableIn (off := 127) (tgt := 128) dX7_leastNumbers_1 (by decide) (by decide) rfl (by decide) ?_
      refine zr_iconst (v := nI 5) dX7_leastNumbers_128 rfl ?_
      refine zr_ireturn dX7_leastNumbers_129 rfl (Nat.le_refl _) (Nat.le_refl _) ?_
      exact hk
    · refine zr_iload_n dX7_leastNumbers_0 rfl ?_
      refine zr_tableIn (off := 127) (tgt := 128) dX7_leastNumbers_1 (by decide) (by decide) rfl (by decide) ?_
      refine zr_iconst (v := nI 5) dX7_leastNumbers_128 rfl ?_
      refine zr_ireturn dX7_leastNumbers_129 rfl (Nat.le_refl _) (Nat.le_refl _) ?_
      exact hk
  · rw [if_neg (fun z => hl (olb_iff.mp z))] at hk
    refine zr_iload_n dX7_leastNumbers_0 rfl ?_
    by_cases h1 : c.toInt < 97 ∨ 122 < c.toInt
    · refine zr_tableOut (tgt := 130) dX7_leastNumbers_1 h1 (by decide) ?_
      refine zr_iconst (v := -1) dX7_leastNumbers_130 rfl ?_
      refine zr_ireturn dX7_leastNumbers_131 rfl (Nat.le_refl _) (Nat.le_refl _) ?_
      exact hk
    · have ho : ∃ j : Nat, j < 26 ∧ c = nI (97 + j) := by
        refine ⟨(c.toInt - 97).toNat, by omega, ?_⟩
        apply Int32.toInt_inj.mp
        rw [nI_toInt (by omega)]
        omega
      obtain ⟨j, hj, rfl⟩ := ho
      have hoff : (#[125, 129, 127, 129, 129, 129, 123, 119, 129, 129, 129, 129, 129, 129, 129, 129, 129, 129, 127, 121, 129, 129, 121, 129, 129, 121] : Array Int)[((nI (97 + j)).toInt - 97).toNat]? = some 129 := by
        rw [nI_toInt (by omega), show ((97 + j : Nat) : Int) - 97 = (j : Int) by omega, Int.toNat_natCast]
        revert hl
        match j, hj with
        | 0, _ | 1, _ | 2, _ | 3, _ | 4, _ | 5, _ | 6, _ | 7, _ | 8, _ | 9, _ | 10, _ | 11, _ | 12, _ | 13, _ | 14, _ | 15, _ | 16, _ | 17, _ | 18, _ | 19, _ | 20, _ | 21, _ | 22, _ | 23, _ | 24, _ | 25, _ => intro hl; first | rfl | exact absurd (by unfold olet; decide) hl
        | k + 26, h => exact absurd h (by omega)
      refine zr_tableIn (off := 129) (tgt := 130) dX7_leastNumbers_1 (fun z => h1 (Or.inl z)) (fun z => h1 (Or.inr z)) hoff (by decide) ?_
      refine zr_iconst (v := -1) dX7_leastNumbers_130 rfl ?_
      refine zr_ireturn dX7_leastNumbers_131 rfl (Nat.le_refl _) (Nat.le_refl _) ?_
      exact hk
theorem most_ok (hl : olet c) (hk : Q (.int (nI (oneed c))) m) : zC (d + 2) M7_mostNumbers 0 0 [.int c] m Q := by
  refine zenterP (Or.inl (by decide +kernel)) rfl (fun h => by cases h) (Nat.le_of_ble_eq_true rfl) ?_
  show zwp _ _ _ _ _ 0 [_] [] 0 0 _
  refine zr_iload_n dX7_mostNumbers_0 rfl ?_
  refine zr_bipush (v := nI 122) dX7_mostNumbers_1 rfl ?_
  refine zr_icmp_ne (tgt := 10) dX7_mostNumbers_3 (by decide) (fun hc_3 => ?_) (fun hc_3 => ?_)
  · refine zr_iload_n dX7_mostNumbers_10 rfl ?_
    refine zr_cS1 rfl dX7_mostNumbers_11 cv_7_53 (Nat.le_of_ble_eq_true rfl) (least_ok ?_)
    rw [if_pos (olb_iff.mpr hl), oleast, if_neg hc_3]
    refine zr_ireturn dX7_mostNumbers_14 rfl (Nat.le_refl _) (Nat.le_refl _) ?_
    exact hk
  · rw [hc_3] at hk
    refine zr_iconst (v := nI 2) dX7_mostNumbers_6 rfl ?_
    refine zr_goto (tgt := 14) dX7_mostNumbers_7 (by decide) ?_
    refine zr_ireturn dX7_mostNumbers_14 rfl (Nat.le_refl _) (Nat.le_refl _) ?_
    exact hk
theorem letter_ok {o : Nat} {x : sO} (hT : TX m t) (hO : TO m os) (h60 : os.length ≤ 60) (hx : os[o]? = some x) (hk : Q (.int x.1) m) : zC (d + 2) M7_letter 0 0 [.ref 663, .int (nI o)] m Q := by
  have ho := lt_of_getO hx
  refine zenterP (Or.inl (by decide +kernel)) rfl (fun h => by cases h) (Nat.le_of_ble_eq_true rfl) ?_
  show zwp _ _ _ _ _ 0 [_, _] [] 0 0 _
  refine zr_iload_n dX7_letter_0 rfl ?_
  refine zr_iconst (v := nI 0) dX7_letter_1 rfl ?_
  refine zr_bipush (v := nI 59) dX7_letter_2 rfl ?_
  refine zr_cSN3 rfl dX7_letter_4 cv_7_22 (Nat.le_of_ble_eq_true rfl) (within_ok ?_)
  refine zr_if_eqB (tgt := 19) dX7_letter_7 (by decide) (fun hc_7 => absurd (hc_7.symm.trans (sin_nI (j := o) (n := 59) (by omega) (by decide))) (by decide)) (fun hc_7 => ?_)
  refine zr_aload_n dX7_letter_10 rfl ?_
  refine zr_getR dX7_letter_11 fd_7_15 rfl (hT.ob rfl) hT.2.2.1 (by decide) ?_
  refine zr_iload_n dX7_letter_14 rfl ?_
  refine zr_ialoadN dX7_letter_15 (hT.a5 rfl) (by omega) (by decide) ?_
  rw [(hO o x hx).1]
  refine zr_goto (tgt := 20) dX7_letter_16 (by decide) ?_
  refine zr_ireturn dX7_letter_20 rfl (Nat.le_refl _) (Nat.le_refl _) ?_
  exact hk
theorem number_ok {o i : Nat} {x : sO} (hT : TX m t) (hO : TO m os) (h60 : os.length ≤ 60) (hx : os[o]? = some x) (hi : i < 5) (hk : Q (.int (x.2 i)) m) : zC (d + 2) M7_number 0 0 [.ref 663, .int (nI o), .int (nI i)] m Q := by
  have ho := lt_of_getO hx
  refine zenterP (Or.inl (by decide +kernel)) rfl (fun h => by cases h) (Nat.le_of_ble_eq_true rfl) ?_
  show zwp _ _ _ _ _ 0 [_, _, _] [] 0 0 _
  refine zr_iload_n dX7_number_0 rfl ?_
  refine zr_iconst (v := nI 0) dX7_number_1 rfl ?_
  refine zr_bipush (v := nI 59) dX7_number_2 rfl ?_
  refine zr_cSN3 rfl dX7_number_4 cv_7_22 (Nat.le_of_ble_eq_true rfl) (within_ok ?_)
  refine zr_if_eqB (tgt := 32) dX7_number_7 (by decide) (fun hc_7 => absurd (hc_7.symm.trans (sin_nI (j := o) (n := 59) (by omega) (by decide))) (by decide)) (fun hc_7 => ?_)
  refine zr_iload_n dX7_number_10 rfl ?_
  refine zr_iconst (v := nI 0) dX7_number_11 rfl ?_
  refine zr_iconst (v := nI 4) dX7_number_12 rfl ?_
  refine zr_cSN3 rfl dX7_number_13 cv_7_22 (Nat.le_of_ble_eq_true rfl) (within_ok ?_)
  refine zr_if_eqB (tgt := 32) dX7_number_16 (by decide) (fun hc_16 => absurd (hc_16.symm.trans (sin_nI (j := i) (n := 4) (by omega) (by decide))) (by decide)) (fun hc_16 => ?_)
  refine zr_aload_n dX7_number_19 rfl ?_
  refine zr_getR dX7_number_20 fd_7_19 rfl (hT.ob rfl) hT.2.2.2.1 (by decide) ?_
  refine zr_iload_n dX7_number_23 rfl ?_
  refine zr_iconst (v := nI 5) dX7_number_24 rfl ?_
  refine zr_imulN dX7_number_25 ?_
  refine zr_iload_n dX7_number_26 rfl ?_
  refine zr_iaddN dX7_number_27 ?_
  refine zr_ialoadN dX7_number_28 (hT.a6 rfl) (by omega) (by decide) ?_
  rw [(hO o x hx).2 i hi]
  refine zr_goto (tgt := 33) dX7_number_29 (by decide) ?_
  refine zr_ireturn dX7_number_33 rfl (Nat.le_refl _) (Nat.le_refl _) ?_
  exact hk
/-! reading -/
theorem begins_ok (hT : TX m t) (hS : TS m q) (ho : q.1.length < 60) (hno : olb c = false → Q (.int (bI false)) m) (hyes : olb c = true → ∀ m', TX m' t → TS m' (q.1, true, c, (fun _ => -1), 0, 0) → zout 663 667 m m' → Q (.int (bI true)) m') : zC (d + 2) M7_beginsOrder 0 0 [.ref 663, .int c] m Q := by
  cases hl : olb c
  · skip
    refine zenterP (Or.inl (by decide +kernel)) rfl (fun h => by cases h) (Nat.le_of_ble_eq_true rfl) ?_
    show zwp _ _ _ _ _ 0 [_, _, zU] [] 0 0 _
    refine zr_iload_n dX7_beginsOrder_0 rfl ?_
    refine zr_cS1 rfl dX7_beginsOrder_1 cv_7_53 (Nat.le_of_ble_eq_true rfl) (least_ok ?_)
    rw [if_neg (by rw [hl]; decide)]
    refine zr_iconst (v := -1) dX7_beginsOrder_4 rfl ?_
    refine zr_icmp_eq (tgt := 17) dX7_beginsOrder_5 (by decide) (fun hc_5 => ?_) (fun hc_5 => absurd rfl hc_5)
    refine zr_iconst (v := bI false) dX7_beginsOrder_17 rfl ?_
    refine zr_zreturnB dX7_beginsOrder_18 rfl (Nat.le_refl _) (Nat.le_refl _) ?_
    exact hno hl
  · have hyes := hyes hl
    have loop : ∀ cc i m1, 5 - i < cc → i ≤ 5 → TX m1 t → zout 663 667 m m1 → zI m1 663 4 = nI q.1.length → zI m1 665 q.1.length = c → TO m1 q.1 → (∀ j, j < i → zI m1 666 (q.1.length * 5 + j) = -1) → zwp (d + 2) M7_beginsOrder 0 0 Q 31 [.ref 663, .int c, .int (nI i)] [] 0 0 m1 := by
      intro cc
      induction cc with
      | zero => intro i m1 h1; omega
      | succ cc ih =>
        intro i m1 h1 h2 hT1 hz h4 h5 hO hN
        refine zr_iload_n dX7_beginsOrder_31 rfl ?_
        refine zr_iconst (v := nI 5) dX7_beginsOrder_32 rfl ?_
        refine zr_icmp_geN (tgt := 56) dX7_beginsOrder_33 (by decide) (by omega) (by omega) (fun hc_33 => ?_) (fun hc_33 => ?_)
        · refine zr_aload_n dX7_beginsOrder_56 rfl ?_
          refine zr_iconst (v := nI 1) dX7_beginsOrder_57 rfl ?_
          refine zr_putZ dX7_beginsOrder_58 fd_7_33 rfl (hT1.ob rfl) (by first | exact Or.inl rfl | exact Or.inr rfl | exact bI_01 _) ?_
          refine zr_aload_n dX7_beginsOrder_61 rfl ?_
          refine zr_iconst (v := nI 0) dX7_beginsOrder_62 rfl ?_
          refine zr_putI dX7_beginsOrder_63 fd_7_50 rfl (hT1.ob rfl) ?_
          refine zr_aload_n dX7_beginsOrder_66 rfl ?_
          refine zr_iconst (v := nI 0) dX7_beginsOrder_67 rfl ?_
          refine zr_putI dX7_beginsOrder_68 fd_7_41 rfl (hT1.ob rfl) ?_
          refine zr_iconst (v := bI true) dX7_beginsOrder_71 rfl ?_
          refine zr_zreturnB dX7_beginsOrder_72 rfl (Nat.le_refl _) (Nat.le_refl _) ?_
          refine hyes _ (((hT1.sI (by omega)).sI (by omega)).sI (by omega)) ⟨?_, ?_, hO.s3.s3.s3, fun _ => ⟨?_, fun j hj => ?_, ?_, zI_s _ _ _ _⟩⟩ (((hz.tr (zout.sI (by decide) (by decide))).tr (zout.sI (by decide) (by decide))).tr (zout.sI (by decide) (by decide)))
          · rw [zI_n _ _ (Or.inr (by decide)), zI_n _ _ (Or.inr (by decide)), zI_n _ _ (Or.inr (by decide))]; exact h4
          · rw [zI_n _ _ (Or.inr (by decide)), zI_n _ _ (Or.inr (by decide)), zI_s]; rfl
          · rw [zI_n _ _ (Or.inl (by decide)), zI_n _ _ (Or.inl (by decide)), zI_n _ _ (Or.inl (by decide))]; exact h5
          · rw [zI_n _ _ (Or.inl (by decide)), zI_n _ _ (Or.inl (by decide)), zI_n _ _ (Or.inl (by decide))]; exact hN j (by omega)
          · rw [zI_n _ _ (Or.inr (by decide)), zI_s]
        · refine zr_aload_n dX7_beginsOrder_36 rfl ?_
          refine zr_getR dX7_beginsOrder_37 fd_7_19 rfl (hT1.ob rfl) hT1.2.2.2.1 (by decide) ?_
          refine zr_aload_n dX7_beginsOrder_40 rfl ?_
          refine zr_getI dX7_beginsOrder_41 fd_7_30 rfl (hT1.ob rfl) ?_
          rw [h4]
          refine zr_iconst (v := nI 5) dX7_beginsOrder_44 rfl ?_
          refine zr_imulN dX7_beginsOrder_45 ?_
          refine zr_iload_n dX7_beginsOrder_46 rfl ?_
          refine zr_iaddN dX7_beginsOrder_47 ?_
          refine zr_iconst (v := -1) dX7_beginsOrder_48 rfl ?_
          refine zr_iastoreN dX7_beginsOrder_49 (hT1.a6 rfl) (by omega) (by decide) ?_
          refine zr_iincN dX7_beginsOrder_50 rfl (by decide) rfl ?_
          dsimp only [zset]
          refine zr_goto (tgt := 31) dX7_beginsOrder_53 (by decide) ?_
          refine ih (i + 1) _ (by omega) (by omega) (hT1.sI (by omega)) (hz.tr (zout.sI (by decide) (by decide))) ((zI_n _ _ (Or.inl (by decide))).trans h4) ((zI_n _ _ (Or.inl (by decide))).trans h5) (hO.s6 (by omega)) (fun j hj => ?_)
          by_cases e : j = i
          · subst e; rw [zI_s]
          · rw [zI_n _ _ (Or.inr (by omega))]; exact hN j (by omega)
    refine zenterP (Or.inl (by decide +kernel)) rfl (fun h => by cases h) (Nat.le_of_ble_eq_true rfl) ?_
    show zwp _ _ _ _ _ 0 [_, _, zU] [] 0 0 _
    refine zr_iload_n dX7_beginsOrder_0 rfl ?_
    refine zr_cS1 rfl dX7_beginsOrder_1 cv_7_53 (Nat.le_of_ble_eq_true rfl) (least_ok ?_)
    rw [if_pos hl]
    refine zr_iconst (v := -1) dX7_beginsOrder_4 rfl ?_
    refine zr_icmp_eq (tgt := 17) dX7_beginsOrder_5 (by decide) (fun hc_5 => absurd hc_5 (nI_ne_m1 (by have := oneed_5 c; unfold oleast; split <;> omega))) (fun hc_5 => ?_)
    refine zr_aload_n dX7_beginsOrder_8 rfl ?_
    refine zr_getI dX7_beginsOrder_9 fd_7_30 rfl (hT.ob rfl) ?_
    rw [hS.1]
    refine zr_bipush (v := nI 60) dX7_beginsOrder_12 rfl ?_
    refine zr_icmp_ltN (tgt := 19) dX7_beginsOrder_14 (by decide) (by omega) (by omega) (fun hc_14 => ?_) (fun hc_14 => by omega)
    refine zr_aload_n dX7_beginsOrder_19 rfl ?_
    refine zr_getR dX7_beginsOrder_20 fd_7_15 rfl (hT.ob rfl) hT.2.2.1 (by decide) ?_
    refine zr_aload_n dX7_beginsOrder_23 rfl ?_
    refine zr_getI dX7_beginsOrder_24 fd_7_30 rfl (hT.ob rfl) ?_
    rw [hS.1]
    refine zr_iload_n dX7_beginsOrder_27 rfl ?_
    refine zr_iastoreN dX7_beginsOrder_28 (hT.a5 rfl) (by omega) (by decide) ?_
    refine zr_iconst (v := nI 0) dX7_beginsOrder_29 rfl ?_
    refine zr_istore_n dX7_beginsOrder_30 (by decide) rfl ?_
    dsimp only [zset]
    exact loop _ 0 _ (Nat.lt_succ_self _) (Nat.zero_le _) (hT.sI (by omega)) (zout.sI (by decide) (by decide)) ((zI_n _ _ (Or.inl (by decide))).trans hS.1) (zI_s _ _ _ _) (hS.2.2.1.s5 (Nat.le_refl _)) (fun j hj => absurd hj (Nat.not_lt_zero j))
end
