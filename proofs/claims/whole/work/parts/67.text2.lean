/-! ===== the class: reading the text ===== -/
def tdig (q : sT) (v : Int32) : sT := if q.2.2.2.2.2 = 0 then (q.1, true, q.2.2.1, fu q.2.2.2.1 q.2.2.2.2.1 (0 * 10 + v), q.2.2.2.2.1 + 1, 1) else (q.1, true, q.2.2.1, fu q.2.2.2.1 (q.2.2.2.2.1 - 1) (q.2.2.2.1 (q.2.2.2.2.1 - 1) * 10 + v), q.2.2.2.2.1, q.2.2.2.2.2 + 1)
section
variable {d : Nat} {Q : Value → zM → Prop} {m m' : zM} {t : List Int32} {q : sT} {c : Int32} {os : List sO}
theorem digit_ok {i : Nat} {v : Int32} (hT : TX m t) (hS : TS m q) (hI : tI q i) (hi : i < 120) (hf : q.2.1 = true) (hno : (q.2.2.2.2.2 = 3 ∨ (q.2.2.2.2.2 = 0 ∧ q.2.2.2.2.1 = oneed q.2.2.1)) → Q (.int (bI false)) m) (hyes : ¬ (q.2.2.2.2.2 = 3 ∨ (q.2.2.2.2.2 = 0 ∧ q.2.2.2.2.1 = oneed q.2.2.1)) → ∀ m', TX m' t → TS m' (tdig q v) → zout 663 667 m m' → Q (.int (bI true)) m') : zC (d + 3) M7_takesDigit 0 0 [.ref 663, .int v] m Q := by
  obtain ⟨i1, i2⟩ := hI
  obtain ⟨i3, i4, i5, i6, i7⟩ := i2 hf
  obtain ⟨s1, s2, s3, s4⟩ := hS
  obtain ⟨s5, s6, s7, s8⟩ := s4 hf
  have ho5 := oneed_5 q.2.2.1
  have go0 : q.2.2.2.2.2 = 0 → ¬ q.2.2.2.2.1 = oneed q.2.2.1 → zwp (d + 3) M7_takesDigit 0 0 Q 36 [.ref 663, .int v, zU] [] 0 0 m := by
    intro g0 gn
    have hb : q.2.2.2.2.1 < 5 := by omega
    have hyes := hyes (fun z => by rcases z with z | z <;> omega)
    rw [tdig, if_pos g0] at hyes
    rw [g0] at s8
    refine zr_aload_n dX7_takesDigit_36 rfl ?_
    refine zr_getI dX7_takesDigit_37 fd_7_41 rfl (hT.ob rfl) ?_
    rw [s8]
    refine zr_if_ne (tgt := 70) dX7_takesDigit_40 (by decide) (fun hc_40 => absurd rfl hc_40) (fun hc_40 => ?_)
    refine zr_aload_n dX7_takesDigit_43 rfl ?_
    refine zr_getR dX7_takesDigit_44 fd_7_19 rfl (hT.ob rfl) hT.2.2.2.1 (by decide) ?_
    refine zr_aload_n dX7_takesDigit_47 rfl ?_
    refine zr_getI dX7_takesDigit_48 fd_7_30 rfl (hT.ob rfl) ?_
    rw [s1]
    refine zr_iconst (v := nI 5) dX7_takesDigit_51 rfl ?_
    refine zr_imulN dX7_takesDigit_52 ?_
    refine zr_aload_n dX7_takesDigit_53 rfl ?_
    refine zr_getI dX7_takesDigit_54 fd_7_50 rfl (hT.ob rfl) ?_
    rw [s7]
    refine zr_iaddN dX7_takesDigit_57 ?_
    refine zr_iconst (v := nI 0) dX7_takesDigit_58 rfl ?_
    refine zr_iastoreN dX7_takesDigit_59 (hT.a6 rfl) (by omega) (by decide) ?_
    refine zr_aload_n dX7_takesDigit_60 rfl ?_
    refine zr_dup dX7_takesDigit_61 rfl ?_
    refine zr_getI dX7_takesDigit_62 fd_7_50 rfl (hT.ob rfl) ?_
    rw [zI_n _ _ (Or.inl (by decide)), s7]
    refine zr_iconst (v := nI 1) dX7_takesDigit_65 rfl ?_
    refine zr_iaddN dX7_takesDigit_66 ?_
    refine zr_putI dX7_takesDigit_67 fd_7_50 rfl (hT.ob rfl) ?_
    refine zr_aload_n dX7_takesDigit_70 rfl ?_
    refine zr_getI dX7_takesDigit_71 fd_7_30 rfl (hT.ob rfl) ?_
    rw [zI_n _ _ (Or.inr (by decide)), zI_n _ _ (Or.inl (by decide)), s1]
    refine zr_iconst (v := nI 5) dX7_takesDigit_74 rfl ?_
    refine zr_imulN dX7_takesDigit_75 ?_
    refine zr_aload_n dX7_takesDigit_76 rfl ?_
    refine zr_getI dX7_takesDigit_77 fd_7_50 rfl (hT.ob rfl) ?_
    rw [zI_s]
    refine zr_iaddN dX7_takesDigit_80 ?_
    refine zr_iconst (v := nI 1) dX7_takesDigit_81 rfl ?_
    refine zr_isubN dX7_takesDigit_82 (by omega) ?_
    rw [show q.1.length * 5 + (q.2.2.2.2.1 + 1) - 1 = q.1.length * 5 + q.2.2.2.2.1 by omega]
    refine zr_istore_n dX7_takesDigit_83 (by decide) rfl ?_
    dsimp only [zset]
    refine zr_aload_n dX7_takesDigit_84 rfl ?_
    refine zr_getR dX7_takesDigit_85 fd_7_19 rfl (hT.ob rfl) hT.2.2.2.1 (by decide) ?_
    refine zr_iload_n dX7_takesDigit_88 rfl ?_
    refine zr_aload_n dX7_takesDigit_89 rfl ?_
    refine zr_getR dX7_takesDigit_90 fd_7_19 rfl (hT.ob rfl) hT.2.2.2.1 (by decide) ?_
    refine zr_iload_n dX7_takesDigit_93 rfl ?_
    refine zr_ialoadN dX7_takesDigit_94 (hT.a6 rfl) (by omega) (by decide) ?_
    rw [zI_n _ _ (Or.inl (by decide)), zI_s]
    refine zr_bipush (v := nI 10) dX7_takesDigit_95 rfl ?_
    refine zr_imul dX7_takesDigit_97 ?_
    refine zr_iload_n dX7_takesDigit_98 rfl ?_
    refine zr_iadd dX7_takesDigit_99 ?_
    refine zr_iastoreN dX7_takesDigit_100 (hT.a6 rfl) (by omega) (by decide) ?_
    refine zr_aload_n dX7_takesDigit_101 rfl ?_
    refine zr_dup dX7_takesDigit_102 rfl ?_
    refine zr_getI dX7_takesDigit_103 fd_7_41 rfl (hT.ob rfl) ?_
    rw [zI_n _ _ (Or.inl (by decide)), zI_n _ _ (Or.inr (by decide)), zI_n _ _ (Or.inl (by decide)), s8]
    refine zr_iconst (v := nI 1) dX7_takesDigit_106 rfl ?_
    refine zr_iadd dX7_takesDigit_107 ?_
    refine zr_putI dX7_takesDigit_108 fd_7_41 rfl (hT.ob rfl) ?_
    refine zr_iconst (v := bI true) dX7_takesDigit_111 rfl ?_
    refine zr_zreturnB dX7_takesDigit_112 rfl (Nat.le_refl _) (Nat.le_refl _) ?_
    refine hyes _ ((((hT.sI (by omega)).sI (by omega)).sI (by omega)).sI (by omega)) ⟨?_, ?_, ((s3.s6 (by omega)).s3.s6 (by omega)).s3, fun _ => ⟨?_, fun j hj => ?_, ?_, ?_⟩⟩ ((((zout.sI (by decide) (by decide)).tr (zout.sI (by decide) (by decide))).tr (zout.sI (by decide) (by decide))).tr (zout.sI (by decide) (by decide)))
    · rw [zI_n _ _ (Or.inr (by decide)), zI_n _ _ (Or.inl (by decide)), zI_n _ _ (Or.inr (by decide)), zI_n _ _ (Or.inl (by decide))]; exact s1
    · rw [zI_n _ _ (Or.inr (by decide)), zI_n _ _ (Or.inl (by decide)), zI_n _ _ (Or.inr (by decide)), zI_n _ _ (Or.inl (by decide)), s2, hf]
    · rw [zI_n _ _ (Or.inl (by decide)), zI_n _ _ (Or.inl (by decide)), zI_n _ _ (Or.inl (by decide)), zI_n _ _ (Or.inl (by decide))]; exact s5
    · rw [zI_n _ _ (Or.inl (by decide))]
      show _ = fu q.2.2.2.1 q.2.2.2.2.1 (0 * 10 + v) j
      by_cases e : j = q.2.2.2.2.1
      · subst e; rw [zI_s, fu_s]; rfl
      · rw [zI_n _ _ (Or.inr (by omega)), zI_n _ _ (Or.inl (by decide)), zI_n _ _ (Or.inr (by omega)), fu_n _ _ e]
        exact s6 j hj
    · rw [zI_n _ _ (Or.inr (by decide)), zI_n _ _ (Or.inl (by decide)), zI_s]
    · rw [zI_s]; rfl
  have go1 : ¬ q.2.2.2.2.2 = 0 → ¬ q.2.2.2.2.2 = 3 → zwp (d + 3) M7_takesDigit 0 0 Q 36 [.ref 663, .int v, zU] [] 0 0 m := by
    intro g0 g3
    have hb := i7 g0
    have hyes := hyes (fun z => by rcases z with z | z <;> omega)
    rw [tdig, if_neg g0] at hyes
    refine zr_aload_n dX7_takesDigit_36 rfl ?_
    refine zr_getI dX7_takesDigit_37 fd_7_41 rfl (hT.ob rfl) ?_
    rw [s8]
    refine zr_if_ne (tgt := 70) dX7_takesDigit_40 (by decide) (fun hc_40 => ?_) (fun hc_40 => absurd ((nI_eq (by omega) (by decide)).mp hc_40) g0)
    refine zr_aload_n dX7_takesDigit_70 rfl ?_
    refine zr_getI dX7_takesDigit_71 fd_7_30 rfl (hT.ob rfl) ?_
    rw [s1]
    refine zr_iconst (v := nI 5) dX7_takesDigit_74 rfl ?_
    refine zr_imulN dX7_takesDigit_75 ?_
    refine zr_aload_n dX7_takesDigit_76 rfl ?_
    refine zr_getI dX7_takesDigit_77 fd_7_50 rfl (hT.ob rfl) ?_
    rw [s7]
    refine zr_iaddN dX7_takesDigit_80 ?_
    refine zr_iconst (v := nI 1) dX7_takesDigit_81 rfl ?_
    refine zr_isubN dX7_takesDigit_82 (by omega) ?_
    rw [show q.1.length * 5 + q.2.2.2.2.1 - 1 = q.1.length * 5 + (q.2.2.2.2.1 - 1) by omega]
    refine zr_istore_n dX7_takesDigit_83 (by decide) rfl ?_
    dsimp only [zset]
    refine zr_aload_n dX7_takesDigit_84 rfl ?_
    refine zr_getR dX7_takesDigit_85 fd_7_19 rfl (hT.ob rfl) hT.2.2.2.1 (by decide) ?_
    refine zr_iload_n dX7_takesDigit_88 rfl ?_
    refine zr_aload_n dX7_takesDigit_89 rfl ?_
    refine zr_getR dX7_takesDigit_90 fd_7_19 rfl (hT.ob rfl) hT.2.2.2.1 (by decide) ?_
    refine zr_iload_n dX7_takesDigit_93 rfl ?_
    refine zr_ialoadN dX7_takesDigit_94 (hT.a6 rfl) (by omega) (by decide) ?_
    rw [s6 _ (by omega)]
    refine zr_bipush (v := nI 10) dX7_takesDigit_95 rfl ?_
    refine zr_imul dX7_takesDigit_97 ?_
    refine zr_iload_n dX7_takesDigit_98 rfl ?_
    refine zr_iadd dX7_takesDigit_99 ?_
    refine zr_iastoreN dX7_takesDigit_100 (hT.a6 rfl) (by omega) (by decide) ?_
    refine zr_aload_n dX7_takesDigit_101 rfl ?_
    refine zr_dup dX7_takesDigit_102 rfl ?_
    refine zr_getI dX7_takesDigit_103 fd_7_41 rfl (hT.ob rfl) ?_
    rw [zI_n _ _ (Or.inl (by decide)), s8]
    refine zr_iconst (v := nI 1) dX7_takesDigit_106 rfl ?_
    refine zr_iaddN dX7_takesDigit_107 ?_
    refine zr_putI dX7_takesDigit_108 fd_7_41 rfl (hT.ob rfl) ?_
    refine zr_iconst (v := bI true) dX7_takesDigit_111 rfl ?_
    refine zr_zreturnB dX7_takesDigit_112 rfl (Nat.le_refl _) (Nat.le_refl _) ?_
    refine hyes _ ((hT.sI (by omega)).sI (by omega)) ⟨?_, ?_, (s3.s6 (by omega)).s3, fun _ => ⟨?_, fun j hj => ?_, ?_, ?_⟩⟩ ((zout.sI (by decide) (by decide)).tr (zout.sI (by decide) (by decide)))
    · rw [zI_n _ _ (Or.inr (by decide)), zI_n _ _ (Or.inl (by decide))]; exact s1
    · rw [zI_n _ _ (Or.inr (by decide)), zI_n _ _ (Or.inl (by decide)), s2, hf]
    · rw [zI_n _ _ (Or.inl (by decide)), zI_n _ _ (Or.inl (by decide))]; exact s5
    · rw [zI_n _ _ (Or.inl (by decide))]
      show _ = fu q.2.2.2.1 (q.2.2.2.2.1 - 1) (q.2.2.2.1 (q.2.2.2.2.1 - 1) * 10 + v) j
      by_cases e : j = q.2.2.2.2.1 - 1
      · subst e; rw [zI_s, fu_s]; rfl
      · rw [zI_n _ _ (Or.inr (by omega)), fu_n _ _ e]
        exact s6 j hj
    · rw [zI_n _ _ (Or.inr (by decide)), zI_n _ _ (Or.inl (by decide))]; exact s7
    · rw [zI_s]
  refine zenterP (Or.inl (by decide +kernel)) rfl (fun h => by cases h) (Nat.le_of_ble_eq_true rfl) ?_
  show zwp _ _ _ _ _ 0 [_, _, zU] [] 0 0 _
  refine zr_aload_n dX7_takesDigit_0 rfl ?_
  refine zr_getI dX7_takesDigit_1 fd_7_41 rfl (hT.ob rfl) ?_
  rw [s8]
  refine zr_iconst (v := nI 3) dX7_takesDigit_4 rfl ?_
  refine zr_icmp_eqN (tgt := 34) dX7_takesDigit_5 (by decide) (by omega) (by omega) (fun hc_5 => ?_) (fun hc_5 => ?_)
  · refine zr_iconst (v := bI false) dX7_takesDigit_34 rfl ?_
    refine zr_zreturnB dX7_takesDigit_35 rfl (Nat.le_refl _) (Nat.le_refl _) ?_
    first
    | exact hno (Or.inl hc_5)
    | exact hno (Or.inr ⟨g0, hc_31⟩)
    | fail "none"
  · refine zr_aload_n dX7_takesDigit_8 rfl ?_
    refine zr_getI dX7_takesDigit_9 fd_7_41 rfl (hT.ob rfl) ?_
    rw [s8]
    refine zr_if_ne (tgt := 36) dX7_takesDigit_12 (by decide) (fun hc_12 => ?_) (fun hc_12 => ?_)
    · have g0 : ¬ q.2.2.2.2.2 = 0 := fun z => hc_12 (by rw [z]; rfl)
      first
      | exact go0 g0 hc_31
      | exact go1 g0 hc_5
      | fail "none"
    · have g0 : q.2.2.2.2.2 = 0 := (nI_eq (by omega) (by decide)).mp hc_12
      refine zr_aload_n dX7_takesDigit_15 rfl ?_
      refine zr_getI dX7_takesDigit_16 fd_7_50 rfl (hT.ob rfl) ?_
      rw [s7]
      refine zr_aload_n dX7_takesDigit_19 rfl ?_
      refine zr_getR dX7_takesDigit_20 fd_7_15 rfl (hT.ob rfl) hT.2.2.1 (by decide) ?_
      refine zr_aload_n dX7_takesDigit_23 rfl ?_
      refine zr_getI dX7_takesDigit_24 fd_7_30 rfl (hT.ob rfl) ?_
      rw [s1]
      refine zr_ialoadN dX7_takesDigit_27 (hT.a5 rfl) (by omega) (by decide) ?_
      rw [s5]
      refine zr_cS1 rfl dX7_takesDigit_28 cv_7_57 (Nat.le_of_ble_eq_true rfl) (most_ok i4 ?_)
      refine zr_icmp_neN (tgt := 36) dX7_takesDigit_31 (by decide) (by omega) (by omega) (fun hc_31 => ?_) (fun hc_31 => ?_)
      · first
        | exact go0 g0 hc_31
        | exact go1 g0 hc_5
        | fail "none"
      · refine zr_iconst (v := bI false) dX7_takesDigit_34 rfl ?_
        refine zr_zreturnB dX7_takesDigit_35 rfl (Nat.le_refl _) (Nat.le_refl _) ?_
        first
        | exact hno (Or.inl hc_5)
        | exact hno (Or.inr ⟨g0, hc_31⟩)
        | fail "none"
theorem Ttakes_ok {i : Nat} (hT : TX m t) (hS : TS m q) (hI : tI q i) (hi : i < 120) (hno : tst q c = none → Q (.int (bI false)) m) (hyes : ∀ q', tst q c = some q' → ∀ m', TX m' t → TS m' q' → zout 663 667 m m' → Q (.int (bI true)) m') : zC (d + 4) M7_takes 0 0 [.ref 663, .int c] m Q := by
  have hT' := hT
  obtain ⟨s1, s2, s3, s4⟩ := hS
  obtain ⟨i1, i2⟩ := hI
  by_cases c0 : c = nI 32
  · have hyes := hyes _ (by unfold tst; rw [if_pos c0])
    refine zenterP (Or.inl (by decide +kernel)) rfl (fun h => by cases h) (Nat.le_of_ble_eq_true rfl) ?_
    show zwp _ _ _ _ _ 0 [_, _] [] 0 0 _
    refine zr_iload_n dX7_takes_0 rfl ?_
    refine zr_bipush (v := nI 32) dX7_takes_1 rfl ?_
    refine zr_icmp_ne (tgt := 13) dX7_takes_3 (by decide) (fun hc_3 => absurd c0 hc_3) (fun hc_3 => ?_)
    refine zr_aload_n dX7_takes_6 rfl ?_
    refine zr_iconst (v := nI 0) dX7_takes_7 rfl ?_
    refine zr_putI dX7_takes_8 fd_7_41 rfl (hT.ob rfl) ?_
    refine zr_iconst (v := bI true) dX7_takes_11 rfl ?_
    refine zr_zreturnB dX7_takes_12 rfl (Nat.le_refl _) (Nat.le_refl _) ?_
    refine hyes _ (hT.sI (by omega)) ⟨?_, ?_, s3.s3, fun z => ?_⟩ (zout.sI (by decide) (by decide))
    · rw [zI_n _ _ (Or.inr (by decide))]; exact s1
    · rw [zI_n _ _ (Or.inr (by decide))]; exact s2
    · obtain ⟨a1, a2, a3, a4⟩ := s4 z
      exact ⟨by rw [zI_n _ _ (Or.inl (by decide))]; exact a1, fun j hj => by rw [zI_n _ _ (Or.inl (by decide))]; exact a2 j hj, by rw [zI_n _ _ (Or.inr (by decide))]; exact a3, by rw [zI_s]⟩
  · cases hf : q.2.1
    · have e1 : tst q c = if olb c = true then some (q.1, true, c, (fun _ => -1), 0, 0) else none := by
        unfold tst
        rw [if_neg c0, if_pos hf]
      rw [e1] at hno hyes
      refine zenterP (Or.inl (by decide +kernel)) rfl (fun h => by cases h) (Nat.le_of_ble_eq_true rfl) ?_
      show zwp _ _ _ _ _ 0 [_, _] [] 0 0 _
      refine zr_iload_n dX7_takes_0 rfl ?_
      refine zr_bipush (v := nI 32) dX7_takes_1 rfl ?_
      refine zr_icmp_ne (tgt := 13) dX7_takes_3 (by decide) (fun hc_3 => ?_) (fun hc_3 => absurd hc_3 c0)
      refine zr_aload_n dX7_takes_13 rfl ?_
      refine zr_getI dX7_takes_14 fd_7_33 rfl (hT.ob rfl) ?_
      rw [s2, hf]
      refine zr_if_neB (tgt := 26) dX7_takes_17 (by decide) (fun hc_17 => absurd hc_17 (by decide)) (fun hc_17 => ?_)
      refine zr_aload_n dX7_takes_20 rfl ?_
      refine zr_iload_n dX7_takes_21 rfl ?_
      refine zr_cV1 rfl dX7_takes_22 cv_7_44 (hT.ob rfl) (Nat.le_of_ble_eq_true rfl) (begins_ok hT ⟨s1, s2, s3, s4⟩ (by omega) (fun e => ?_) (fun e m' t' s' o' => ?_))
      rotate_left
      · refine zr_zreturnB dX7_takes_25 rfl (Nat.le_refl _) (Nat.le_refl _) ?_
        exact hyes _ (by rw [if_pos e]) m' t' s' o'
      · refine zr_zreturnB dX7_takes_25 rfl (Nat.le_refl _) (Nat.le_refl _) ?_
        exact hno (by rw [if_neg (by rw [e]; decide)])
    · obtain ⟨i3, i4, i5, i6, i7⟩ := i2 hf
      obtain ⟨s5, s6, s7, s8⟩ := s4 hf
      have ho5 := oneed_5 q.2.2.1
      have hfn : ¬ q.2.1 = false := by rw [hf]; decide
      have hol : oleast q.2.2.1 ≤ 5 := by unfold oleast; split <;> omega
      have nfig : sfig c = false → zwp (d + 4) M7_takes 0 0 Q 47 [.ref 663, .int c] [] 0 0 m := by
        intro ef
        have e1 : tst q c = if c = nI 59 ∧ oleast q.2.2.1 ≤ q.2.2.2.2.1 then some (q.1 ++ [(q.2.2.1, q.2.2.2.1)], false, q.2.2.1, q.2.2.2.1, q.2.2.2.2.1, q.2.2.2.2.2) else none := by
          unfold tst
          rw [if_neg c0, if_neg hfn, if_neg (by rw [ef]; decide)]
        rw [e1] at hno hyes
        refine zr_iload_n dX7_takes_47 rfl ?_
        refine zr_bipush (v := nI 59) dX7_takes_48 rfl ?_
        refine zr_icmp_ne (tgt := 72) dX7_takes_50 (by decide) (fun hc_50 => ?_) (fun hc_50 => ?_)
        · refine zr_iconst (v := bI false) dX7_takes_72 rfl ?_
          refine zr_zreturnB dX7_takes_73 rfl (Nat.le_refl _) (Nat.le_refl _) ?_
          first
          | exact hno (by rw [if_neg (fun z => hc_50 z.1)])
          | exact hno (by rw [if_neg (fun z => absurd z.2 (by omega))])
          | fail "none"
        · refine zr_aload_n dX7_takes_53 rfl ?_
          refine zr_getI dX7_takes_54 fd_7_50 rfl (hT.ob rfl) ?_
          rw [s7]
          refine zr_aload_n dX7_takes_57 rfl ?_
          refine zr_getR dX7_takes_58 fd_7_15 rfl (hT.ob rfl) hT.2.2.1 (by decide) ?_
          refine zr_aload_n dX7_takes_61 rfl ?_
          refine zr_getI dX7_takes_62 fd_7_30 rfl (hT.ob rfl) ?_
          rw [s1]
          refine zr_ialoadN dX7_takes_65 (hT.a5 rfl) (by omega) (by decide) ?_
          rw [s5]
          refine zr_cS1 rfl dX7_takes_66 cv_7_53 (Nat.le_of_ble_eq_true rfl) (least_ok ?_)
          rw [if_pos (olb_iff.mpr i4)]
          refine zr_icmp_geN (tgt := 74) dX7_takes_69 (by decide) (by omega) (by omega) (fun hc_69 => ?_) (fun hc_69 => ?_)
          · refine zr_aload_n dX7_takes_74 rfl ?_
            refine zr_iconst (v := nI 0) dX7_takes_75 rfl ?_
            refine zr_putZ dX7_takes_76 fd_7_33 rfl (hT.ob rfl) (by first | exact Or.inl rfl | exact Or.inr rfl | exact bI_01 _) ?_
            refine zr_aload_n dX7_takes_79 rfl ?_
            refine zr_dup dX7_takes_80 rfl ?_
            refine zr_getI dX7_takes_81 fd_7_30 rfl (hT.ob rfl) ?_
            rw [zI_n _ _ (Or.inr (by decide)), s1]
            refine zr_iconst (v := nI 1) dX7_takes_84 rfl ?_
            refine zr_iaddN dX7_takes_85 ?_
            refine zr_putI dX7_takes_86 fd_7_30 rfl (hT.ob rfl) ?_
            refine zr_iconst (v := bI true) dX7_takes_89 rfl ?_
            refine zr_zreturnB dX7_takes_90 rfl (Nat.le_refl _) (Nat.le_refl _) ?_
            refine hyes _ (by rw [if_pos ⟨hc_50, hc_69⟩]) _ ((hT.sI (by omega)).sI (by omega)) ⟨?_, ?_, fun o x hx => ?_, fun z => by cases z⟩ ((zout.sI (by decide) (by decide)).tr (zout.sI (by decide) (by decide)))
            · rw [zI_s]; show _ = nI (q.1 ++ [(q.2.2.1, q.2.2.2.1)]).length; rw [List.length_append]; rfl
            · rw [zI_n _ _ (Or.inr (by decide)), zI_s]; rfl
            · rw [zI_n _ _ (Or.inl (by decide)), zI_n _ _ (Or.inl (by decide))]
              have e2 := lt_of_getO hx
              rw [List.length_append, List.length_singleton] at e2
              have hx : (q.1 ++ [(q.2.2.1, q.2.2.2.1)])[o]? = some x := hx
              by_cases e : o < q.1.length
              · rw [List.getElem?_append_left e] at hx
                obtain ⟨b1, b2⟩ := s3 o x hx
                exact ⟨b1, fun j hj => by rw [zI_n _ _ (Or.inl (by decide)), zI_n _ _ (Or.inl (by decide))]; exact b2 j hj⟩
              · have e3 : o = q.1.length := by omega
                subst e3
                rw [List.getElem?_append_right (Nat.le_refl _), Nat.sub_self] at hx
                injection hx with hx
                subst hx
                exact ⟨s5, fun j hj => by rw [zI_n _ _ (Or.inl (by decide)), zI_n _ _ (Or.inl (by decide))]; exact s6 j hj⟩
          · refine zr_iconst (v := bI false) dX7_takes_72 rfl ?_
            refine zr_zreturnB dX7_takes_73 rfl (Nat.le_refl _) (Nat.le_refl _) ?_
            first
            | exact hno (by rw [if_neg (fun z => hc_50 z.1)])
            | exact hno (by rw [if_neg (fun z => absurd z.2 (by omega))])
            | fail "none"
      refine zenterP (Or.inl (by decide +kernel)) rfl (fun h => by cases h) (Nat.le_of_ble_eq_true rfl) ?_
      show zwp _ _ _ _ _ 0 [_, _] [] 0 0 _
      refine zr_iload_n dX7_takes_0 rfl ?_
      refine zr_bipush (v := nI 32) dX7_takes_1 rfl ?_
      refine zr_icmp_ne (tgt := 13) dX7_takes_3 (by decide) (fun hc_3 => ?_) (fun hc_3 => absurd hc_3 c0)
      refine zr_aload_n dX7_takes_13 rfl ?_
      refine zr_getI dX7_takes_14 fd_7_33 rfl (hT.ob rfl) ?_
      rw [s2, hf]
      refine zr_if_neB (tgt := 26) dX7_takes_17 (by decide) (fun hc_17 => ?_) (fun hc_17 => absurd hc_17 (by decide))
      refine zr_iload_n dX7_takes_26 rfl ?_
      refine zr_bipush (v := nI 48) dX7_takes_27 rfl ?_
      refine zr_icmp_lt (tgt := 47) dX7_takes_29 (by decide) (fun hc_29 => ?_) (fun hc_29 => ?_)
      · have ef : sfig c = false := by
          have e9 : ¬ (48 : Int32) ≤ c := Int32.not_le.mpr hc_29
          unfold sfig sin
          rw [decide_eq_false e9]
          rfl
        exact nfig ef
      · refine zr_iload_n dX7_takes_32 rfl ?_
        refine zr_bipush (v := nI 57) dX7_takes_33 rfl ?_
        refine zr_icmp_gt (tgt := 47) dX7_takes_35 (by decide) (fun hc_35 => ?_) (fun hc_35 => ?_)
        · have ef : sfig c = false := by
            have e9 : ¬ c ≤ (57 : Int32) := Int32.not_le.mpr hc_35
            unfold sfig sin
            rw [decide_eq_false e9, Bool.and_false]
          exact nfig ef
        · have ef : sfig c = true := by
            have e8 : (48 : Int32) ≤ c := Int32.not_lt.mp hc_29
            have e9 : c ≤ (57 : Int32) := Int32.not_lt.mp hc_35
            unfold sfig sin
            rw [decide_eq_true e8, decide_eq_true e9]
            rfl
          have e1 : tst q c = if q.2.2.2.2.2 = 3 ∨ (q.2.2.2.2.2 = 0 ∧ q.2.2.2.2.1 = oneed q.2.2.1) then none else some (tdig q (c - 48)) := by
            unfold tst tdig
            rw [if_neg c0, if_neg hfn, if_pos ef]
            split
            · rfl
            · split <;> rfl
          rw [e1] at hno hyes
          refine zr_aload_n dX7_takes_38 rfl ?_
          refine zr_iload_n dX7_takes_39 rfl ?_
          refine zr_bipush (v := nI 48) dX7_takes_40 rfl ?_
          refine zr_isub dX7_takes_42 ?_
          refine zr_cV1 rfl dX7_takes_43 cv_7_47 (hT.ob rfl) (Nat.le_of_ble_eq_true rfl) (digit_ok hT ⟨s1, s2, s3, s4⟩ ⟨i1, i2⟩ hi hf (fun e => ?_) (fun e m' t' s' o' => ?_))
          rotate_left
          · refine zr_zreturnB dX7_takes_46 rfl (Nat.le_refl _) (Nat.le_refl _) ?_
            exact hyes _ (by rw [if_neg e]; rfl) m' t' s' o'
          · refine zr_zreturnB dX7_takes_46 rfl (Nat.le_refl _) (Nat.le_refl _) ?_
            exact hno (by rw [if_pos e])
theorem tg_get {i : Nat} (h : i < t.length) : t[i]? = some (tg t i) := by
  unfold tg
  rw [List.getD_eq_getElem?_getD, List.getElem?_eq_getElem h]
  rfl
theorem findFault_ok (hT : TX m t) (hno : ∀ p, tEnd t = (p, none) → ∀ m', TX m' t → zout 663 667 m m' → Q (.int (nI p)) m') (hyes : ∀ p os, tEnd t = (p, some os) → ∀ m', TX m' t → zI m' 663 4 = nI os.length → os.length ≤ 60 → TO m' os → zout 663 667 m m' → Q (.int (-1)) m') : zC (d + 5) M7_findFault 0 0 [.ref 663] m Q := by
  have h120 := hT.2.2.2.2.2.1
  have loop : ∀ cc i q m1, t.length - i < cc → i ≤ t.length → TX m1 t → TS m1 q → tI q i → tAt t i q → zout 663 667 m m1 → zwp (d + 5) M7_findFault 0 0 Q 12 [.ref 663, .int (nI i)] [] 0 0 m1 := by
    intro cc
    induction cc with
    | zero => intro i q m1 h1; omega
    | succ cc ih =>
      intro i q m1 h1 h2 hT1 hS hI hA hz
      have hl := hT1.2.2.2.2.1
      have hq : q.1.length ≤ 60 := by have := hI.1; omega
      have take : i < t.length → zwp (d + 5) M7_findFault 0 0 Q 27 [.ref 663, .int (nI i)] [.int (tg t i), .ref 663] 0 0 m1 := by
        intro hi
        cases e : tst q (tg t i) with
        | none =>
          refine zr_cV1 rfl dX7_findFault_27 cv_7_37 (hT1.ob rfl) (Nat.le_of_ble_eq_true rfl) (Ttakes_ok hT1 hS hI (by omega) (fun _ => ?_) (fun q' e' => by rw [e] at e'; cases e'))
          refine zr_if_neB (tgt := 35) dX7_findFault_30 (by decide) (fun hc_30 => absurd hc_30 (by decide)) (fun hc_30 => ?_)
          refine zr_iload_n dX7_findFault_33 rfl ?_
          refine zr_ireturn dX7_findFault_34 rfl (Nat.le_refl _) (Nat.le_refl _) ?_
          exact hno i (tBad.fin ⟨q, hA, h2, Or.inl ⟨hi, e⟩⟩) m1 hT1 hz
        | some q' =>
          refine zr_cV1 rfl dX7_findFault_27 cv_7_37 (hT1.ob rfl) (Nat.le_of_ble_eq_true rfl) (Ttakes_ok hT1 hS hI (by omega) (fun e' => by rw [e] at e'; cases e') (fun q2 e' m' t' s' o' => ?_))
          refine zr_if_neB (tgt := 35) dX7_findFault_30 (by decide) (fun hc_30 => ?_) (fun hc_30 => absurd hc_30 (by decide))
          rw [e] at e'
          injection e' with e'
          subst e'
          refine zr_iincN dX7_findFault_35 rfl (by decide) rfl ?_
          dsimp only [zset]
          refine zr_goto (tgt := 12) dX7_findFault_38 (by decide) ?_
          exact ih (i + 1) q' m' (by omega) (by omega) t' s' (hI.step e) (hA.step e) (hz.tr o')
      refine zr_iload_n dX7_findFault_12 rfl ?_
      refine zr_aload_n dX7_findFault_13 rfl ?_
      refine zr_getI dX7_findFault_14 fd_7_26 rfl (hT1.ob rfl) ?_
      rw [hl]
      refine zr_icmp_geN (tgt := 41) dX7_findFault_17 (by decide) (by omega) (by omega) (fun hc_17 => ?_) (fun hc_17 => ?_)
      · have ei : i = t.length := by omega
        subst ei
        refine zr_aload_n dX7_findFault_41 rfl ?_
        refine zr_getI dX7_findFault_42 fd_7_33 rfl (hT1.ob rfl) ?_
        rw [hS.2.1]
        refine zr_if_neB (tgt := 55) dX7_findFault_45 (by decide) (fun hc_45 => ?_) (fun hc_45 => ?_)
        · have eb : (q.2.1 || q.1.isEmpty) = true := by rw [hc_45]; rfl
          refine zr_aload_n dX7_findFault_55 rfl ?_
          refine zr_getI dX7_findFault_56 fd_7_26 rfl (hT1.ob rfl) ?_
          rw [hl]
          refine zr_goto (tgt := 63) dX7_findFault_59 (by decide) ?_
          refine zr_ireturn dX7_findFault_63 rfl (Nat.le_refl _) (Nat.le_refl _) ?_
          first
          | exact hno t.length (tBad.fin ⟨q, hA, Nat.le_refl _, Or.inr ⟨rfl, eb⟩⟩) m1 hT1 hz
          | exact hyes t.length q.1 (by unfold tEnd; rw [show tScan t t.length = (t.length, some q) from hA]; dsimp only; rw [eb]; rfl) m1 hT1 hS.1 hq hS.2.2.1 hz
          | fail "none"
        · refine zr_aload_n dX7_findFault_48 rfl ?_
          refine zr_getI dX7_findFault_49 fd_7_30 rfl (hT1.ob rfl) ?_
          rw [hS.1]
          refine zr_if_ne (tgt := 62) dX7_findFault_52 (by decide) (fun hc_52 => ?_) (fun hc_52 => ?_)
          · have eb : (q.2.1 || q.1.isEmpty) = false := by
              have : ¬ q.1.length = 0 := fun z => hc_52 (by rw [z]; rfl)
              rw [hc_45]
              cases hq0 : q.1 with
              | nil => rw [hq0] at this; exact absurd rfl this
              | cons a l => rfl
            refine zr_iconst (v := -1) dX7_findFault_62 rfl ?_
            refine zr_ireturn dX7_findFault_63 rfl (Nat.le_refl _) (Nat.le_refl _) ?_
            first
            | exact hno t.length (tBad.fin ⟨q, hA, Nat.le_refl _, Or.inr ⟨rfl, eb⟩⟩) m1 hT1 hz
            | exact hyes t.length q.1 (by unfold tEnd; rw [show tScan t t.length = (t.length, some q) from hA]; dsimp only; rw [eb]; rfl) m1 hT1 hS.1 hq hS.2.2.1 hz
            | fail "none"
          · have eb : (q.2.1 || q.1.isEmpty) = true := by
              have : q.1.length = 0 := (nI_eq (by omega) (by decide)).mp hc_52
              rw [List.length_eq_zero_iff.mp this]
              simp
            refine zr_aload_n dX7_findFault_55 rfl ?_
            refine zr_getI dX7_findFault_56 fd_7_26 rfl (hT1.ob rfl) ?_
            rw [hl]
            refine zr_goto (tgt := 63) dX7_findFault_59 (by decide) ?_
            refine zr_ireturn dX7_findFault_63 rfl (Nat.le_refl _) (Nat.le_refl _) ?_
            first
            | exact hno t.length (tBad.fin ⟨q, hA, Nat.le_refl _, Or.inr ⟨rfl, eb⟩⟩) m1 hT1 hz
            | exact hyes t.length q.1 (by unfold tEnd; rw [show tScan t t.length = (t.length, some q) from hA]; dsimp only; rw [eb]; rfl) m1 hT1 hS.1 hq hS.2.2.1 hz
            | fail "none"
      · refine zr_aload_n dX7_findFault_20 rfl ?_
        refine zr_aload_n dX7_findFault_21 rfl ?_
        refine zr_getR dX7_findFault_22 fd_7_9 rfl (hT1.ob rfl) hT1.2.1 (by decide) ?_
        refine zr_iload_n dX7_findFault_25 rfl ?_
        refine zr_baload dX7_findFault_26 (hT1.a4 rfl) (vp_in_nI (by omega) (by omega)) ?_
        rw [nI_clamp (by omega), hT1.2.2.2.2.2.2.1 i _ (tg_get (by omega))]
        exact take hc_17
  refine zenterP (Or.inl (by decide +kernel)) rfl (fun h => by cases h) (Nat.le_of_ble_eq_true rfl) ?_
  show zwp _ _ _ _ _ 0 [_, zU] [] 0 0 _
  refine zr_aload_n dX7_findFault_0 rfl ?_
  refine zr_iconst (v := nI 0) dX7_findFault_1 rfl ?_
  refine zr_putI dX7_findFault_2 fd_7_30 rfl (hT.ob rfl) ?_
  refine zr_aload_n dX7_findFault_5 rfl ?_
  refine zr_iconst (v := nI 0) dX7_findFault_6 rfl ?_
  refine zr_putZ dX7_findFault_7 fd_7_33 rfl (hT.ob rfl) (by first | exact Or.inl rfl | exact Or.inr rfl | exact bI_01 _) ?_
  refine zr_iconst (v := nI 0) dX7_findFault_10 rfl ?_
  refine zr_istore_n dX7_findFault_11 (by decide) rfl ?_
  dsimp only [zset]
  refine loop _ 0 ([], false, 0, (fun _ => -1), 0, 0) _ (Nat.lt_succ_self _) (Nat.zero_le _) ((hT.sI (by omega)).sI (by omega)) ⟨?_, ?_, (fun o x hx => by cases hx), (fun z => by cases z)⟩ ⟨Nat.zero_le _, fun z => by cases z⟩ rfl ((zout.sI (by decide) (by decide)).tr (zout.sI (by decide) (by decide)))
  · rw [zI_n _ _ (Or.inr (by decide)), zI_s]
    rfl
  · rw [zI_s]
    rfl
end
