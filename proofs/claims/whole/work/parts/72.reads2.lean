/-! ===== the class LinkNames: reads, whole ===== -/
theorem tScan_inv {t : List Int32} : ∀ i, (tScan t i).1 ≤ i ∧ ∀ q, (tScan t i).2 = some q → (tScan t i).1 = i ∧ (∀ x ∈ q.1, olet x.1) ∧ (q.2.1 = true → olet q.2.2.1)
  | 0 => ⟨Nat.le_refl _, fun q hq => by
      injection hq with hq
      subst hq
      exact ⟨rfl, (fun x hx => by cases hx), (fun z => by cases z)⟩⟩
  | i + 1 => by
    obtain ⟨h1, h2⟩ := tScan_inv (t := t) i
    rw [tScan]
    cases hs : tScan t i with
    | mk p r =>
      rw [hs] at h1 h2
      cases r with
      | none => exact ⟨Nat.le_succ_of_le h1, fun q hq => by cases hq⟩
      | some q0 =>
        obtain ⟨-, h3, h4⟩ := h2 q0 rfl
        dsimp only
        cases he : tst q0 (tg t i) with
        | none => exact ⟨Nat.le_succ i, fun q hq => by cases hq⟩
        | some q1 =>
          refine ⟨Nat.le_refl _, fun q hq => ?_⟩
          injection hq with hq
          subst hq
          refine ⟨rfl, ?_⟩
          unfold tst at he
          split at he
          · injection he with he
            subst he
            exact ⟨h3, h4⟩
          · split at he
            · split at he
              · rename_i z
                injection he with he
                subst he
                exact ⟨h3, fun _ => olb_iff.mp z⟩
              · cases he
            · rename_i hf
              have hb : q0.2.1 = true := by simpa using hf
              split at he
              · split at he
                · cases he
                · split at he
                  · injection he with he
                    subst he
                    exact ⟨h3, fun _ => h4 hb⟩
                  · injection he with he
                    subst he
                    exact ⟨h3, fun _ => h4 hb⟩
              · split at he
                · injection he with he
                  subst he
                  refine ⟨fun x hx => ?_, fun z => by cases z⟩
                  rcases List.mem_append.mp hx with z | z
                  · exact h3 x z
                  · rw [List.mem_singleton.mp z]; exact h4 hb
                · cases he
theorem tEnd_inv {t : List Int32} : (tEnd t).1 ≤ t.length ∧ ∀ os, (tEnd t).2 = some os → (tEnd t).1 = t.length ∧ ∀ x ∈ os, olet x.1 := by
  obtain ⟨h1, h2⟩ := tScan_inv (t := t) t.length
  unfold tEnd
  cases hs : tScan t t.length with
  | mk p r =>
    rw [hs] at h1 h2
    cases r with
    | none => exact ⟨h1, fun os ho => by cases ho⟩
    | some q =>
      obtain ⟨h3, h4, -⟩ := h2 q rfl
      dsimp only
      split
      · exact ⟨Nat.le_refl _, fun os ho => by cases ho⟩
      · refine ⟨h1, fun os ho => ?_⟩
        injection ho with ho
        subst ho
        exact ⟨h3, h4⟩
section
variable {d : Nat} {Q : Value → zM → Prop} {m m' : zM} {w : sW} {s : sS} {os : List sO}
theorem reads_c (hR : RC m w) (hs : sOK w.1) (hF : ∀ os, tEnd w.2.2.1 = (w.2.2.1.length, some os) → fX os w.1) (hk : ∀ m', RC m' (wreads w).2 → zout 2 667 m m' → Q (.int (wreads w).1) m') : zC (d + 7) M8_reads 0 0 [.ref 2] m Q := by
  obtain ⟨h1, h2, ⟨o, h3⟩, hT⟩ := id hR
  have h120 := hT.2.2.2.2.2.1
  have ti := tEnd_inv (t := w.2.2.1)
  have fin1 : ∀ p, tEnd w.2.2.1 = (p, none) → ∀ m1, TX m1 w.2.2.1 → zout 663 667 m m1 → zwp (d + 7) M8_reads 0 0 Q 7 [.ref 2, zU, zU, zU] [.int (nI p)] 0 0 m1 := by
    intro p e m1 t1 z1
    have ew : wreads w = (-10 - nI p, w) := by unfold wreads; rw [e]
    rw [ew] at hk
    rw [e] at ti
    have hp := ti.1
    dsimp only at hp
    refine zr_istore_n dX8_reads_7 (by decide) rfl ?_
    dsimp only [zset]
    refine zr_iload_n dX8_reads_8 rfl ?_
    refine zr_iconst (v := -1) dX8_reads_9 rfl ?_
    refine zr_icmp_eq (tgt := 18) dX8_reads_10 (by decide) (fun hc_10 => absurd hc_10 (nI_ne_m1 (by omega))) (fun hc_10 => ?_)
    refine zr_bipush (v := -10) dX8_reads_13 rfl ?_
    refine zr_iload_n dX8_reads_15 rfl ?_
    refine zr_isub dX8_reads_16 ?_
    refine zr_ireturn dX8_reads_17 rfl (Nat.le_refl _) (Nat.le_refl _) ?_
    exact hk m1 ⟨h1.out z1 (by omega), h2.out z1 (by omega), ⟨o, h3.out z1 (by omega)⟩, t1⟩ (z1.wd (by omega) (by omega))
  have fin2 : ∀ p os, tEnd w.2.2.1 = (p, some os) → ∀ m1, TX m1 w.2.2.1 → zI m1 663 4 = nI os.length → os.length ≤ 60 → TO m1 os → zout 663 667 m m1 → zwp (d + 7) M8_reads 0 0 Q 7 [.ref 2, zU, zU, zU] [.int (-1)] 0 0 m1 := by
    intro p os e m1 t1 h4 h60 hO z1
    rw [e] at ti
    obtain ⟨e1, hol⟩ := ti.2 os rfl
    dsimp only at e1
    have hF := hF os (by rw [e, e1])
    have hR1 : RC m1 w := ⟨h1.out z1 (by omega), h2.out z1 (by omega), ⟨o, h3.out z1 (by omega)⟩, t1⟩
    refine zr_istore_n dX8_reads_7 (by decide) rfl ?_
    dsimp only [zset]
    refine zr_iload_n dX8_reads_8 rfl ?_
    refine zr_iconst (v := -1) dX8_reads_9 rfl ?_
    refine zr_icmp_eq (tgt := 18) dX8_reads_10 (by decide) (fun hc_10 => ?_) (fun hc_10 => absurd rfl hc_10)
    refine zr_aload_n dX8_reads_18 rfl ?_
    refine zr_getR dX8_reads_19 fd_8_19 rfl (hR1.1.ob rfl) hR1.hist (by decide) ?_
    refine zr_aload_n dX8_reads_22 rfl ?_
    refine zr_getR dX8_reads_23 fd_8_12 rfl (hR1.1.ob rfl) hR1.link (by decide) ?_
    refine zr_cV1v rfl dX8_reads_26 cv_8_34 ((h3.out z1 (by omega)).ob rfl) (Nat.le_of_ble_eq_true rfl) (draft_ok (h3.out z1 (by omega)) hR1.2.1 hs (fun m2 y2 l2 z2 => ?_))
    refine zr_iconst (v := nI 0) dX8_reads_29 rfl ?_
    refine zr_istore_n dX8_reads_30 (by decide) rfl ?_
    dsimp only [zset]
    refine reads_loop (m := m) (r := sexec 0 os w.1) (os0 := []) hol h60 hs (fun k e' s' hr m' r' o' => ?_) (fun s' hr m' r' o' => ?_) _ 0 w.1 m2 _ _ (Nat.lt_succ_self _) (Nat.zero_le _) ⟨hR1.1.out z2 (by omega), l2, ⟨o, y2⟩, t1.out z2 (by omega)⟩ (hO.out z2 (by omega)) (by rw [z2.I (by omega)]; exact h4) hs hF rfl ((z1.wd (by omega) (by omega)).tr (z2.wd (by omega) (by omega)))
    · have ew : wreads w = (-1000 - nI k, (w.1, w.2.1, w.2.2.1, w.2.2.2.1, e', nI k)) := by unfold wreads; rw [e]; dsimp only; rw [hr]
      rw [ew] at hk
      exact hk m' r' o'
    · have ew : wreads w = (nI os.length, (s', skeep w.2.1 w.1, w.2.2)) := by unfold wreads; rw [e]; dsimp only; rw [hr]
      rw [ew] at hk
      exact hk m' r' o'
  refine zenterP (Or.inl (by decide +kernel)) rfl (fun h => by cases h) (Nat.le_of_ble_eq_true rfl) ?_
  show zwp _ _ _ _ _ 0 [_, zU, zU, zU] [] 0 0 _
  refine zr_aload_n dX8_reads_0 rfl ?_
  refine zr_getR dX8_reads_1 fd_8_26 rfl (h1.ob rfl) h1.2.2.2.1 (by decide) ?_
  refine zr_cV0 rfl dX8_reads_4 cv_8_106 (hT.ob rfl) (Nat.le_of_ble_eq_true rfl) (findFault_ok hT fin1 fin2)
  skip
end
