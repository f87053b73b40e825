/-! ===== the reference: what is asked over all hosts ===== -/
section
variable {d : Nat} {Q : Value → zM → Prop} {m : zM} {f : Nat → Int32} {s : sS}
def sopI (s : sS) (o : Nat) (rc : sR) (i : Nat) : Bool := sdef s o (zg (s.2.2.2 o).2.2.1 i) && (sone (zg (s.2.2.2 o).2.2.1 i) rc && !ssame (zg (s.2.2.2 o).2.2.1 i) rc)
def sopO (s : sS) (h : Nat) (rc : sR) (o : Nat) : Bool := o != h && anyN (sopI s o rc) (s.2.2.2 o).2.2.1.length
theorem sopp_eq (s : sS) (h : Nat) (rc : sR) : sopp s h rc = anyN (sopO s h rc) s.2.2.1 := by
  unfold sopp
  congr 1
  funext o
  rw [any_anyN]
  rfl
theorem isOpposed_loop {h p : Nat} {rc : sR} (hM : MI m) (hA : RA f s) (hX : sPx s) (h6 : h < 6) (hp : p + 2 < 424) (hrc : ∀ k, k < 3 → f (p + k) = rc k) (hk : Q (.int (bI (sopp s h rc))) (zrow m 668 f)) : ∀ n o b t5, s.2.2.1 - o < n → o ≤ s.2.2.1 → b = anyN (sopO s h rc) o →
    zwp (d + 3) M9_isOpposed 0 0 Q 5 [.ref 667, .int (nI h), .int (nI p), .int (bI b), .int (nI o), t5] [] 0 0 (zrow m 668 f) := by
  have hn6 := hA.2.1
  intro n
  induction n with
  | zero => intro o b t5 h1; omega
  | succ n ih =>
    intro o b t5 h1 h2 hb
    have inner : o < s.2.2.1 → ∀ k r b', (s.2.2.2 o).2.2.1.length - r < k → r ≤ (s.2.2.2 o).2.2.1.length → b' = (anyN (sopO s h rc) o || (o != h && anyN (sopI s o rc) r)) → zwp (d + 3) M9_isOpposed 0 0 Q 19 [.ref 667, .int (nI h), .int (nI p), .int (bI b'), .int (nI o), .int (nI r)] [] 0 0 (zrow m 668 f) := by
      intro ho k
      have h5 := hA.c5 ho
      induction k with
      | zero => intro r b' h3; omega
      | succ k ih2 =>
        intro r b' h3 h4 hb'
        refine zr_iload dX9_isOpposed_19 rfl ?_
        refine zr_aload_n dX9_isOpposed_21 rfl ?_
        refine zr_iload dX9_isOpposed_22 rfl ?_
        refine zr_cV1 rfl dX9_isOpposed_24 cv_9_73 (MI.ob hM ⟨rfl, rfl⟩) (Nat.le_of_ble_eq_true rfl) (records_ok hM (by omega) (hA.cnt ho) ?_)
        refine zr_icmp_geN (tgt := 93) dX9_isOpposed_27 (by decide) (by omega) (by omega) (fun hc_27 => ?_) (fun hc_27 => ?_)
        · refine zr_iincN dX9_isOpposed_93 rfl (by decide) rfl ?_
          dsimp only [zset]
          refine zr_goto (tgt := 5) dX9_isOpposed_96 (by decide) ?_
          refine ih (o + 1) _ _ (by omega) (by omega) ?_
          first
          | (have e : r = (s.2.2.2 o).2.2.1.length := by omega
             rw [hb', e]; rfl)
          | (rw [hb']; simp [anyN, sopO, hc_33])
        · refine zr_iload dX9_isOpposed_30 rfl ?_
          refine zr_iload_n dX9_isOpposed_32 rfl ?_
          refine zr_icmp_eqN (tgt := 93) dX9_isOpposed_33 (by decide) (by omega) (by omega) (fun hc_33 => ?_) (fun hc_33 => ?_)
          · refine zr_iincN dX9_isOpposed_93 rfl (by decide) rfl ?_
            dsimp only [zset]
            refine zr_goto (tgt := 5) dX9_isOpposed_96 (by decide) ?_
            refine ih (o + 1) _ _ (by omega) (by omega) ?_
            first
            | (have e : r = (s.2.2.2 o).2.2.1.length := by omega
               rw [hb', e]; rfl)
            | (rw [hb']; simp [anyN, sopO, hc_33])
          · refine zr_iload_n dX9_isOpposed_36 rfl ?_
            refine zr_if_neB (tgt := 81) dX9_isOpposed_37 (by decide) (fun hc_37 => ?_) (fun hc_37 => ?_)
            · refine zr_iconst (v := bI true) dX9_isOpposed_81 rfl ?_
              refine zr_goto (tgt := 86) dX9_isOpposed_82 (by decide) ?_
              refine zr_istore_n dX9_isOpposed_86 (by decide) rfl ?_
              dsimp only [zset]
              refine zr_iincN dX9_isOpposed_87 rfl (by decide) rfl ?_
              dsimp only [zset]
              refine zr_goto (tgt := 19) dX9_isOpposed_90 (by decide) ?_
              exact ih2 (r + 1) _ (by omega) (by omega) (by cases e1 : anyN (sopO s h rc) o <;> cases e2 : anyN (sopI s o rc) r <;> simp_all [anyN, sopI])
            · refine zr_aload_n dX9_isOpposed_40 rfl ?_
              refine zr_iload dX9_isOpposed_41 rfl ?_
              refine zr_iload dX9_isOpposed_43 rfl ?_
              refine zr_cV2 rfl dX9_isOpposed_45 cv_9_142 (MI.ob hM ⟨rfl, rfl⟩) (Nat.le_of_ble_eq_true rfl) (isDefended_ok hM hA hX ho hc_27 ?_)
              refine zr_if_eqB (tgt := 85) dX9_isOpposed_48 (by decide) (fun hc_48 => ?_) (fun hc_48 => ?_)
              · refine zr_iconst (v := bI false) dX9_isOpposed_85 rfl ?_
                refine zr_istore_n dX9_isOpposed_86 (by decide) rfl ?_
                dsimp only [zset]
                refine zr_iincN dX9_isOpposed_87 rfl (by decide) rfl ?_
                dsimp only [zset]
                refine zr_goto (tgt := 19) dX9_isOpposed_90 (by decide) ?_
                exact ih2 (r + 1) _ (by omega) (by omega) (by cases e1 : anyN (sopO s h rc) o <;> cases e2 : anyN (sopI s o rc) r <;> simp_all [anyN, sopI])
              · refine zr_aload_n dX9_isOpposed_51 rfl ?_
                refine zr_iload dX9_isOpposed_52 rfl ?_
                refine zr_iload dX9_isOpposed_54 rfl ?_
                refine zr_cS2 rfl dX9_isOpposed_56 cv_9_55 (Nat.le_of_ble_eq_true rfl) (at_ok ?_)
                refine zr_iload_n dX9_isOpposed_59 rfl ?_
                refine zr_cV2 rfl dX9_isOpposed_60 cv_9_51 (MI.ob hM ⟨rfl, rfl⟩) (Nat.le_of_ble_eq_true rfl) (areOne_ok hM (by omega) hp (fun k hk => hA.rec ho hc_27 k (by omega)) hrc ?_)
                refine zr_if_eqB (tgt := 85) dX9_isOpposed_63 (by decide) (fun hc_63 => ?_) (fun hc_63 => ?_)
                · refine zr_iconst (v := bI false) dX9_isOpposed_85 rfl ?_
                  refine zr_istore_n dX9_isOpposed_86 (by decide) rfl ?_
                  dsimp only [zset]
                  refine zr_iincN dX9_isOpposed_87 rfl (by decide) rfl ?_
                  dsimp only [zset]
                  refine zr_goto (tgt := 19) dX9_isOpposed_90 (by decide) ?_
                  exact ih2 (r + 1) _ (by omega) (by omega) (by cases e1 : anyN (sopO s h rc) o <;> cases e2 : anyN (sopI s o rc) r <;> simp_all [anyN, sopI])
                · refine zr_aload_n dX9_isOpposed_66 rfl ?_
                  refine zr_iload dX9_isOpposed_67 rfl ?_
                  refine zr_iload dX9_isOpposed_69 rfl ?_
                  refine zr_cS2 rfl dX9_isOpposed_71 cv_9_55 (Nat.le_of_ble_eq_true rfl) (at_ok ?_)
                  refine zr_iload_n dX9_isOpposed_74 rfl ?_
                  refine zr_cV2 rfl dX9_isOpposed_75 cv_9_76 (MI.ob hM ⟨rfl, rfl⟩) (Nat.le_of_ble_eq_true rfl) (areSame_ok hM (by omega) hp (fun k hk => hA.rec ho hc_27 k (by omega)) hrc ?_)
                  refine zr_if_neB (tgt := 85) dX9_isOpposed_78 (by decide) (fun hc_78 => ?_) (fun hc_78 => ?_)
                  · refine zr_iconst (v := bI false) dX9_isOpposed_85 rfl ?_
                    refine zr_istore_n dX9_isOpposed_86 (by decide) rfl ?_
                    dsimp only [zset]
                    refine zr_iincN dX9_isOpposed_87 rfl (by decide) rfl ?_
                    dsimp only [zset]
                    refine zr_goto (tgt := 19) dX9_isOpposed_90 (by decide) ?_
                    exact ih2 (r + 1) _ (by omega) (by omega) (by cases e1 : anyN (sopO s h rc) o <;> cases e2 : anyN (sopI s o rc) r <;> simp_all [anyN, sopI])
                  · refine zr_iconst (v := bI true) dX9_isOpposed_81 rfl ?_
                    refine zr_goto (tgt := 86) dX9_isOpposed_82 (by decide) ?_
                    refine zr_istore_n dX9_isOpposed_86 (by decide) rfl ?_
                    dsimp only [zset]
                    refine zr_iincN dX9_isOpposed_87 rfl (by decide) rfl ?_
                    dsimp only [zset]
                    refine zr_goto (tgt := 19) dX9_isOpposed_90 (by decide) ?_
                    exact ih2 (r + 1) _ (by omega) (by omega) (by cases e1 : anyN (sopO s h rc) o <;> cases e2 : anyN (sopI s o rc) r <;> simp_all [anyN, sopI])
    refine zr_iload dX9_isOpposed_5 rfl ?_
    refine zr_aload_n dX9_isOpposed_7 rfl ?_
    refine zr_getR dX9_isOpposed_8 fd_9_7 rfl (MI.ob hM ⟨rfl, rfl⟩) (MI.r0 hM ⟨rfl, rfl⟩) (by decide) ?_
    refine zr_iconst (v := nI 0) dX9_isOpposed_11 rfl ?_
    refine zr_ialoadA dX9_isOpposed_12 (MI.a668 hM ⟨rfl, rfl⟩) (by omega) ?_
    rw [hA.1]
    refine zr_icmp_geN (tgt := 99) dX9_isOpposed_13 (by decide) (by omega) (by omega) (fun hc_13 => ?_) (fun hc_13 => ?_)
    · refine zr_iload_n dX9_isOpposed_99 rfl ?_
      refine zr_zreturnB dX9_isOpposed_100 rfl (Nat.le_refl _) (Nat.le_refl _) ?_
      have e : o = s.2.2.1 := by omega
      rw [sopp_eq] at hk
      rw [hb, e]; exact hk
    · refine zr_iconst (v := nI 0) dX9_isOpposed_16 rfl ?_
      refine zr_istore dX9_isOpposed_17 (by decide) rfl ?_
      dsimp only [zset]
      exact inner hc_13 _ 0 b (Nat.lt_succ_self _) (Nat.zero_le _) (by simp [hb, anyN])
theorem isOpposed_ok {h p : Nat} {rc : sR} (hM : MI m) (hA : RA f s) (hX : sPx s) (h6 : h < 6) (hp : p + 2 < 424) (hrc : ∀ k, k < 3 → f (p + k) = rc k) (hk : Q (.int (bI (sopp s h rc))) (zrow m 668 f)) : zC (d + 3) M9_isOpposed 0 0 [.ref 667, .int (nI h), .int (nI p)] (zrow m 668 f) Q := by
  refine zenterP (Or.inl (by decide +kernel)) rfl (fun h => by cases h) (Nat.le_of_ble_eq_true rfl) ?_
  show zwp _ _ _ _ _ 0 [_, _, _, zU, zU, zU] [] 0 0 _
  refine zr_iconst (v := bI false) dX9_isOpposed_0 rfl ?_
  refine zr_istore_n dX9_isOpposed_1 (by decide) rfl ?_
  dsimp only [zset]
  refine zr_iconst (v := nI 0) dX9_isOpposed_2 rfl ?_
  refine zr_istore dX9_isOpposed_3 (by decide) rfl ?_
  dsimp only [zset]
  exact isOpposed_loop hM hA hX h6 hp hrc hk _ 0 false _ (Nat.lt_succ_self _) (Nat.zero_le _) rfl
/-- stages are 0 to 3 -/
def sSt (s : sS) : Prop := ∀ h, h < s.2.2.1 → ∀ a ∈ (s.2.2.2 h).2.2.1, ∃ j, j ≤ 3 ∧ a 4 = nI j
theorem sSt.at (hS : sSt s) {h r : Nat} (hh : h < s.2.2.1) (hr : r < (s.2.2.2 h).2.2.1.length) : ∃ j, j ≤ 3 ∧ zg (s.2.2.2 h).2.2.1 r 4 = nI j := by
  have := hS h hh _ (List.getElem_mem hr)
  simpa [zg, List.getD, hr] using this
def soutI (s : sS) (o : Nat) (rc : sR) (i : Nat) : Bool := !sown (zg (s.2.2.2 o).2.2.1 i) && (sone (zg (s.2.2.2 o).2.2.1 i) rc && decide (rc 2 < zg (s.2.2.2 o).2.2.1 i 2))
def soutO (s : sS) (h : Nat) (rc : sR) (o : Nat) : Bool := o != h && sawk (s.2.2.2 o) && anyN (soutI s o rc) (s.2.2.2 o).2.2.1.length
theorem soutb_eq (s : sS) (h : Nat) (rc : sR) : soutb s h rc = anyN (soutO s h rc) s.2.2.1 := by
  unfold soutb
  congr 1
  funext o
  rw [any_anyN]
  rfl
theorem sown_nI {a : sR} {j : Nat} (h : a 4 = nI j) (h3 : j ≤ 3) : sown a = decide (3 ≤ j) := by
  rw [sown, h, show (3 : Int32) = nI 3 from rfl, Bool.eq_iff_iff, beq_iff_eq, decide_eq_true_eq, nI_eq (by omega) (by omega)]
  omega
theorem soutS_t {s : sS} {h o r : Nat} {rc : sR} {b' : Bool} (h1 : ¬ o = h) (h2 : sawk (s.2.2.2 o) = true) (h3 : b' = true) (hb' : b' = (anyN (soutO s h rc) o || (o != h && sawk (s.2.2.2 o) && anyN (soutI s o rc) r))) : (anyN (soutO s h rc) o || (o != h && sawk (s.2.2.2 o) && anyN (soutI s o rc) (r + 1))) = true := by
  have hne : (o != h) = true := by simp [h1]
  rw [hne, h2, Bool.true_and, Bool.true_and] at hb'
  rw [hne, h2, Bool.true_and, Bool.true_and]
  rw [anyN, ← Bool.or_assoc, ← hb', h3, Bool.true_or]
theorem soutS_f {s : sS} {h o r : Nat} {rc : sR} {b' c : Bool} (h1 : ¬ o = h) (h2 : sawk (s.2.2.2 o) = true) (h3 : b' = false) (hb' : b' = (anyN (soutO s h rc) o || (o != h && sawk (s.2.2.2 o) && anyN (soutI s o rc) r))) (hc : soutI s o rc r = c) : c = (anyN (soutO s h rc) o || (o != h && sawk (s.2.2.2 o) && anyN (soutI s o rc) (r + 1))) := by
  have hne : (o != h) = true := by simp [h1]
  rw [hne, h2, Bool.true_and, Bool.true_and] at hb'
  rw [hne, h2, Bool.true_and, Bool.true_and]
  rw [anyN, ← Bool.or_assoc, ← hb', h3, Bool.false_or, hc]
theorem isOutbid_loop {h p : Nat} {rc : sR} (hM : MI m) (hA : RA f s) (hS : sSt s) (h6 : h < 6) (hp : p + 2 < 424) (hrc : ∀ k, k < 3 → f (p + k) = rc k) (hk : Q (.int (bI (soutb s h rc))) (zrow m 668 f)) : ∀ n o b t5 t6, s.2.2.1 - o < n → o ≤ s.2.2.1 → b = anyN (soutO s h rc) o →
    zwp (d + 3) M9_isOutbid 0 0 Q 5 [.ref 667, .int (nI h), .int (nI p), .int (bI b), .int (nI o), t5, t6] [] 0 0 (zrow m 668 f) := by
  have hn6 := hA.2.1
  intro n
  induction n with
  | zero => intro o b t5 t6 h1; omega
  | succ n ih =>
    intro o b t5 t6 h1 h2 hb
    have inner : o < s.2.2.1 → ∀ k r b' t6, (s.2.2.2 o).2.2.1.length - r < k → r ≤ (s.2.2.2 o).2.2.1.length → b' = (anyN (soutO s h rc) o || (o != h && sawk (s.2.2.2 o) && anyN (soutI s o rc) r)) → zwp (d + 3) M9_isOutbid 0 0 Q 19 [.ref 667, .int (nI h), .int (nI p), .int (bI b'), .int (nI o), .int (nI r), t6] [] 0 0 (zrow m 668 f) := by
      intro ho k
      have h5 := hA.c5 ho
      induction k with
      | zero => intro r b' t6 h3; omega
      | succ k ih2 =>
        intro r b' t6 h3 h4 hb'
        refine zr_iload dX9_isOutbid_19 rfl ?_
        refine zr_aload_n dX9_isOutbid_21 rfl ?_
        refine zr_iload dX9_isOutbid_22 rfl ?_
        refine zr_cV1 rfl dX9_isOutbid_24 cv_9_73 (MI.ob hM ⟨rfl, rfl⟩) (Nat.le_of_ble_eq_true rfl) (records_ok hM (by omega) (hA.cnt ho) ?_)
        refine zr_icmp_geN (tgt := 113) dX9_isOutbid_27 (by decide) (by omega) (by omega) (fun hc_27 => ?_) (fun hc_27 => ?_)
        · refine zr_iincN dX9_isOutbid_113 rfl (by decide) rfl ?_
          dsimp only [zset]
          refine zr_goto (tgt := 5) dX9_isOutbid_116 (by decide) ?_
          refine ih (o + 1) _ _ _ (by omega) (by omega) ?_
          first
          | (rw [hb']; simp [anyN, soutO, hc_33]; done)
          | (rw [hb']; simp [anyN, soutO, hc_42]; done)
          | (have e : r = (s.2.2.2 o).2.2.1.length := by omega
             rw [hb', e]; rfl)
        · refine zr_iload dX9_isOutbid_30 rfl ?_
          refine zr_iload_n dX9_isOutbid_32 rfl ?_
          refine zr_icmp_eqN (tgt := 113) dX9_isOutbid_33 (by decide) (by omega) (by omega) (fun hc_33 => ?_) (fun hc_33 => ?_)
          · refine zr_iincN dX9_isOutbid_113 rfl (by decide) rfl ?_
            dsimp only [zset]
            refine zr_goto (tgt := 5) dX9_isOutbid_116 (by decide) ?_
            refine ih (o + 1) _ _ _ (by omega) (by omega) ?_
            first
            | (rw [hb']; simp [anyN, soutO, hc_33]; done)
            | (rw [hb']; simp [anyN, soutO, hc_42]; done)
            | (have e : r = (s.2.2.2 o).2.2.1.length := by omega
               rw [hb', e]; rfl)
          · refine zr_aload_n dX9_isOutbid_36 rfl ?_
            refine zr_iload dX9_isOutbid_37 rfl ?_
            refine zr_cV1 rfl dX9_isOutbid_39 cv_9_59 (MI.ob hM ⟨rfl, rfl⟩) (Nat.le_of_ble_eq_true rfl) (isAwake_ok hM (by omega) (hA.awk ho) ?_)
            refine zr_if_eqB (tgt := 113) dX9_isOutbid_42 (by decide) (fun hc_42 => ?_) (fun hc_42 => ?_)
            · refine zr_iincN dX9_isOutbid_113 rfl (by decide) rfl ?_
              dsimp only [zset]
              refine zr_goto (tgt := 5) dX9_isOutbid_116 (by decide) ?_
              refine ih (o + 1) _ _ _ (by omega) (by omega) ?_
              first
              | (rw [hb']; simp [anyN, soutO, hc_33]; done)
              | (rw [hb']; simp [anyN, soutO, hc_42]; done)
              | (have e : r = (s.2.2.2 o).2.2.1.length := by omega
                 rw [hb', e]; rfl)
            · refine zr_iload dX9_isOutbid_45 rfl ?_
              refine zr_iload dX9_isOutbid_47 rfl ?_
              refine zr_cS2 rfl dX9_isOutbid_49 cv_9_55 (Nat.le_of_ble_eq_true rfl) (at_ok ?_)
              refine zr_istore dX9_isOutbid_52 (by decide) rfl ?_
              dsimp only [zset]
              refine zr_iload_n dX9_isOutbid_54 rfl ?_
              refine zr_if_neB (tgt := 101) dX9_isOutbid_55 (by decide) (fun hc_55 => ?_) (fun hc_55 => ?_)
              · refine zr_iconst (v := bI true) dX9_isOutbid_101 rfl ?_
                refine zr_goto (tgt := 106) dX9_isOutbid_102 (by decide) ?_
                refine zr_istore_n dX9_isOutbid_106 (by decide) rfl ?_
                dsimp only [zset]
                refine zr_iincN dX9_isOutbid_107 rfl (by decide) rfl ?_
                dsimp only [zset]
                refine zr_goto (tgt := 19) dX9_isOutbid_110 (by decide) ?_
                refine ih2 (r + 1) _ _ (by omega) (by omega) ?_
                first
                | (rw [soutS_t hc_33 hc_42 hc_55 hb'])
                | (refine soutS_f hc_33 hc_42 hc_55 hb' ?_
                   rw [soutI, sown_nI hj hj3]
                   first
                   | (simp [hc_68]; done)
                   | (simp [hc_78]; done)
                   | (simp [hc_68, hc_78, hc_98, ← Int32.not_le]; try omega))
              · refine zr_aload_n dX9_isOutbid_58 rfl ?_
                refine zr_getR dX9_isOutbid_59 fd_9_7 rfl (MI.ob hM ⟨rfl, rfl⟩) (MI.r0 hM ⟨rfl, rfl⟩) (by decide) ?_
                refine zr_iload dX9_isOutbid_62 rfl ?_
                refine zr_iconst (v := nI 4) dX9_isOutbid_64 rfl ?_
                refine zr_iaddN dX9_isOutbid_65 ?_
                refine zr_ialoadA dX9_isOutbid_66 (MI.a668 hM ⟨rfl, rfl⟩) (by omega) ?_
                obtain ⟨j, hj3, hj⟩ := hS.at ho hc_27
                rw [hA.rec ho hc_27 4 (by decide), hj]
                refine zr_iconst (v := nI 3) dX9_isOutbid_67 rfl ?_
                refine zr_icmp_geN (tgt := 105) dX9_isOutbid_68 (by decide) (by omega) (by omega) (fun hc_68 => ?_) (fun hc_68 => ?_)
                · refine zr_iconst (v := bI false) dX9_isOutbid_105 rfl ?_
                  refine zr_istore_n dX9_isOutbid_106 (by decide) rfl ?_
                  dsimp only [zset]
                  refine zr_iincN dX9_isOutbid_107 rfl (by decide) rfl ?_
                  dsimp only [zset]
                  refine zr_goto (tgt := 19) dX9_isOutbid_110 (by decide) ?_
                  refine ih2 (r + 1) _ _ (by omega) (by omega) ?_
                  first
                  | (rw [soutS_t hc_33 hc_42 hc_55 hb'])
                  | (refine soutS_f hc_33 hc_42 hc_55 hb' ?_
                     rw [soutI, sown_nI hj hj3]
                     first
                     | (simp [hc_68]; done)
                     | (simp [hc_78]; done)
                     | (simp [hc_68, hc_78, hc_98, ← Int32.not_le]; try omega))
                · refine zr_aload_n dX9_isOutbid_71 rfl ?_
                  refine zr_iload dX9_isOutbid_72 rfl ?_
                  refine zr_iload_n dX9_isOutbid_74 rfl ?_
                  refine zr_cV2 rfl dX9_isOutbid_75 cv_9_51 (MI.ob hM ⟨rfl, rfl⟩) (Nat.le_of_ble_eq_true rfl) (areOne_ok hM (by omega) hp (fun k hk => hA.rec ho hc_27 k (by omega)) hrc ?_)
                  refine zr_if_eqB (tgt := 105) dX9_isOutbid_78 (by decide) (fun hc_78 => ?_) (fun hc_78 => ?_)
                  · refine zr_iconst (v := bI false) dX9_isOutbid_105 rfl ?_
                    refine zr_istore_n dX9_isOutbid_106 (by decide) rfl ?_
                    dsimp only [zset]
                    refine zr_iincN dX9_isOutbid_107 rfl (by decide) rfl ?_
                    dsimp only [zset]
                    refine zr_goto (tgt := 19) dX9_isOutbid_110 (by decide) ?_
                    refine ih2 (r + 1) _ _ (by omega) (by omega) ?_
                    first
                    | (rw [soutS_t hc_33 hc_42 hc_55 hb'])
                    | (refine soutS_f hc_33 hc_42 hc_55 hb' ?_
                       rw [soutI, sown_nI hj hj3]
                       first
                       | (simp [hc_68]; done)
                       | (simp [hc_78]; done)
                       | (simp [hc_68, hc_78, hc_98, ← Int32.not_le]; try omega))
                  · refine zr_aload_n dX9_isOutbid_81 rfl ?_
                    refine zr_getR dX9_isOutbid_82 fd_9_7 rfl (MI.ob hM ⟨rfl, rfl⟩) (MI.r0 hM ⟨rfl, rfl⟩) (by decide) ?_
                    refine zr_iload dX9_isOutbid_85 rfl ?_
                    refine zr_iconst (v := nI 2) dX9_isOutbid_87 rfl ?_
                    refine zr_iaddN dX9_isOutbid_88 ?_
                    refine zr_ialoadA dX9_isOutbid_89 (MI.a668 hM ⟨rfl, rfl⟩) (by omega) ?_
                    rw [hA.rec ho hc_27 2 (by decide)]
                    refine zr_aload_n dX9_isOutbid_90 rfl ?_
                    refine zr_getR dX9_isOutbid_91 fd_9_7 rfl (MI.ob hM ⟨rfl, rfl⟩) (MI.r0 hM ⟨rfl, rfl⟩) (by decide) ?_
                    refine zr_iload_n dX9_isOutbid_94 rfl ?_
                    refine zr_iconst (v := nI 2) dX9_isOutbid_95 rfl ?_
                    refine zr_iaddN dX9_isOutbid_96 ?_
                    refine zr_ialoadA dX9_isOutbid_97 (MI.a668 hM ⟨rfl, rfl⟩) (by omega) ?_
                    rw [hrc 2 (by decide)]
                    refine zr_icmp_le (tgt := 105) dX9_isOutbid_98 (by decide) (fun hc_98 => ?_) (fun hc_98 => ?_)
                    · refine zr_iconst (v := bI false) dX9_isOutbid_105 rfl ?_
                      refine zr_istore_n dX9_isOutbid_106 (by decide) rfl ?_
                      dsimp only [zset]
                      refine zr_iincN dX9_isOutbid_107 rfl (by decide) rfl ?_
                      dsimp only [zset]
                      refine zr_goto (tgt := 19) dX9_isOutbid_110 (by decide) ?_
                      refine ih2 (r + 1) _ _ (by omega) (by omega) ?_
                      first
                      | (rw [soutS_t hc_33 hc_42 hc_55 hb'])
                      | (refine soutS_f hc_33 hc_42 hc_55 hb' ?_
                         rw [soutI, sown_nI hj hj3]
                         first
                         | (simp [hc_68]; done)
                         | (simp [hc_78]; done)
                         | (simp [hc_68, hc_78, hc_98, ← Int32.not_le]; try omega))
                    · refine zr_iconst (v := bI true) dX9_isOutbid_101 rfl ?_
                      refine zr_goto (tgt := 106) dX9_isOutbid_102 (by decide) ?_
                      refine zr_istore_n dX9_isOutbid_106 (by decide) rfl ?_
                      dsimp only [zset]
                      refine zr_iincN dX9_isOutbid_107 rfl (by decide) rfl ?_
                      dsimp only [zset]
                      refine zr_goto (tgt := 19) dX9_isOutbid_110 (by decide) ?_
                      refine ih2 (r + 1) _ _ (by omega) (by omega) ?_
                      first
                      | (rw [soutS_t hc_33 hc_42 hc_55 hb'])
                      | (refine soutS_f hc_33 hc_42 hc_55 hb' ?_
                         rw [soutI, sown_nI hj hj3]
                         first
                         | (simp [hc_68]; done)
                         | (simp [hc_78]; done)
                         | (simp [hc_68, hc_78, hc_98, ← Int32.not_le]; try omega))
    refine zr_iload dX9_isOutbid_5 rfl ?_
    refine zr_aload_n dX9_isOutbid_7 rfl ?_
    refine zr_getR dX9_isOutbid_8 fd_9_7 rfl (MI.ob hM ⟨rfl, rfl⟩) (MI.r0 hM ⟨rfl, rfl⟩) (by decide) ?_
    refine zr_iconst (v := nI 0) dX9_isOutbid_11 rfl ?_
    refine zr_ialoadA dX9_isOutbid_12 (MI.a668 hM ⟨rfl, rfl⟩) (by omega) ?_
    rw [hA.1]
    refine zr_icmp_geN (tgt := 119) dX9_isOutbid_13 (by decide) (by omega) (by omega) (fun hc_13 => ?_) (fun hc_13 => ?_)
    · refine zr_iload_n dX9_isOutbid_119 rfl ?_
      refine zr_zreturnB dX9_isOutbid_120 rfl (Nat.le_refl _) (Nat.le_refl _) ?_
      have e : o = s.2.2.1 := by omega
      rw [soutb_eq] at hk
      rw [hb, e]; exact hk
    · refine zr_iconst (v := nI 0) dX9_isOutbid_16 rfl ?_
      refine zr_istore dX9_isOutbid_17 (by decide) rfl ?_
      dsimp only [zset]
      exact inner hc_13 _ 0 b _ (Nat.lt_succ_self _) (Nat.zero_le _) (by simp [hb, anyN])
theorem isOutbid_ok {h p : Nat} {rc : sR} (hM : MI m) (hA : RA f s) (hS : sSt s) (h6 : h < 6) (hp : p + 2 < 424) (hrc : ∀ k, k < 3 → f (p + k) = rc k) (hk : Q (.int (bI (soutb s h rc))) (zrow m 668 f)) : zC (d + 3) M9_isOutbid 0 0 [.ref 667, .int (nI h), .int (nI p)] (zrow m 668 f) Q := by
  refine zenterP (Or.inl (by decide +kernel)) rfl (fun h => by cases h) (Nat.le_of_ble_eq_true rfl) ?_
  show zwp _ _ _ _ _ 0 [_, _, _, zU, zU, zU, zU] [] 0 0 _
  refine zr_iconst (v := bI false) dX9_isOutbid_0 rfl ?_
  refine zr_istore_n dX9_isOutbid_1 (by decide) rfl ?_
  dsimp only [zset]
  refine zr_iconst (v := nI 0) dX9_isOutbid_2 rfl ?_
  refine zr_istore dX9_isOutbid_3 (by decide) rfl ?_
  dsimp only [zset]
  exact isOutbid_loop hM hA hS h6 hp hrc hk _ 0 false _ _ (Nat.lt_succ_self _) (Nat.zero_le _) rfl
def sowI (s : sS) (o : Nat) (e : sR) (i : Nat) : Bool := sown (zg (s.2.2.2 o).2.2.1 i) && ssame (zg (s.2.2.2 o).2.2.1 i) e
def sowO (s : sS) (e : sR) (o : Nat) : Bool := anyN (sowI s o e) (s.2.2.2 o).2.2.1.length
theorem sownd_eq (s : sS) (e : sR) : sownd s e = anyN (sowO s e) s.2.2.1 := by
  unfold sownd
  congr 1
  funext o
  rw [any_anyN]
  rfl
theorem isOwned_loop {p : Nat} {rc : sR} (hM : MI m) (hA : RA f s) (hp : p + 2 < 424) (hrc : ∀ k, k < 3 → f (p + k) = rc k) (hk : Q (.int (bI (sownd s rc))) (zrow m 668 f)) : ∀ n o b t4, s.2.2.1 - o < n → o ≤ s.2.2.1 → b = anyN (sowO s rc) o →
    zwp (d + 3) M9_isOwned 0 0 Q 4 [.ref 667, .int (nI p), .int (bI b), .int (nI o), t4] [] 0 0 (zrow m 668 f) := by
  have hn6 := hA.2.1
  intro n
  induction n with
  | zero => intro o b t4 h1; omega
  | succ n ih =>
    intro o b t4 h1 h2 hb
    have inner : o < s.2.2.1 → ∀ k r b', (s.2.2.2 o).2.2.1.length - r < k → r ≤ (s.2.2.2 o).2.2.1.length → b' = (anyN (sowO s rc) o || anyN (sowI s o rc) r) → zwp (d + 3) M9_isOwned 0 0 Q 17 [.ref 667, .int (nI p), .int (bI b'), .int (nI o), .int (nI r)] [] 0 0 (zrow m 668 f) := by
      intro ho k
      have h5 := hA.c5 ho
      induction k with
      | zero => intro r b' h3; omega
      | succ k ih2 =>
        intro r b' h3 h4 hb'
        refine zr_iload dX9_isOwned_17 rfl ?_
        refine zr_aload_n dX9_isOwned_19 rfl ?_
        refine zr_iload_n dX9_isOwned_20 rfl ?_
        refine zr_cV1 rfl dX9_isOwned_21 cv_9_73 (MI.ob hM ⟨rfl, rfl⟩) (Nat.le_of_ble_eq_true rfl) (records_ok hM (by omega) (hA.cnt ho) ?_)
        refine zr_icmp_geN (tgt := 74) dX9_isOwned_24 (by decide) (by omega) (by omega) (fun hc_24 => ?_) (fun hc_24 => ?_)
        · refine zr_iincN dX9_isOwned_74 rfl (by decide) rfl ?_
          dsimp only [zset]
          refine zr_goto (tgt := 4) dX9_isOwned_77 (by decide) ?_
          refine ih (o + 1) _ _ (by omega) (by omega) ?_
          have e : r = (s.2.2.2 o).2.2.1.length := by omega
          rw [hb', e]; rfl
        · refine zr_iload_n dX9_isOwned_27 rfl ?_
          refine zr_if_neB (tgt := 62) dX9_isOwned_28 (by decide) (fun hc_28 => ?_) (fun hc_28 => ?_)
          · refine zr_iconst (v := bI true) dX9_isOwned_62 rfl ?_
            refine zr_goto (tgt := 67) dX9_isOwned_63 (by decide) ?_
            refine zr_istore_n dX9_isOwned_67 (by decide) rfl ?_
            dsimp only [zset]
            refine zr_iincN dX9_isOwned_68 rfl (by decide) rfl ?_
            dsimp only [zset]
            refine zr_goto (tgt := 17) dX9_isOwned_71 (by decide) ?_
            exact ih2 (r + 1) _ (by omega) (by omega) (by cases e1 : anyN (sowO s rc) o <;> cases e2 : anyN (sowI s o rc) r <;> simp_all [anyN, sowI, sown, nI3])
          · refine zr_aload_n dX9_isOwned_31 rfl ?_
            refine zr_getR dX9_isOwned_32 fd_9_7 rfl (MI.ob hM ⟨rfl, rfl⟩) (MI.r0 hM ⟨rfl, rfl⟩) (by decide) ?_
            refine zr_iload_n dX9_isOwned_35 rfl ?_
            refine zr_iload dX9_isOwned_36 rfl ?_
            refine zr_cS2 rfl dX9_isOwned_38 cv_9_55 (Nat.le_of_ble_eq_true rfl) (at_ok ?_)
            refine zr_iconst (v := nI 4) dX9_isOwned_41 rfl ?_
            refine zr_iaddN dX9_isOwned_42 ?_
            refine zr_ialoadA dX9_isOwned_43 (MI.a668 hM ⟨rfl, rfl⟩) (by omega) ?_
            rw [hA.rec ho hc_24 4 (by decide)]
            refine zr_iconst (v := nI 3) dX9_isOwned_44 rfl ?_
            refine zr_icmp_ne (tgt := 66) dX9_isOwned_45 (by decide) (fun hc_45 => ?_) (fun hc_45 => ?_)
            · refine zr_iconst (v := bI false) dX9_isOwned_66 rfl ?_
              refine zr_istore_n dX9_isOwned_67 (by decide) rfl ?_
              dsimp only [zset]
              refine zr_iincN dX9_isOwned_68 rfl (by decide) rfl ?_
              dsimp only [zset]
              refine zr_goto (tgt := 17) dX9_isOwned_71 (by decide) ?_
              exact ih2 (r + 1) _ (by omega) (by omega) (by cases e1 : anyN (sowO s rc) o <;> cases e2 : anyN (sowI s o rc) r <;> simp_all [anyN, sowI, sown, nI3])
            · refine zr_aload_n dX9_isOwned_48 rfl ?_
              refine zr_iload_n dX9_isOwned_49 rfl ?_
              refine zr_iload dX9_isOwned_50 rfl ?_
              refine zr_cS2 rfl dX9_isOwned_52 cv_9_55 (Nat.le_of_ble_eq_true rfl) (at_ok ?_)
              refine zr_iload_n dX9_isOwned_55 rfl ?_
              refine zr_cV2 rfl dX9_isOwned_56 cv_9_76 (MI.ob hM ⟨rfl, rfl⟩) (Nat.le_of_ble_eq_true rfl) (areSame_ok hM (by omega) hp (fun k hk => hA.rec ho hc_24 k (by omega)) hrc ?_)
              refine zr_if_eqB (tgt := 66) dX9_isOwned_59 (by decide) (fun hc_59 => ?_) (fun hc_59 => ?_)
              · refine zr_iconst (v := bI false) dX9_isOwned_66 rfl ?_
                refine zr_istore_n dX9_isOwned_67 (by decide) rfl ?_
                dsimp only [zset]
                refine zr_iincN dX9_isOwned_68 rfl (by decide) rfl ?_
                dsimp only [zset]
                refine zr_goto (tgt := 17) dX9_isOwned_71 (by decide) ?_
                exact ih2 (r + 1) _ (by omega) (by omega) (by cases e1 : anyN (sowO s rc) o <;> cases e2 : anyN (sowI s o rc) r <;> simp_all [anyN, sowI, sown, nI3])
              · refine zr_iconst (v := bI true) dX9_isOwned_62 rfl ?_
                refine zr_goto (tgt := 67) dX9_isOwned_63 (by decide) ?_
                refine zr_istore_n dX9_isOwned_67 (by decide) rfl ?_
                dsimp only [zset]
                refine zr_iincN dX9_isOwned_68 rfl (by decide) rfl ?_
                dsimp only [zset]
                refine zr_goto (tgt := 17) dX9_isOwned_71 (by decide) ?_
                exact ih2 (r + 1) _ (by omega) (by omega) (by cases e1 : anyN (sowO s rc) o <;> cases e2 : anyN (sowI s o rc) r <;> simp_all [anyN, sowI, sown, nI3])
    refine zr_iload_n dX9_isOwned_4 rfl ?_
    refine zr_aload_n dX9_isOwned_5 rfl ?_
    refine zr_getR dX9_isOwned_6 fd_9_7 rfl (MI.ob hM ⟨rfl, rfl⟩) (MI.r0 hM ⟨rfl, rfl⟩) (by decide) ?_
    refine zr_iconst (v := nI 0) dX9_isOwned_9 rfl ?_
    refine zr_ialoadA dX9_isOwned_10 (MI.a668 hM ⟨rfl, rfl⟩) (by omega) ?_
    rw [hA.1]
    refine zr_icmp_geN (tgt := 80) dX9_isOwned_11 (by decide) (by omega) (by omega) (fun hc_11 => ?_) (fun hc_11 => ?_)
    · refine zr_iload_n dX9_isOwned_80 rfl ?_
      refine zr_zreturnB dX9_isOwned_81 rfl (Nat.le_refl _) (Nat.le_refl _) ?_
      have e : o = s.2.2.1 := by omega
      rw [sownd_eq] at hk
      rw [hb, e]; exact hk
    · refine zr_iconst (v := nI 0) dX9_isOwned_14 rfl ?_
      refine zr_istore dX9_isOwned_15 (by decide) rfl ?_
      dsimp only [zset]
      exact inner hc_11 _ 0 b (Nat.lt_succ_self _) (Nat.zero_le _) (by simp [hb, anyN])
theorem isOwned_ok {p : Nat} {rc : sR} (hM : MI m) (hA : RA f s) (hp : p + 2 < 424) (hrc : ∀ k, k < 3 → f (p + k) = rc k) (hk : Q (.int (bI (sownd s rc))) (zrow m 668 f)) : zC (d + 3) M9_isOwned 0 0 [.ref 667, .int (nI p)] (zrow m 668 f) Q := by
  refine zenterP (Or.inl (by decide +kernel)) rfl (fun h => by cases h) (Nat.le_of_ble_eq_true rfl) ?_
  show zwp _ _ _ _ _ 0 [_, _, zU, zU, zU] [] 0 0 _
  refine zr_iconst (v := bI false) dX9_isOwned_0 rfl ?_
  refine zr_istore_n dX9_isOwned_1 (by decide) rfl ?_
  dsimp only [zset]
  refine zr_iconst (v := nI 0) dX9_isOwned_2 rfl ?_
  refine zr_istore_n dX9_isOwned_3 (by decide) rfl ?_
  dsimp only [zset]
  exact isOwned_loop hM hA hp hrc hk _ 0 false _ (Nat.lt_succ_self _) (Nat.zero_le _) rfl
theorem findsNow_loop {h what : Nat} {n k : Int32} (hM : MI m) (hA : RA f s) (hh : h < s.2.2.1) (hw : what < 3) (hk : Q (.int (sfinds s h n k what)) (zrow m 668 f)) : ∀ c i x9 x10, (s.2.2.2 h).2.2.2.length - i < c → i ≤ (s.2.2.2 h).2.2.2.length →
    zwp (d + 2) M9_findsNow 0 0 Q 12 [.ref 667, .int (nI h), .int n, .int k, .int (nI what), .int (snewest (s.2.2.2 h).2.2.2 n k i), .int (nI (cntN (fun i => snam (zg (s.2.2.2 h).2.2.2 i) n k) i)), .int (smost (s.2.2.2 h).2.2.2 n k (s.1 1) i), .int (nI i), x9, x10] [] 0 0 (zrow m 668 f) := by
  have h6 := hA.h6 hh
  have s6 := hA.s6 hh
  intro c
  induction c with
  | zero => intro i x9 x10 h1; omega
  | succ c ih =>
    intro i x9 x10 h1 h2
    refine zr_iload dX9_findsNow_12 rfl ?_
    refine zr_aload_n dX9_findsNow_14 rfl ?_
    refine zr_iload_n dX9_findsNow_15 rfl ?_
    refine zr_cV1 rfl dX9_findsNow_16 cv_9_70 (MI.ob hM ⟨rfl, rfl⟩) (Nat.le_of_ble_eq_true rfl) (entries_ok hM h6 (hA.siz hh) ?_)
    refine zr_icmp_geN (tgt := 110) dX9_findsNow_19 (by decide) (by omega) (by omega) (fun hc_19 => ?_) (fun hc_19 => ?_)
    · refine zr_iload dX9_findsNow_110 rfl ?_
      refine zr_if_ne (tgt := 120) dX9_findsNow_112 (by decide) (fun hc_112 => ?_) (fun hc_112 => ?_)
      · refine zr_iload dX9_findsNow_120 rfl ?_
        refine zr_iconst (v := nI 1) dX9_findsNow_122 rfl ?_
        refine zr_icmp_neN (tgt := 131) dX9_findsNow_123 (by decide) (by omega) (by omega) (fun hc_123 => ?_) (fun hc_123 => ?_)
        · refine zr_iload dX9_findsNow_131 rfl ?_
          refine zr_ireturn dX9_findsNow_133 rfl (Nat.le_refl _) (Nat.le_refl _) ?_
          have e : i = (s.2.2.2 h).2.2.2.length := by omega
          rw [e]
          rw [sfinds] at hk
          have : what = 0 ∨ what = 1 ∨ what = 2 := by omega
          rcases this with rfl | rfl | rfl
          all_goals first | exact hk | exact absurd rfl hc_112 | exact absurd hc_112 (by decide) | exact absurd rfl hc_123 | exact absurd hc_123 (by decide)
        · refine zr_iload dX9_findsNow_126 rfl ?_
          refine zr_goto (tgt := 133) dX9_findsNow_128 (by decide) ?_
          refine zr_ireturn dX9_findsNow_133 rfl (Nat.le_refl _) (Nat.le_refl _) ?_
          have e : i = (s.2.2.2 h).2.2.2.length := by omega
          rw [e]
          rw [sfinds] at hk
          have : what = 0 ∨ what = 1 ∨ what = 2 := by omega
          rcases this with rfl | rfl | rfl
          all_goals first | exact hk | exact absurd rfl hc_112 | exact absurd hc_112 (by decide) | exact absurd rfl hc_123 | exact absurd hc_123 (by decide)
      · refine zr_iload dX9_findsNow_115 rfl ?_
        refine zr_goto (tgt := 133) dX9_findsNow_117 (by decide) ?_
        refine zr_ireturn dX9_findsNow_133 rfl (Nat.le_refl _) (Nat.le_refl _) ?_
        have e : i = (s.2.2.2 h).2.2.2.length := by omega
        rw [e]
        rw [sfinds] at hk
        have : what = 0 ∨ what = 1 ∨ what = 2 := by omega
        rcases this with rfl | rfl | rfl
        all_goals first | exact hk | exact absurd rfl hc_112 | exact absurd hc_112 (by decide) | exact absurd rfl hc_123 | exact absurd hc_123 (by decide)
    · refine zr_iload_n dX9_findsNow_22 rfl ?_
      refine zr_iload dX9_findsNow_23 rfl ?_
      refine zr_cS2 rfl dX9_findsNow_25 cv_9_67 (Nat.le_of_ble_eq_true rfl) (kept_ok ?_)
      refine zr_istore dX9_findsNow_28 (by decide) rfl ?_
      dsimp only [zset]
      refine zr_aload_n dX9_findsNow_30 rfl ?_
      refine zr_getR dX9_findsNow_31 fd_9_7 rfl (MI.ob hM ⟨rfl, rfl⟩) (MI.r0 hM ⟨rfl, rfl⟩) (by decide) ?_
      refine zr_iload dX9_findsNow_34 rfl ?_
      refine zr_iconst (v := nI 0) dX9_findsNow_36 rfl ?_
      refine zr_iaddN dX9_findsNow_37 ?_
      refine zr_ialoadA dX9_findsNow_38 (MI.a668 hM ⟨rfl, rfl⟩) (by omega) ?_
      rw [hA.ent hh hc_19 0 (by decide)]
      refine zr_iload_n dX9_findsNow_39 rfl ?_
      refine zr_icmp_ne (tgt := 104) dX9_findsNow_40 (by decide) (fun hc_40 => ?_) (fun hc_40 => ?_)
      · have hnn : snam (zg (s.2.2.2 h).2.2.2 i) n k = false := by simp [snam, hc_40]
        refine zr_iincN dX9_findsNow_104 rfl (by decide) rfl ?_
        dsimp only [zset]
        refine zr_goto (tgt := 12) dX9_findsNow_107 (by decide) ?_
        first
        | (have e := ih (i + 1) (.int (nI (244 + 5 * (6 * h + i)))) x10 (by omega) (by omega)
           rw [snewest, smost, cntN, hnn] at e
           exact e)
        | (have e := ih (i + 1) (.int (nI (244 + 5 * (6 * h + i)))) (.int (zg (s.2.2.2 h).2.2.2 i 4 - s.1 1)) (by omega) (by omega)
           rw [snewest, smost, cntN, hm, hnn] at e
           exact e)
      · refine zr_aload_n dX9_findsNow_43 rfl ?_
        refine zr_getR dX9_findsNow_44 fd_9_7 rfl (MI.ob hM ⟨rfl, rfl⟩) (MI.r0 hM ⟨rfl, rfl⟩) (by decide) ?_
        refine zr_iload dX9_findsNow_47 rfl ?_
        refine zr_iconst (v := nI 1) dX9_findsNow_49 rfl ?_
        refine zr_iaddN dX9_findsNow_50 ?_
        refine zr_ialoadA dX9_findsNow_51 (MI.a668 hM ⟨rfl, rfl⟩) (by omega) ?_
        rw [hA.ent hh hc_19 1 (by decide)]
        refine zr_iload_n dX9_findsNow_52 rfl ?_
        refine zr_icmp_ne (tgt := 104) dX9_findsNow_53 (by decide) (fun hc_53 => ?_) (fun hc_53 => ?_)
        · have hnn : snam (zg (s.2.2.2 h).2.2.2 i) n k = false := by simp [snam, hc_53]
          refine zr_iincN dX9_findsNow_104 rfl (by decide) rfl ?_
          dsimp only [zset]
          refine zr_goto (tgt := 12) dX9_findsNow_107 (by decide) ?_
          first
          | (have e := ih (i + 1) (.int (nI (244 + 5 * (6 * h + i)))) x10 (by omega) (by omega)
             rw [snewest, smost, cntN, hnn] at e
             exact e)
          | (have e := ih (i + 1) (.int (nI (244 + 5 * (6 * h + i)))) (.int (zg (s.2.2.2 h).2.2.2 i 4 - s.1 1)) (by omega) (by omega)
             rw [snewest, smost, cntN, hm, hnn] at e
             exact e)
        · have hnn : snam (zg (s.2.2.2 h).2.2.2 i) n k = true := by simp [snam, hc_40, hc_53]
          refine zr_aload_n dX9_findsNow_56 rfl ?_
          refine zr_getR dX9_findsNow_57 fd_9_7 rfl (MI.ob hM ⟨rfl, rfl⟩) (MI.r0 hM ⟨rfl, rfl⟩) (by decide) ?_
          refine zr_iload dX9_findsNow_60 rfl ?_
          refine zr_iconst (v := nI 2) dX9_findsNow_62 rfl ?_
          refine zr_iaddN dX9_findsNow_63 ?_
          refine zr_ialoadA dX9_findsNow_64 (MI.a668 hM ⟨rfl, rfl⟩) (by omega) ?_
          rw [hA.ent hh hc_19 2 (by decide)]
          refine zr_istore dX9_findsNow_65 (by decide) rfl ?_
          dsimp only [zset]
          refine zr_iincN dX9_findsNow_67 rfl (by decide) rfl ?_
          dsimp only [zset]
          refine zr_aload_n dX9_findsNow_70 rfl ?_
          refine zr_getR dX9_findsNow_71 fd_9_7 rfl (MI.ob hM ⟨rfl, rfl⟩) (MI.r0 hM ⟨rfl, rfl⟩) (by decide) ?_
          refine zr_iload dX9_findsNow_74 rfl ?_
          refine zr_iconst (v := nI 4) dX9_findsNow_76 rfl ?_
          refine zr_iaddN dX9_findsNow_77 ?_
          refine zr_ialoadA dX9_findsNow_78 (MI.a668 hM ⟨rfl, rfl⟩) (by omega) ?_
          rw [hA.ent hh hc_19 4 (by decide)]
          refine zr_aload_n dX9_findsNow_79 rfl ?_
          refine zr_getR dX9_findsNow_80 fd_9_7 rfl (MI.ob hM ⟨rfl, rfl⟩) (MI.r0 hM ⟨rfl, rfl⟩) (by decide) ?_
          refine zr_iconst (v := nI 1) dX9_findsNow_83 rfl ?_
          refine zr_ialoadA dX9_findsNow_84 (MI.a668 hM ⟨rfl, rfl⟩) (by omega) ?_
          rw [hA.2.2.1 1 (by decide) (by decide)]
          refine zr_isub dX9_findsNow_85 ?_
          refine zr_istore dX9_findsNow_86 (by decide) rfl ?_
          dsimp only [zset]
          refine zr_iload dX9_findsNow_88 rfl ?_
          refine zr_iload dX9_findsNow_90 rfl ?_
          refine zr_icmp_le (tgt := 100) dX9_findsNow_92 (by decide) (fun hc_92 => ?_) (fun hc_92 => ?_)
          · have hm : (if smost (s.2.2.2 h).2.2.2 n k (s.1 1) i < zg (s.2.2.2 h).2.2.2 i 4 - s.1 1 then zg (s.2.2.2 h).2.2.2 i 4 - s.1 1 else smost (s.2.2.2 h).2.2.2 n k (s.1 1) i) = smost (s.2.2.2 h).2.2.2 n k (s.1 1) i := if_neg (Int32.not_lt.mpr hc_92)
            refine zr_iload dX9_findsNow_100 rfl ?_
            refine zr_istore dX9_findsNow_102 (by decide) rfl ?_
            dsimp only [zset]
            refine zr_iincN dX9_findsNow_104 rfl (by decide) rfl ?_
            dsimp only [zset]
            refine zr_goto (tgt := 12) dX9_findsNow_107 (by decide) ?_
            first
            | (have e := ih (i + 1) (.int (nI (244 + 5 * (6 * h + i)))) x10 (by omega) (by omega)
               rw [snewest, smost, cntN, hnn] at e
               exact e)
            | (have e := ih (i + 1) (.int (nI (244 + 5 * (6 * h + i)))) (.int (zg (s.2.2.2 h).2.2.2 i 4 - s.1 1)) (by omega) (by omega)
               rw [snewest, smost, cntN, hm, hnn] at e
               exact e)
          · have hm : (if smost (s.2.2.2 h).2.2.2 n k (s.1 1) i < zg (s.2.2.2 h).2.2.2 i 4 - s.1 1 then zg (s.2.2.2 h).2.2.2 i 4 - s.1 1 else smost (s.2.2.2 h).2.2.2 n k (s.1 1) i) = zg (s.2.2.2 h).2.2.2 i 4 - s.1 1 := if_pos (Int32.not_le.mp hc_92)
            refine zr_iload dX9_findsNow_95 rfl ?_
            refine zr_goto (tgt := 102) dX9_findsNow_97 (by decide) ?_
            refine zr_istore dX9_findsNow_102 (by decide) rfl ?_
            dsimp only [zset]
            refine zr_iincN dX9_findsNow_104 rfl (by decide) rfl ?_
            dsimp only [zset]
            refine zr_goto (tgt := 12) dX9_findsNow_107 (by decide) ?_
            first
            | (have e := ih (i + 1) (.int (nI (244 + 5 * (6 * h + i)))) x10 (by omega) (by omega)
               rw [snewest, smost, cntN, hnn] at e
               exact e)
            | (have e := ih (i + 1) (.int (nI (244 + 5 * (6 * h + i)))) (.int (zg (s.2.2.2 h).2.2.2 i 4 - s.1 1)) (by omega) (by omega)
               rw [snewest, smost, cntN, hm, hnn] at e
               exact e)
theorem findsNow_ok {h what : Nat} {n k : Int32} (hM : MI m) (hA : RA f s) (hh : h < s.2.2.1) (hw : what < 3) (hk : Q (.int (sfinds s h n k what)) (zrow m 668 f)) : zC (d + 2) M9_findsNow 0 0 [.ref 667, .int (nI h), .int n, .int k, .int (nI what)] (zrow m 668 f) Q := by
  refine zenterP (Or.inl (by decide +kernel)) rfl (fun h => by cases h) (Nat.le_of_ble_eq_true rfl) ?_
  show zwp _ _ _ _ _ 0 [_, _, _, _, _, zU, zU, zU, zU, zU, zU] [] 0 0 _
  refine zr_iconst (v := -1) dX9_findsNow_0 rfl ?_
  refine zr_istore dX9_findsNow_1 (by decide) rfl ?_
  dsimp only [zset]
  refine zr_iconst (v := nI 0) dX9_findsNow_3 rfl ?_
  refine zr_istore dX9_findsNow_4 (by decide) rfl ?_
  dsimp only [zset]
  refine zr_iconst (v := -1) dX9_findsNow_6 rfl ?_
  refine zr_istore dX9_findsNow_7 (by decide) rfl ?_
  dsimp only [zset]
  refine zr_iconst (v := nI 0) dX9_findsNow_9 rfl ?_
  refine zr_istore dX9_findsNow_10 (by decide) rfl ?_
  dsimp only [zset]
  exact findsNow_loop hM hA hh hw hk _ 0 _ _ (Nat.lt_succ_self _) (Nat.zero_le _)
def sdnI (s : sS) (h : Nat) (n k : Int32) (i : Nat) : Bool := sdn s h n k (zg (s.2.2.2 h).2.2.1 i)
theorem shas_eq (s : sS) (n k : Int32) (h : Nat) : shas s n k h = anyN (sdnI s h n k) (s.2.2.2 h).2.2.1.length := by
  unfold shas
  rw [any_anyN]
  rfl
theorem sfdata_s (s : sS) (h : Nat) (n k : Int32) (r : Nat) : sfdata s h n k (r + 1) = if anyN (sdnI s h n k) r then sfdata s h n k r else if sdnI s h n k r then zg (s.2.2.2 h).2.2.1 r 2 else -1 := rfl
theorem sfdata_none (s : sS) (h : Nat) (n k : Int32) : ∀ r, anyN (sdnI s h n k) r = false → sfdata s h n k r = -1
  | 0, _ => rfl
  | r + 1, e => by
    rw [anyN, Bool.or_eq_false_iff] at e
    rw [sfdata_s, e.1, e.2]
    rfl
theorem sdata_none (s : sS) (n k : Int32) : ∀ h, h < 2 ^ 31 → sfirst s n k h = -1 → sdata s n k h = -1
  | 0, _, _ => rfl
  | h + 1, hh, e => by
    rw [sfirst] at e
    rw [sdata]
    by_cases h1 : sfirst s n k h = -1
    · rw [if_pos h1]
      by_cases h2 : shas s n k h = true
      · rw [if_pos ⟨h1, h2⟩] at e
        exact absurd e (nI_ne_m1 (by omega))
      · rw [if_neg h2]
    · rw [if_neg (fun z => h1 z.1)] at e
      exact absurd e h1
/-- the first host and its data, when r records of host h have been looked at -/
def sofs (s : sS) (n k : Int32) (h r : Nat) : Int32 := if sfirst s n k h = -1 ∧ anyN (sdnI s h n k) r = true then nI h else sfirst s n k h
def soda (s : sS) (n k : Int32) (h r : Nat) : Int32 := if sfirst s n k h = -1 then sfdata s h n k r else sdata s n k h
theorem sofs_0 (s : sS) (n k : Int32) (h : Nat) : sofs s n k h 0 = sfirst s n k h := by simp [sofs, anyN]
theorem soda_0 (s : sS) (n k : Int32) (h : Nat) (hh : h < 2 ^ 31) : soda s n k h 0 = sdata s n k h := by
  unfold soda
  split
  · rename_i e; rw [sdata_none s n k h hh e]; rfl
  · rfl
theorem sofs_l (s : sS) (n k : Int32) (h : Nat) : sofs s n k h (s.2.2.2 h).2.2.1.length = sfirst s n k (h + 1) := by
  rw [sofs, sfirst, shas_eq]
theorem soda_l (s : sS) (n k : Int32) (h : Nat) : soda s n k h (s.2.2.2 h).2.2.1.length = sdata s n k (h + 1) := by
  rw [soda, sdata]
  split
  · by_cases h2 : shas s n k h = true
    · rw [if_pos h2]
    · rw [if_neg h2]
      rw [shas_eq, Bool.not_eq_true] at h2
      exact sfdata_none s h n k _ h2
  · rfl
theorem sofs_m1 {s : sS} {n k : Int32} {h r : Nat} (hh : h < 2 ^ 31) : sofs s n k h r = -1 ↔ sfirst s n k h = -1 ∧ anyN (sdnI s h n k) r = false := by
  unfold sofs
  constructor
  · intro e
    split at e
    · exact absurd e (nI_ne_m1 hh)
    · rename_i h1
      exact ⟨e, by rw [← Bool.not_eq_true]; exact fun z => h1 ⟨e, z⟩⟩
  · rintro ⟨e1, e2⟩
    rw [if_neg (by rw [e2]; simp)]
    exact e1
theorem sofs_f {s : sS} {n k : Int32} {h r : Nat} (e : sdnI s h n k r = false) : sofs s n k h (r + 1) = sofs s n k h r := by
  simp [sofs, anyN, e]
theorem soda_f {s : sS} {n k : Int32} {h r : Nat} (e : sdnI s h n k r = false) : soda s n k h (r + 1) = soda s n k h r := by
  unfold soda
  split
  · rw [sfdata_s, e]
    by_cases h1 : anyN (sdnI s h n k) r = true
    · rw [if_pos h1]
    · rw [if_neg h1, sfdata_none s h n k r (by rw [← Bool.not_eq_true]; exact h1)]
      rfl
  · rfl
theorem sofs_t1 {s : sS} {n k : Int32} {h r : Nat} (hh : h < 2 ^ 31) (e : sdnI s h n k r = true) (e2 : sofs s n k h r = -1) : sofs s n k h (r + 1) = nI h := by
  rw [sofs, if_pos ⟨((sofs_m1 hh).mp e2).1, by simp [anyN, e]⟩]
theorem sofs_t2 {s : sS} {n k : Int32} {h r : Nat} (hh : h < 2 ^ 31) (e2 : ¬ sofs s n k h r = -1) : sofs s n k h (r + 1) = sofs s n k h r := by
  have h1 := fun z => e2 ((sofs_m1 hh).mpr z)
  unfold sofs
  by_cases h2 : sfirst s n k h = -1
  · have h3 : anyN (sdnI s h n k) r = true := by
      rw [← Bool.not_eq_false]
      exact fun z => h1 ⟨h2, z⟩
    simp [anyN, h3]
  · simp [h2]
theorem soda_t1 {s : sS} {n k : Int32} {h r : Nat} (hh : h < 2 ^ 31) (e : sdnI s h n k r = true) (e2 : sofs s n k h r = -1) : soda s n k h (r + 1) = zg (s.2.2.2 h).2.2.1 r 2 := by
  obtain ⟨h1, h2⟩ := (sofs_m1 hh).mp e2
  rw [soda, if_pos h1, sfdata_s, h2, e]
  rfl
theorem soda_t2 {s : sS} {n k : Int32} {h r : Nat} (hh : h < 2 ^ 31) (e2 : ¬ sofs s n k h r = -1) : soda s n k h (r + 1) = soda s n k h r := by
  have h1 := fun z => e2 ((sofs_m1 hh).mpr z)
  unfold soda
  split
  · rename_i h2
    have h3 : anyN (sdnI s h n k) r = true := by
      rw [← Bool.not_eq_false]
      exact fun z => h1 ⟨h2, z⟩
    rw [sfdata_s, if_pos h3]
  · rfl
theorem ownerNow_loop {what : Nat} {n k : Int32} (hM : MI m) (hA : RA f s) (hX : sPx s) (hw : what < 3) (hk : Q (.int (sowner s n k what)) (zrow m 668 f)) : ∀ c h t8 t9 t10 t11, s.2.2.1 - h < c → h ≤ s.2.2.1 →
    zwp (d + 3) M9_ownerNow 0 0 Q 12 [.ref 667, .int n, .int k, .int (nI what), .int (sfirst s n k h), .int (sdata s n k h), .int (nI (cntN (shas s n k) h)), .int (nI h), t8, t9, t10, t11] [] 0 0 (zrow m 668 f) := by
  have hn6 := hA.2.1
  intro c
  induction c with
  | zero => intro h t8 t9 t10 t11 h1; omega
  | succ c ih =>
    intro h t8 t9 t10 t11 h1 h2
    have inner : h < s.2.2.1 → ∀ e r t10 t11, (s.2.2.2 h).2.2.1.length - r < e → r ≤ (s.2.2.2 h).2.2.1.length →
        zwp (d + 3) M9_ownerNow 0 0 Q 29 [.ref 667, .int n, .int k, .int (nI what), .int (sofs s n k h r), .int (soda s n k h r), .int (nI (cntN (shas s n k) h)), .int (nI h), .int (bI (anyN (sdnI s h n k) r)), .int (nI r), t10, t11] [] 0 0 (zrow m 668 f) := by
      intro ho e
      have h5 := hA.c5 ho
      have hh31 : h < 2 ^ 31 := by omega
      induction e with
      | zero => intro r t10 t11 h3; omega
      | succ e ih2 =>
        intro r t10 t11 h3 h4
        have J : r < (s.2.2.2 h).2.2.1.length → ∀ b, b = sdnI s h n k r → zwp (d + 3) M9_ownerNow 0 0 Q 91 [.ref 667, .int n, .int k, .int (nI what), .int (sofs s n k h r), .int (soda s n k h r), .int (nI (cntN (shas s n k) h)), .int (nI h), .int (bI (anyN (sdnI s h n k) r)), .int (nI r), .int (nI (34 + 7 * (5 * h + r))), t11] [.int (bI b)] 0 0 (zrow m 668 f) := by
          intro hr b hb
          have hs := ih2 (r + 1) (.int (nI (34 + 7 * (5 * h + r)))) (.int (bI b)) (by omega) (by omega)
          cases b with
          | false =>
            rw [sofs_f hb.symm, soda_f hb.symm, anyN, ← hb] at hs
            refine zr_istore dX9_ownerNow_91 (by decide) rfl ?_
            dsimp only [zset]
            refine zr_iload dX9_ownerNow_93 rfl ?_
            refine zr_if_eqB (tgt := 116) dX9_ownerNow_95 (by decide) (fun hc_95 => ?_) (fun hc_95 => absurd hc_95 (by decide))
            refine zr_iload dX9_ownerNow_116 rfl ?_
            refine zr_istore dX9_ownerNow_118 (by decide) rfl ?_
            dsimp only [zset]
            refine zr_iload dX9_ownerNow_120 rfl ?_
            refine zr_if_eqB (tgt := 136) dX9_ownerNow_122 (by decide) (fun hc_122 => ?_) (fun hc_122 => absurd hc_122 (by decide))
            refine zr_iload dX9_ownerNow_136 rfl ?_
            refine zr_istore dX9_ownerNow_138 (by decide) rfl ?_
            dsimp only [zset]
            refine zr_iload dX9_ownerNow_140 rfl ?_
            refine zr_if_neB (tgt := 150) dX9_ownerNow_142 (by decide) (fun hc_142 => ?_) (fun hc_142 => ?_)
            · refine zr_iconst (v := bI true) dX9_ownerNow_150 rfl ?_
              refine zr_goto (tgt := 155) dX9_ownerNow_151 (by decide) ?_
              refine zr_istore dX9_ownerNow_155 (by decide) rfl ?_
              dsimp only [zset]
              refine zr_iincN dX9_ownerNow_157 rfl (by decide) rfl ?_
              dsimp only [zset]
              refine zr_goto (tgt := 29) dX9_ownerNow_160 (by decide) ?_
              simpa [hc_142] using hs
            · refine zr_iload dX9_ownerNow_145 rfl ?_
              refine zr_if_eqB (tgt := 154) dX9_ownerNow_147 (by decide) (fun hc_147 => ?_) (fun hc_147 => absurd hc_147 (by decide))
              refine zr_iconst (v := bI false) dX9_ownerNow_154 rfl ?_
              refine zr_istore dX9_ownerNow_155 (by decide) rfl ?_
              dsimp only [zset]
              refine zr_iincN dX9_ownerNow_157 rfl (by decide) rfl ?_
              dsimp only [zset]
              refine zr_goto (tgt := 29) dX9_ownerNow_160 (by decide) ?_
              simpa [hc_142] using hs
          | true =>
            by_cases e1 : sofs s n k h r = -1
            · rw [sofs_t1 hh31 hb.symm e1, soda_t1 hh31 hb.symm e1, anyN, ← hb] at hs
              refine zr_istore dX9_ownerNow_91 (by decide) rfl ?_
              dsimp only [zset]
              refine zr_iload dX9_ownerNow_93 rfl ?_
              refine zr_if_eqB (tgt := 116) dX9_ownerNow_95 (by decide) (fun hc_95 => absurd hc_95 (by decide)) (fun hc_95 => ?_)
              refine zr_iload dX9_ownerNow_98 rfl ?_
              refine zr_iconst (v := -1) dX9_ownerNow_100 rfl ?_
              refine zr_icmp_ne (tgt := 116) dX9_ownerNow_101 (by decide) (fun hc_101 => absurd e1 hc_101) (fun hc_101 => ?_)
              refine zr_aload_n dX9_ownerNow_104 rfl ?_
              refine zr_getR dX9_ownerNow_105 fd_9_7 rfl (MI.ob hM ⟨rfl, rfl⟩) (MI.r0 hM ⟨rfl, rfl⟩) (by decide) ?_
              refine zr_iload dX9_ownerNow_108 rfl ?_
              refine zr_iconst (v := nI 2) dX9_ownerNow_110 rfl ?_
              refine zr_iaddN dX9_ownerNow_111 ?_
              refine zr_ialoadA dX9_ownerNow_112 (MI.a668 hM ⟨rfl, rfl⟩) (by omega) ?_
              rw [hA.rec ho hr 2 (by decide)]
              refine zr_goto (tgt := 118) dX9_ownerNow_113 (by decide) ?_
              refine zr_istore dX9_ownerNow_118 (by decide) rfl ?_
              dsimp only [zset]
              refine zr_iload dX9_ownerNow_120 rfl ?_
              refine zr_if_eqB (tgt := 136) dX9_ownerNow_122 (by decide) (fun hc_122 => absurd hc_122 (by decide)) (fun hc_122 => ?_)
              refine zr_iload dX9_ownerNow_125 rfl ?_
              refine zr_iconst (v := -1) dX9_ownerNow_127 rfl ?_
              refine zr_icmp_ne (tgt := 136) dX9_ownerNow_128 (by decide) (fun hc_128 => absurd e1 hc_128) (fun hc_128 => ?_)
              refine zr_iload dX9_ownerNow_131 rfl ?_
              refine zr_goto (tgt := 138) dX9_ownerNow_133 (by decide) ?_
              refine zr_istore dX9_ownerNow_138 (by decide) rfl ?_
              dsimp only [zset]
              refine zr_iload dX9_ownerNow_140 rfl ?_
              refine zr_if_neB (tgt := 150) dX9_ownerNow_142 (by decide) (fun hc_142 => ?_) (fun hc_142 => ?_)
              · refine zr_iconst (v := bI true) dX9_ownerNow_150 rfl ?_
                refine zr_goto (tgt := 155) dX9_ownerNow_151 (by decide) ?_
                refine zr_istore dX9_ownerNow_155 (by decide) rfl ?_
                dsimp only [zset]
                refine zr_iincN dX9_ownerNow_157 rfl (by decide) rfl ?_
                dsimp only [zset]
                refine zr_goto (tgt := 29) dX9_ownerNow_160 (by decide) ?_
                simpa [hc_142] using hs
              · refine zr_iload dX9_ownerNow_145 rfl ?_
                refine zr_if_eqB (tgt := 154) dX9_ownerNow_147 (by decide) (fun hc_147 => absurd hc_147 (by decide)) (fun hc_147 => ?_)
                refine zr_iconst (v := bI true) dX9_ownerNow_150 rfl ?_
                refine zr_goto (tgt := 155) dX9_ownerNow_151 (by decide) ?_
                refine zr_istore dX9_ownerNow_155 (by decide) rfl ?_
                dsimp only [zset]
                refine zr_iincN dX9_ownerNow_157 rfl (by decide) rfl ?_
                dsimp only [zset]
                refine zr_goto (tgt := 29) dX9_ownerNow_160 (by decide) ?_
                simpa [hc_142] using hs
            · rw [sofs_t2 hh31 e1, soda_t2 hh31 e1, anyN, ← hb] at hs
              refine zr_istore dX9_ownerNow_91 (by decide) rfl ?_
              dsimp only [zset]
              refine zr_iload dX9_ownerNow_93 rfl ?_
              refine zr_if_eqB (tgt := 116) dX9_ownerNow_95 (by decide) (fun hc_95 => absurd hc_95 (by decide)) (fun hc_95 => ?_)
              refine zr_iload dX9_ownerNow_98 rfl ?_
              refine zr_iconst (v := -1) dX9_ownerNow_100 rfl ?_
              refine zr_icmp_ne (tgt := 116) dX9_ownerNow_101 (by decide) (fun hc_101 => ?_) (fun hc_101 => absurd hc_101 e1)
              refine zr_iload dX9_ownerNow_116 rfl ?_
              refine zr_istore dX9_ownerNow_118 (by decide) rfl ?_
              dsimp only [zset]
              refine zr_iload dX9_ownerNow_120 rfl ?_
              refine zr_if_eqB (tgt := 136) dX9_ownerNow_122 (by decide) (fun hc_122 => absurd hc_122 (by decide)) (fun hc_122 => ?_)
              refine zr_iload dX9_ownerNow_125 rfl ?_
              refine zr_iconst (v := -1) dX9_ownerNow_127 rfl ?_
              refine zr_icmp_ne (tgt := 136) dX9_ownerNow_128 (by decide) (fun hc_128 => ?_) (fun hc_128 => absurd hc_128 e1)
              refine zr_iload dX9_ownerNow_136 rfl ?_
              refine zr_istore dX9_ownerNow_138 (by decide) rfl ?_
              dsimp only [zset]
              refine zr_iload dX9_ownerNow_140 rfl ?_
              refine zr_if_neB (tgt := 150) dX9_ownerNow_142 (by decide) (fun hc_142 => ?_) (fun hc_142 => ?_)
              · refine zr_iconst (v := bI true) dX9_ownerNow_150 rfl ?_
                refine zr_goto (tgt := 155) dX9_ownerNow_151 (by decide) ?_
                refine zr_istore dX9_ownerNow_155 (by decide) rfl ?_
                dsimp only [zset]
                refine zr_iincN dX9_ownerNow_157 rfl (by decide) rfl ?_
                dsimp only [zset]
                refine zr_goto (tgt := 29) dX9_ownerNow_160 (by decide) ?_
                simpa [hc_142] using hs
              · refine zr_iload dX9_ownerNow_145 rfl ?_
                refine zr_if_eqB (tgt := 154) dX9_ownerNow_147 (by decide) (fun hc_147 => absurd hc_147 (by decide)) (fun hc_147 => ?_)
                refine zr_iconst (v := bI true) dX9_ownerNow_150 rfl ?_
                refine zr_goto (tgt := 155) dX9_ownerNow_151 (by decide) ?_
                refine zr_istore dX9_ownerNow_155 (by decide) rfl ?_
                dsimp only [zset]
                refine zr_iincN dX9_ownerNow_157 rfl (by decide) rfl ?_
                dsimp only [zset]
                refine zr_goto (tgt := 29) dX9_ownerNow_160 (by decide) ?_
                simpa [hc_142] using hs
        refine zr_iload dX9_ownerNow_29 rfl ?_
        refine zr_aload_n dX9_ownerNow_31 rfl ?_
        refine zr_iload dX9_ownerNow_32 rfl ?_
        refine zr_cV1 rfl dX9_ownerNow_34 cv_9_73 (MI.ob hM ⟨rfl, rfl⟩) (Nat.le_of_ble_eq_true rfl) (records_ok hM (by omega) (hA.cnt ho) ?_)
        refine zr_icmp_geN (tgt := 163) dX9_ownerNow_37 (by decide) (by omega) (by omega) (fun hc_37 => ?_) (fun hc_37 => ?_)
        · refine zr_iload dX9_ownerNow_163 rfl ?_
          refine zr_iload dX9_ownerNow_165 rfl ?_
          refine zr_if_eqB (tgt := 174) dX9_ownerNow_167 (by decide) (fun hc_167 => ?_) (fun hc_167 => ?_)
          · refine zr_iconst (v := nI 0) dX9_ownerNow_174 rfl ?_
            refine zr_iaddN dX9_ownerNow_175 ?_
            refine zr_istore dX9_ownerNow_176 (by decide) rfl ?_
            dsimp only [zset]
            refine zr_iincN dX9_ownerNow_178 rfl (by decide) rfl ?_
            dsimp only [zset]
            refine zr_goto (tgt := 12) dX9_ownerNow_181 (by decide) ?_
            have e : r = (s.2.2.2 h).2.2.1.length := by omega
            have hs := ih (h + 1) (.int (bI (anyN (sdnI s h n k) r))) (.int (nI r)) t10 t11 (by omega) (by omega)
            rw [← sofs_l, ← soda_l, cntN, shas_eq, ← e] at hs
            simpa [hc_167] using hs
          · refine zr_iconst (v := nI 1) dX9_ownerNow_170 rfl ?_
            refine zr_goto (tgt := 175) dX9_ownerNow_171 (by decide) ?_
            refine zr_iaddN dX9_ownerNow_175 ?_
            refine zr_istore dX9_ownerNow_176 (by decide) rfl ?_
            dsimp only [zset]
            refine zr_iincN dX9_ownerNow_178 rfl (by decide) rfl ?_
            dsimp only [zset]
            refine zr_goto (tgt := 12) dX9_ownerNow_181 (by decide) ?_
            have e : r = (s.2.2.2 h).2.2.1.length := by omega
            have hs := ih (h + 1) (.int (bI (anyN (sdnI s h n k) r))) (.int (nI r)) t10 t11 (by omega) (by omega)
            rw [← sofs_l, ← soda_l, cntN, shas_eq, ← e] at hs
            simpa [hc_167] using hs
        · refine zr_iload dX9_ownerNow_40 rfl ?_
          refine zr_iload dX9_ownerNow_42 rfl ?_
          refine zr_cS2 rfl dX9_ownerNow_44 cv_9_55 (Nat.le_of_ble_eq_true rfl) (at_ok ?_)
          refine zr_istore dX9_ownerNow_47 (by decide) rfl ?_
          dsimp only [zset]
          refine zr_aload_n dX9_ownerNow_49 rfl ?_
          refine zr_iload dX9_ownerNow_50 rfl ?_
          refine zr_iload dX9_ownerNow_52 rfl ?_
          refine zr_cV2 rfl dX9_ownerNow_54 cv_9_142 (MI.ob hM ⟨rfl, rfl⟩) (Nat.le_of_ble_eq_true rfl) (isDefended_ok hM hA hX ho hc_37 ?_)
          refine zr_if_eqB (tgt := 90) dX9_ownerNow_57 (by decide) (fun hc_57 => ?_) (fun hc_57 => ?_)
          · refine zr_iconst (v := bI false) dX9_ownerNow_90 rfl ?_
            exact J hc_37 _ (by simp [sdnI, sdn, snam, *])
          · refine zr_aload_n dX9_ownerNow_60 rfl ?_
            refine zr_getR dX9_ownerNow_61 fd_9_7 rfl (MI.ob hM ⟨rfl, rfl⟩) (MI.r0 hM ⟨rfl, rfl⟩) (by decide) ?_
            refine zr_iload dX9_ownerNow_64 rfl ?_
            refine zr_iconst (v := nI 0) dX9_ownerNow_66 rfl ?_
            refine zr_iaddN dX9_ownerNow_67 ?_
            refine zr_ialoadA dX9_ownerNow_68 (MI.a668 hM ⟨rfl, rfl⟩) (by omega) ?_
            rw [hA.rec ho hc_37 0 (by decide)]
            refine zr_iload_n dX9_ownerNow_69 rfl ?_
            refine zr_icmp_ne (tgt := 90) dX9_ownerNow_70 (by decide) (fun hc_70 => ?_) (fun hc_70 => ?_)
            · refine zr_iconst (v := bI false) dX9_ownerNow_90 rfl ?_
              exact J hc_37 _ (by simp [sdnI, sdn, snam, *])
            · refine zr_aload_n dX9_ownerNow_73 rfl ?_
              refine zr_getR dX9_ownerNow_74 fd_9_7 rfl (MI.ob hM ⟨rfl, rfl⟩) (MI.r0 hM ⟨rfl, rfl⟩) (by decide) ?_
              refine zr_iload dX9_ownerNow_77 rfl ?_
              refine zr_iconst (v := nI 1) dX9_ownerNow_79 rfl ?_
              refine zr_iaddN dX9_ownerNow_80 ?_
              refine zr_ialoadA dX9_ownerNow_81 (MI.a668 hM ⟨rfl, rfl⟩) (by omega) ?_
              rw [hA.rec ho hc_37 1 (by decide)]
              refine zr_iload_n dX9_ownerNow_82 rfl ?_
              refine zr_icmp_ne (tgt := 90) dX9_ownerNow_83 (by decide) (fun hc_83 => ?_) (fun hc_83 => ?_)
              · refine zr_iconst (v := bI false) dX9_ownerNow_90 rfl ?_
                exact J hc_37 _ (by simp [sdnI, sdn, snam, *])
              · refine zr_iconst (v := bI true) dX9_ownerNow_86 rfl ?_
                refine zr_goto (tgt := 91) dX9_ownerNow_87 (by decide) ?_
                exact J hc_37 _ (by simp [sdnI, sdn, snam, *])
    refine zr_iload dX9_ownerNow_12 rfl ?_
    refine zr_aload_n dX9_ownerNow_14 rfl ?_
    refine zr_getR dX9_ownerNow_15 fd_9_7 rfl (MI.ob hM ⟨rfl, rfl⟩) (MI.r0 hM ⟨rfl, rfl⟩) (by decide) ?_
    refine zr_iconst (v := nI 0) dX9_ownerNow_18 rfl ?_
    refine zr_ialoadA dX9_ownerNow_19 (MI.a668 hM ⟨rfl, rfl⟩) (by omega) ?_
    rw [hA.1]
    refine zr_icmp_geN (tgt := 184) dX9_ownerNow_20 (by decide) (by omega) (by omega) (fun hc_20 => ?_) (fun hc_20 => ?_)
    · refine zr_iload_n dX9_ownerNow_184 rfl ?_
      refine zr_if_ne (tgt := 193) dX9_ownerNow_185 (by decide) (fun hc_185 => ?_) (fun hc_185 => ?_)
      · refine zr_iload_n dX9_ownerNow_193 rfl ?_
        refine zr_iconst (v := nI 1) dX9_ownerNow_194 rfl ?_
        refine zr_icmp_neN (tgt := 203) dX9_ownerNow_195 (by decide) (by omega) (by omega) (fun hc_195 => ?_) (fun hc_195 => ?_)
        · refine zr_iload dX9_ownerNow_203 rfl ?_
          refine zr_ireturn dX9_ownerNow_205 rfl (Nat.le_refl _) (Nat.le_refl _) ?_
          have e : h = s.2.2.1 := by omega
          rw [e]
          rw [sowner] at hk
          have : what = 0 ∨ what = 1 ∨ what = 2 := by omega
          rcases this with rfl | rfl | rfl
          all_goals first | exact hk | exact absurd rfl hc_185 | exact absurd hc_185 (by decide) | exact absurd rfl hc_195 | exact absurd hc_195 (by decide)
        · refine zr_iload dX9_ownerNow_198 rfl ?_
          refine zr_goto (tgt := 205) dX9_ownerNow_200 (by decide) ?_
          refine zr_ireturn dX9_ownerNow_205 rfl (Nat.le_refl _) (Nat.le_refl _) ?_
          have e : h = s.2.2.1 := by omega
          rw [e]
          rw [sowner] at hk
          have : what = 0 ∨ what = 1 ∨ what = 2 := by omega
          rcases this with rfl | rfl | rfl
          all_goals first | exact hk | exact absurd rfl hc_185 | exact absurd hc_185 (by decide) | exact absurd rfl hc_195 | exact absurd hc_195 (by decide)
      · refine zr_iload dX9_ownerNow_188 rfl ?_
        refine zr_goto (tgt := 205) dX9_ownerNow_190 (by decide) ?_
        refine zr_ireturn dX9_ownerNow_205 rfl (Nat.le_refl _) (Nat.le_refl _) ?_
        have e : h = s.2.2.1 := by omega
        rw [e]
        rw [sowner] at hk
        have : what = 0 ∨ what = 1 ∨ what = 2 := by omega
        rcases this with rfl | rfl | rfl
        all_goals first | exact hk | exact absurd rfl hc_185 | exact absurd hc_185 (by decide) | exact absurd rfl hc_195 | exact absurd hc_195 (by decide)
    · refine zr_iconst (v := bI false) dX9_ownerNow_23 rfl ?_
      refine zr_istore dX9_ownerNow_24 (by decide) rfl ?_
      dsimp only [zset]
      refine zr_iconst (v := nI 0) dX9_ownerNow_26 rfl ?_
      refine zr_istore dX9_ownerNow_27 (by decide) rfl ?_
      dsimp only [zset]
      have hs := inner hc_20 _ 0 t10 t11 (Nat.lt_succ_self _) (Nat.zero_le _)
      rw [sofs_0, soda_0 _ _ _ _ (by omega)] at hs
      exact hs
theorem ownerNow_ok {what : Nat} {n k : Int32} (hM : MI m) (hA : RA f s) (hX : sPx s) (hw : what < 3) (hk : Q (.int (sowner s n k what)) (zrow m 668 f)) : zC (d + 3) M9_ownerNow 0 0 [.ref 667, .int n, .int k, .int (nI what)] (zrow m 668 f) Q := by
  refine zenterP (Or.inl (by decide +kernel)) rfl (fun h => by cases h) (Nat.le_of_ble_eq_true rfl) ?_
  show zwp _ _ _ _ _ 0 [_, _, _, _, zU, zU, zU, zU, zU, zU, zU, zU] [] 0 0 _
  refine zr_iconst (v := -1) dX9_ownerNow_0 rfl ?_
  refine zr_istore dX9_ownerNow_1 (by decide) rfl ?_
  dsimp only [zset]
  refine zr_iconst (v := -1) dX9_ownerNow_3 rfl ?_
  refine zr_istore dX9_ownerNow_4 (by decide) rfl ?_
  dsimp only [zset]
  refine zr_iconst (v := nI 0) dX9_ownerNow_6 rfl ?_
  refine zr_istore dX9_ownerNow_7 (by decide) rfl ?_
  dsimp only [zset]
  refine zr_iconst (v := nI 0) dX9_ownerNow_9 rfl ?_
  refine zr_istore dX9_ownerNow_10 (by decide) rfl ?_
  dsimp only [zset]
  exact ownerNow_loop hM hA hX hw hk _ 0 _ _ _ _ (Nat.lt_succ_self _) (Nat.zero_le _)
end
