/-! ===== the reference: goodbye ===== -/
section
variable {s : sS} {a : sR} {o : Nat}
theorem sbyeN_0 : sbyeN s a 0 = s := sS_ext rfl rfl rfl (fun h => by simp [sbyeN])
theorem sbyeN_at : (sbyeN s a o).2.2.2 o = s.2.2.2 o := by simp [sbyeN]
theorem sbyeN_s : shst (sbyeN s a o) o (sbye (s.1 1) a (s.2.2.2 o)) = sbyeN s a (o + 1) := by
  refine sS_ext rfl rfl rfl (fun j => ?_)
  show fu (sbyeN s a o).2.2.2 o _ j = (if j < o + 1 then _ else _)
  by_cases e : j = o
  · subst e
    rw [fu_s, if_pos (by omega)]
  · rw [fu_n _ _ e]
    show (if j < o then _ else _) = _
    by_cases e2 : j < o
    · rw [if_pos e2, if_pos (by omega)]
    · rw [if_neg e2, if_neg (by omega)]
theorem sbyeN_sc {v : Int32} {k : Nat} : sbyeN (scnt s 2 v) a k = scnt (sbyeN s a k) 2 v := by
  refine sS_ext rfl rfl rfl (fun j => ?_)
  show (if j < k then sbye (fu s.1 2 v 1) a _ else _) = (if j < k then sbye (s.1 1) a _ else _)
  rw [fu_n _ _ (by decide)]
  rfl
theorem sbyeN_recs {k h : Nat} : ((sbyeN s a k).2.2.2 h).2.2.1 = (s.2.2.2 h).2.2.1 := by
  unfold sbyeN
  dsimp only
  split
  · unfold sbye; split <;> rfl
  · rfl
def sbyeE (t : Int32) (a e : sR) : sR := if ssame e a then sshort t e else e
theorem sbye_eq (t : Int32) (a : sR) (x : sH) (h : sawk x = true) : sbye t a x = sca x (x.2.2.2.map (sbyeE t a)) := by
  unfold sbye
  rw [if_pos h]
  rfl
theorem sbyeE_at {t : Int32} {e : sR} : sbyeE t a e = if ssame e a then fu e 4 (if t + 1 < e 4 then t + 1 else e 4) else e := by
  unfold sbyeE sshort fu
  rfl
end
section
variable {d : Nat} {Q : Value → zM → Prop} {m : zM} {s : sS} {h r : Nat} {a : sR} {f0 : Nat → Int32}
theorem leaveNow_31 (hM : MI m) (h6 : h < 6) (hr5 : r < 5) (hA0 : RA f0 s) (hrc : ∀ k, k < 7 → f0 (34 + 7 * (5 * h + r) + k) = a k)
    (hk : ∀ f t4 t5, RA f (sbyeN s a s.2.2.1) → zwp (d + 4) M9_leaveNow 0 0 Q 103 [.ref 667, .int (nI h), .int (nI r), .int (nI (34 + 7 * (5 * h + r))), t4, t5] [] 0 0 (zrow m 668 f)) : ∀ c o f t5, s.2.2.1 - o < c → o ≤ s.2.2.1 → RA f (sbyeN s a o) → (∀ j, 34 ≤ j → j < 244 → f j = f0 j) →
    zwp (d + 4) M9_leaveNow 0 0 Q 31 [.ref 667, .int (nI h), .int (nI r), .int (nI (34 + 7 * (5 * h + r))), .int (nI o), t5] [] 0 0 (zrow m 668 f) := by
  have n6 := hA0.2.1
  intro c
  induction c with
  | zero => intro o f t5 h1; omega
  | succ c ih =>
    intro o f t5 h1 h2 hA hf
    have inner : o < s.2.2.1 → ∀ e i g, (s.2.2.2 o).2.2.2.length - i < e → i ≤ (s.2.2.2 o).2.2.2.length → (i = 0 ∨ sawk (s.2.2.2 o) = true) → (∀ j, ¬ creg o j → g j = f j) → RAh g o (sca (s.2.2.2 o) (mk (sbyeE (s.1 1) a) (s.2.2.2 o).2.2.2 i)) →
        zwp (d + 4) M9_leaveNow 0 0 Q 45 [.ref 667, .int (nI h), .int (nI r), .int (nI (34 + 7 * (5 * h + r))), .int (nI o), .int (nI i)] [] 0 0 (zrow m 668 g) := by
      intro ho e
      have s6 : (s.2.2.2 o).2.2.2.length ≤ 6 := hA0.s6 ho
      have o6 : o < 6 := hA0.h6 ho
      induction e with
      | zero => intro i g h3; omega
      | succ e ih2 =>
        intro i g h3 h4 hi0 hg hx
        have g1 : g 1 = s.1 1 := (hg 1 (by unfold creg; omega)).trans (hA.2.2.1 1 (by decide) (by decide))
        have grc : ∀ k, k < 7 → g (34 + 7 * (5 * h + r) + k) = a k := fun k hk => ((hg _ (by unfold creg; omega)).trans (hf _ (by omega) (by omega))).trans (hrc k hk)
        have hz : g (10 + 4 * o + 3) = nI (s.2.2.2 o).2.2.2.length := by rw [hx.2.2.2.1]; exact congrArg nI mk_ln
        have hw : g (10 + 4 * o) = (s.2.2.2 o).1 := hx.1
        have he : i < (s.2.2.2 o).2.2.2.length → ∀ k, k < 5 → g (244 + 5 * (6 * o + i) + k) = zg (s.2.2.2 o).2.2.2 i k := fun hi k hk => (hx.2.2.2.2.2.2.2 i (by show i < (mk _ _ i).length; rw [mk_ln]; exact hi) k hk).trans (congrFun (mk_at hi) k)
        have done : sca (s.2.2.2 o) (mk (sbyeE (s.1 1) a) (s.2.2.2 o).2.2.2 i) = sbye (s.1 1) a (s.2.2.2 o) → zwp (d + 4) M9_leaveNow 0 0 Q 31 [.ref 667, .int (nI h), .int (nI r), .int (nI (34 + 7 * (5 * h + r))), .int (nI (o + 1)), .int (nI i)] [] 0 0 (zrow m 668 g) := by
          intro ed
          rw [ed] at hx
          refine ih (o + 1) g _ (by omega) (by omega) ?_ (fun j h5 h6 => (hg j (by unfold creg; omega)).trans (hf j h5 h6))
          rw [← sbyeN_s]
          exact hA.host ho (fun j hj => hg j (fun z => hj (creg_hreg z))) hx
        refine zr_iload dX9_leaveNow_45 rfl ?_
        refine zr_aload_n dX9_leaveNow_47 rfl ?_
        refine zr_iload dX9_leaveNow_48 rfl ?_
        refine zr_cV1 rfl dX9_leaveNow_50 cv_9_70 (MI.ob hM ⟨rfl, rfl⟩) (Nat.le_of_ble_eq_true rfl) (entries_ok hM o6 hz ?_)
        refine zr_icmp_geN (tgt := 97) dX9_leaveNow_53 (by decide) (by omega) (by omega) (fun hc_53 => ?_) (fun hc_53 => ?_)
        · refine zr_iincN dX9_leaveNow_97 rfl (by decide) rfl ?_
          dsimp only [zset]
          refine zr_goto (tgt := 31) dX9_leaveNow_100 (by decide) ?_
          refine done ?_
          first
          | (have ei : i = 0 := by rcases hi0 with e | e; exact e; exact absurd (hc_62.symm.trans e) (by decide)
             rw [ei, mk_0, sca_id, sbye, if_neg (by rw [hc_62]; decide)])
          | (have ei : i = (s.2.2.2 o).2.2.2.length := by omega
             rcases hi0 with e | e
             · have e0 : (s.2.2.2 o).2.2.2 = [] := List.eq_nil_of_length_eq_zero (by omega)
               by_cases ew : sawk (s.2.2.2 o) = true
               · rw [sbye_eq _ _ _ ew, ei, mk_len]
               · rw [e, mk_0, sca_id, sbye, if_neg ew]
             · rw [sbye_eq _ _ _ e, ei, mk_len])
        · refine zr_aload_n dX9_leaveNow_56 rfl ?_
          refine zr_iload dX9_leaveNow_57 rfl ?_
          refine zr_cV1 rfl dX9_leaveNow_59 cv_9_59 (MI.ob hM ⟨rfl, rfl⟩) (Nat.le_of_ble_eq_true rfl) (isAwake_ok hM o6 hw ?_)
          refine zr_if_eqB (tgt := 97) dX9_leaveNow_62 (by decide) (fun hc_62 => ?_) (fun hc_62 => ?_)
          · refine zr_iincN dX9_leaveNow_97 rfl (by decide) rfl ?_
            dsimp only [zset]
            refine zr_goto (tgt := 31) dX9_leaveNow_100 (by decide) ?_
            refine done ?_
            first
            | (have ei : i = 0 := by rcases hi0 with e | e; exact e; exact absurd (hc_62.symm.trans e) (by decide)
               rw [ei, mk_0, sca_id, sbye, if_neg (by rw [hc_62]; decide)])
            | (have ei : i = (s.2.2.2 o).2.2.2.length := by omega
               rcases hi0 with e | e
               · have e0 : (s.2.2.2 o).2.2.2 = [] := List.eq_nil_of_length_eq_zero (by omega)
                 by_cases ew : sawk (s.2.2.2 o) = true
                 · rw [sbye_eq _ _ _ ew, ei, mk_len]
                 · rw [e, mk_0, sca_id, sbye, if_neg ew]
               · rw [sbye_eq _ _ _ e, ei, mk_len])
          · refine zr_aload_n dX9_leaveNow_65 rfl ?_
            refine zr_iload dX9_leaveNow_66 rfl ?_
            refine zr_iload dX9_leaveNow_68 rfl ?_
            refine zr_cS2 rfl dX9_leaveNow_70 cv_9_67 (Nat.le_of_ble_eq_true rfl) (kept_ok ?_)
            refine zr_iload_n dX9_leaveNow_73 rfl ?_
            refine zr_cV2 rfl dX9_leaveNow_74 cv_9_76 (MI.ob hM ⟨rfl, rfl⟩) (Nat.le_of_ble_eq_true rfl) (areSame_ok hM (by omega) (by omega) (fun k hk => he hc_53 k (by omega)) (fun k hk => grc k (by omega)) ?_)
            refine zr_if_eqB (tgt := 91) dX9_leaveNow_77 (by decide) (fun hc_77 => ?_) (fun hc_77 => ?_)
            · refine zr_iincN dX9_leaveNow_91 rfl (by decide) rfl ?_
              dsimp only [zset]
              refine zr_goto (tgt := 45) dX9_leaveNow_94 (by decide) ?_
              first
              | (refine ih2 (i + 1) g (by omega) (by omega) (Or.inr hc_62) hg ?_
                 rw [mk_same hc_53 (by rw [sbyeE_at, hc_77]; rfl)]
                 exact hx)
              | (refine ih2 (i + 1) _ (by omega) (by omega) (Or.inr hc_62) (fun j hj => (fu_n _ _ (by unfold creg at hj; omega)).trans (hg j hj)) ?_
                 have := hx.end o6 (i := i) (by show i < (mk _ _ i).length; rw [mk_ln]; exact hc_53) (if s.1 1 + 1 < g (244 + 5 * (6 * o + i) + 4) then s.1 1 + 1 else g (244 + 5 * (6 * o + i) + 4))
                 rw [show zg (sca (s.2.2.2 o) (mk (sbyeE (s.1 1) a) (s.2.2.2 o).2.2.2 i)).2.2.2 i = zg (s.2.2.2 o).2.2.2 i from mk_at hc_53] at this
                 rw [← mk_set hc_53, sbyeE_at, hc_77]
                 rw [he hc_53 4 (by decide)] at this ⊢
                 exact this)
            · refine zr_aload_n dX9_leaveNow_80 rfl ?_
              refine zr_iload dX9_leaveNow_81 rfl ?_
              refine zr_iload dX9_leaveNow_83 rfl ?_
              refine zr_cS2 rfl dX9_leaveNow_85 cv_9_67 (Nat.le_of_ble_eq_true rfl) (kept_ok ?_)
              refine zr_cV1v rfl dX9_leaveNow_88 cv_9_86 (MI.ob hM ⟨rfl, rfl⟩) (Nat.le_of_ble_eq_true rfl) (shortens_ok hM (by omega) g1 ?_)
              refine zr_iincN dX9_leaveNow_91 rfl (by decide) rfl ?_
              dsimp only [zset]
              refine zr_goto (tgt := 45) dX9_leaveNow_94 (by decide) ?_
              first
              | (refine ih2 (i + 1) g (by omega) (by omega) (Or.inr hc_62) hg ?_
                 rw [mk_same hc_53 (by rw [sbyeE_at, hc_77]; rfl)]
                 exact hx)
              | (refine ih2 (i + 1) _ (by omega) (by omega) (Or.inr hc_62) (fun j hj => (fu_n _ _ (by unfold creg at hj; omega)).trans (hg j hj)) ?_
                 have := hx.end o6 (i := i) (by show i < (mk _ _ i).length; rw [mk_ln]; exact hc_53) (if s.1 1 + 1 < g (244 + 5 * (6 * o + i) + 4) then s.1 1 + 1 else g (244 + 5 * (6 * o + i) + 4))
                 rw [show zg (sca (s.2.2.2 o) (mk (sbyeE (s.1 1) a) (s.2.2.2 o).2.2.2 i)).2.2.2 i = zg (s.2.2.2 o).2.2.2 i from mk_at hc_53] at this
                 rw [← mk_set hc_53, sbyeE_at, hc_77]
                 rw [he hc_53 4 (by decide)] at this ⊢
                 exact this)
    refine zr_iload dX9_leaveNow_31 rfl ?_
    refine zr_aload_n dX9_leaveNow_33 rfl ?_
    refine zr_getR dX9_leaveNow_34 fd_9_7 rfl (MI.ob hM ⟨rfl, rfl⟩) (MI.r0 hM ⟨rfl, rfl⟩) (by decide) ?_
    refine zr_iconst (v := nI 0) dX9_leaveNow_37 rfl ?_
    refine zr_ialoadA dX9_leaveNow_38 (MI.a668 hM ⟨rfl, rfl⟩) (by omega) ?_
    rw [hA.1, show (sbyeN s a o).2.2.1 = s.2.2.1 from rfl]
    refine zr_icmp_geN (tgt := 103) dX9_leaveNow_39 (by decide) (by omega) (by omega) (fun hc_39 => ?_) (fun hc_39 => ?_)
    · have e : o = s.2.2.1 := by omega
      rw [e] at hA
      exact hk _ _ _ hA
    · refine zr_iconst (v := nI 0) dX9_leaveNow_42 rfl ?_
      refine zr_istore dX9_leaveNow_43 (by decide) rfl ?_
      dsimp only [zset]
      refine inner hc_39 _ 0 f (Nat.lt_succ_self _) (Nat.zero_le _) (Or.inl rfl) (fun _ _ => rfl) ?_
      rw [mk_0]
      have := hA.2.2.2 o hc_39
      rw [sbyeN_at] at this
      exact this
theorem leaveNow_ok {f : Nat → Int32} (hM : MI m) (hA : RA f s) (hh : h < s.2.2.1) (hr : r < (s.2.2.2 h).2.2.1.length) (hk : ∀ g, RA g (sleave s h r) → Q (.int (nI ((s.2.2.2 h).2.2.1.length - 1))) (zrow m 668 g)) : zC (d + 4) M9_leaveNow 0 0 [.ref 667, .int (nI h), .int (nI r)] (zrow m 668 f) Q := by
  have h6 := hA.h6 hh
  have h5 := hA.c5 hh
  refine zenterP (Or.inl (by decide +kernel)) rfl (fun h => by cases h) (Nat.le_of_ble_eq_true rfl) ?_
  show zwp _ _ _ _ _ 0 [_, _, _, zU, zU, zU] [] 0 0 _
  refine zr_iload_n dX9_leaveNow_0 rfl ?_
  refine zr_iload_n dX9_leaveNow_1 rfl ?_
  refine zr_cS2 rfl dX9_leaveNow_2 cv_9_55 (Nat.le_of_ble_eq_true rfl) (at_ok ?_)
  refine zr_istore_n dX9_leaveNow_5 (by decide) rfl ?_
  dsimp only [zset]
  refine zr_aload_n dX9_leaveNow_6 rfl ?_
  refine zr_getR dX9_leaveNow_7 fd_9_7 rfl (MI.ob hM ⟨rfl, rfl⟩) (MI.r0 hM ⟨rfl, rfl⟩) (by decide) ?_
  refine zr_iload_n dX9_leaveNow_10 rfl ?_
  refine zr_iconst (v := nI 4) dX9_leaveNow_11 rfl ?_
  refine zr_iaddN dX9_leaveNow_12 ?_
  refine zr_ialoadA dX9_leaveNow_13 (MI.a668 hM ⟨rfl, rfl⟩) (by omega) ?_
  rw [hA.rec hh hr 4 (by decide)]
  refine zr_iconst (v := nI 3) dX9_leaveNow_14 rfl ?_
  refine zr_icmp_ne (tgt := 103) dX9_leaveNow_15 (by decide) (fun hc_15 => ?_) (fun hc_15 => ?_)
  · have e : sleave s h r = sdrop s h r := by
      unfold sleave
      rw [if_neg (by simp [sown]; exact hc_15)]
    rw [e] at hk
    exact leaveNow_103 hM hA hh hr hk _
  · refine zr_aload_n dX9_leaveNow_18 rfl ?_
    refine zr_getR dX9_leaveNow_19 fd_9_7 rfl (MI.ob hM ⟨rfl, rfl⟩) (MI.r0 hM ⟨rfl, rfl⟩) (by decide) ?_
    refine zr_iconst (v := nI 2) dX9_leaveNow_22 rfl ?_
    refine zr_dup2 dX9_leaveNow_23 rfl rfl ?_
    refine zr_ialoadA dX9_leaveNow_24 (MI.a668 hM ⟨rfl, rfl⟩) (by omega) ?_
    refine zr_iconst (v := nI 1) dX9_leaveNow_25 rfl ?_
    refine zr_iadd dX9_leaveNow_26 ?_
    refine zr_iastoreA dX9_leaveNow_27 (MI.a668 hM ⟨rfl, rfl⟩) (by omega) ?_
    refine zr_iconst (v := nI 0) dX9_leaveNow_28 rfl ?_
    refine zr_istore dX9_leaveNow_29 (by decide) rfl ?_
    dsimp only [zset]
    have hA2 := hA.sc (k := 2) (by decide) (by decide) (f 2 + nI 1)
    have e : sleave s h r = sdrop (sbyeN (scnt s 2 (f 2 + nI 1)) (zg (s.2.2.2 h).2.2.1 r) s.2.2.1) h r := by
      unfold sleave
      rw [if_pos (by simp [sown]; exact hc_15), sbyeN_sc, hA.2.2.1 2 (by decide) (by decide)]
      rfl
    refine leaveNow_31 (s := scnt s 2 (f 2 + nI 1)) (a := zg (s.2.2.2 h).2.2.1 r) hM h6 (by omega) hA2 (fun k hk => (fu_n _ _ (by omega)).trans (hA.rec hh hr k hk)) (fun g t4 t5 hg => ?_) _ 0 _ _ (Nat.lt_succ_self _) (Nat.zero_le _) (by rw [sbyeN_0]; exact hA2) (fun _ _ _ => rfl)
    have er : ((sbyeN (scnt s 2 (f 2 + nI 1)) (zg (s.2.2.2 h).2.2.1 r) s.2.2.1).2.2.2 h).2.2.1 = (s.2.2.2 h).2.2.1 := by
      exact sbyeN_recs
    refine leaveNow_103 hM hg (show h < s.2.2.1 from hh) (by rw [show (scnt s 2 (f 2 + nI 1)).2.2.1 = s.2.2.1 from rfl, er]; exact hr) (fun g' hg' => ?_) _
    rw [show (scnt s 2 (f 2 + nI 1)).2.2.1 = s.2.2.1 from rfl] at hg' ⊢
    rw [er]
    refine hk g' ?_
    rw [e]
    exact hg'
end
