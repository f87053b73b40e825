/-! ===== the reference: records come and go, hosts wake ===== -/
section
variable {d : Nat} {Q : Value → zM → Prop} {m : zM} {s : sS} {h r : Nat}
/-- a record is added: its seven places, and the count -/
def aG (f : Nat → Int32) (h n : Nat) (a : sR) : Nat → Int32 := fun j => if j = 10 + 4 * h + 2 then nI (n + 1) else if 34 + 7 * (5 * h + n) ≤ j ∧ j < 34 + 7 * (5 * h + n) + 7 then a (j - (34 + 7 * (5 * h + n))) else f j
theorem RA.add {f : Nat → Int32} (hA : RA f s) (hh : h < s.2.2.1) (h4 : (s.2.2.2 h).2.2.1.length < 5) (a : sR) : RA (aG f h (s.2.2.2 h).2.2.1.length a) (sadd s h a) := by
  have h6 := hA.h6 hh
  obtain ⟨a1, a2, a3, a4, a5, a6, a7, a8⟩ := hA.2.2.2 h hh
  have hn : ∀ j, j ≠ 10 + 4 * h + 2 → ¬ (34 + 7 * (5 * h + (s.2.2.2 h).2.2.1.length) ≤ j ∧ j < 34 + 7 * (5 * h + (s.2.2.2 h).2.2.1.length) + 7) → aG f h (s.2.2.2 h).2.2.1.length a j = f j := by
    intro j h1 h2
    unfold aG
    rw [if_neg h1, if_neg h2]
  refine hA.host hh (fun j hj => hn j (by unfold hreg at hj; omega) (by unfold hreg at hj; omega)) ⟨by rw [hn _ (by omega) (by omega)]; exact a1, by rw [hn _ (by omega) (by omega)]; exact a2, by simp [aG], by rw [hn _ (by omega) (by omega)]; exact a4, by simp; omega, a6, fun r hr k hk => ?_, fun i hi k hk => ?_⟩
  · rw [List.length_append, List.length_singleton] at hr
    by_cases e : r = (s.2.2.2 h).2.2.1.length
    · subst e
      rw [zat, zg_app_r]
      unfold aG
      rw [if_neg (by omega), if_pos (by omega)]
      congr 1
      omega
    · rw [hn _ (by omega) (by omega), zat_app_l (by omega)]
      exact a7 r (by omega) k hk
  · rw [hn _ (by omega) (by omega)]
    exact a8 i hi k hk
theorem recordNow_fu {f : Nat → Int32} {n : Nat} {name kind data life : Int32} {sole : Bool} (h6 : h < 6) (hn : n < 5) : fu (fu (fu (fu (fu (fu (fu (fu f (34 + 7 * (5 * h + n) + 0) name) (34 + 7 * (5 * h + n) + 1) kind) (34 + 7 * (5 * h + n) + 2) data) (34 + 7 * (5 * h + n) + 3) life) (34 + 7 * (5 * h + n) + 4) (if sole then nI 0 else nI 3)) (34 + 7 * (5 * h + n) + 5) (nI 0)) (34 + 7 * (5 * h + n) + 6) (bI sole)) (10 + 4 * h + 2) (nI (n + 1)) = aG f h n (srec name kind data life sole) := by
  funext j
  unfold aG
  generalize hB : 34 + 7 * (5 * h + n) = B
  by_cases e : j = 10 + 4 * h + 2
  · subst e; rw [fu_s, if_pos rfl]
  · rw [fu_n _ _ e, if_neg e]
    by_cases e2 : B ≤ j ∧ j < B + 7
    · rw [if_pos e2]
      obtain ⟨k, rfl⟩ : ∃ k, j = B + k := ⟨j - B, by omega⟩
      rw [show B + k - B = k by omega]
      have : k = 0 ∨ k = 1 ∨ k = 2 ∨ k = 3 ∨ k = 4 ∨ k = 5 ∨ k = 6 := by omega
      rcases this with rfl | rfl | rfl | rfl | rfl | rfl | rfl <;> simp [fu, srec, nI0, nI3]
    · rw [if_neg e2, fu_n _ _ (by omega), fu_n _ _ (by omega), fu_n _ _ (by omega), fu_n _ _ (by omega), fu_n _ _ (by omega), fu_n _ _ (by omega), fu_n _ _ (by omega)]
theorem recordNow_ok {f : Nat → Int32} {name kind data life : Int32} {sole : Bool} (hM : MI m) (hA : RA f s) (hh : h < s.2.2.1) (h4 : (s.2.2.2 h).2.2.1.length < 5) (hk : ∀ g, RA g (srecordNow s h (srec name kind data life sole) sole) → Q (.int (nI (s.2.2.2 h).2.2.1.length)) (zrow m 668 g)) : zC (d + 6) M9_recordNow 0 0 [.ref 667, .int (nI h), .int name, .int kind, .int data, .int life, .int (bI sole)] (zrow m 668 f) Q := by
  have h6 := hA.h6 hh
  have hA2 := hA.add hh h4 (srec name kind data life sole)
  rw [← recordNow_fu h6 h4] at hA2
  have hlen : (s.2.2.2 h).2.2.1.length < ((sadd s h (srec name kind data life sole)).2.2.2 h).2.2.1.length := by
    show _ < (fu s.2.2.2 h _ h).2.2.1.length
    rw [fu_s]; simp
  have hzg : zg ((sadd s h (srec name kind data life sole)).2.2.2 h).2.2.1 (s.2.2.2 h).2.2.1.length = srec name kind data life sole := by
    show zg (fu s.2.2.2 h _ h).2.2.1 _ = _
    rw [fu_s]; exact zg_app_r
  cases sole with
  | true =>
    refine zenterP (Or.inl (by decide +kernel)) rfl (fun h => by cases h) (Nat.le_of_ble_eq_true rfl) ?_
    show zwp _ _ _ _ _ 0 [_, _, _, _, _, _, _, zU, zU] [] 0 0 _
    refine zr_aload_n dX9_recordNow_0 rfl ?_
    refine zr_iload_n dX9_recordNow_1 rfl ?_
    refine zr_cV1 rfl dX9_recordNow_2 cv_9_73 (MI.ob hM ⟨rfl, rfl⟩) (Nat.le_of_ble_eq_true rfl) (records_ok hM h6 (hA.cnt hh) ?_)
    refine zr_istore dX9_recordNow_5 (by decide) rfl ?_
    dsimp only [zset]
    refine zr_iload_n dX9_recordNow_7 rfl ?_
    refine zr_iload dX9_recordNow_8 rfl ?_
    refine zr_cS2 rfl dX9_recordNow_10 cv_9_55 (Nat.le_of_ble_eq_true rfl) (at_ok ?_)
    refine zr_istore dX9_recordNow_13 (by decide) rfl ?_
    dsimp only [zset]
    refine zr_aload_n dX9_recordNow_15 rfl ?_
    refine zr_getR dX9_recordNow_16 fd_9_7 rfl (MI.ob hM ⟨rfl, rfl⟩) (MI.r0 hM ⟨rfl, rfl⟩) (by decide) ?_
    refine zr_iload dX9_recordNow_19 rfl ?_
    refine zr_iconst (v := nI 0) dX9_recordNow_21 rfl ?_
    refine zr_iaddN dX9_recordNow_22 ?_
    refine zr_iload_n dX9_recordNow_23 rfl ?_
    refine zr_iastoreA dX9_recordNow_24 (MI.a668 hM ⟨rfl, rfl⟩) (by omega) ?_
    refine zr_aload_n dX9_recordNow_25 rfl ?_
    refine zr_getR dX9_recordNow_26 fd_9_7 rfl (MI.ob hM ⟨rfl, rfl⟩) (MI.r0 hM ⟨rfl, rfl⟩) (by decide) ?_
    refine zr_iload dX9_recordNow_29 rfl ?_
    refine zr_iconst (v := nI 1) dX9_recordNow_31 rfl ?_
    refine zr_iaddN dX9_recordNow_32 ?_
    refine zr_iload_n dX9_recordNow_33 rfl ?_
    refine zr_iastoreA dX9_recordNow_34 (MI.a668 hM ⟨rfl, rfl⟩) (by omega) ?_
    refine zr_aload_n dX9_recordNow_35 rfl ?_
    refine zr_getR dX9_recordNow_36 fd_9_7 rfl (MI.ob hM ⟨rfl, rfl⟩) (MI.r0 hM ⟨rfl, rfl⟩) (by decide) ?_
    refine zr_iload dX9_recordNow_39 rfl ?_
    refine zr_iconst (v := nI 2) dX9_recordNow_41 rfl ?_
    refine zr_iaddN dX9_recordNow_42 ?_
    refine zr_iload dX9_recordNow_43 rfl ?_
    refine zr_iastoreA dX9_recordNow_45 (MI.a668 hM ⟨rfl, rfl⟩) (by omega) ?_
    refine zr_aload_n dX9_recordNow_46 rfl ?_
    refine zr_getR dX9_recordNow_47 fd_9_7 rfl (MI.ob hM ⟨rfl, rfl⟩) (MI.r0 hM ⟨rfl, rfl⟩) (by decide) ?_
    refine zr_iload dX9_recordNow_50 rfl ?_
    refine zr_iconst (v := nI 3) dX9_recordNow_52 rfl ?_
    refine zr_iaddN dX9_recordNow_53 ?_
    refine zr_iload dX9_recordNow_54 rfl ?_
    refine zr_iastoreA dX9_recordNow_56 (MI.a668 hM ⟨rfl, rfl⟩) (by omega) ?_
    refine zr_aload_n dX9_recordNow_57 rfl ?_
    refine zr_getR dX9_recordNow_58 fd_9_7 rfl (MI.ob hM ⟨rfl, rfl⟩) (MI.r0 hM ⟨rfl, rfl⟩) (by decide) ?_
    refine zr_iload dX9_recordNow_61 rfl ?_
    refine zr_iconst (v := nI 4) dX9_recordNow_63 rfl ?_
    refine zr_iaddN dX9_recordNow_64 ?_
    refine zr_iload dX9_recordNow_65 rfl ?_
    refine zr_if_eqB (tgt := 74) dX9_recordNow_67 (by decide) (fun hc_67 => absurd hc_67 (by decide)) (fun hc_67 => ?_)
    refine zr_iconst (v := nI 0) dX9_recordNow_70 rfl ?_
    refine zr_goto (tgt := 75) dX9_recordNow_71 (by decide) ?_
    refine zr_iastoreA dX9_recordNow_75 (MI.a668 hM ⟨rfl, rfl⟩) (by omega) ?_
    refine zr_aload_n dX9_recordNow_76 rfl ?_
    refine zr_getR dX9_recordNow_77 fd_9_7 rfl (MI.ob hM ⟨rfl, rfl⟩) (MI.r0 hM ⟨rfl, rfl⟩) (by decide) ?_
    refine zr_iload dX9_recordNow_80 rfl ?_
    refine zr_iconst (v := nI 5) dX9_recordNow_82 rfl ?_
    refine zr_iaddN dX9_recordNow_83 ?_
    refine zr_iconst (v := nI 0) dX9_recordNow_84 rfl ?_
    refine zr_iastoreA dX9_recordNow_85 (MI.a668 hM ⟨rfl, rfl⟩) (by omega) ?_
    refine zr_aload_n dX9_recordNow_86 rfl ?_
    refine zr_getR dX9_recordNow_87 fd_9_7 rfl (MI.ob hM ⟨rfl, rfl⟩) (MI.r0 hM ⟨rfl, rfl⟩) (by decide) ?_
    refine zr_iload dX9_recordNow_90 rfl ?_
    refine zr_bipush (v := nI 6) dX9_recordNow_92 rfl ?_
    refine zr_iaddN dX9_recordNow_94 ?_
    refine zr_iload dX9_recordNow_95 rfl ?_
    refine zr_if_eqB (tgt := 104) dX9_recordNow_97 (by decide) (fun hc_97 => absurd hc_97 (by decide)) (fun hc_97 => ?_)
    refine zr_iconst (v := bI true) dX9_recordNow_100 rfl ?_
    refine zr_goto (tgt := 105) dX9_recordNow_101 (by decide) ?_
    refine zr_iastoreA dX9_recordNow_105 (MI.a668 hM ⟨rfl, rfl⟩) (by omega) ?_
    refine zr_aload_n dX9_recordNow_106 rfl ?_
    refine zr_getR dX9_recordNow_107 fd_9_7 rfl (MI.ob hM ⟨rfl, rfl⟩) (MI.r0 hM ⟨rfl, rfl⟩) (by decide) ?_
    refine zr_bipush (v := nI 10) dX9_recordNow_110 rfl ?_
    refine zr_iconst (v := nI 4) dX9_recordNow_112 rfl ?_
    refine zr_iload_n dX9_recordNow_113 rfl ?_
    refine zr_imulN dX9_recordNow_114 ?_
    refine zr_iaddN dX9_recordNow_115 ?_
    refine zr_iconst (v := nI 2) dX9_recordNow_116 rfl ?_
    refine zr_iaddN dX9_recordNow_117 ?_
    refine zr_dup2 dX9_recordNow_118 rfl rfl ?_
    refine zr_ialoadA dX9_recordNow_119 (MI.a668 hM ⟨rfl, rfl⟩) (by omega) ?_
    rw [fu_n _ _ (by omega), fu_n _ _ (by omega), fu_n _ _ (by omega), fu_n _ _ (by omega), fu_n _ _ (by omega), fu_n _ _ (by omega), fu_n _ _ (by omega), hA.cnt hh]
    refine zr_iconst (v := nI 1) dX9_recordNow_120 rfl ?_
    refine zr_iaddN dX9_recordNow_121 ?_
    refine zr_iastoreA dX9_recordNow_122 (MI.a668 hM ⟨rfl, rfl⟩) (by omega) ?_
    refine zr_iload dX9_recordNow_123 rfl ?_
    refine zr_if_neB (tgt := 135) dX9_recordNow_125 (by decide) (fun hc_125 => ?_) (fun hc_125 => absurd hc_125 (by decide))
    refine zr_iload dX9_recordNow_135 rfl ?_
    refine zr_ireturn dX9_recordNow_137 rfl (Nat.le_refl _) (Nat.le_refl _) ?_
    exact hk _ hA2
  | false =>
    refine zenterP (Or.inl (by decide +kernel)) rfl (fun h => by cases h) (Nat.le_of_ble_eq_true rfl) ?_
    show zwp _ _ _ _ _ 0 [_, _, _, _, _, _, _, zU, zU] [] 0 0 _
    refine zr_aload_n dX9_recordNow_0 rfl ?_
    refine zr_iload_n dX9_recordNow_1 rfl ?_
    refine zr_cV1 rfl dX9_recordNow_2 cv_9_73 (MI.ob hM ⟨rfl, rfl⟩) (Nat.le_of_ble_eq_true rfl) (records_ok hM h6 (hA.cnt hh) ?_)
    refine zr_istore dX9_recordNow_5 (by decide) rfl ?_
    dsimp only [zset]
    refine zr_iload_n dX9_recordNow_7 rfl ?_
    refine zr_iload dX9_recordNow_8 rfl ?_
    refine zr_cS2 rfl dX9_recordNow_10 cv_9_55 (Nat.le_of_ble_eq_true rfl) (at_ok ?_)
    refine zr_istore dX9_recordNow_13 (by decide) rfl ?_
    dsimp only [zset]
    refine zr_aload_n dX9_recordNow_15 rfl ?_
    refine zr_getR dX9_recordNow_16 fd_9_7 rfl (MI.ob hM ⟨rfl, rfl⟩) (MI.r0 hM ⟨rfl, rfl⟩) (by decide) ?_
    refine zr_iload dX9_recordNow_19 rfl ?_
    refine zr_iconst (v := nI 0) dX9_recordNow_21 rfl ?_
    refine zr_iaddN dX9_recordNow_22 ?_
    refine zr_iload_n dX9_recordNow_23 rfl ?_
    refine zr_iastoreA dX9_recordNow_24 (MI.a668 hM ⟨rfl, rfl⟩) (by omega) ?_
    refine zr_aload_n dX9_recordNow_25 rfl ?_
    refine zr_getR dX9_recordNow_26 fd_9_7 rfl (MI.ob hM ⟨rfl, rfl⟩) (MI.r0 hM ⟨rfl, rfl⟩) (by decide) ?_
    refine zr_iload dX9_recordNow_29 rfl ?_
    refine zr_iconst (v := nI 1) dX9_recordNow_31 rfl ?_
    refine zr_iaddN dX9_recordNow_32 ?_
    refine zr_iload_n dX9_recordNow_33 rfl ?_
    refine zr_iastoreA dX9_recordNow_34 (MI.a668 hM ⟨rfl, rfl⟩) (by omega) ?_
    refine zr_aload_n dX9_recordNow_35 rfl ?_
    refine zr_getR dX9_recordNow_36 fd_9_7 rfl (MI.ob hM ⟨rfl, rfl⟩) (MI.r0 hM ⟨rfl, rfl⟩) (by decide) ?_
    refine zr_iload dX9_recordNow_39 rfl ?_
    refine zr_iconst (v := nI 2) dX9_recordNow_41 rfl ?_
    refine zr_iaddN dX9_recordNow_42 ?_
    refine zr_iload dX9_recordNow_43 rfl ?_
    refine zr_iastoreA dX9_recordNow_45 (MI.a668 hM ⟨rfl, rfl⟩) (by omega) ?_
    refine zr_aload_n dX9_recordNow_46 rfl ?_
    refine zr_getR dX9_recordNow_47 fd_9_7 rfl (MI.ob hM ⟨rfl, rfl⟩) (MI.r0 hM ⟨rfl, rfl⟩) (by decide) ?_
    refine zr_iload dX9_recordNow_50 rfl ?_
    refine zr_iconst (v := nI 3) dX9_recordNow_52 rfl ?_
    refine zr_iaddN dX9_recordNow_53 ?_
    refine zr_iload dX9_recordNow_54 rfl ?_
    refine zr_iastoreA dX9_recordNow_56 (MI.a668 hM ⟨rfl, rfl⟩) (by omega) ?_
    refine zr_aload_n dX9_recordNow_57 rfl ?_
    refine zr_getR dX9_recordNow_58 fd_9_7 rfl (MI.ob hM ⟨rfl, rfl⟩) (MI.r0 hM ⟨rfl, rfl⟩) (by decide) ?_
    refine zr_iload dX9_recordNow_61 rfl ?_
    refine zr_iconst (v := nI 4) dX9_recordNow_63 rfl ?_
    refine zr_iaddN dX9_recordNow_64 ?_
    refine zr_iload dX9_recordNow_65 rfl ?_
    refine zr_if_eqB (tgt := 74) dX9_recordNow_67 (by decide) (fun hc_67 => ?_) (fun hc_67 => absurd hc_67 (by decide))
    refine zr_iconst (v := nI 3) dX9_recordNow_74 rfl ?_
    refine zr_iastoreA dX9_recordNow_75 (MI.a668 hM ⟨rfl, rfl⟩) (by omega) ?_
    refine zr_aload_n dX9_recordNow_76 rfl ?_
    refine zr_getR dX9_recordNow_77 fd_9_7 rfl (MI.ob hM ⟨rfl, rfl⟩) (MI.r0 hM ⟨rfl, rfl⟩) (by decide) ?_
    refine zr_iload dX9_recordNow_80 rfl ?_
    refine zr_iconst (v := nI 5) dX9_recordNow_82 rfl ?_
    refine zr_iaddN dX9_recordNow_83 ?_
    refine zr_iconst (v := nI 0) dX9_recordNow_84 rfl ?_
    refine zr_iastoreA dX9_recordNow_85 (MI.a668 hM ⟨rfl, rfl⟩) (by omega) ?_
    refine zr_aload_n dX9_recordNow_86 rfl ?_
    refine zr_getR dX9_recordNow_87 fd_9_7 rfl (MI.ob hM ⟨rfl, rfl⟩) (MI.r0 hM ⟨rfl, rfl⟩) (by decide) ?_
    refine zr_iload dX9_recordNow_90 rfl ?_
    refine zr_bipush (v := nI 6) dX9_recordNow_92 rfl ?_
    refine zr_iaddN dX9_recordNow_94 ?_
    refine zr_iload dX9_recordNow_95 rfl ?_
    refine zr_if_eqB (tgt := 104) dX9_recordNow_97 (by decide) (fun hc_97 => ?_) (fun hc_97 => absurd hc_97 (by decide))
    refine zr_iconst (v := bI false) dX9_recordNow_104 rfl ?_
    refine zr_iastoreA dX9_recordNow_105 (MI.a668 hM ⟨rfl, rfl⟩) (by omega) ?_
    refine zr_aload_n dX9_recordNow_106 rfl ?_
    refine zr_getR dX9_recordNow_107 fd_9_7 rfl (MI.ob hM ⟨rfl, rfl⟩) (MI.r0 hM ⟨rfl, rfl⟩) (by decide) ?_
    refine zr_bipush (v := nI 10) dX9_recordNow_110 rfl ?_
    refine zr_iconst (v := nI 4) dX9_recordNow_112 rfl ?_
    refine zr_iload_n dX9_recordNow_113 rfl ?_
    refine zr_imulN dX9_recordNow_114 ?_
    refine zr_iaddN dX9_recordNow_115 ?_
    refine zr_iconst (v := nI 2) dX9_recordNow_116 rfl ?_
    refine zr_iaddN dX9_recordNow_117 ?_
    refine zr_dup2 dX9_recordNow_118 rfl rfl ?_
    refine zr_ialoadA dX9_recordNow_119 (MI.a668 hM ⟨rfl, rfl⟩) (by omega) ?_
    rw [fu_n _ _ (by omega), fu_n _ _ (by omega), fu_n _ _ (by omega), fu_n _ _ (by omega), fu_n _ _ (by omega), fu_n _ _ (by omega), fu_n _ _ (by omega), hA.cnt hh]
    refine zr_iconst (v := nI 1) dX9_recordNow_120 rfl ?_
    refine zr_iaddN dX9_recordNow_121 ?_
    refine zr_iastoreA dX9_recordNow_122 (MI.a668 hM ⟨rfl, rfl⟩) (by omega) ?_
    refine zr_iload dX9_recordNow_123 rfl ?_
    refine zr_if_neB (tgt := 135) dX9_recordNow_125 (by decide) (fun hc_125 => absurd hc_125 (by decide)) (fun hc_125 => ?_)
    refine zr_aload_n dX9_recordNow_128 rfl ?_
    refine zr_iload_n dX9_recordNow_129 rfl ?_
    refine zr_iload dX9_recordNow_130 rfl ?_
    refine zr_cV2v rfl dX9_recordNow_132 cv_9_122 (MI.ob hM ⟨rfl, rfl⟩) (Nat.le_of_ble_eq_true rfl) (says_ok hM hA2 (by omega) (by omega) (by omega) (fun k hk => (hA2.rec (show h < (sadd s h (srec name kind data life false)).2.2.1 from hh) hlen k hk).trans (congrFun hzg k)) (fun g hg => ?_))
    refine zr_iload dX9_recordNow_135 rfl ?_
    refine zr_ireturn dX9_recordNow_137 rfl (Nat.le_refl _) (Nat.le_refl _) ?_
    exact hk _ hg
/-- a record is dropped -/
def rG (f : Nat → Int32) (h : Nat) (v : Int32) (a q : Nat) : Nat → Int32 := fun j => if j = 10 + 4 * h + 2 then v else if a ≤ j ∧ j < q then f (j + 7) else f j
theorem RA.dropr {f : Nat → Int32} (hA : RA f s) (hh : h < s.2.2.1) (hr : r < (s.2.2.2 h).2.2.1.length) : RA (rG f h (nI ((s.2.2.2 h).2.2.1.length - 1)) (34 + 7 * (5 * h + r)) (34 + 7 * (5 * h + ((s.2.2.2 h).2.2.1.length - 1)))) (sdrop s h r) := by
  have h6 := hA.h6 hh
  obtain ⟨a1, a2, a3, a4, a5, a6, a7, a8⟩ := hA.2.2.2 h hh
  have hl : ((s.2.2.2 h).2.2.1.eraseIdx r).length = (s.2.2.2 h).2.2.1.length - 1 := by rw [List.length_eraseIdx, if_pos hr]
  refine hA.host hh (fun j hj => ?_) ⟨?_, ?_, by rw [hl]; simp [rG], ?_, by rw [hl]; omega, a6, fun r' hr' k hk => ?_, fun i hi k hk => ?_⟩
  · unfold hreg at hj
    unfold rG
    rw [if_neg (by omega), if_neg (by omega)]
  · unfold rG; rw [if_neg (by omega), if_neg (by omega)]; exact a1
  · unfold rG; rw [if_neg (by omega), if_neg (by omega)]; exact a2
  · unfold rG; rw [if_neg (by omega), if_neg (by omega)]; exact a4
  · rw [hl] at hr'
    unfold rG
    rw [if_neg (by omega), zat_erase]
    by_cases e : r' < r
    · rw [if_neg (by omega), if_pos e]
      exact a7 r' (by omega) k hk
    · rw [if_pos (by omega), if_neg e, show 34 + 7 * (5 * h + r') + k + 7 = 34 + 7 * (5 * h + (r' + 1)) + k by omega]
      exact a7 (r' + 1) (by omega) k hk
  · unfold rG; rw [if_neg (by omega), if_neg (by omega)]; exact a8 i hi k hk
theorem leaveNow_103 {f : Nat → Int32} {t5 : Value} (hM : MI m) (hA : RA f s) (hh : h < s.2.2.1) (hr : r < (s.2.2.2 h).2.2.1.length) (hk : ∀ g, RA g (sdrop s h r) → Q (.int (nI ((s.2.2.2 h).2.2.1.length - 1))) (zrow m 668 g)) (t4 : Value) :
    zwp (d + 4) M9_leaveNow 0 0 Q 103 [.ref 667, .int (nI h), .int (nI r), .int (nI (34 + 7 * (5 * h + r))), t4, t5] [] 0 0 (zrow m 668 f) := by
  have h6 := hA.h6 hh
  have h5 := hA.c5 hh
  have hA2 := hA.dropr hh hr
  have loop : ∀ c q, 34 + 7 * (5 * h + ((s.2.2.2 h).2.2.1.length - 1)) - q < c → 34 + 7 * (5 * h + r) ≤ q → q ≤ 34 + 7 * (5 * h + ((s.2.2.2 h).2.2.1.length - 1)) →
      zwp (d + 4) M9_leaveNow 0 0 Q 123 [.ref 667, .int (nI h), .int (nI r), .int (nI (34 + 7 * (5 * h + r))), .int (nI q), t5] [] 0 0 (zrow m 668 (rG f h (nI ((s.2.2.2 h).2.2.1.length - 1)) (34 + 7 * (5 * h + r)) q)) := by
    intro c
    induction c with
    | zero => intro q h1; omega
    | succ c ih =>
      intro q h1 h2 h3
      have hz : rG f h (nI ((s.2.2.2 h).2.2.1.length - 1)) (34 + 7 * (5 * h + r)) q (10 + 4 * h + 2) = nI ((s.2.2.2 h).2.2.1.length - 1) := by simp [rG]
      refine zr_iload dX9_leaveNow_123 rfl ?_
      refine zr_iload_n dX9_leaveNow_125 rfl ?_
      refine zr_aload_n dX9_leaveNow_126 rfl ?_
      refine zr_iload_n dX9_leaveNow_127 rfl ?_
      refine zr_cV1 rfl dX9_leaveNow_128 cv_9_73 (MI.ob hM ⟨rfl, rfl⟩) (Nat.le_of_ble_eq_true rfl) (records_ok hM h6 hz ?_)
      refine zr_cS2 rfl dX9_leaveNow_131 cv_9_55 (Nat.le_of_ble_eq_true rfl) (at_ok ?_)
      refine zr_icmp_geN (tgt := 160) dX9_leaveNow_134 (by decide) (by omega) (by omega) (fun hc_134 => ?_) (fun hc_134 => ?_)
      · refine zr_aload_n dX9_leaveNow_160 rfl ?_
        refine zr_iload_n dX9_leaveNow_161 rfl ?_
        refine zr_cV1 rfl dX9_leaveNow_162 cv_9_73 (MI.ob hM ⟨rfl, rfl⟩) (Nat.le_of_ble_eq_true rfl) (records_ok hM h6 hz ?_)
        refine zr_ireturn dX9_leaveNow_165 rfl (Nat.le_refl _) (Nat.le_refl _) ?_
        have e : q = 34 + 7 * (5 * h + ((s.2.2.2 h).2.2.1.length - 1)) := by omega
        rw [e]; exact hk _ hA2
      · refine zr_aload_n dX9_leaveNow_137 rfl ?_
        refine zr_getR dX9_leaveNow_138 fd_9_7 rfl (MI.ob hM ⟨rfl, rfl⟩) (MI.r0 hM ⟨rfl, rfl⟩) (by decide) ?_
        refine zr_iload dX9_leaveNow_141 rfl ?_
        refine zr_aload_n dX9_leaveNow_143 rfl ?_
        refine zr_getR dX9_leaveNow_144 fd_9_7 rfl (MI.ob hM ⟨rfl, rfl⟩) (MI.r0 hM ⟨rfl, rfl⟩) (by decide) ?_
        refine zr_iload dX9_leaveNow_147 rfl ?_
        refine zr_bipush (v := nI 7) dX9_leaveNow_149 rfl ?_
        refine zr_iaddN dX9_leaveNow_151 ?_
        refine zr_ialoadA dX9_leaveNow_152 (MI.a668 hM ⟨rfl, rfl⟩) (by omega) ?_
        refine zr_iastoreA dX9_leaveNow_153 (MI.a668 hM ⟨rfl, rfl⟩) (by omega) ?_
        refine zr_iincN dX9_leaveNow_154 rfl (by decide) rfl ?_
        dsimp only [zset]
        refine zr_goto (tgt := 123) dX9_leaveNow_157 (by decide) ?_
        have hs := ih (q + 1) (by omega) (by omega) (by omega)
        have e : fu (rG f h (nI ((s.2.2.2 h).2.2.1.length - 1)) (34 + 7 * (5 * h + r)) q) q (rG f h (nI ((s.2.2.2 h).2.2.1.length - 1)) (34 + 7 * (5 * h + r)) q (q + 7)) = rG f h (nI ((s.2.2.2 h).2.2.1.length - 1)) (34 + 7 * (5 * h + r)) (q + 1) := by
          funext j
          by_cases e1 : j = q
          · subst e1
            rw [fu_s]
            unfold rG
            rw [if_neg (by omega), if_neg (by omega), if_neg (by omega), if_pos (by omega)]
          · rw [fu_n _ _ e1]
            unfold rG
            by_cases e2 : j = 10 + 4 * h + 2
            · rw [if_pos e2, if_pos e2]
            · rw [if_neg e2, if_neg e2]
              by_cases e3 : 34 + 7 * (5 * h + r) ≤ j ∧ j < q
              · rw [if_pos e3, if_pos (by omega)]
              · rw [if_neg e3, if_neg (by omega)]
        rw [e]
        exact hs
  refine zr_aload_n dX9_leaveNow_103 rfl ?_
  refine zr_getR dX9_leaveNow_104 fd_9_7 rfl (MI.ob hM ⟨rfl, rfl⟩) (MI.r0 hM ⟨rfl, rfl⟩) (by decide) ?_
  refine zr_bipush (v := nI 10) dX9_leaveNow_107 rfl ?_
  refine zr_iconst (v := nI 4) dX9_leaveNow_109 rfl ?_
  refine zr_iload_n dX9_leaveNow_110 rfl ?_
  refine zr_imulN dX9_leaveNow_111 ?_
  refine zr_iaddN dX9_leaveNow_112 ?_
  refine zr_iconst (v := nI 2) dX9_leaveNow_113 rfl ?_
  refine zr_iaddN dX9_leaveNow_114 ?_
  refine zr_dup2 dX9_leaveNow_115 rfl rfl ?_
  refine zr_ialoadA dX9_leaveNow_116 (MI.a668 hM ⟨rfl, rfl⟩) (by omega) ?_
  rw [hA.cnt hh]
  refine zr_iconst (v := nI 1) dX9_leaveNow_117 rfl ?_
  refine zr_isubN dX9_leaveNow_118 (by omega) ?_
  refine zr_iastoreA dX9_leaveNow_119 (MI.a668 hM ⟨rfl, rfl⟩) (by omega) ?_
  refine zr_iload_n dX9_leaveNow_120 rfl ?_
  refine zr_istore dX9_leaveNow_121 (by decide) rfl ?_
  dsimp only [zset]
  have e : fu f (10 + 4 * h + 2) (nI ((s.2.2.2 h).2.2.1.length - 1)) = rG f h (nI ((s.2.2.2 h).2.2.1.length - 1)) (34 + 7 * (5 * h + r)) (34 + 7 * (5 * h + r)) := by
    funext j
    unfold fu rG
    by_cases e2 : j = 10 + 4 * h + 2
    · rw [if_pos e2, if_pos e2]
    · rw [if_neg e2, if_neg e2, if_neg (by omega)]
  rw [e]
  exact loop _ _ (Nat.lt_succ_self _) (Nat.le_refl _) (by omega)
end
