/-! ===== the reference: a host hears a record; all hear it ===== -/
section
variable {d : Nat} {Q : Value → zM → Prop} {m : zM} {f0 : Nat → Int32} {h p : Nat} {x : sH} {rc : sR} {t : Int32}
theorem nI_m1 (j : Nat) : nI j + Int32.ofInt (-1) = nI j - nI 1 := by
  rw [show Int32.ofInt (-1) = (-1 : Int32) from rfl, show nI 1 = (1 : Int32) from rfl, Int32.sub_eq_add_neg]
theorem nI_pr (j : Nat) : nI (j + 1) - nI 1 = nI j := nI_pred j
theorem nI_0m : nI 0 - nI 1 < 0 := by decide
theorem srival_at {e : sR} : srival t rc e = if sone e rc && !ssame e rc then fu e 4 (if t + 1 < e 4 then t + 1 else e 4) else e := by
  unfold srival sshort fu
  rfl
theorem hears_l5 {L : List sR} (hM : MI m) (h6 : h < 6) (hp1 : 34 ≤ p) (hp2 : p + 6 < 244) (h1 : f0 1 = t) (hrc : ∀ k, k < 7 → f0 (p + k) = rc k) (hl6 : L.length ≤ 6) (hs : rc 6 = 1) (hk : ∀ g, (∀ j, ¬ creg h j → g j = f0 j) → RAh g h (sca x (L.map (srival t rc))) → Q .null (zrow m 668 g)) : ∀ c i f t3, L.length - i < c → i ≤ L.length → (∀ j, ¬ creg h j → f j = f0 j) → RAh f h (sca x (mk (srival t rc) L i)) →
    zwp (d + 4) M9_hears 0 0 Q 157 [.ref 667, .int (nI h), .int (nI p), .int t3, .int (nI i)] [] 0 0 (zrow m 668 f) := by
  intro c
  induction c with
  | zero => intro i f t3 h2; omega
  | succ c ih =>
    intro i f t3 h2 h3 hf hx
    have f1 : f 1 = t := (hf 1 (by unfold creg; omega)).trans h1
    have frc : ∀ k, k < 7 → f (p + k) = rc k := fun k hk => (hf _ (by unfold creg; omega)).trans (hrc k hk)
    have hz : f (10 + 4 * h + 3) = nI L.length := by rw [hx.2.2.2.1]; exact congrArg nI mk_ln
    have he : i < L.length → ∀ k, k < 5 → f (244 + 5 * (6 * h + i) + k) = zg L i k := fun hi k hk => (hx.2.2.2.2.2.2.2 i (by show i < (mk (srival t rc) L i).length; rw [mk_ln]; exact hi) k hk).trans (congrFun (mk_at hi) k)
    refine zr_iload dX9_hears_157 rfl ?_
    refine zr_aload_n dX9_hears_159 rfl ?_
    refine zr_iload_n dX9_hears_160 rfl ?_
    refine zr_cV1 rfl dX9_hears_161 cv_9_70 (MI.ob hM ⟨rfl, rfl⟩) (Nat.le_of_ble_eq_true rfl) (entries_ok hM h6 hz ?_)
    refine zr_icmp_geN (tgt := 224) dX9_hears_164 (by decide) (by omega) (by omega) (fun hc_164 => ?_) (fun hc_164 => ?_)
    · refine zr_return dX9_hears_224 rfl (Nat.le_refl _) (Nat.le_refl _) ?_
      have e : i = L.length := by omega
      refine hk f hf ?_
      rw [e, mk_len] at hx
      exact hx
    · refine zr_aload_n dX9_hears_167 rfl ?_
      refine zr_getR dX9_hears_168 fd_9_7 rfl (MI.ob hM ⟨rfl, rfl⟩) (MI.r0 hM ⟨rfl, rfl⟩) (by decide) ?_
      refine zr_iload_n dX9_hears_171 rfl ?_
      refine zr_bipush (v := nI 6) dX9_hears_172 rfl ?_
      refine zr_iaddN dX9_hears_174 ?_
      refine zr_ialoadA dX9_hears_175 (MI.a668 hM ⟨rfl, rfl⟩) (by omega) ?_
      rw [frc 6 (by decide)]
      refine zr_iconst (v := nI 1) dX9_hears_176 rfl ?_
      refine zr_icmp_ne (tgt := 224) dX9_hears_177 (by decide) (fun hc_177 => ?_) (fun hc_177 => ?_)
      · exact absurd hs hc_177
      · refine zr_aload_n dX9_hears_180 rfl ?_
        refine zr_iload_n dX9_hears_181 rfl ?_
        refine zr_iload dX9_hears_182 rfl ?_
        refine zr_cS2 rfl dX9_hears_184 cv_9_67 (Nat.le_of_ble_eq_true rfl) (kept_ok ?_)
        refine zr_iload_n dX9_hears_187 rfl ?_
        refine zr_cV2 rfl dX9_hears_188 cv_9_51 (MI.ob hM ⟨rfl, rfl⟩) (Nat.le_of_ble_eq_true rfl) (areOne_ok hM (by omega) (by omega) (fun k hk => he hc_164 k (by omega)) (fun k hk => frc k (by omega)) ?_)
        refine zr_if_eqB (tgt := 218) dX9_hears_191 (by decide) (fun hc_191 => ?_) (fun hc_191 => ?_)
        · refine zr_iincN dX9_hears_218 rfl (by decide) rfl ?_
          dsimp only [zset]
          refine zr_goto (tgt := 157) dX9_hears_221 (by decide) ?_
          first
          | (refine ih (i + 1) f t3 (by omega) (by omega) hf ?_
             rw [mk_same hc_164 (by rw [srival_at, hc_191]; rfl)]
             exact hx)
          | (refine ih (i + 1) f t3 (by omega) (by omega) hf ?_
             rw [mk_same hc_164 (by rw [srival_at, hc_191, hc_205]; rfl)]
             exact hx)
          | (refine ih (i + 1) _ t3 (by omega) (by omega) (fun j hj => (fu_n _ _ (by unfold creg at hj; omega)).trans (hf j hj)) ?_
             have := hx.end h6 (i := i) (by show i < (mk (srival t rc) L i).length; rw [mk_ln]; exact hc_164) (if t + 1 < f (244 + 5 * (6 * h + i) + 4) then t + 1 else f (244 + 5 * (6 * h + i) + 4))
             rw [show zg (sca x (mk (srival t rc) L i)).2.2.2 i = zg L i from mk_at hc_164] at this
             rw [← mk_set hc_164, srival_at, hc_191, hc_205]
             rw [he hc_164 4 (by decide)] at this ⊢
             exact this)
        · refine zr_aload_n dX9_hears_194 rfl ?_
          refine zr_iload_n dX9_hears_195 rfl ?_
          refine zr_iload dX9_hears_196 rfl ?_
          refine zr_cS2 rfl dX9_hears_198 cv_9_67 (Nat.le_of_ble_eq_true rfl) (kept_ok ?_)
          refine zr_iload_n dX9_hears_201 rfl ?_
          refine zr_cV2 rfl dX9_hears_202 cv_9_76 (MI.ob hM ⟨rfl, rfl⟩) (Nat.le_of_ble_eq_true rfl) (areSame_ok hM (by omega) (by omega) (fun k hk => he hc_164 k (by omega)) (fun k hk => frc k (by omega)) ?_)
          refine zr_if_neB (tgt := 218) dX9_hears_205 (by decide) (fun hc_205 => ?_) (fun hc_205 => ?_)
          · refine zr_iincN dX9_hears_218 rfl (by decide) rfl ?_
            dsimp only [zset]
            refine zr_goto (tgt := 157) dX9_hears_221 (by decide) ?_
            first
            | (refine ih (i + 1) f t3 (by omega) (by omega) hf ?_
               rw [mk_same hc_164 (by rw [srival_at, hc_191]; rfl)]
               exact hx)
            | (refine ih (i + 1) f t3 (by omega) (by omega) hf ?_
               rw [mk_same hc_164 (by rw [srival_at, hc_191, hc_205]; rfl)]
               exact hx)
            | (refine ih (i + 1) _ t3 (by omega) (by omega) (fun j hj => (fu_n _ _ (by unfold creg at hj; omega)).trans (hf j hj)) ?_
               have := hx.end h6 (i := i) (by show i < (mk (srival t rc) L i).length; rw [mk_ln]; exact hc_164) (if t + 1 < f (244 + 5 * (6 * h + i) + 4) then t + 1 else f (244 + 5 * (6 * h + i) + 4))
               rw [show zg (sca x (mk (srival t rc) L i)).2.2.2 i = zg L i from mk_at hc_164] at this
               rw [← mk_set hc_164, srival_at, hc_191, hc_205]
               rw [he hc_164 4 (by decide)] at this ⊢
               exact this)
          · refine zr_aload_n dX9_hears_208 rfl ?_
            refine zr_iload_n dX9_hears_209 rfl ?_
            refine zr_iload dX9_hears_210 rfl ?_
            refine zr_cS2 rfl dX9_hears_212 cv_9_67 (Nat.le_of_ble_eq_true rfl) (kept_ok ?_)
            refine zr_cV1v rfl dX9_hears_215 cv_9_86 (MI.ob hM ⟨rfl, rfl⟩) (Nat.le_of_ble_eq_true rfl) (shortens_ok hM (by omega) f1 ?_)
            refine zr_iincN dX9_hears_218 rfl (by decide) rfl ?_
            dsimp only [zset]
            refine zr_goto (tgt := 157) dX9_hears_221 (by decide) ?_
            first
            | (refine ih (i + 1) f t3 (by omega) (by omega) hf ?_
               rw [mk_same hc_164 (by rw [srival_at, hc_191]; rfl)]
               exact hx)
            | (refine ih (i + 1) f t3 (by omega) (by omega) hf ?_
               rw [mk_same hc_164 (by rw [srival_at, hc_191, hc_205]; rfl)]
               exact hx)
            | (refine ih (i + 1) _ t3 (by omega) (by omega) (fun j hj => (fu_n _ _ (by unfold creg at hj; omega)).trans (hf j hj)) ?_
               have := hx.end h6 (i := i) (by show i < (mk (srival t rc) L i).length; rw [mk_ln]; exact hc_164) (if t + 1 < f (244 + 5 * (6 * h + i) + 4) then t + 1 else f (244 + 5 * (6 * h + i) + 4))
               rw [show zg (sca x (mk (srival t rc) L i)).2.2.2 i = zg L i from mk_at hc_164] at this
               rw [← mk_set hc_164, srival_at, hc_191, hc_205]
               rw [he hc_164 4 (by decide)] at this ⊢
               exact this)

theorem hears_114 {L : List sR} (hM : MI m) (h6 : h < 6) (hp1 : 34 ≤ p) (hp2 : p + 6 < 244) (h1 : f0 1 = t) (hrc : ∀ k, k < 7 → f0 (p + k) = rc k) (hl5 : L.length ≤ 5) {f : Nat → Int32} (hf : ∀ j, ¬ creg h j → f j = f0 j) (hx : RAh f h (sca x L))
    (hk : ∀ g, (∀ j, ¬ creg h j → g j = f0 j) → RAh g h (sca x (if rc 6 == 1 then (L ++ [sent t rc]).map (srival t rc) else L ++ [sent t rc])) → Q .null (zrow m 668 g)) : ∀ c k, 4 - k < c → k ≤ 4 →
    zwp (d + 4) M9_hears 0 0 Q 84 [.ref 667, .int (nI h), .int (nI p), .int (nI (244 + 5 * (6 * h + L.length))), .int (nI k)] [] 0 0 (zrow m 668 (fun j => if 244 + 5 * (6 * h + L.length) ≤ j ∧ j < 244 + 5 * (6 * h + L.length) + k then f (p + (j - (244 + 5 * (6 * h + L.length)))) else f j)) := by
  intro c
  have f1 : f 1 = t := (hf 1 (by unfold creg; omega)).trans h1
  have frc : ∀ k, k < 7 → f (p + k) = rc k := fun k hk => (hf _ (by unfold creg; omega)).trans (hrc k hk)
  generalize hB : 244 + 5 * (6 * h + L.length) = B at *
  induction c with
  | zero => intro k h2; omega
  | succ c ih =>
    intro k h2 h3
    have hs := ih (k + 1)
    have hz : f (10 + 4 * h + 3) = nI L.length := hx.2.2.2.1
    refine zr_iload dX9_hears_84 rfl ?_
    refine zr_iconst (v := nI 4) dX9_hears_86 rfl ?_
    refine zr_icmp_geN (tgt := 114) dX9_hears_87 (by decide) (by omega) (by omega) (fun hc_87 => ?_) (fun hc_87 => ?_)
    · refine zr_aload_n dX9_hears_114 rfl ?_
      refine zr_getR dX9_hears_115 fd_9_7 rfl (MI.ob hM ⟨rfl, rfl⟩) (MI.r0 hM ⟨rfl, rfl⟩) (by decide) ?_
      refine zr_iload_n dX9_hears_118 rfl ?_
      refine zr_iconst (v := nI 4) dX9_hears_119 rfl ?_
      refine zr_iaddN dX9_hears_120 ?_
      refine zr_aload_n dX9_hears_121 rfl ?_
      refine zr_getR dX9_hears_122 fd_9_7 rfl (MI.ob hM ⟨rfl, rfl⟩) (MI.r0 hM ⟨rfl, rfl⟩) (by decide) ?_
      refine zr_iconst (v := nI 1) dX9_hears_125 rfl ?_
      refine zr_ialoadA dX9_hears_126 (MI.a668 hM ⟨rfl, rfl⟩) (by omega) ?_
      rw [if_neg (by omega), f1]
      refine zr_aload_n dX9_hears_127 rfl ?_
      refine zr_getR dX9_hears_128 fd_9_7 rfl (MI.ob hM ⟨rfl, rfl⟩) (MI.r0 hM ⟨rfl, rfl⟩) (by decide) ?_
      refine zr_iload_n dX9_hears_131 rfl ?_
      refine zr_iconst (v := nI 3) dX9_hears_132 rfl ?_
      refine zr_iaddN dX9_hears_133 ?_
      refine zr_ialoadA dX9_hears_134 (MI.a668 hM ⟨rfl, rfl⟩) (by omega) ?_
      rw [if_neg (by omega), frc 3 (by decide)]
      refine zr_iadd dX9_hears_135 ?_
      refine zr_iastoreA dX9_hears_136 (MI.a668 hM ⟨rfl, rfl⟩) (by omega) ?_
      refine zr_aload_n dX9_hears_137 rfl ?_
      refine zr_getR dX9_hears_138 fd_9_7 rfl (MI.ob hM ⟨rfl, rfl⟩) (MI.r0 hM ⟨rfl, rfl⟩) (by decide) ?_
      refine zr_bipush (v := nI 10) dX9_hears_141 rfl ?_
      refine zr_iconst (v := nI 4) dX9_hears_143 rfl ?_
      refine zr_iload_n dX9_hears_144 rfl ?_
      refine zr_imulN dX9_hears_145 ?_
      refine zr_iaddN dX9_hears_146 ?_
      refine zr_iconst (v := nI 3) dX9_hears_147 rfl ?_
      refine zr_iaddN dX9_hears_148 ?_
      refine zr_dup2 dX9_hears_149 rfl rfl ?_
      refine zr_ialoadA dX9_hears_150 (MI.a668 hM ⟨rfl, rfl⟩) (by omega) ?_
      rw [fu_n _ _ (by omega), if_neg (by omega), hz]
      refine zr_iconst (v := nI 1) dX9_hears_151 rfl ?_
      refine zr_iaddN dX9_hears_152 ?_
      refine zr_iastoreA dX9_hears_153 (MI.a668 hM ⟨rfl, rfl⟩) (by omega) ?_
      refine zr_iconst (v := nI 0) dX9_hears_154 rfl ?_
      refine zr_istore dX9_hears_155 (by decide) rfl ?_
      dsimp only [zset]
      have hk4 : k = 4 := by omega
      subst hk4
      generalize hg : fu (fu (fun j => if B ≤ j ∧ j < B + 4 then f (p + (j - B)) else f j) (B + 4) (t + rc 3)) (10 + 4 * h + 3) (nI (L.length + 1)) = g
      have hg1 : ∀ j, ¬ creg h j → g j = f0 j := by
        intro j hj
        unfold creg at hj
        rw [← hg, fu_n _ _ (by omega), fu_n _ _ (by omega), if_neg (by omega)]
        exact hf j (by unfold creg; omega)
      have hg2 : RAh g h (sca x (L ++ [sent t rc])) := by
        refine RAh.cache (x := sca x L) hx (fun j hj => (hg1 j hj).trans (hf j hj).symm) ?_ (by simp; omega) (fun i hi k hk => ?_) h6
        · rw [← hg, fu_s]; simp
        · rw [List.length_append, List.length_singleton] at hi
          rw [← hg, fu_n _ _ (by omega)]
          by_cases e : i = L.length
          · subst e
            rw [hB, zat, zg_app_r, sent]
            by_cases e4 : k = 4
            · subst e4; rw [fu_s, if_pos rfl]
            · rw [fu_n _ _ (by omega), if_pos (by omega), if_neg e4, show B + k - B = k by omega]
              exact frc k (by omega)
          · rw [fu_n _ _ (by omega), if_neg (by omega), zat_app_l (by omega)]
            exact hx.2.2.2.2.2.2.2 i (by show i < L.length; omega) k hk
      by_cases hso : rc 6 = 1
      · refine hears_l5 (f0 := f0) (L := L ++ [sent t rc]) hM h6 hp1 hp2 h1 hrc (by simp; omega) hso (fun g' h1' h2' => hk g' h1' ?_) _ 0 g _ (Nat.lt_succ_self _) (Nat.zero_le _) hg1 (by rw [mk_0]; exact hg2)
        rw [if_pos (by simp [hso])]
        exact h2'
      · have hk' := hk g hg1 (by rw [if_neg (by simp [hso])]; exact hg2)
        have hz2 : g (10 + 4 * h + 3) = nI (L.length + 1) := by rw [← hg, fu_s]
        have grc : g (p + 6) = rc 6 := (hg1 _ (by unfold creg; omega)).trans (hrc 6 (by decide))
        refine zr_iload dX9_hears_157 rfl ?_
        refine zr_aload_n dX9_hears_159 rfl ?_
        refine zr_iload_n dX9_hears_160 rfl ?_
        refine zr_cV1 rfl dX9_hears_161 cv_9_70 (MI.ob hM ⟨rfl, rfl⟩) (Nat.le_of_ble_eq_true rfl) (entries_ok hM h6 hz2 ?_)
        refine zr_icmp_geN (tgt := 224) dX9_hears_164 (by decide) (by omega) (by omega) (fun hc_164 => ?_) (fun hc_164 => ?_)
        · refine zr_return dX9_hears_224 rfl (Nat.le_refl _) (Nat.le_refl _) ?_
          exact hk'
        · refine zr_aload_n dX9_hears_167 rfl ?_
          refine zr_getR dX9_hears_168 fd_9_7 rfl (MI.ob hM ⟨rfl, rfl⟩) (MI.r0 hM ⟨rfl, rfl⟩) (by decide) ?_
          refine zr_iload_n dX9_hears_171 rfl ?_
          refine zr_bipush (v := nI 6) dX9_hears_172 rfl ?_
          refine zr_iaddN dX9_hears_174 ?_
          refine zr_ialoadA dX9_hears_175 (MI.a668 hM ⟨rfl, rfl⟩) (by omega) ?_
          rw [grc]
          refine zr_iconst (v := nI 1) dX9_hears_176 rfl ?_
          refine zr_icmp_ne (tgt := 224) dX9_hears_177 (by decide) (fun hc_177 => ?_) (fun hc_177 => ?_)
          · refine zr_return dX9_hears_224 rfl (Nat.le_refl _) (Nat.le_refl _) ?_
            exact hk'
          · exact absurd hc_177 hso
    · refine zr_aload_n dX9_hears_90 rfl ?_
      refine zr_getR dX9_hears_91 fd_9_7 rfl (MI.ob hM ⟨rfl, rfl⟩) (MI.r0 hM ⟨rfl, rfl⟩) (by decide) ?_
      refine zr_iload_n dX9_hears_94 rfl ?_
      refine zr_iload dX9_hears_95 rfl ?_
      refine zr_iaddN dX9_hears_97 ?_
      refine zr_aload_n dX9_hears_98 rfl ?_
      refine zr_getR dX9_hears_99 fd_9_7 rfl (MI.ob hM ⟨rfl, rfl⟩) (MI.r0 hM ⟨rfl, rfl⟩) (by decide) ?_
      refine zr_iload_n dX9_hears_102 rfl ?_
      refine zr_iload dX9_hears_103 rfl ?_
      refine zr_iaddN dX9_hears_105 ?_
      refine zr_ialoadA dX9_hears_106 (MI.a668 hM ⟨rfl, rfl⟩) (by omega) ?_
      rw [if_neg (by omega)]
      refine zr_iastoreA dX9_hears_107 (MI.a668 hM ⟨rfl, rfl⟩) (by omega) ?_
      refine zr_iincN dX9_hears_108 rfl (by decide) rfl ?_
      dsimp only [zset]
      refine zr_goto (tgt := 84) dX9_hears_111 (by decide) ?_
      have hs := hs (by omega) (by omega)
      have e : (fu (fun j => if B ≤ j ∧ j < B + k then f (p + (j - B)) else f j) (B + k) (f (p + k))) = (fun j => if B ≤ j ∧ j < B + (k + 1) then f (p + (j - B)) else f j) := by
        funext j
        unfold fu
        by_cases e1 : j = B + k
        · subst e1
          rw [if_pos rfl, if_pos (by omega), show B + k - B = k by omega]
        · rw [if_neg e1]
          dsimp only
          by_cases e2 : B ≤ j ∧ j < B + k
          · rw [if_pos e2, if_pos (by omega)]
          · rw [if_neg e2, if_neg (by omega)]
      rw [e]
      exact hs
theorem shear_eq (t : Int32) (x : sH) (r : sR) (h1 : sawk x = true) (h2 : x.2.2.1.any (fun a => ssame a r) = false) : shear t x r = sca x (if r 6 == 1 then (shc3 t x r).map (srival t r) else shc3 t x r) := by
  unfold shear
  rw [h1, h2]
  rfl
theorem hears_55 (hM : MI m) (h6 : h < 6) (hp1 : 34 ≤ p) (hp2 : p + 6 < 244) (h1 : f0 1 = t) (hrc : ∀ k, k < 7 → f0 (p + k) = rc k) {f : Nat → Int32} (hl6 : x.2.2.2.length ≤ 6) (hf : ∀ j, ¬ creg h j → f j = f0 j) (hx : RAh f h (sca x (shc1 x rc)))
    (hk : ∀ g, (∀ j, ¬ creg h j → g j = f0 j) → RAh g h (sca x (if rc 6 == 1 then (shc3 t x rc).map (srival t rc) else shc3 t x rc)) → Q .null (zrow m 668 g)) (v : Int32) :
    zwp (d + 4) M9_hears 0 0 Q 55 [.ref 667, .int (nI h), .int (nI p), .int v, zU] [] 0 0 (zrow m 668 f) := by
  have J : ∀ f, (∀ j, ¬ creg h j → f j = f0 j) → RAh f h (sca x (shc2 x rc)) → zwp (d + 4) M9_hears 0 0 Q 71 [.ref 667, .int (nI h), .int (nI p), .int v, zU] [] 0 0 (zrow m 668 f) := by
    intro f hf hx
    have hz : f (10 + 4 * h + 3) = nI (shc2 x rc).length := hx.2.2.2.1
    have hc1 : (shc1 x rc).length ≤ x.2.2.2.length := List.length_filter_le _ _
    have hl5 : (shc2 x rc).length ≤ 5 := by
      unfold shc2
      split
      · rw [List.length_eraseIdx, if_pos (by omega)]; omega
      · omega
    refine zr_iload_n dX9_hears_71 rfl ?_
    refine zr_aload_n dX9_hears_72 rfl ?_
    refine zr_iload_n dX9_hears_73 rfl ?_
    refine zr_cV1 rfl dX9_hears_74 cv_9_70 (MI.ob hM ⟨rfl, rfl⟩) (Nat.le_of_ble_eq_true rfl) (entries_ok hM h6 hz ?_)
    refine zr_cS2 rfl dX9_hears_77 cv_9_67 (Nat.le_of_ble_eq_true rfl) (kept_ok ?_)
    refine zr_istore_n dX9_hears_80 (by decide) rfl ?_
    dsimp only [zset]
    refine zr_iconst (v := nI 0) dX9_hears_81 rfl ?_
    refine zr_istore dX9_hears_82 (by decide) rfl ?_
    dsimp only [zset]
    have := hears_114 (d := d) (Q := Q) (L := shc2 x rc) hM h6 hp1 hp2 h1 hrc hl5 hf hx hk _ 0 (Nat.lt_succ_self _) (Nat.zero_le _)
    have e : (fun j => if 244 + 5 * (6 * h + (shc2 x rc).length) ≤ j ∧ j < 244 + 5 * (6 * h + (shc2 x rc).length) + 0 then f (p + (j - (244 + 5 * (6 * h + (shc2 x rc).length)))) else f j) = f := by
      funext j
      rw [if_neg (by omega)]
    rw [e] at this
    exact this
  have hc1 : (shc1 x rc).length ≤ x.2.2.2.length := List.length_filter_le _ _
  have hz : f (10 + 4 * h + 3) = nI (shc1 x rc).length := hx.2.2.2.1
  refine zr_aload_n dX9_hears_55 rfl ?_
  refine zr_iload_n dX9_hears_56 rfl ?_
  refine zr_cV1 rfl dX9_hears_57 cv_9_70 (MI.ob hM ⟨rfl, rfl⟩) (Nat.le_of_ble_eq_true rfl) (entries_ok hM h6 hz ?_)
  refine zr_bipush (v := nI 6) dX9_hears_60 rfl ?_
  refine zr_icmp_neN (tgt := 71) dX9_hears_62 (by decide) (by omega) (by omega) (fun hc_62 => ?_) (fun hc_62 => ?_)
  · first
    | (refine J f hf ?_
       rw [shc2, if_neg hc_62]
       exact hx)
    | (refine J g (fun j hj => (hg1 j hj).trans (hf j hj)) ?_
       rw [shc2, if_pos hc_62]
       exact hg2)
  · refine zr_aload_n dX9_hears_65 rfl ?_
    refine zr_iload_n dX9_hears_66 rfl ?_
    refine zr_iconst (v := nI 0) dX9_hears_67 rfl ?_
    refine zr_cV2v rfl dX9_hears_68 cv_9_82 (MI.ob hM ⟨rfl, rfl⟩) (Nat.le_of_ble_eq_true rfl) (dropsEntry_ok (i := 0) hM h6 hx (by show 0 < (shc1 x rc).length; omega) (fun g hg1 hg2 => ?_))
    first
    | (refine J f hf ?_
       rw [shc2, if_neg hc_62]
       exact hx)
    | (refine J g (fun j hj => (hg1 j hj).trans (hf j hj)) ?_
       rw [shc2, if_pos hc_62]
       exact hg2)
theorem hears_l2 (hM : MI m) (h6 : h < 6) (hp1 : 34 ≤ p) (hp2 : p + 6 < 244) (h1 : f0 1 = t) (hrc : ∀ k, k < 7 → f0 (p + k) = rc k) (hl6 : x.2.2.2.length ≤ 6)
    (hk : ∀ g, (∀ j, ¬ creg h j → g j = f0 j) → RAh g h (sca x (if rc 6 == 1 then (shc3 t x rc).map (srival t rc) else shc3 t x rc)) → Q .null (zrow m 668 g)) : ∀ j f, j ≤ x.2.2.2.length → (∀ j, ¬ creg h j → f j = f0 j) → RAh f h (sca x (bk (fun e => !ssame e rc) x.2.2.2 j)) →
    zwp (d + 4) M9_hears 0 0 Q 26 [.ref 667, .int (nI h), .int (nI p), .int (nI j - nI 1), zU] [] 0 0 (zrow m 668 f) := by
  intro j
  induction j with
  | zero =>
    intro f hj hf hx
    rw [bk_0] at hx
    refine zr_iload_n dX9_hears_26 rfl ?_
    refine zr_if_lt (tgt := 55) dX9_hears_27 (by decide) (fun hc_27 => ?_) (fun hc_27 => absurd nI_0m hc_27)
    exact hears_55 hM h6 hp1 hp2 h1 hrc hl6 hf hx hk _
  | succ j ih =>
    intro f hj hf hx
    rw [nI_pr]
    have frc : ∀ k, k < 7 → f (p + k) = rc k := fun k hk => (hf _ (by unfold creg; omega)).trans (hrc k hk)
    have hlen : j < (bk (fun e => !ssame e rc) x.2.2.2 (j + 1)).length := Nat.lt_of_lt_of_le (Nat.lt_succ_self j) (bk_llt hj)
    have he : ∀ k, k < 5 → f (244 + 5 * (6 * h + j) + k) = zg x.2.2.2 j k := fun k hk => (hx.2.2.2.2.2.2.2 j hlen k hk).trans (congrFun (bk_at hj) k)
    refine zr_iload_n dX9_hears_26 rfl ?_
    refine zr_if_lt (tgt := 55) dX9_hears_27 (by decide) (fun hc_27 => absurd hc_27 (nI_pos (by omega))) (fun hc_27 => ?_)
    refine zr_aload_n dX9_hears_30 rfl ?_
    refine zr_iload_n dX9_hears_31 rfl ?_
    refine zr_iload_n dX9_hears_32 rfl ?_
    refine zr_cS2 rfl dX9_hears_33 cv_9_67 (Nat.le_of_ble_eq_true rfl) (kept_ok ?_)
    refine zr_iload_n dX9_hears_36 rfl ?_
    refine zr_cV2 rfl dX9_hears_37 cv_9_76 (MI.ob hM ⟨rfl, rfl⟩) (Nat.le_of_ble_eq_true rfl) (areSame_ok hM (by omega) (by omega) (fun k hk => he k (by omega)) (fun k hk => frc k (by omega)) ?_)
    refine zr_if_eqB (tgt := 49) dX9_hears_40 (by decide) (fun hc_40 => ?_) (fun hc_40 => ?_)
    · refine zr_iinc (v := nI j - nI 1) dX9_hears_49 rfl (nI_m1 j) (by decide) rfl ?_
      dsimp only [zset]
      refine zr_goto (tgt := 26) dX9_hears_52 (by decide) ?_
      first
      | (refine ih f (by omega) hf ?_
         rw [bk_keep hj (by simp [hc_40])] at hx
         exact hx)
      | (refine ih g (by omega) (fun j hj => (hg1 j hj).trans (hf j hj)) ?_
         have e : (sca (sca x (bk (fun e => !ssame e rc) x.2.2.2 (j + 1))) ((bk (fun e => !ssame e rc) x.2.2.2 (j + 1)).eraseIdx j)) = sca x (bk (fun e => !ssame e rc) x.2.2.2 j) := by
           rw [sca_sca, bk_drop hj (by simp [hc_40])]
         rw [← e]
         exact hg2)
    · refine zr_aload_n dX9_hears_43 rfl ?_
      refine zr_iload_n dX9_hears_44 rfl ?_
      refine zr_iload_n dX9_hears_45 rfl ?_
      refine zr_cV2v rfl dX9_hears_46 cv_9_82 (MI.ob hM ⟨rfl, rfl⟩) (Nat.le_of_ble_eq_true rfl) (dropsEntry_ok hM h6 hx hlen (fun g hg1 hg2 => ?_))
      refine zr_iinc (v := nI j - nI 1) dX9_hears_49 rfl (nI_m1 j) (by decide) rfl ?_
      dsimp only [zset]
      refine zr_goto (tgt := 26) dX9_hears_52 (by decide) ?_
      first
      | (refine ih f (by omega) hf ?_
         rw [bk_keep hj (by simp [hc_40])] at hx
         exact hx)
      | (refine ih g (by omega) (fun j hj => (hg1 j hj).trans (hf j hj)) ?_
         have e : (sca (sca x (bk (fun e => !ssame e rc) x.2.2.2 (j + 1))) ((bk (fun e => !ssame e rc) x.2.2.2 (j + 1)).eraseIdx j)) = sca x (bk (fun e => !ssame e rc) x.2.2.2 j) := by
           rw [sca_sca, bk_drop hj (by simp [hc_40])]
         rw [← e]
         exact hg2)
theorem hears_ok {f : Nat → Int32} {s : sS} (hM : MI m) (hA : RA f s) (hh : h < s.2.2.1) (hp1 : 34 ≤ p) (hp2 : p + 6 < 244) (hrc : ∀ k, k < 7 → f (p + k) = rc k)
    (hk : ∀ g, (∀ j, ¬ creg h j → g j = f j) → RAh g h (shear (s.1 1) (s.2.2.2 h) rc) → Q .null (zrow m 668 g)) : zC (d + 4) M9_hears 0 0 [.ref 667, .int (nI h), .int (nI p)] (zrow m 668 f) Q := by
  have h6 := hA.h6 hh
  have s6 := hA.s6 hh
  have hx := hA.2.2.2 h hh
  refine zenterP (Or.inl (by decide +kernel)) rfl (fun h => by cases h) (Nat.le_of_ble_eq_true rfl) ?_
  show zwp _ _ _ _ _ 0 [_, _, _, zU, zU] [] 0 0 _
  refine zr_aload_n dX9_hears_0 rfl ?_
  refine zr_iload_n dX9_hears_1 rfl ?_
  refine zr_cV1 rfl dX9_hears_2 cv_9_59 (MI.ob hM ⟨rfl, rfl⟩) (Nat.le_of_ble_eq_true rfl) (isAwake_ok hM h6 (hA.awk hh) ?_)
  refine zr_if_eqB (tgt := 17) dX9_hears_5 (by decide) (fun hc_5 => ?_) (fun hc_5 => ?_)
  · refine zr_return dX9_hears_17 rfl (Nat.le_refl _) (Nat.le_refl _) ?_
    refine hk f (fun _ _ => rfl) ?_
    have e : shear (s.1 1) (s.2.2.2 h) rc = s.2.2.2 h := by
      unfold shear
      rw [if_neg (by simp [*])]
    rw [e]
    exact hx
  · refine zr_aload_n dX9_hears_8 rfl ?_
    refine zr_iload_n dX9_hears_9 rfl ?_
    refine zr_iload_n dX9_hears_10 rfl ?_
    refine zr_cV2 rfl dX9_hears_11 cv_9_79 (MI.ob hM ⟨rfl, rfl⟩) (Nat.le_of_ble_eq_true rfl) (hasSame_ok hM hA hh (by omega) (fun k hk => hrc k (by omega)) ?_)
    refine zr_if_eqB (tgt := 18) dX9_hears_14 (by decide) (fun hc_14 => ?_) (fun hc_14 => ?_)
    · refine zr_aload_n dX9_hears_18 rfl ?_
      refine zr_iload_n dX9_hears_19 rfl ?_
      refine zr_cV1 rfl dX9_hears_20 cv_9_70 (MI.ob hM ⟨rfl, rfl⟩) (Nat.le_of_ble_eq_true rfl) (entries_ok hM h6 (hA.siz hh) ?_)
      refine zr_iconst (v := nI 1) dX9_hears_23 rfl ?_
      refine zr_isub dX9_hears_24 ?_
      refine zr_istore_n dX9_hears_25 (by decide) rfl ?_
      dsimp only [zset]
      refine hears_l2 (f0 := f) (x := s.2.2.2 h) hM h6 hp1 hp2 (hA.2.2.1 1 (by decide) (by decide)) hrc s6 (fun g hg1 hg2 => hk g hg1 ?_) _ f (Nat.le_refl _) (fun _ _ => rfl) ?_
      · rw [shear_eq _ _ _ hc_5 hc_14]; exact hg2
      · rw [bk_len]; exact hx
    · refine zr_return dX9_hears_17 rfl (Nat.le_refl _) (Nat.le_refl _) ?_
      refine hk f (fun _ _ => rfl) ?_
      have e : shear (s.1 1) (s.2.2.2 h) rc = s.2.2.2 h := by
        unfold shear
        rw [if_neg (by simp [*])]
      rw [e]
      exact hx
end
