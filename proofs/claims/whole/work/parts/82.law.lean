/-! ===== the law ===== -/
theorem fN_of {x : UInt32} (h : x.toNat ≤ 1291845632) : fN x := by
  obtain ⟨c, q, h1, -⟩ := fs_fin (a := x) (by omega)
  unfold fN
  rw [show FP.fcmp x x = some .eq from FP.Core.fcmp_self (by rw [h1]; exact FP.Core.Datum.noConfusion)]
  rfl
theorem sG.fl {N : Nat} {s : sS} (h : sG N s) : s.2.1.toNat ≤ 1291845632 := by
  obtain ⟨a, b, -, -, -, -, h5⟩ := h.2.2
  exact h5
theorem law_len {i L : Nat} (hL : L ≤ 3072) (hi : i ≤ 4000) (h : ¬ nI L - nI 6 < nI i) : i + 6 ≤ L := by
  by_cases h6 : L < 6
  · exfalso
    apply h
    have h0 : nI L - nI 6 < 0 := by
      rcases (show L = 0 ∨ L = 1 ∨ L = 2 ∨ L = 3 ∨ L = 4 ∨ L = 5 by omega) with rfl | rfl | rfl | rfl | rfl | rfl <;> decide
    exact Int32.lt_of_lt_of_le h0 (nI_pos' (by omega))
  · rw [i_sub (by omega), nI_ltI (by omega) (by omega)] at h
    omega
section
variable {d : Nat} {M : zMeth} {mc ms : Nat} {Q : Value → zM → Prop} {pc : Nat} {ls st : List Value} {uc us : Nat} {m : zM}
theorem zr_lV0 {M' : zMeth} {idx a : Nat} {rt : FieldType} (hu : uc ≤ mc) (hv' : us ≤ ms) (hr : M'.2.2.2.2.2 = some rt) (hd : decode M.2.2.1 pc = .ok (.invokevirtual idx, 3)) (hv : zVs M.1 idx M' 0) (ho : zOb m a M'.1) (hcat : (st.map fun v => v.category).sum ≤ 8) (hc : zC d M' 0 0 [.ref a] m (fun v m' => zwp (d + 1) M mc ms Q (pc + 3) ls (v :: st) uc us m')) : zwp (d + 1) M mc ms Q pc ls (.ref a :: st) uc us m :=
  zr_callV (as := []) (mc' := 0) (ms' := 0) hd hv ho rfl rfl hcat hu hv' (by rw [hr]; exact hc)
theorem zr_lV1 {M' : zMeth} {idx a : Nat} {v1 : Value} {rt : FieldType} (hu : uc ≤ mc) (hv' : us ≤ ms) (hr : M'.2.2.2.2.2 = some rt) (hd : decode M.2.2.1 pc = .ok (.invokevirtual idx, 3)) (hv : zVs M.1 idx M' 1) (ho : zOb m a M'.1) (hcat : (st.map fun v => v.category).sum ≤ 8) (hc : zC d M' 0 0 [.ref a, v1] m (fun v m' => zwp (d + 1) M mc ms Q (pc + 3) ls (v :: st) uc us m')) : zwp (d + 1) M mc ms Q pc ls (v1 :: .ref a :: st) uc us m :=
  zr_callV (as := [v1]) (mc' := 0) (ms' := 0) hd hv ho rfl rfl hcat hu hv' (by rw [hr]; exact hc)
theorem zr_lV2 {M' : zMeth} {idx a : Nat} {v1 v2 : Value} {rt : FieldType} (hu : uc ≤ mc) (hv' : us ≤ ms) (hr : M'.2.2.2.2.2 = some rt) (hd : decode M.2.2.1 pc = .ok (.invokevirtual idx, 3)) (hv : zVs M.1 idx M' 2) (ho : zOb m a M'.1) (hcat : (st.map fun v => v.category).sum ≤ 8) (hc : zC d M' 0 0 [.ref a, v1, v2] m (fun v m' => zwp (d + 1) M mc ms Q (pc + 3) ls (v :: st) uc us m')) : zwp (d + 1) M mc ms Q pc ls (v2 :: v1 :: .ref a :: st) uc us m :=
  zr_callV (as := [v1, v2]) (mc' := 0) (ms' := 0) hd hv ho rfl rfl hcat hu hv' (by rw [hr]; exact hc)
theorem zr_lV3 {M' : zMeth} {idx a : Nat} {v1 v2 v3 : Value} {rt : FieldType} (hu : uc ≤ mc) (hv' : us ≤ ms) (hr : M'.2.2.2.2.2 = some rt) (hd : decode M.2.2.1 pc = .ok (.invokevirtual idx, 3)) (hv : zVs M.1 idx M' 3) (ho : zOb m a M'.1) (hcat : (st.map fun v => v.category).sum ≤ 8) (hc : zC d M' 0 0 [.ref a, v1, v2, v3] m (fun v m' => zwp (d + 1) M mc ms Q (pc + 3) ls (v :: st) uc us m')) : zwp (d + 1) M mc ms Q pc ls (v3 :: v2 :: v1 :: .ref a :: st) uc us m :=
  zr_callV (as := [v1, v2, v3]) (mc' := 0) (ms' := 0) hd hv ho rfl rfl hcat hu hv' (by rw [hr]; exact hc)
theorem zr_lV4 {M' : zMeth} {idx a : Nat} {v1 v2 v3 v4 : Value} {rt : FieldType} (hu : uc ≤ mc) (hv' : us ≤ ms) (hr : M'.2.2.2.2.2 = some rt) (hd : decode M.2.2.1 pc = .ok (.invokevirtual idx, 3)) (hv : zVs M.1 idx M' 4) (ho : zOb m a M'.1) (hcat : (st.map fun v => v.category).sum ≤ 8) (hc : zC d M' 0 0 [.ref a, v1, v2, v3, v4] m (fun v m' => zwp (d + 1) M mc ms Q (pc + 3) ls (v :: st) uc us m')) : zwp (d + 1) M mc ms Q pc ls (v4 :: v3 :: v2 :: v1 :: .ref a :: st) uc us m :=
  zr_callV (as := [v1, v2, v3, v4]) (mc' := 0) (ms' := 0) hd hv ho rfl rfl hcat hu hv' (by rw [hr]; exact hc)
theorem zr_lV5 {M' : zMeth} {idx a : Nat} {v1 v2 v3 v4 v5 : Value} {rt : FieldType} (hu : uc ≤ mc) (hv' : us ≤ ms) (hr : M'.2.2.2.2.2 = some rt) (hd : decode M.2.2.1 pc = .ok (.invokevirtual idx, 3)) (hv : zVs M.1 idx M' 5) (ho : zOb m a M'.1) (hcat : (st.map fun v => v.category).sum ≤ 8) (hc : zC d M' 0 0 [.ref a, v1, v2, v3, v4, v5] m (fun v m' => zwp (d + 1) M mc ms Q (pc + 3) ls (v :: st) uc us m')) : zwp (d + 1) M mc ms Q pc ls (v5 :: v4 :: v3 :: v2 :: v1 :: .ref a :: st) uc us m :=
  zr_callV (as := [v1, v2, v3, v4, v5]) (mc' := 0) (ms' := 0) hd hv ho rfl rfl hcat hu hv' (by rw [hr]; exact hc)
end
section
variable {mc ms uc us L : Nat} {Q : Value → zM → Prop} {X : Nat → Int32}
def lS (m : zM) (L : Nat) (X : Nat → Int32) : Prop := zR m 1 0 = L ∧ zI m 1 = X
theorem lS.out {m m' : zM} (h : lS m L X) (ho : zout 2 667 m m') : lS m' L X := ⟨by rw [ho.R (by omega)]; exact h.1, by rw [ho.I (by omega)]; exact h.2⟩
theorem lS.lo {m m' : zM} (h : lS m L X) (ho : zlo m m') : lS m' L X := ⟨by rw [(ho 1 (by decide)).2.1]; exact h.1, by rw [(ho 1 (by decide)).1]; exact h.2⟩
theorem law_18 (hL : L ≤ 3072) (hu : uc ≤ mc) (hv : us ≤ ms) (hk : ∀ m, Q (.int 1) m) : ∀ c i w m1, L + 6 - i < c → i ≤ L + 5 → lS m1 L X → RC m1 w → RM m1 w → wI (20000 * i) w → zwp 12 M10_law mc ms Q 18 [.ref 1, .ref 2, .ref 667, .int (nI i)] [] uc us m1 := by
  intro c
  induction c with
  | zero => intro i w m1 h1; omega
  | succ c ih =>
    intro i w m1 h1 h2 s1 hR hM hI
    have fin : ∀ m' w', i + 6 ≤ L → lS m' L X → RC m' w' → RM m' w' → wI (20000 * (i + 6)) w' → zwp 12 M10_law mc ms Q 803 [.ref 1, .ref 2, .ref 667, .int (nI i)] [] uc us m' := by
      intro m' w' hi s' r' rm' i'
      refine zr_iinc (v := nI (i + 6)) dL_law_803 rfl (nI_add i 6) (by decide) rfl ?_
      dsimp only [zset]
      refine zr_goto (tgt := 18) dL_law_806 (by decide) ?_
      exact ih (i + 6) w' m' (by omega) (by omega) s' r' rm' i'
    have fin2 : ∀ m2 m3 w', i + 6 ≤ L → lS m2 L X → RC m2 w' → RM m3 w' → zlo m2 m3 → wI (20000 * i + 120000) w' → zwp 12 M10_law mc ms Q 803 [.ref 1, .ref 2, .ref 667, .int (nI i)] [] uc us m3 := fun m2 m3 w' hi s2 r2 r3 l3 i' => fin m3 w' hi (s2.lo l3) (r2.lo (r3.1.1.trans r2.1.1.symm) l3) r3 (i'.mono (by omega))
    refine zr_iload_n dL_law_18 rfl ?_
    refine zr_aload_n dL_law_19 rfl ?_
    refine zr_slen dL_law_20 ?_
    rw [s1.1]
    refine zr_bipush (v := nI 6) dL_law_21 rfl ?_
    refine zr_isub dL_law_23 ?_
    refine zr_icmp_gt (tgt := 809) dL_law_24 (by decide) (fun hc_24 => ?_) (fun hc_24 => ?_)
    · refine zr_iconst (v := bI true) dL_law_809 rfl ?_
      refine zr_zreturnB dL_law_810 rfl hu hv ?_
      exact hk _
    · have hi := law_len hL (by omega) hc_24
      have hN : 20000 * i + 120000 ≤ 2 ^ 27 := by omega
      have hs := hI.1.1
      have hvv := hI.1.2.1
      have hfl := hI.1.fl
      have hob : zOb m1 2 8 := hR.1.ob rfl
      refine zr_aload_n dL_law_27 rfl ?_
      refine zr_iload_n dL_law_28 rfl ?_
      refine zr_sload dL_law_29 (vp_in_nI (by rw [s1.1]; omega) (by rw [s1.1]; omega)) ?_
      rw [nI_clamp (by omega), s1.2]
      refine zr_bipush (v := nI 31) dL_law_30 rfl ?_
      refine zr_iand dL_law_32 ?_
      generalize X i &&& nI 31 = v
      rcases sw_of (hi := 21) v 21 rfl (by decide) with ⟨j_33, j1_33, rfl, hs_33⟩ | ⟨hs_33, ho_33⟩
      · rcases (show j_33 = 0 ∨ j_33 = 1 ∨ j_33 = 2 ∨ j_33 = 3 ∨ j_33 = 4 ∨ j_33 = 5 ∨ j_33 = 6 ∨ j_33 = 7 ∨ j_33 = 8 ∨ j_33 = 9 ∨ j_33 = 10 ∨ j_33 = 11 ∨ j_33 = 12 ∨ j_33 = 13 ∨ j_33 = 14 ∨ j_33 = 15 ∨ j_33 = 16 ∨ j_33 = 17 ∨ j_33 = 18 ∨ j_33 = 19 ∨ j_33 = 20 ∨ j_33 = 21 by omega) with rfl | rfl | rfl | rfl | rfl | rfl | rfl | rfl | rfl | rfl | rfl | rfl | rfl | rfl | rfl | rfl | rfl | rfl | rfl | rfl | rfl | rfl
        · refine zr_tableIn (off := 103) (tgt := 136) dL_law_33 (by decide) (by decide) rfl (by decide) ?_
          refine zr_aload_n dL_law_136 rfl ?_
          refine zr_lV0 hu hv rfl dL_law_137 cv_10_13 hob (Nat.le_of_ble_eq_true rfl) (host_c hR hs (fun z => od_ne hs (Or.inl rfl : olet (nI 104)) z) (fun m2 r2 z2 => ?_))
          have s2 := s1.out z2
          refine zr_aload_n dL_law_140 rfl ?_
          refine zr_lV0 hu hv rfl dL_law_141 cv_10_17 ((hM.out z2).1.ob ⟨rfl, rfl⟩) (Nat.le_of_ble_eq_true rfl) (host_m (hM.out z2) hs (fun m3 r3 l3 => ?_))
          have fz := fin2 m2 m3 _ hi s2 r2 r3 l3 (hI.step (Or.inl rfl : olet (nI 104)) hN)
          refine zr_icmp_eq (tgt := 803) dL_law_144 (by decide) (fun hc_144 => ?_) (fun hc_144 => absurd rfl hc_144)
          first
          | exact fz
          | exact fin m1 w hi s1 hR hM (hI.mono (by omega))
          | fail "none"
        · refine zr_tableIn (off := 116) (tgt := 149) dL_law_33 (by decide) (by decide) rfl (by decide) ?_
          refine zr_aload_n dL_law_149 rfl ?_
          refine zr_aload_n dL_law_150 rfl ?_
          refine zr_iload_n dL_law_151 rfl ?_
          refine zr_iconst (v := nI 1) dL_law_152 rfl ?_
          refine zr_iaddN dL_law_153 ?_
          refine zr_sload dL_law_154 (vp_in_nI (by rw [s1.1]; omega) (by rw [s1.1]; omega)) ?_
          rw [nI_clamp (by omega), s1.2]
          refine zr_aload_n dL_law_155 rfl ?_
          refine zr_iload_n dL_law_156 rfl ?_
          refine zr_iconst (v := nI 2) dL_law_157 rfl ?_
          refine zr_iaddN dL_law_158 ?_
          refine zr_sload dL_law_159 (vp_in_nI (by rw [s1.1]; omega) (by rw [s1.1]; omega)) ?_
          rw [nI_clamp (by omega), s1.2]
          refine zr_aload_n dL_law_160 rfl ?_
          refine zr_iload_n dL_law_161 rfl ?_
          refine zr_iconst (v := nI 3) dL_law_162 rfl ?_
          refine zr_iaddN dL_law_163 ?_
          refine zr_sload dL_law_164 (vp_in_nI (by rw [s1.1]; omega) (by rw [s1.1]; omega)) ?_
          rw [nI_clamp (by omega), s1.2]
          refine zr_aload_n dL_law_165 rfl ?_
          refine zr_iload_n dL_law_166 rfl ?_
          refine zr_iconst (v := nI 4) dL_law_167 rfl ?_
          refine zr_iaddN dL_law_168 ?_
          refine zr_sload dL_law_169 (vp_in_nI (by rw [s1.1]; omega) (by rw [s1.1]; omega)) ?_
          rw [nI_clamp (by omega), s1.2]
          refine zr_aload_n dL_law_170 rfl ?_
          refine zr_iload_n dL_law_171 rfl ?_
          refine zr_iconst (v := nI 5) dL_law_172 rfl ?_
          refine zr_iaddN dL_law_173 ?_
          refine zr_sload dL_law_174 (vp_in_nI (by rw [s1.1]; omega) (by rw [s1.1]; omega)) ?_
          rw [nI_clamp (by omega), s1.2]
          refine zr_lV5 hu hv rfl dL_law_175 cv_10_18 hob (Nat.le_of_ble_eq_true rfl) (claims_c hR hs (fun z => od_ne hs (Or.inr (Or.inr (Or.inr (Or.inr (Or.inr (Or.inr (Or.inl rfl)))))) : olet (nI 99)) z) (fun m2 r2 z2 => ?_))
          have s2 := s1.out z2
          refine zr_aload_n dL_law_178 rfl ?_
          refine zr_aload_n dL_law_179 rfl ?_
          refine zr_iload_n dL_law_180 rfl ?_
          refine zr_iconst (v := nI 1) dL_law_181 rfl ?_
          refine zr_iaddN dL_law_182 ?_
          refine zr_sload dL_law_183 (vp_in_nI (by rw [s2.1]; omega) (by rw [s2.1]; omega)) ?_
          rw [nI_clamp (by omega), s2.2]
          refine zr_aload_n dL_law_184 rfl ?_
          refine zr_iload_n dL_law_185 rfl ?_
          refine zr_iconst (v := nI 2) dL_law_186 rfl ?_
          refine zr_iaddN dL_law_187 ?_
          refine zr_sload dL_law_188 (vp_in_nI (by rw [s2.1]; omega) (by rw [s2.1]; omega)) ?_
          rw [nI_clamp (by omega), s2.2]
          refine zr_aload_n dL_law_189 rfl ?_
          refine zr_iload_n dL_law_190 rfl ?_
          refine zr_iconst (v := nI 3) dL_law_191 rfl ?_
          refine zr_iaddN dL_law_192 ?_
          refine zr_sload dL_law_193 (vp_in_nI (by rw [s2.1]; omega) (by rw [s2.1]; omega)) ?_
          rw [nI_clamp (by omega), s2.2]
          refine zr_aload_n dL_law_194 rfl ?_
          refine zr_iload_n dL_law_195 rfl ?_
          refine zr_iconst (v := nI 4) dL_law_196 rfl ?_
          refine zr_iaddN dL_law_197 ?_
          refine zr_sload dL_law_198 (vp_in_nI (by rw [s2.1]; omega) (by rw [s2.1]; omega)) ?_
          rw [nI_clamp (by omega), s2.2]
          refine zr_aload_n dL_law_199 rfl ?_
          refine zr_iload_n dL_law_200 rfl ?_
          refine zr_iconst (v := nI 5) dL_law_201 rfl ?_
          refine zr_iaddN dL_law_202 ?_
          refine zr_sload dL_law_203 (vp_in_nI (by rw [s2.1]; omega) (by rw [s2.1]; omega)) ?_
          rw [nI_clamp (by omega), s2.2]
          refine zr_lV5 hu hv rfl dL_law_204 cv_10_22 ((hM.out z2).1.ob ⟨rfl, rfl⟩) (Nat.le_of_ble_eq_true rfl) (claims_m (hM.out z2) hs (fun m3 r3 l3 => ?_))
          have fz := fin2 m2 m3 _ hi s2 r2 r3 l3 (hI.step (Or.inr (Or.inr (Or.inr (Or.inr (Or.inr (Or.inr (Or.inl rfl)))))) : olet (nI 99)) hN)
          refine zr_icmp_eq (tgt := 803) dL_law_207 (by decide) (fun hc_207 => ?_) (fun hc_207 => absurd rfl hc_207)
          first
          | exact fz
          | exact fin m1 w hi s1 hR hM (hI.mono (by omega))
          | fail "none"
        · refine zr_tableIn (off := 179) (tgt := 212) dL_law_33 (by decide) (by decide) rfl (by decide) ?_
          refine zr_aload_n dL_law_212 rfl ?_
          refine zr_aload_n dL_law_213 rfl ?_
          refine zr_iload_n dL_law_214 rfl ?_
          refine zr_iconst (v := nI 1) dL_law_215 rfl ?_
          refine zr_iaddN dL_law_216 ?_
          refine zr_sload dL_law_217 (vp_in_nI (by rw [s1.1]; omega) (by rw [s1.1]; omega)) ?_
          rw [nI_clamp (by omega), s1.2]
          refine zr_aload_n dL_law_218 rfl ?_
          refine zr_iload_n dL_law_219 rfl ?_
          refine zr_iconst (v := nI 2) dL_law_220 rfl ?_
          refine zr_iaddN dL_law_221 ?_
          refine zr_sload dL_law_222 (vp_in_nI (by rw [s1.1]; omega) (by rw [s1.1]; omega)) ?_
          rw [nI_clamp (by omega), s1.2]
          refine zr_aload_n dL_law_223 rfl ?_
          refine zr_iload_n dL_law_224 rfl ?_
          refine zr_iconst (v := nI 3) dL_law_225 rfl ?_
          refine zr_iaddN dL_law_226 ?_
          refine zr_sload dL_law_227 (vp_in_nI (by rw [s1.1]; omega) (by rw [s1.1]; omega)) ?_
          rw [nI_clamp (by omega), s1.2]
          refine zr_aload_n dL_law_228 rfl ?_
          refine zr_iload_n dL_law_229 rfl ?_
          refine zr_iconst (v := nI 4) dL_law_230 rfl ?_
          refine zr_iaddN dL_law_231 ?_
          refine zr_sload dL_law_232 (vp_in_nI (by rw [s1.1]; omega) (by rw [s1.1]; omega)) ?_
          rw [nI_clamp (by omega), s1.2]
          refine zr_aload_n dL_law_233 rfl ?_
          refine zr_iload_n dL_law_234 rfl ?_
          refine zr_iconst (v := nI 5) dL_law_235 rfl ?_
          refine zr_iaddN dL_law_236 ?_
          refine zr_sload dL_law_237 (vp_in_nI (by rw [s1.1]; omega) (by rw [s1.1]; omega)) ?_
          rw [nI_clamp (by omega), s1.2]
          refine zr_lV5 hu hv rfl dL_law_238 cv_10_23 hob (Nat.le_of_ble_eq_true rfl) (shares_c hR hs (fun z => od_ne hs (Or.inr (Or.inr (Or.inr (Or.inr (Or.inr (Or.inr (Or.inr rfl)))))) : olet (nI 115)) z) (fun m2 r2 z2 => ?_))
          have s2 := s1.out z2
          refine zr_aload_n dL_law_241 rfl ?_
          refine zr_aload_n dL_law_242 rfl ?_
          refine zr_iload_n dL_law_243 rfl ?_
          refine zr_iconst (v := nI 1) dL_law_244 rfl ?_
          refine zr_iaddN dL_law_245 ?_
          refine zr_sload dL_law_246 (vp_in_nI (by rw [s2.1]; omega) (by rw [s2.1]; omega)) ?_
          rw [nI_clamp (by omega), s2.2]
          refine zr_aload_n dL_law_247 rfl ?_
          refine zr_iload_n dL_law_248 rfl ?_
          refine zr_iconst (v := nI 2) dL_law_249 rfl ?_
          refine zr_iaddN dL_law_250 ?_
          refine zr_sload dL_law_251 (vp_in_nI (by rw [s2.1]; omega) (by rw [s2.1]; omega)) ?_
          rw [nI_clamp (by omega), s2.2]
          refine zr_aload_n dL_law_252 rfl ?_
          refine zr_iload_n dL_law_253 rfl ?_
          refine zr_iconst (v := nI 3) dL_law_254 rfl ?_
          refine zr_iaddN dL_law_255 ?_
          refine zr_sload dL_law_256 (vp_in_nI (by rw [s2.1]; omega) (by rw [s2.1]; omega)) ?_
          rw [nI_clamp (by omega), s2.2]
          refine zr_aload_n dL_law_257 rfl ?_
          refine zr_iload_n dL_law_258 rfl ?_
          refine zr_iconst (v := nI 4) dL_law_259 rfl ?_
          refine zr_iaddN dL_law_260 ?_
          refine zr_sload dL_law_261 (vp_in_nI (by rw [s2.1]; omega) (by rw [s2.1]; omega)) ?_
          rw [nI_clamp (by omega), s2.2]
          refine zr_aload_n dL_law_262 rfl ?_
          refine zr_iload_n dL_law_263 rfl ?_
          refine zr_iconst (v := nI 5) dL_law_264 rfl ?_
          refine zr_iaddN dL_law_265 ?_
          refine zr_sload dL_law_266 (vp_in_nI (by rw [s2.1]; omega) (by rw [s2.1]; omega)) ?_
          rw [nI_clamp (by omega), s2.2]
          refine zr_lV5 hu hv rfl dL_law_267 cv_10_26 ((hM.out z2).1.ob ⟨rfl, rfl⟩) (Nat.le_of_ble_eq_true rfl) (shares_m (hM.out z2) hs (fun m3 r3 l3 => ?_))
          have fz := fin2 m2 m3 _ hi s2 r2 r3 l3 (hI.step (Or.inr (Or.inr (Or.inr (Or.inr (Or.inr (Or.inr (Or.inr rfl)))))) : olet (nI 115)) hN)
          refine zr_icmp_eq (tgt := 803) dL_law_270 (by decide) (fun hc_270 => ?_) (fun hc_270 => absurd rfl hc_270)
          first
          | exact fz
          | exact fin m1 w hi s1 hR hM (hI.mono (by omega))
          | fail "none"
        · refine zr_tableIn (off := 242) (tgt := 275) dL_law_33 (by decide) (by decide) rfl (by decide) ?_
          refine zr_aload_n dL_law_275 rfl ?_
          refine zr_aload_n dL_law_276 rfl ?_
          refine zr_iload_n dL_law_277 rfl ?_
          refine zr_iconst (v := nI 1) dL_law_278 rfl ?_
          refine zr_iaddN dL_law_279 ?_
          refine zr_sload dL_law_280 (vp_in_nI (by rw [s1.1]; omega) (by rw [s1.1]; omega)) ?_
          rw [nI_clamp (by omega), s1.2]
          refine zr_aload_n dL_law_281 rfl ?_
          refine zr_iload_n dL_law_282 rfl ?_
          refine zr_iconst (v := nI 2) dL_law_283 rfl ?_
          refine zr_iaddN dL_law_284 ?_
          refine zr_sload dL_law_285 (vp_in_nI (by rw [s1.1]; omega) (by rw [s1.1]; omega)) ?_
          rw [nI_clamp (by omega), s1.2]
          refine zr_lV2 hu hv rfl dL_law_286 cv_10_27 hob (Nat.le_of_ble_eq_true rfl) (leaves_c hR hs (fun z => od_ne hs (Or.inr (Or.inr (Or.inr (Or.inr (Or.inl rfl)))) : olet (nI 103)) z) (fun m2 r2 z2 => ?_))
          have s2 := s1.out z2
          refine zr_aload_n dL_law_289 rfl ?_
          refine zr_aload_n dL_law_290 rfl ?_
          refine zr_iload_n dL_law_291 rfl ?_
          refine zr_iconst (v := nI 1) dL_law_292 rfl ?_
          refine zr_iaddN dL_law_293 ?_
          refine zr_sload dL_law_294 (vp_in_nI (by rw [s2.1]; omega) (by rw [s2.1]; omega)) ?_
          rw [nI_clamp (by omega), s2.2]
          refine zr_aload_n dL_law_295 rfl ?_
          refine zr_iload_n dL_law_296 rfl ?_
          refine zr_iconst (v := nI 2) dL_law_297 rfl ?_
          refine zr_iaddN dL_law_298 ?_
          refine zr_sload dL_law_299 (vp_in_nI (by rw [s2.1]; omega) (by rw [s2.1]; omega)) ?_
          rw [nI_clamp (by omega), s2.2]
          refine zr_lV2 hu hv rfl dL_law_300 cv_10_31 ((hM.out z2).1.ob ⟨rfl, rfl⟩) (Nat.le_of_ble_eq_true rfl) (leaves_m (hM.out z2) hs (fun m3 r3 l3 => ?_))
          have fz := fin2 m2 m3 _ hi s2 r2 r3 l3 (hI.step (Or.inr (Or.inr (Or.inr (Or.inr (Or.inl rfl)))) : olet (nI 103)) hN)
          refine zr_icmp_eq (tgt := 803) dL_law_303 (by decide) (fun hc_303 => ?_) (fun hc_303 => absurd rfl hc_303)
          first
          | exact fz
          | exact fin m1 w hi s1 hR hM (hI.mono (by omega))
          | fail "none"
        · refine zr_tableIn (off := 275) (tgt := 308) dL_law_33 (by decide) (by decide) rfl (by decide) ?_
          refine zr_aload_n dL_law_308 rfl ?_
          refine zr_aload_n dL_law_309 rfl ?_
          refine zr_iload_n dL_law_310 rfl ?_
          refine zr_iconst (v := nI 1) dL_law_311 rfl ?_
          refine zr_iaddN dL_law_312 ?_
          refine zr_sload dL_law_313 (vp_in_nI (by rw [s1.1]; omega) (by rw [s1.1]; omega)) ?_
          rw [nI_clamp (by omega), s1.2]
          refine zr_aload_n dL_law_314 rfl ?_
          refine zr_iload_n dL_law_315 rfl ?_
          refine zr_iconst (v := nI 2) dL_law_316 rfl ?_
          refine zr_iaddN dL_law_317 ?_
          refine zr_sload dL_law_318 (vp_in_nI (by rw [s1.1]; omega) (by rw [s1.1]; omega)) ?_
          rw [nI_clamp (by omega), s1.2]
          refine zr_aload_n dL_law_319 rfl ?_
          refine zr_iload_n dL_law_320 rfl ?_
          refine zr_iconst (v := nI 3) dL_law_321 rfl ?_
          refine zr_iaddN dL_law_322 ?_
          refine zr_sload dL_law_323 (vp_in_nI (by rw [s1.1]; omega) (by rw [s1.1]; omega)) ?_
          rw [nI_clamp (by omega), s1.2]
          refine zr_lV3 hu hv rfl dL_law_324 cv_10_32 hob (Nat.le_of_ble_eq_true rfl) (record_c hR hs (fun z => record_ne hs hvv z) (fun m2 r2 z2 => ?_))
          have s2 := s1.out z2
          refine zr_aload_n dL_law_327 rfl ?_
          refine zr_aload_n dL_law_328 rfl ?_
          refine zr_iload_n dL_law_329 rfl ?_
          refine zr_iconst (v := nI 1) dL_law_330 rfl ?_
          refine zr_iaddN dL_law_331 ?_
          refine zr_sload dL_law_332 (vp_in_nI (by rw [s2.1]; omega) (by rw [s2.1]; omega)) ?_
          rw [nI_clamp (by omega), s2.2]
          refine zr_aload_n dL_law_333 rfl ?_
          refine zr_iload_n dL_law_334 rfl ?_
          refine zr_iconst (v := nI 2) dL_law_335 rfl ?_
          refine zr_iaddN dL_law_336 ?_
          refine zr_sload dL_law_337 (vp_in_nI (by rw [s2.1]; omega) (by rw [s2.1]; omega)) ?_
          rw [nI_clamp (by omega), s2.2]
          refine zr_aload_n dL_law_338 rfl ?_
          refine zr_iload_n dL_law_339 rfl ?_
          refine zr_iconst (v := nI 3) dL_law_340 rfl ?_
          refine zr_iaddN dL_law_341 ?_
          refine zr_sload dL_law_342 (vp_in_nI (by rw [s2.1]; omega) (by rw [s2.1]; omega)) ?_
          rw [nI_clamp (by omega), s2.2]
          refine zr_lV3 hu hv rfl dL_law_343 cv_10_36 ((hM.out z2).1.ob ⟨rfl, rfl⟩) (Nat.le_of_ble_eq_true rfl) (record_m (hM.out z2) hs (fun m3 r3 l3 => ?_))
          have fz := fin2 m2 m3 _ hi s2 r2 r3 l3 (hI.ask.mono (by omega))
          refine zr_icmp_eq (tgt := 803) dL_law_346 (by decide) (fun hc_346 => ?_) (fun hc_346 => absurd rfl hc_346)
          first
          | exact fz
          | exact fin m1 w hi s1 hR hM (hI.mono (by omega))
          | fail "none"
        · refine zr_tableIn (off := 318) (tgt := 351) dL_law_33 (by decide) (by decide) rfl (by decide) ?_
          refine zr_aload_n dL_law_351 rfl ?_
          refine zr_aload_n dL_law_352 rfl ?_
          refine zr_iload_n dL_law_353 rfl ?_
          refine zr_iconst (v := nI 1) dL_law_354 rfl ?_
          refine zr_iaddN dL_law_355 ?_
          refine zr_sload dL_law_356 (vp_in_nI (by rw [s1.1]; omega) (by rw [s1.1]; omega)) ?_
          rw [nI_clamp (by omega), s1.2]
          refine zr_aload_n dL_law_357 rfl ?_
          refine zr_iload_n dL_law_358 rfl ?_
          refine zr_iconst (v := nI 2) dL_law_359 rfl ?_
          refine zr_iaddN dL_law_360 ?_
          refine zr_sload dL_law_361 (vp_in_nI (by rw [s1.1]; omega) (by rw [s1.1]; omega)) ?_
          rw [nI_clamp (by omega), s1.2]
          refine zr_lV2 hu hv rfl dL_law_362 cv_10_37 hob (Nat.le_of_ble_eq_true rfl) (of_c hR hs (fun z => of_ne hs z) (fun m2 r2 z2 => ?_))
          have s2 := s1.out z2
          refine zr_aload_n dL_law_365 rfl ?_
          refine zr_aload_n dL_law_366 rfl ?_
          refine zr_iload_n dL_law_367 rfl ?_
          refine zr_iconst (v := nI 1) dL_law_368 rfl ?_
          refine zr_iaddN dL_law_369 ?_
          refine zr_sload dL_law_370 (vp_in_nI (by rw [s2.1]; omega) (by rw [s2.1]; omega)) ?_
          rw [nI_clamp (by omega), s2.2]
          refine zr_aload_n dL_law_371 rfl ?_
          refine zr_iload_n dL_law_372 rfl ?_
          refine zr_iconst (v := nI 2) dL_law_373 rfl ?_
          refine zr_iaddN dL_law_374 ?_
          refine zr_sload dL_law_375 (vp_in_nI (by rw [s2.1]; omega) (by rw [s2.1]; omega)) ?_
          rw [nI_clamp (by omega), s2.2]
          refine zr_lV2 hu hv rfl dL_law_376 cv_10_40 ((hM.out z2).1.ob ⟨rfl, rfl⟩) (Nat.le_of_ble_eq_true rfl) (of_m (hM.out z2) hs (fun m3 r3 l3 => ?_))
          have fz := fin2 m2 m3 _ hi s2 r2 r3 l3 (hI.ask.mono (by omega))
          refine zr_icmp_eq (tgt := 803) dL_law_379 (by decide) (fun hc_379 => ?_) (fun hc_379 => absurd rfl hc_379)
          first
          | exact fz
          | exact fin m1 w hi s1 hR hM (hI.mono (by omega))
          | fail "none"
        · refine zr_tableIn (off := 351) (tgt := 384) dL_law_33 (by decide) (by decide) rfl (by decide) ?_
          refine zr_aload_n dL_law_384 rfl ?_
          refine zr_aload_n dL_law_385 rfl ?_
          refine zr_iload_n dL_law_386 rfl ?_
          refine zr_iconst (v := nI 1) dL_law_387 rfl ?_
          refine zr_iaddN dL_law_388 ?_
          refine zr_sload dL_law_389 (vp_in_nI (by rw [s1.1]; omega) (by rw [s1.1]; omega)) ?_
          rw [nI_clamp (by omega), s1.2]
          refine zr_lV1 hu hv rfl dL_law_390 cv_10_41 hob (Nat.le_of_ble_eq_true rfl) (ticks_c hR hs (hI.1.2.2.fT hs (by omega)) (fun z => od_ne hs (Or.inr (Or.inl rfl) : olet (nI 116)) z) (fun m2 r2 z2 => ?_))
          have s2 := s1.out z2
          refine zr_aload_n dL_law_393 rfl ?_
          refine zr_aload_n dL_law_394 rfl ?_
          refine zr_iload_n dL_law_395 rfl ?_
          refine zr_iconst (v := nI 1) dL_law_396 rfl ?_
          refine zr_iaddN dL_law_397 ?_
          refine zr_sload dL_law_398 (vp_in_nI (by rw [s2.1]; omega) (by rw [s2.1]; omega)) ?_
          rw [nI_clamp (by omega), s2.2]
          refine zr_lV1 hu hv rfl dL_law_399 cv_10_45 ((hM.out z2).1.ob ⟨rfl, rfl⟩) (Nat.le_of_ble_eq_true rfl) (ticks_m (hM.out z2) hs (hI.1.2.2.fT hs (by omega)) (fun m3 r3 l3 => ?_))
          have fz := fin2 m2 m3 _ hi s2 r2 r3 l3 (hI.step (Or.inr (Or.inl rfl) : olet (nI 116)) hN)
          refine zr_icmp_eq (tgt := 803) dL_law_402 (by decide) (fun hc_402 => ?_) (fun hc_402 => absurd rfl hc_402)
          first
          | exact fz
          | exact fin m1 w hi s1 hR hM (hI.mono (by omega))
          | fail "none"
        · refine zr_tableIn (off := 374) (tgt := 407) dL_law_33 (by decide) (by decide) rfl (by decide) ?_
          refine zr_aload_n dL_law_407 rfl ?_
          refine zr_lV0 hu hv rfl dL_law_408 cv_10_46 hob (Nat.le_of_ble_eq_true rfl) (rate_c hR hfl ?_)
          refine zr_aload_n dL_law_411 rfl ?_
          refine zr_lV0 hu hv rfl dL_law_412 cv_10_49 (hM.1.ob ⟨rfl, rfl⟩) (Nat.le_of_ble_eq_true rfl) (rate_m hM (fN_of hfl) ?_)
          have fz := fin m1 w hi s1 hR hM (hI.mono (by omega))
          refine zr_icmp_eq (tgt := 803) dL_law_415 (by decide) (fun hc_415 => ?_) (fun hc_415 => absurd rfl hc_415)
          first
          | exact fz
          | exact fin m1 w hi s1 hR hM (hI.mono (by omega))
          | fail "none"
        · refine zr_tableIn (off := 387) (tgt := 420) dL_law_33 (by decide) (by decide) rfl (by decide) ?_
          refine zr_aload_n dL_law_420 rfl ?_
          refine zr_aload_n dL_law_421 rfl ?_
          refine zr_iload_n dL_law_422 rfl ?_
          refine zr_iconst (v := nI 1) dL_law_423 rfl ?_
          refine zr_iaddN dL_law_424 ?_
          refine zr_sload dL_law_425 (vp_in_nI (by rw [s1.1]; omega) (by rw [s1.1]; omega)) ?_
          rw [nI_clamp (by omega), s1.2]
          refine zr_aload_n dL_law_426 rfl ?_
          refine zr_iload_n dL_law_427 rfl ?_
          refine zr_iconst (v := nI 2) dL_law_428 rfl ?_
          refine zr_iaddN dL_law_429 ?_
          refine zr_sload dL_law_430 (vp_in_nI (by rw [s1.1]; omega) (by rw [s1.1]; omega)) ?_
          rw [nI_clamp (by omega), s1.2]
          refine zr_aload_n dL_law_431 rfl ?_
          refine zr_iload_n dL_law_432 rfl ?_
          refine zr_iconst (v := nI 3) dL_law_433 rfl ?_
          refine zr_iaddN dL_law_434 ?_
          refine zr_sload dL_law_435 (vp_in_nI (by rw [s1.1]; omega) (by rw [s1.1]; omega)) ?_
          rw [nI_clamp (by omega), s1.2]
          refine zr_lV3 hu hv rfl dL_law_436 cv_10_50 hob (Nat.le_of_ble_eq_true rfl) (asks_c hR hs (fun z => od_ne hs (Or.inr (Or.inr (Or.inr (Or.inr (Or.inr (Or.inl rfl))))) : olet (nI 97)) z) (fun m2 r2 z2 => ?_))
          have s2 := s1.out z2
          refine zr_aload_n dL_law_439 rfl ?_
          refine zr_aload_n dL_law_440 rfl ?_
          refine zr_iload_n dL_law_441 rfl ?_
          refine zr_iconst (v := nI 1) dL_law_442 rfl ?_
          refine zr_iaddN dL_law_443 ?_
          refine zr_sload dL_law_444 (vp_in_nI (by rw [s2.1]; omega) (by rw [s2.1]; omega)) ?_
          rw [nI_clamp (by omega), s2.2]
          refine zr_aload_n dL_law_445 rfl ?_
          refine zr_iload_n dL_law_446 rfl ?_
          refine zr_iconst (v := nI 2) dL_law_447 rfl ?_
          refine zr_iaddN dL_law_448 ?_
          refine zr_sload dL_law_449 (vp_in_nI (by rw [s2.1]; omega) (by rw [s2.1]; omega)) ?_
          rw [nI_clamp (by omega), s2.2]
          refine zr_aload_n dL_law_450 rfl ?_
          refine zr_iload_n dL_law_451 rfl ?_
          refine zr_iconst (v := nI 3) dL_law_452 rfl ?_
          refine zr_iaddN dL_law_453 ?_
          refine zr_sload dL_law_454 (vp_in_nI (by rw [s2.1]; omega) (by rw [s2.1]; omega)) ?_
          rw [nI_clamp (by omega), s2.2]
          refine zr_lV3 hu hv rfl dL_law_455 cv_10_53 ((hM.out z2).1.ob ⟨rfl, rfl⟩) (Nat.le_of_ble_eq_true rfl) (asks_m (hM.out z2) hs (fun m3 r3 l3 => ?_))
          have fz := fin2 m2 m3 _ hi s2 r2 r3 l3 (hI.step (Or.inr (Or.inr (Or.inr (Or.inr (Or.inr (Or.inl rfl))))) : olet (nI 97)) hN)
          refine zr_icmp_eq (tgt := 803) dL_law_458 (by decide) (fun hc_458 => ?_) (fun hc_458 => absurd rfl hc_458)
          first
          | exact fz
          | exact fin m1 w hi s1 hR hM (hI.mono (by omega))
          | fail "none"
        · refine zr_tableIn (off := 430) (tgt := 463) dL_law_33 (by decide) (by decide) rfl (by decide) ?_
          refine zr_aload_n dL_law_463 rfl ?_
          refine zr_aload_n dL_law_464 rfl ?_
          refine zr_iload_n dL_law_465 rfl ?_
          refine zr_iconst (v := nI 1) dL_law_466 rfl ?_
          refine zr_iaddN dL_law_467 ?_
          refine zr_sload dL_law_468 (vp_in_nI (by rw [s1.1]; omega) (by rw [s1.1]; omega)) ?_
          rw [nI_clamp (by omega), s1.2]
          refine zr_aload_n dL_law_469 rfl ?_
          refine zr_iload_n dL_law_470 rfl ?_
          refine zr_iconst (v := nI 2) dL_law_471 rfl ?_
          refine zr_iaddN dL_law_472 ?_
          refine zr_sload dL_law_473 (vp_in_nI (by rw [s1.1]; omega) (by rw [s1.1]; omega)) ?_
          rw [nI_clamp (by omega), s1.2]
          refine zr_aload_n dL_law_474 rfl ?_
          refine zr_iload_n dL_law_475 rfl ?_
          refine zr_iconst (v := nI 3) dL_law_476 rfl ?_
          refine zr_iaddN dL_law_477 ?_
          refine zr_sload dL_law_478 (vp_in_nI (by rw [s1.1]; omega) (by rw [s1.1]; omega)) ?_
          rw [nI_clamp (by omega), s1.2]
          refine zr_lV3 hu hv rfl dL_law_479 cv_10_54 hob (Nat.le_of_ble_eq_true rfl) (entry_c hR hs (fun z => entry_ne hs hvv z) (fun m2 r2 z2 => ?_))
          have s2 := s1.out z2
          refine zr_aload_n dL_law_482 rfl ?_
          refine zr_aload_n dL_law_483 rfl ?_
          refine zr_iload_n dL_law_484 rfl ?_
          refine zr_iconst (v := nI 1) dL_law_485 rfl ?_
          refine zr_iaddN dL_law_486 ?_
          refine zr_sload dL_law_487 (vp_in_nI (by rw [s2.1]; omega) (by rw [s2.1]; omega)) ?_
          rw [nI_clamp (by omega), s2.2]
          refine zr_aload_n dL_law_488 rfl ?_
          refine zr_iload_n dL_law_489 rfl ?_
          refine zr_iconst (v := nI 2) dL_law_490 rfl ?_
          refine zr_iaddN dL_law_491 ?_
          refine zr_sload dL_law_492 (vp_in_nI (by rw [s2.1]; omega) (by rw [s2.1]; omega)) ?_
          rw [nI_clamp (by omega), s2.2]
          refine zr_aload_n dL_law_493 rfl ?_
          refine zr_iload_n dL_law_494 rfl ?_
          refine zr_iconst (v := nI 3) dL_law_495 rfl ?_
          refine zr_iaddN dL_law_496 ?_
          refine zr_sload dL_law_497 (vp_in_nI (by rw [s2.1]; omega) (by rw [s2.1]; omega)) ?_
          rw [nI_clamp (by omega), s2.2]
          refine zr_lV3 hu hv rfl dL_law_498 cv_10_57 ((hM.out z2).1.ob ⟨rfl, rfl⟩) (Nat.le_of_ble_eq_true rfl) (entry_m (hM.out z2) hs (fun m3 r3 l3 => ?_))
          have fz := fin2 m2 m3 _ hi s2 r2 r3 l3 (hI.ask.mono (by omega))
          refine zr_icmp_eq (tgt := 803) dL_law_501 (by decide) (fun hc_501 => ?_) (fun hc_501 => absurd rfl hc_501)
          first
          | exact fz
          | exact fin m1 w hi s1 hR hM (hI.mono (by omega))
          | fail "none"
        · refine zr_tableIn (off := 473) (tgt := 506) dL_law_33 (by decide) (by decide) rfl (by decide) ?_
          refine zr_aload_n dL_law_506 rfl ?_
          refine zr_aload_n dL_law_507 rfl ?_
          refine zr_iload_n dL_law_508 rfl ?_
          refine zr_iconst (v := nI 1) dL_law_509 rfl ?_
          refine zr_iaddN dL_law_510 ?_
          refine zr_sload dL_law_511 (vp_in_nI (by rw [s1.1]; omega) (by rw [s1.1]; omega)) ?_
          rw [nI_clamp (by omega), s1.2]
          refine zr_aload_n dL_law_512 rfl ?_
          refine zr_iload_n dL_law_513 rfl ?_
          refine zr_iconst (v := nI 2) dL_law_514 rfl ?_
          refine zr_iaddN dL_law_515 ?_
          refine zr_sload dL_law_516 (vp_in_nI (by rw [s1.1]; omega) (by rw [s1.1]; omega)) ?_
          rw [nI_clamp (by omega), s1.2]
          refine zr_aload_n dL_law_517 rfl ?_
          refine zr_iload_n dL_law_518 rfl ?_
          refine zr_iconst (v := nI 3) dL_law_519 rfl ?_
          refine zr_iaddN dL_law_520 ?_
          refine zr_sload dL_law_521 (vp_in_nI (by rw [s1.1]; omega) (by rw [s1.1]; omega)) ?_
          rw [nI_clamp (by omega), s1.2]
          refine zr_aload_n dL_law_522 rfl ?_
          refine zr_iload_n dL_law_523 rfl ?_
          refine zr_iconst (v := nI 4) dL_law_524 rfl ?_
          refine zr_iaddN dL_law_525 ?_
          refine zr_sload dL_law_526 (vp_in_nI (by rw [s1.1]; omega) (by rw [s1.1]; omega)) ?_
          rw [nI_clamp (by omega), s1.2]
          refine zr_lV4 hu hv rfl dL_law_527 cv_10_58 hob (Nat.le_of_ble_eq_true rfl) (finds_c hR hs (fun z => finds_ne hs z) (fun m2 r2 z2 => ?_))
          have s2 := s1.out z2
          refine zr_aload_n dL_law_530 rfl ?_
          refine zr_aload_n dL_law_531 rfl ?_
          refine zr_iload_n dL_law_532 rfl ?_
          refine zr_iconst (v := nI 1) dL_law_533 rfl ?_
          refine zr_iaddN dL_law_534 ?_
          refine zr_sload dL_law_535 (vp_in_nI (by rw [s2.1]; omega) (by rw [s2.1]; omega)) ?_
          rw [nI_clamp (by omega), s2.2]
          refine zr_aload_n dL_law_536 rfl ?_
          refine zr_iload_n dL_law_537 rfl ?_
          refine zr_iconst (v := nI 2) dL_law_538 rfl ?_
          refine zr_iaddN dL_law_539 ?_
          refine zr_sload dL_law_540 (vp_in_nI (by rw [s2.1]; omega) (by rw [s2.1]; omega)) ?_
          rw [nI_clamp (by omega), s2.2]
          refine zr_aload_n dL_law_541 rfl ?_
          refine zr_iload_n dL_law_542 rfl ?_
          refine zr_iconst (v := nI 3) dL_law_543 rfl ?_
          refine zr_iaddN dL_law_544 ?_
          refine zr_sload dL_law_545 (vp_in_nI (by rw [s2.1]; omega) (by rw [s2.1]; omega)) ?_
          rw [nI_clamp (by omega), s2.2]
          refine zr_aload_n dL_law_546 rfl ?_
          refine zr_iload_n dL_law_547 rfl ?_
          refine zr_iconst (v := nI 4) dL_law_548 rfl ?_
          refine zr_iaddN dL_law_549 ?_
          refine zr_sload dL_law_550 (vp_in_nI (by rw [s2.1]; omega) (by rw [s2.1]; omega)) ?_
          rw [nI_clamp (by omega), s2.2]
          refine zr_lV4 hu hv rfl dL_law_551 cv_10_62 ((hM.out z2).1.ob ⟨rfl, rfl⟩) (Nat.le_of_ble_eq_true rfl) (finds_m (hM.out z2) hs (fun m3 r3 l3 => ?_))
          have fz := fin2 m2 m3 _ hi s2 r2 r3 l3 (hI.ask.mono (by omega))
          refine zr_icmp_eq (tgt := 803) dL_law_554 (by decide) (fun hc_554 => ?_) (fun hc_554 => absurd rfl hc_554)
          first
          | exact fz
          | exact fin m1 w hi s1 hR hM (hI.mono (by omega))
          | fail "none"
        · refine zr_tableIn (off := 526) (tgt := 559) dL_law_33 (by decide) (by decide) rfl (by decide) ?_
          refine zr_aload_n dL_law_559 rfl ?_
          refine zr_aload_n dL_law_560 rfl ?_
          refine zr_iload_n dL_law_561 rfl ?_
          refine zr_iconst (v := nI 1) dL_law_562 rfl ?_
          refine zr_iaddN dL_law_563 ?_
          refine zr_sload dL_law_564 (vp_in_nI (by rw [s1.1]; omega) (by rw [s1.1]; omega)) ?_
          rw [nI_clamp (by omega), s1.2]
          refine zr_aload_n dL_law_565 rfl ?_
          refine zr_iload_n dL_law_566 rfl ?_
          refine zr_iconst (v := nI 2) dL_law_567 rfl ?_
          refine zr_iaddN dL_law_568 ?_
          refine zr_sload dL_law_569 (vp_in_nI (by rw [s1.1]; omega) (by rw [s1.1]; omega)) ?_
          rw [nI_clamp (by omega), s1.2]
          refine zr_aload_n dL_law_570 rfl ?_
          refine zr_iload_n dL_law_571 rfl ?_
          refine zr_iconst (v := nI 3) dL_law_572 rfl ?_
          refine zr_iaddN dL_law_573 ?_
          refine zr_sload dL_law_574 (vp_in_nI (by rw [s1.1]; omega) (by rw [s1.1]; omega)) ?_
          rw [nI_clamp (by omega), s1.2]
          refine zr_lV3 hu hv rfl dL_law_575 cv_10_63 hob (Nat.le_of_ble_eq_true rfl) (owner_c hR hs (fun z => owner_ne hs z) (fun m2 r2 z2 => ?_))
          have s2 := s1.out z2
          refine zr_aload_n dL_law_578 rfl ?_
          refine zr_aload_n dL_law_579 rfl ?_
          refine zr_iload_n dL_law_580 rfl ?_
          refine zr_iconst (v := nI 1) dL_law_581 rfl ?_
          refine zr_iaddN dL_law_582 ?_
          refine zr_sload dL_law_583 (vp_in_nI (by rw [s2.1]; omega) (by rw [s2.1]; omega)) ?_
          rw [nI_clamp (by omega), s2.2]
          refine zr_aload_n dL_law_584 rfl ?_
          refine zr_iload_n dL_law_585 rfl ?_
          refine zr_iconst (v := nI 2) dL_law_586 rfl ?_
          refine zr_iaddN dL_law_587 ?_
          refine zr_sload dL_law_588 (vp_in_nI (by rw [s2.1]; omega) (by rw [s2.1]; omega)) ?_
          rw [nI_clamp (by omega), s2.2]
          refine zr_aload_n dL_law_589 rfl ?_
          refine zr_iload_n dL_law_590 rfl ?_
          refine zr_iconst (v := nI 3) dL_law_591 rfl ?_
          refine zr_iaddN dL_law_592 ?_
          refine zr_sload dL_law_593 (vp_in_nI (by rw [s2.1]; omega) (by rw [s2.1]; omega)) ?_
          rw [nI_clamp (by omega), s2.2]
          refine zr_lV3 hu hv rfl dL_law_594 cv_10_66 ((hM.out z2).1.ob ⟨rfl, rfl⟩) (Nat.le_of_ble_eq_true rfl) (owner_m (hM.out z2) hs (fun m3 r3 l3 => ?_))
          have fz := fin2 m2 m3 _ hi s2 r2 r3 l3 (hI.ask.mono (by omega))
          refine zr_icmp_eq (tgt := 803) dL_law_597 (by decide) (fun hc_597 => ?_) (fun hc_597 => absurd rfl hc_597)
          first
          | exact fz
          | exact fin m1 w hi s1 hR hM (hI.mono (by omega))
          | fail "none"
        · refine zr_tableIn (off := 569) (tgt := 602) dL_law_33 (by decide) (by decide) rfl (by decide) ?_
          refine zr_aload_n dL_law_602 rfl ?_
          refine zr_aload_n dL_law_603 rfl ?_
          refine zr_iload_n dL_law_604 rfl ?_
          refine zr_iconst (v := nI 1) dL_law_605 rfl ?_
          refine zr_iaddN dL_law_606 ?_
          refine zr_sload dL_law_607 (vp_in_nI (by rw [s1.1]; omega) (by rw [s1.1]; omega)) ?_
          rw [nI_clamp (by omega), s1.2]
          refine zr_lV1 hu hv rfl dL_law_608 cv_10_67 hob (Nat.le_of_ble_eq_true rfl) (all_c hR hs (fun z => all_ne hs z) (fun m2 r2 z2 => ?_))
          have s2 := s1.out z2
          refine zr_aload_n dL_law_611 rfl ?_
          refine zr_aload_n dL_law_612 rfl ?_
          refine zr_iload_n dL_law_613 rfl ?_
          refine zr_iconst (v := nI 1) dL_law_614 rfl ?_
          refine zr_iaddN dL_law_615 ?_
          refine zr_sload dL_law_616 (vp_in_nI (by rw [s2.1]; omega) (by rw [s2.1]; omega)) ?_
          rw [nI_clamp (by omega), s2.2]
          refine zr_lV1 hu hv rfl dL_law_617 cv_10_70 ((hM.out z2).1.ob ⟨rfl, rfl⟩) (Nat.le_of_ble_eq_true rfl) (all_m (hM.out z2) (fun m3 r3 l3 => ?_))
          have fz := fin2 m2 m3 _ hi s2 r2 r3 l3 (hI.ask.mono (by omega))
          refine zr_icmp_eq (tgt := 803) dL_law_620 (by decide) (fun hc_620 => ?_) (fun hc_620 => absurd rfl hc_620)
          first
          | exact fz
          | exact fin m1 w hi s1 hR hM (hI.mono (by omega))
          | fail "none"
        · refine zr_tableIn (off := 592) (tgt := 625) dL_law_33 (by decide) (by decide) rfl (by decide) ?_
          refine zr_aload_n dL_law_625 rfl ?_
          refine zr_aload_n dL_law_626 rfl ?_
          refine zr_iload_n dL_law_627 rfl ?_
          refine zr_iconst (v := nI 1) dL_law_628 rfl ?_
          refine zr_iaddN dL_law_629 ?_
          refine zr_sload dL_law_630 (vp_in_nI (by rw [s1.1]; omega) (by rw [s1.1]; omega)) ?_
          rw [nI_clamp (by omega), s1.2]
          refine zr_aload_n dL_law_631 rfl ?_
          refine zr_iload_n dL_law_632 rfl ?_
          refine zr_iconst (v := nI 2) dL_law_633 rfl ?_
          refine zr_iaddN dL_law_634 ?_
          refine zr_sload dL_law_635 (vp_in_nI (by rw [s1.1]; omega) (by rw [s1.1]; omega)) ?_
          rw [nI_clamp (by omega), s1.2]
          refine zr_lV2 hu hv rfl dL_law_636 cv_10_71 hob (Nat.le_of_ble_eq_true rfl) (sleeps_c hR hs (fun z => od_ne hs (Or.inr (Or.inr (Or.inl rfl)) : olet (nI 122)) z) (fun m2 r2 z2 => ?_))
          have s2 := s1.out z2
          refine zr_aload_n dL_law_639 rfl ?_
          refine zr_aload_n dL_law_640 rfl ?_
          refine zr_iload_n dL_law_641 rfl ?_
          refine zr_iconst (v := nI 1) dL_law_642 rfl ?_
          refine zr_iaddN dL_law_643 ?_
          refine zr_sload dL_law_644 (vp_in_nI (by rw [s2.1]; omega) (by rw [s2.1]; omega)) ?_
          rw [nI_clamp (by omega), s2.2]
          refine zr_aload_n dL_law_645 rfl ?_
          refine zr_iload_n dL_law_646 rfl ?_
          refine zr_iconst (v := nI 2) dL_law_647 rfl ?_
          refine zr_iaddN dL_law_648 ?_
          refine zr_sload dL_law_649 (vp_in_nI (by rw [s2.1]; omega) (by rw [s2.1]; omega)) ?_
          rw [nI_clamp (by omega), s2.2]
          refine zr_lV2 hu hv rfl dL_law_650 cv_10_74 ((hM.out z2).1.ob ⟨rfl, rfl⟩) (Nat.le_of_ble_eq_true rfl) (sleeps_m (hM.out z2) hs (fun m3 r3 l3 => ?_))
          have fz := fin2 m2 m3 _ hi s2 r2 r3 l3 (hI.step (Or.inr (Or.inr (Or.inl rfl)) : olet (nI 122)) hN)
          refine zr_icmp_eq (tgt := 803) dL_law_653 (by decide) (fun hc_653 => ?_) (fun hc_653 => absurd rfl hc_653)
          first
          | exact fz
          | exact fin m1 w hi s1 hR hM (hI.mono (by omega))
          | fail "none"
        · refine zr_tableIn (off := 625) (tgt := 658) dL_law_33 (by decide) (by decide) rfl (by decide) ?_
          refine zr_aload_n dL_law_658 rfl ?_
          refine zr_aload_n dL_law_659 rfl ?_
          refine zr_iload_n dL_law_660 rfl ?_
          refine zr_iconst (v := nI 1) dL_law_661 rfl ?_
          refine zr_iaddN dL_law_662 ?_
          refine zr_sload dL_law_663 (vp_in_nI (by rw [s1.1]; omega) (by rw [s1.1]; omega)) ?_
          rw [nI_clamp (by omega), s1.2]
          refine zr_lV1 hu hv rfl dL_law_664 cv_10_75 hob (Nat.le_of_ble_eq_true rfl) (wakes_c hR hs (fun z => od_ne hs (Or.inr (Or.inr (Or.inr (Or.inl rfl))) : olet (nI 119)) z) (fun m2 r2 z2 => ?_))
          have s2 := s1.out z2
          refine zr_aload_n dL_law_667 rfl ?_
          refine zr_aload_n dL_law_668 rfl ?_
          refine zr_iload_n dL_law_669 rfl ?_
          refine zr_iconst (v := nI 1) dL_law_670 rfl ?_
          refine zr_iaddN dL_law_671 ?_
          refine zr_sload dL_law_672 (vp_in_nI (by rw [s2.1]; omega) (by rw [s2.1]; omega)) ?_
          rw [nI_clamp (by omega), s2.2]
          refine zr_lV1 hu hv rfl dL_law_673 cv_10_78 ((hM.out z2).1.ob ⟨rfl, rfl⟩) (Nat.le_of_ble_eq_true rfl) (wakes_m (hM.out z2) hs (fun m3 r3 l3 => ?_))
          have fz := fin2 m2 m3 _ hi s2 r2 r3 l3 (hI.step (Or.inr (Or.inr (Or.inr (Or.inl rfl))) : olet (nI 119)) hN)
          refine zr_icmp_eq (tgt := 803) dL_law_676 (by decide) (fun hc_676 => ?_) (fun hc_676 => absurd rfl hc_676)
          first
          | exact fz
          | exact fin m1 w hi s1 hR hM (hI.mono (by omega))
          | fail "none"
        · refine zr_tableIn (off := 648) (tgt := 681) dL_law_33 (by decide) (by decide) rfl (by decide) ?_
          refine zr_aload_n dL_law_681 rfl ?_
          refine zr_aload_n dL_law_682 rfl ?_
          refine zr_iload_n dL_law_683 rfl ?_
          refine zr_iconst (v := nI 1) dL_law_684 rfl ?_
          refine zr_iaddN dL_law_685 ?_
          refine zr_sload dL_law_686 (vp_in_nI (by rw [s1.1]; omega) (by rw [s1.1]; omega)) ?_
          rw [nI_clamp (by omega), s1.2]
          refine zr_lV1 hu hv rfl dL_law_687 cv_10_79 hob (Nat.le_of_ble_eq_true rfl) (type_c hR (fun m2 r2 z2 => ?_))
          have s2 := s1.out z2
          refine zr_aload_n dL_law_690 rfl ?_
          refine zr_aload_n dL_law_691 rfl ?_
          refine zr_iload_n dL_law_692 rfl ?_
          refine zr_iconst (v := nI 1) dL_law_693 rfl ?_
          refine zr_iaddN dL_law_694 ?_
          refine zr_sload dL_law_695 (vp_in_nI (by rw [s2.1]; omega) (by rw [s2.1]; omega)) ?_
          rw [nI_clamp (by omega), s2.2]
          refine zr_lV1 hu hv rfl dL_law_696 cv_10_82 ((hM.out z2).1.ob ⟨rfl, rfl⟩) (Nat.le_of_ble_eq_true rfl) (type_m (hM.out z2) (fun m3 r3 l3 => ?_))
          have fz := fin2 m2 m3 _ hi s2 r2 r3 l3 (hI.type.mono (by omega))
          refine zr_icmp_eq (tgt := 803) dL_law_699 (by decide) (fun hc_699 => ?_) (fun hc_699 => absurd rfl hc_699)
          first
          | exact fz
          | exact fin m1 w hi s1 hR hM (hI.mono (by omega))
          | fail "none"
        · refine zr_tableIn (off := 671) (tgt := 704) dL_law_33 (by decide) (by decide) rfl (by decide) ?_
          refine zr_aload_n dL_law_704 rfl ?_
          refine zr_lV0 hu hv rfl dL_law_705 cv_10_83 hob (Nat.le_of_ble_eq_true rfl) (clear_c hR (fun m2 r2 z2 => ?_))
          have s2 := s1.out z2
          refine zr_aload_n dL_law_708 rfl ?_
          refine zr_lV0 hu hv rfl dL_law_709 cv_10_86 ((hM.out z2).1.ob ⟨rfl, rfl⟩) (Nat.le_of_ble_eq_true rfl) (clear_m (hM.out z2) (fun m3 r3 l3 => ?_))
          have fz := fin2 m2 m3 _ hi s2 r2 r3 l3 (hI.clear.mono (by omega))
          refine zr_icmp_eq (tgt := 803) dL_law_712 (by decide) (fun hc_712 => ?_) (fun hc_712 => absurd rfl hc_712)
          first
          | exact fz
          | exact fin m1 w hi s1 hR hM (hI.mono (by omega))
          | fail "none"
        · refine zr_tableIn (off := 684) (tgt := 717) dL_law_33 (by decide) (by decide) rfl (by decide) ?_
          refine zr_aload_n dL_law_717 rfl ?_
          refine zr_lV0 hu hv rfl dL_law_718 cv_10_87 hob (Nat.le_of_ble_eq_true rfl) (reads_c hR hs (hI.fX hN) (fun m2 r2 z2 => ?_))
          have s2 := s1.out z2
          refine zr_aload_n dL_law_721 rfl ?_
          refine zr_lV0 hu hv rfl dL_law_722 cv_10_90 ((hM.out z2).1.ob ⟨rfl, rfl⟩) (Nat.le_of_ble_eq_true rfl) (reads_m (hM.out z2) hI.tx hs (hI.fX hN) (fun m3 r3 l3 => ?_))
          have fz := fin2 m2 m3 _ hi s2 r2 r3 l3 (hI.reads hN)
          refine zr_icmp_eq (tgt := 803) dL_law_725 (by decide) (fun hc_725 => ?_) (fun hc_725 => absurd rfl hc_725)
          first
          | exact fz
          | exact fin m1 w hi s1 hR hM (hI.mono (by omega))
          | fail "none"
        · refine zr_tableIn (off := 697) (tgt := 730) dL_law_33 (by decide) (by decide) rfl (by decide) ?_
          refine zr_aload_n dL_law_730 rfl ?_
          refine zr_aload_n dL_law_731 rfl ?_
          refine zr_iload_n dL_law_732 rfl ?_
          refine zr_iconst (v := nI 1) dL_law_733 rfl ?_
          refine zr_iaddN dL_law_734 ?_
          refine zr_sload dL_law_735 (vp_in_nI (by rw [s1.1]; omega) (by rw [s1.1]; omega)) ?_
          rw [nI_clamp (by omega), s1.2]
          refine zr_lV1 hu hv rfl dL_law_736 cv_10_91 hob (Nat.le_of_ble_eq_true rfl) (why_c hR (fun m2 r2 z2 => ?_))
          have s2 := s1.out z2
          refine zr_aload_n dL_law_739 rfl ?_
          refine zr_aload_n dL_law_740 rfl ?_
          refine zr_iload_n dL_law_741 rfl ?_
          refine zr_iconst (v := nI 1) dL_law_742 rfl ?_
          refine zr_iaddN dL_law_743 ?_
          refine zr_sload dL_law_744 (vp_in_nI (by rw [s2.1]; omega) (by rw [s2.1]; omega)) ?_
          rw [nI_clamp (by omega), s2.2]
          refine zr_lV1 hu hv rfl dL_law_745 cv_10_94 ((hM.out z2).1.ob ⟨rfl, rfl⟩) (Nat.le_of_ble_eq_true rfl) (why_m (hM.out z2) (fun m3 r3 l3 => ?_))
          have fz := fin2 m2 m3 _ hi s2 r2 r3 l3 (hI.why.mono (by omega))
          refine zr_icmp_eq (tgt := 803) dL_law_748 (by decide) (fun hc_748 => ?_) (fun hc_748 => absurd rfl hc_748)
          first
          | exact fz
          | exact fin m1 w hi s1 hR hM (hI.mono (by omega))
          | fail "none"
        · refine zr_tableIn (off := 720) (tgt := 753) dL_law_33 (by decide) (by decide) rfl (by decide) ?_
          refine zr_aload_n dL_law_753 rfl ?_
          refine zr_lV0 hu hv rfl dL_law_754 cv_10_95 hob (Nat.le_of_ble_eq_true rfl) (back_c hR (fun s hs => (hI.2.1 s hs).1) (fun m2 r2 z2 => ?_))
          have s2 := s1.out z2
          refine zr_aload_n dL_law_757 rfl ?_
          refine zr_lV0 hu hv rfl dL_law_758 cv_10_98 ((hM.out z2).1.ob ⟨rfl, rfl⟩) (Nat.le_of_ble_eq_true rfl) (back_m (hM.out z2) (fun m3 r3 l3 => ?_))
          have fz := fin2 m2 m3 _ hi s2 r2 r3 l3 (hI.back.mono (by omega))
          refine zr_icmp_eq (tgt := 803) dL_law_761 (by decide) (fun hc_761 => ?_) (fun hc_761 => absurd rfl hc_761)
          first
          | exact fz
          | exact fin m1 w hi s1 hR hM (hI.mono (by omega))
          | fail "none"
        · refine zr_tableIn (off := 733) (tgt := 766) dL_law_33 (by decide) (by decide) rfl (by decide) ?_
          refine zr_aload_n dL_law_766 rfl ?_
          refine zr_aload_n dL_law_767 rfl ?_
          refine zr_iload_n dL_law_768 rfl ?_
          refine zr_iconst (v := nI 1) dL_law_769 rfl ?_
          refine zr_iaddN dL_law_770 ?_
          refine zr_sload dL_law_771 (vp_in_nI (by rw [s1.1]; omega) (by rw [s1.1]; omega)) ?_
          rw [nI_clamp (by omega), s1.2]
          refine zr_lV1 hu hv rfl dL_law_772 cv_10_99 hob (Nat.le_of_ble_eq_true rfl) (told_c hR (fun m2 r2 z2 => ?_))
          have s2 := s1.out z2
          refine zr_aload_n dL_law_775 rfl ?_
          refine zr_aload_n dL_law_776 rfl ?_
          refine zr_iload_n dL_law_777 rfl ?_
          refine zr_iconst (v := nI 1) dL_law_778 rfl ?_
          refine zr_iaddN dL_law_779 ?_
          refine zr_sload dL_law_780 (vp_in_nI (by rw [s2.1]; omega) (by rw [s2.1]; omega)) ?_
          rw [nI_clamp (by omega), s2.2]
          refine zr_lV1 hu hv rfl dL_law_781 cv_10_102 ((hM.out z2).1.ob ⟨rfl, rfl⟩) (Nat.le_of_ble_eq_true rfl) (told_m (hM.out z2) (fun m3 r3 l3 => ?_))
          have fz := fin2 m2 m3 _ hi s2 r2 r3 l3 (hI.ask.mono (by omega))
          refine zr_icmp_eq (tgt := 803) dL_law_784 (by decide) (fun hc_784 => ?_) (fun hc_784 => absurd rfl hc_784)
          first
          | exact fz
          | exact fin m1 w hi s1 hR hM (hI.mono (by omega))
          | fail "none"
        · refine zr_tableIn (off := 756) (tgt := 789) dL_law_33 (by decide) (by decide) rfl (by decide) ?_
          refine zr_aload_n dL_law_789 rfl ?_
          refine zr_lV0 hu hv rfl dL_law_790 cv_10_103 hob (Nat.le_of_ble_eq_true rfl) (digest_c hR hs hvv hfl (fun m2 r2 z2 => ?_))
          have s2 := s1.out z2
          refine zr_aload_n dL_law_793 rfl ?_
          refine zr_lV0 hu hv rfl dL_law_794 cv_10_107 ((hM.out z2).1.ob ⟨rfl, rfl⟩) (Nat.le_of_ble_eq_true rfl) (digest_m (hM.out z2) hs (fN_of hfl) ?_)
          have fz := fin m2 w hi s2 r2 (hM.out z2) (hI.mono (by omega))
          refine zr_lcmp dL_law_797 ?_
          refine zr_if_eq (tgt := 803) dL_law_798 (by decide) (fun hc_798 => ?_) (fun hc_798 => absurd (lg_eq.mpr rfl) hc_798)
          first
          | exact fz
          | exact fin m1 w hi s1 hR hM (hI.mono (by omega))
          | fail "none"
      · refine zr_tableOut (tgt := 803) dL_law_33 ho_33 (by decide) ?_
        first
        | exact fz
        | exact fin m1 w hi s1 hR hM (hI.mono (by omega))
        | fail "none"
end
