/-! ===== the class LinkNames: reads ===== -/
section
variable {d : Nat} {Q : Value → zM → Prop} {m m' : zM} {w : sW} {s : sS} {os : List sO}
theorem ores_cg {c : Int32} {x y : Nat → Int32} (h1 : oc c x s = oc c y s) (h2 : od c x s = od c y s) : ores c x s = ores c y s := by unfold ores; rw [h1, h2]
theorem perform_ok {o : Nat} {x : sO} (hD : RD m w s) (hO : TO m os) (h60 : os.length ≤ 60) (hx : os[o]? = some x) (hl : olet x.1) (hs : sOK s) (hF : fT s) (hk : ∀ m', LK m' 3 (ores x.1 x.2 s).2 → zout 3 97 m m' → Q (.int (ores x.1 x.2 s).1) m') : zC (d + 6) M8_perform 0 0 [.ref 2, .int (nI o)] m Q := by
  obtain ⟨h1, hL, h3, hT⟩ := hD
  obtain ⟨c, X⟩ := x
  dsimp only at hl hk
  have sw : zwp (d + 6) M8_perform 0 0 Q 61 [.ref 2, .int (nI o), .int (X 0), .int (X 1), .int (X 2), .int (X 3), .int (X 4)] [.int c] 0 0 m := by
    rcases hl with rfl | rfl | rfl | rfl | rfl | rfl | rfl | rfl
    · refine zr_tableIn (off := 119) (tgt := 180) dX8_perform_61 (by decide) (by decide) rfl (by decide) ?_
      refine zr_aload_n dX8_perform_180 rfl ?_
      refine zr_getR dX8_perform_181 fd_8_12 rfl (h1.ob rfl) h1.2.1 (by decide) ?_
      refine zr_cV0 rfl dX8_perform_184 cv_8_38 (hL.1.ob rfl) (Nat.le_of_ble_eq_true rfl) (ogo hL (addHost_ok (x := X) hL) (fun m2 l2 o2 => ?_))
      refine zr_ireturn dX8_perform_187 rfl (Nat.le_refl _) (Nat.le_refl _) ?_
      exact hk m2 l2 o2
    · refine zr_tableIn (off := 127) (tgt := 188) dX8_perform_61 (by decide) (by decide) rfl (by decide) ?_
      refine zr_aload_n dX8_perform_188 rfl ?_
      refine zr_getR dX8_perform_189 fd_8_12 rfl (h1.ob rfl) h1.2.1 (by decide) ?_
      refine zr_iload_n dX8_perform_192 rfl ?_
      refine zr_cV1 rfl dX8_perform_193 cv_8_67 (hL.1.ob rfl) (Nat.le_of_ble_eq_true rfl) (ogo hL (passTicks_ok hL hs hF) (fun m2 l2 o2 => ?_))
      refine zr_ireturn dX8_perform_196 rfl (Nat.le_refl _) (Nat.le_refl _) ?_
      have e1 : oc (nI 116) (xs [X 0]) s = oc (nI 116) X s := rfl
      have e2 : od (nI 116) (xs [X 0]) s = od (nI 116) X s := rfl
      rw [ores_cg e1 e2] at l2 ⊢
      exact hk m2 l2 o2
    · refine zr_tableIn (off := 145) (tgt := 206) dX8_perform_61 (by decide) (by decide) rfl (by decide) ?_
      refine zr_aload_n dX8_perform_206 rfl ?_
      refine zr_getR dX8_perform_207 fd_8_12 rfl (h1.ob rfl) h1.2.1 (by decide) ?_
      refine zr_iload_n dX8_perform_210 rfl ?_
      refine zr_iload_n dX8_perform_211 rfl ?_
      refine zr_cV2 rfl dX8_perform_212 cv_8_94 (hL.1.ob rfl) (Nat.le_of_ble_eq_true rfl) (ogo hL (fallAsleep_ok hL hs) (fun m2 l2 o2 => ?_))
      refine zr_ireturn dX8_perform_215 rfl (Nat.le_refl _) (Nat.le_refl _) ?_
      have e1 : oc (nI 122) (xs [X 0, X 1]) s = oc (nI 122) X s := rfl
      have e2 : od (nI 122) (xs [X 0, X 1]) s = od (nI 122) X s := rfl
      rw [ores_cg e1 e2] at l2 ⊢
      exact hk m2 l2 o2
    · refine zr_tableIn (off := 136) (tgt := 197) dX8_perform_61 (by decide) (by decide) rfl (by decide) ?_
      refine zr_aload_n dX8_perform_197 rfl ?_
      refine zr_getR dX8_perform_198 fd_8_12 rfl (h1.ob rfl) h1.2.1 (by decide) ?_
      refine zr_iload_n dX8_perform_201 rfl ?_
      refine zr_cV1 rfl dX8_perform_202 cv_8_97 (hL.1.ob rfl) (Nat.le_of_ble_eq_true rfl) (ogo hL (wakeUp_ok hL hs) (fun m2 l2 o2 => ?_))
      refine zr_ireturn dX8_perform_205 rfl (Nat.le_refl _) (Nat.le_refl _) ?_
      have e1 : oc (nI 119) (xs [X 0]) s = oc (nI 119) X s := rfl
      have e2 : od (nI 119) (xs [X 0]) s = od (nI 119) X s := rfl
      rw [ores_cg e1 e2] at l2 ⊢
      exact hk m2 l2 o2
    · refine zr_tableIn (off := 199) (tgt := 260) dX8_perform_61 (by decide) (by decide) rfl (by decide) ?_
      refine zr_aload_n dX8_perform_260 rfl ?_
      refine zr_getR dX8_perform_261 fd_8_12 rfl (h1.ob rfl) h1.2.1 (by decide) ?_
      refine zr_iload_n dX8_perform_264 rfl ?_
      refine zr_iload_n dX8_perform_265 rfl ?_
      refine zr_cV2 rfl dX8_perform_266 cv_8_53 (hL.1.ob rfl) (Nat.le_of_ble_eq_true rfl) (ogo hL (sayGoodbye_ok hL hs) (fun m2 l2 o2 => ?_))
      refine zr_ireturn dX8_perform_269 rfl (Nat.le_refl _) (Nat.le_refl _) ?_
      have e1 : oc (nI 103) (xs [X 0, X 1]) s = oc (nI 103) X s := rfl
      have e2 : od (nI 103) (xs [X 0, X 1]) s = od (nI 103) X s := rfl
      rw [ores_cg e1 e2] at l2 ⊢
      exact hk m2 l2 o2
    · refine zr_tableIn (off := 187) (tgt := 248) dX8_perform_61 (by decide) (by decide) rfl (by decide) ?_
      refine zr_aload_n dX8_perform_248 rfl ?_
      refine zr_getR dX8_perform_249 fd_8_12 rfl (h1.ob rfl) h1.2.1 (by decide) ?_
      refine zr_iload_n dX8_perform_252 rfl ?_
      refine zr_iload_n dX8_perform_253 rfl ?_
      refine zr_iload dX8_perform_254 rfl ?_
      refine zr_cV3 rfl dX8_perform_256 cv_8_78 (hL.1.ob rfl) (Nat.le_of_ble_eq_true rfl) (ogo hL (ask_ok hL hs) (fun m2 l2 o2 => ?_))
      refine zr_ireturn dX8_perform_259 rfl (Nat.le_refl _) (Nat.le_refl _) ?_
      have e1 : oc (nI 97) (xs [X 0, X 1, X 2]) s = oc (nI 97) X s := rfl
      have e2 : od (nI 97) (xs [X 0, X 1, X 2]) s = od (nI 97) X s := rfl
      rw [ores_cg e1 e2] at l2 ⊢
      exact hk m2 l2 o2
    · refine zr_tableIn (off := 155) (tgt := 216) dX8_perform_61 (by decide) (by decide) rfl (by decide) ?_
      refine zr_aload_n dX8_perform_216 rfl ?_
      refine zr_getR dX8_perform_217 fd_8_12 rfl (h1.ob rfl) h1.2.1 (by decide) ?_
      refine zr_iload_n dX8_perform_220 rfl ?_
      refine zr_iload_n dX8_perform_221 rfl ?_
      refine zr_iload dX8_perform_222 rfl ?_
      refine zr_iload dX8_perform_224 rfl ?_
      refine zr_iload dX8_perform_226 rfl ?_
      refine zr_cV5 rfl dX8_perform_228 cv_8_46 (hL.1.ob rfl) (Nat.le_of_ble_eq_true rfl) (ogo hL (claim_ok hL hs) (fun m2 l2 o2 => ?_))
      refine zr_ireturn dX8_perform_231 rfl (Nat.le_refl _) (Nat.le_refl _) ?_
      have e1 : oc (nI 99) (xs [X 0, X 1, X 2, X 3, X 4]) s = oc (nI 99) X s := rfl
      have e2 : od (nI 99) (xs [X 0, X 1, X 2, X 3, X 4]) s = od (nI 99) X s := rfl
      rw [ores_cg e1 e2] at l2 ⊢
      exact hk m2 l2 o2
    · refine zr_tableIn (off := 171) (tgt := 232) dX8_perform_61 (by decide) (by decide) rfl (by decide) ?_
      refine zr_aload_n dX8_perform_232 rfl ?_
      refine zr_getR dX8_perform_233 fd_8_12 rfl (h1.ob rfl) h1.2.1 (by decide) ?_
      refine zr_iload_n dX8_perform_236 rfl ?_
      refine zr_iload_n dX8_perform_237 rfl ?_
      refine zr_iload dX8_perform_238 rfl ?_
      refine zr_iload dX8_perform_240 rfl ?_
      refine zr_iload dX8_perform_242 rfl ?_
      refine zr_cV5 rfl dX8_perform_244 cv_8_50 (hL.1.ob rfl) (Nat.le_of_ble_eq_true rfl) (ogo hL (share_ok hL hs) (fun m2 l2 o2 => ?_))
      refine zr_ireturn dX8_perform_247 rfl (Nat.le_refl _) (Nat.le_refl _) ?_
      have e1 : oc (nI 115) (xs [X 0, X 1, X 2, X 3, X 4]) s = oc (nI 115) X s := rfl
      have e2 : od (nI 115) (xs [X 0, X 1, X 2, X 3, X 4]) s = od (nI 115) X s := rfl
      rw [ores_cg e1 e2] at l2 ⊢
      exact hk m2 l2 o2
  refine zenterP (Or.inl (by decide +kernel)) rfl (fun h => by cases h) (Nat.le_of_ble_eq_true rfl) ?_
  show zwp _ _ _ _ _ 0 [_, _, zU, zU, zU, zU, zU] [] 0 0 _
  refine zr_aload_n dX8_perform_0 rfl ?_
  refine zr_getR dX8_perform_1 fd_8_26 rfl (h1.ob rfl) h1.2.2.2.1 (by decide) ?_
  refine zr_iload_n dX8_perform_4 rfl ?_
  refine zr_iconst (v := nI 0) dX8_perform_5 rfl ?_
  refine zr_cV2 rfl dX8_perform_6 cv_8_190 (hT.ob rfl) (Nat.le_of_ble_eq_true rfl) (number_ok hT hO h60 hx (by decide) ?_)
  refine zr_istore_n dX8_perform_9 (by decide) rfl ?_
  dsimp only [zset]
  refine zr_aload_n dX8_perform_10 rfl ?_
  refine zr_getR dX8_perform_11 fd_8_26 rfl (h1.ob rfl) h1.2.2.2.1 (by decide) ?_
  refine zr_iload_n dX8_perform_14 rfl ?_
  refine zr_iconst (v := nI 1) dX8_perform_15 rfl ?_
  refine zr_cV2 rfl dX8_perform_16 cv_8_190 (hT.ob rfl) (Nat.le_of_ble_eq_true rfl) (number_ok hT hO h60 hx (by decide) ?_)
  refine zr_istore_n dX8_perform_19 (by decide) rfl ?_
  dsimp only [zset]
  refine zr_aload_n dX8_perform_20 rfl ?_
  refine zr_getR dX8_perform_21 fd_8_26 rfl (h1.ob rfl) h1.2.2.2.1 (by decide) ?_
  refine zr_iload_n dX8_perform_24 rfl ?_
  refine zr_iconst (v := nI 2) dX8_perform_25 rfl ?_
  refine zr_cV2 rfl dX8_perform_26 cv_8_190 (hT.ob rfl) (Nat.le_of_ble_eq_true rfl) (number_ok hT hO h60 hx (by decide) ?_)
  refine zr_istore dX8_perform_29 (by decide) rfl ?_
  dsimp only [zset]
  refine zr_aload_n dX8_perform_31 rfl ?_
  refine zr_getR dX8_perform_32 fd_8_26 rfl (h1.ob rfl) h1.2.2.2.1 (by decide) ?_
  refine zr_iload_n dX8_perform_35 rfl ?_
  refine zr_iconst (v := nI 3) dX8_perform_36 rfl ?_
  refine zr_cV2 rfl dX8_perform_37 cv_8_190 (hT.ob rfl) (Nat.le_of_ble_eq_true rfl) (number_ok hT hO h60 hx (by decide) ?_)
  refine zr_istore dX8_perform_40 (by decide) rfl ?_
  dsimp only [zset]
  refine zr_aload_n dX8_perform_42 rfl ?_
  refine zr_getR dX8_perform_43 fd_8_26 rfl (h1.ob rfl) h1.2.2.2.1 (by decide) ?_
  refine zr_iload_n dX8_perform_46 rfl ?_
  refine zr_iconst (v := nI 4) dX8_perform_47 rfl ?_
  refine zr_cV2 rfl dX8_perform_48 cv_8_190 (hT.ob rfl) (Nat.le_of_ble_eq_true rfl) (number_ok hT hO h60 hx (by decide) ?_)
  refine zr_istore dX8_perform_51 (by decide) rfl ?_
  dsimp only [zset]
  refine zr_aload_n dX8_perform_53 rfl ?_
  refine zr_getR dX8_perform_54 fd_8_26 rfl (h1.ob rfl) h1.2.2.2.1 (by decide) ?_
  refine zr_iload_n dX8_perform_57 rfl ?_
  refine zr_cV1 rfl dX8_perform_58 cv_8_193 (hT.ob rfl) (Nat.le_of_ble_eq_true rfl) (letter_ok hT hO h60 hx ?_)
  exact sw
theorem TO.o3 {lo hi : Nat} (h : TO m os) (ho : zout lo hi m m') (hd : hi ≤ 663) : TO m' os := h.out ho (Or.inl hd)
theorem reads_loop {os0 : List sO} {r : Option (Nat × Int32) × sS} (hso : ∀ x ∈ os, olet x.1) (h60 : os.length ≤ 60) (hsw : sOK w.1)
    (hbad : ∀ k e s', r = (some (k, e), s') → ∀ m', RC m' (w.1, w.2.1, w.2.2.1, w.2.2.2.1, e, nI k) → zout 2 667 m m' → Q (.int (-1000 - nI k)) m')
    (hgood : ∀ s', r = (none, s') → ∀ m', RC m' (s', skeep w.2.1 w.1, w.2.2) → zout 2 667 m m' → Q (.int (nI os.length)) m') :
    ∀ c k s m1 t1 t3, os.length - k < c → k ≤ os.length → RD m1 w s → TO m1 os → zI m1 663 4 = nI os.length → sOK s → fX (os.drop k) s → sexec k (os.drop k) s = r → zout 2 667 m m1 →
    zwp (d + 7) M8_reads 0 0 Q 31 [.ref 2, .int t1, .int (nI k), t3] [] 0 0 m1 := by
  intro c
  induction c with
  | zero => intro k s m1 t1 t3 h1; omega
  | succ c ih =>
    intro k s m1 t1 t3 hc hk0 hD hO h4 hs hX hr hz
    obtain ⟨f1, l1, ⟨o, y1⟩, x1⟩ := id hD
    have step : ∀ x, os[k]? = some x → os.drop k = x :: os.drop (k + 1) := fun x hx => by
      have hlt := lt_of_getO hx
      rw [List.drop_eq_getElem_cons hlt]
      congr 1
      rw [List.getElem?_eq_getElem hlt] at hx
      injection hx
    refine zr_iload_n dX8_reads_31 rfl ?_
    refine zr_aload_n dX8_reads_32 rfl ?_
    refine zr_getR dX8_reads_33 fd_8_26 rfl (f1.ob rfl) f1.2.2.2.1 (by decide) ?_
    refine zr_getI dX8_reads_36 fd_8_109 rfl (x1.ob rfl) ?_
    rw [h4]
    refine zr_icmp_geN (tgt := 88) dX8_reads_39 (by decide) (by omega) (by omega) (fun hc_39 => ?_) (fun hc_39 => ?_)
    · have ek : k = os.length := by omega
      subst ek
      rw [List.drop_length] at hr
      refine zr_aload_n dX8_reads_88 rfl ?_
      refine zr_getR dX8_reads_89 fd_8_19 rfl (f1.ob rfl) f1.2.2.1 (by decide) ?_
      refine zr_cV0v rfl dX8_reads_92 cv_8_125 (y1.1.ob rfl) (Nat.le_of_ble_eq_true rfl) (keepDraft_ok y1 (fun m2 o2 y2 z2 => ?_))
      refine zr_aload_n dX8_reads_95 rfl ?_
      refine zr_getR dX8_reads_96 fd_8_26 rfl ((f1.out z2 (by omega)).ob rfl) (f1.out z2 (by omega)).2.2.2.1 (by decide) ?_
      refine zr_getI dX8_reads_99 fd_8_109 rfl ((x1.out z2 (by omega)).ob rfl) ?_
      rw [z2.I (by omega), h4]
      refine zr_ireturn dX8_reads_102 rfl (Nat.le_refl _) (Nat.le_refl _) ?_
      exact hgood s hr.symm m2 ⟨f1.out z2 (by omega), l1.out z2 (by omega), ⟨o2, y2⟩, x1.out z2 (by omega)⟩ (hz.tr (z2.wd (by omega) (by omega)))
    · obtain ⟨x, hx⟩ : ∃ x, os[k]? = some x := ⟨_, List.getElem?_eq_getElem hc_39⟩
      have hol := hso x (List.mem_of_getElem? hx)
      rw [step x hx] at hX hr
      have hF : fT s := hX.1
      refine zr_aload_n dX8_reads_42 rfl ?_
      refine zr_iload_n dX8_reads_43 rfl ?_
      refine zr_cV1 rfl dX8_reads_44 cv_8_112 (f1.ob rfl) (Nat.le_of_ble_eq_true rfl) (perform_ok hD hO h60 hx hol hs hF (fun m2 l2 o2 => ?_))
      refine zr_istore_n dX8_reads_47 (by decide) rfl ?_
      dsimp only [zset]
      refine zr_iload_n dX8_reads_48 rfl ?_
      refine zr_cS1 rfl dX8_reads_49 cv_8_115 (Nat.le_of_ble_eq_true rfl) (isError_ok ?_)
      have D2 := hD.upd l2 o2
      have O2 := hO.o3 o2 (by omega)
      have e4 : zI m2 663 4 = nI os.length := by rw [o2.I (by omega)]; exact h4
      refine zr_if_eqB (tgt := 82) dX8_reads_52 (by decide) (fun hc_52 => ?_) (fun hc_52 => ?_)
      · have hno : ¬ oc x.1 x.2 s < 0 := by
          intro z
          rw [ores, if_pos z] at hc_52
          rw [oEb_iff.mpr (oc_e z)] at hc_52
          cases hc_52
        have h0 := oc_0 hno
        have er : ores x.1 x.2 s = od x.1 x.2 s := if_neg hno
        rw [er] at D2
        rw [sexec, if_neg hno] at hr
        refine zr_iincN dX8_reads_82 rfl (by decide) rfl ?_
        dsimp only [zset]
        refine zr_goto (tgt := 31) dX8_reads_85 (by decide) ?_
        exact ih (k + 1) _ m2 _ _ (by omega) (by omega) D2 O2 e4 (hs.od hol h0) (hX.2 h0) hr (hz.tr (o2.wd (by omega) (by omega)))
      · have hlt : oc x.1 x.2 s < 0 := by
          apply Decidable.byContradiction
          intro hno
          rw [ores, if_neg hno] at hc_52
          exact od_ne hs hol (oc_0 hno) (oEb_iff.mp hc_52)
        have er : ores x.1 x.2 s = (oc x.1 x.2 s, s) := if_pos hlt
        rw [sexec, if_pos hlt] at hr
        rw [er] at D2 ⊢
        obtain ⟨f2, l2', ⟨o', y2⟩, x2⟩ := id D2
        refine zr_aload_n dX8_reads_55 rfl ?_
        refine zr_getR dX8_reads_56 fd_8_19 rfl (f2.ob rfl) f2.2.2.1 (by decide) ?_
        refine zr_aload_n dX8_reads_59 rfl ?_
        refine zr_getR dX8_reads_60 fd_8_12 rfl (f2.ob rfl) f2.2.1 (by decide) ?_
        refine zr_cV1v rfl dX8_reads_63 cv_8_119 (y2.1.ob rfl) (Nat.le_of_ble_eq_true rfl) (restore_ok y2 l2' hsw (fun m3 y3 l3 o3 => ?_))
        refine zr_aload_n dX8_reads_66 rfl ?_
        refine zr_iload_n dX8_reads_67 rfl ?_
        refine zr_putI dX8_reads_68 fd_8_122 rfl ((f2.out o3 (by omega)).ob rfl) ?_
        refine zr_aload_n dX8_reads_71 rfl ?_
        refine zr_iload_n dX8_reads_72 rfl ?_
        refine zr_putI dX8_reads_73 fd_8_30 rfl ((f2.out o3 (by omega)).ob rfl) ?_
        refine zr_sipush (v := -1000) dX8_reads_76 rfl ?_
        refine zr_iload_n dX8_reads_79 rfl ?_
        refine zr_isub dX8_reads_80 ?_
        refine zr_ireturn dX8_reads_81 rfl (Nat.le_refl _) (Nat.le_refl _) ?_
        refine hbad k _ _ hr.symm _ ?_ (((hz.tr (o2.wd (by omega) (by omega))).tr (o3.wd (by omega) (by omega))).tr ((zout.sI (by omega) (by omega)).tr (zout.sI (by omega) (by omega))))
        have z4 : zout 2 3 m3 (zsI (zsI m3 2 6 (oc x.1 x.2 s)) 2 7 (nI k)) := (zout.sI (by omega) (by omega)).tr (zout.sI (by omega) (by omega))
        obtain ⟨g1, g2, g3, g4, g5, g6, g7⟩ := f2.out o3 (by omega)
        refine ⟨⟨g1, g2, g3, g4, fun j hj => ?_, ?_, zI_s _ _ _ _⟩, l3.out z4 (by omega), ⟨o', y3.1.out z4 (by omega)⟩, (x2.out o3 (by omega)).out z4 (by omega)⟩
        · rw [zI_n _ _ (Or.inr (by omega)), zI_n _ _ (Or.inr (by omega))]; exact g5 j hj
        · rw [zI_n _ _ (Or.inr (by decide)), zI_s]
end
