/-! ===== the reference: askNow ===== -/
section
variable {d : Nat} {Q : Value → zM → Prop} {m : zM} {h : Nat} {n k x : Int32}
theorem fR_s {α : Type} {f : Nat → α → α} {i : Nat} {a : α} : fR f (i + 1) a = f i (fR f i a) := rfl
theorem bI_tt : bI true = nI 1 := rfl
theorem askNow_in {qo : sQ} {o b : Nat} (hM : MI m) (ho : o < qo.2.2.2.1) (hs : sOK qo.2) (hb : b < qo.2.2.2.1)
    (hk : ∀ hd f t8 t9, hdOK hd (fR (saskR n k b o) (qo.2.2.2.2 o).2.2.1.length qo).1 → RA f (fR (saskR n k b o) (qo.2.2.2.2 o).2.2.1.length qo).2 → zwp (d + 6) M9_askNow 0 0 Q 167 [.ref 667, .int (nI h), .int n, .int k, .int x, .int (nI (o + 1)), .int (nI b), .int (bI true), .int t8, t9] [] 0 0 (zhd m hd f)) : ∀ c r hd f t9, (qo.2.2.2.2 o).2.2.1.length - r < c → r ≤ (qo.2.2.2.2 o).2.2.1.length → hdOK hd (fR (saskR n k b o) r qo).1 → RA f (fR (saskR n k b o) r qo).2 →
    zwp (d + 6) M9_askNow 0 0 Q 231 [.ref 667, .int (nI h), .int n, .int k, .int x, .int (nI o), .int (nI b), .int (bI true), .int (nI r), t9] [] 0 0 (zhd m hd f) := by
  intro c
  induction c with
  | zero => intro r hd f t9 h1; omega
  | succ c ih =>
    intro r hd f t9 h1 h2 hH hA
    have sh := fR_shpq (f := saskR n k b o) (fun r q => saskR_shp) qo r
    have hok := hs.askRs (n := n) (k := k) (b := b) ho r h2
    have ihr := fun hd f t9 => ih (r + 1) hd f t9
    rw [fR_s] at ihr
    generalize hq : fR (saskR n k b o) r qo = q at *
    have ho2 : o < q.2.2.2.1 := by rw [sh.1]; exact ho
    have hlen := (sh.2.2 o).2.2
    have o6 := hA.h6 ho2
    have c5 := hA.c5 ho2
    have hb6 : b < 6 := by have := hs.1; omega
    refine zr_iload dX9_askNow_231 rfl ?_
    refine zr_aload_n dX9_askNow_233 rfl ?_
    refine zr_iload dX9_askNow_234 rfl ?_
    refine zr_cV1 rfl dX9_askNow_236 cv_9_73 (MI.ob hM ⟨rfl, rfl⟩) (Nat.le_of_ble_eq_true rfl) (records_ok hM o6 ((hA.cnt ho2).trans (by rw [hlen])) ?_)
    refine zr_icmp_geN (tgt := 354) dX9_askNow_239 (by decide) (by omega) (by omega) (fun hc_239 => ?_) (fun hc_239 => ?_)
    · refine zr_iincN dX9_askNow_354 rfl (by decide) rfl ?_
      dsimp only [zset]
      refine zr_goto (tgt := 167) dX9_askNow_357 (by decide) ?_
      have e : r = (qo.2.2.2.2 o).2.2.1.length := by omega
      rw [← e, hq] at hk
      exact hk _ _ _ _ hH hA
    · have hr2 : r < (q.2.2.2.2 o).2.2.1.length := by rw [hlen]; exact hc_239
      have hrec := hA.rec ho2 hr2
      obtain ⟨dq, dq1, dq2⟩ := (hok.rec ho2 hr2).2.1
      refine zr_iload dX9_askNow_242 rfl ?_
      refine zr_if_eqB (tgt := 354) dX9_askNow_244 (by decide) (fun hc_244 => absurd hc_244 (by decide)) (fun hc_244 => ?_)
      refine zr_iload dX9_askNow_247 rfl ?_
      refine zr_iload dX9_askNow_249 rfl ?_
      refine zr_cS2 rfl dX9_askNow_251 cv_9_55 (Nat.le_of_ble_eq_true rfl) (at_ok ?_)
      refine zr_istore dX9_askNow_254 (by decide) rfl ?_
      dsimp only [zset]
      refine zr_aload_n dX9_askNow_256 rfl ?_
      refine zr_getR dX9_askNow_257 fd_9_7 rfl (MI.ob hM ⟨rfl, rfl⟩) (MI.r0 hM ⟨rfl, rfl⟩) (by decide) ?_
      refine zr_iload dX9_askNow_260 rfl ?_
      refine zr_iconst (v := nI 4) dX9_askNow_262 rfl ?_
      refine zr_iaddN dX9_askNow_263 ?_
      refine zr_ialoadA dX9_askNow_264 (MI.a668 hM ⟨rfl, rfl⟩) (by omega) ?_
      rw [hrec 4 (by decide)]
      refine zr_iconst (v := nI 3) dX9_askNow_265 rfl ?_
      refine zr_icmp_ne (tgt := 348) dX9_askNow_266 (by decide) (fun hc_266 => ?_) (fun hc_266 => ?_)
      · have ev : saskR n k b o r q = q := by unfold saskR; dsimp only; rw [if_neg (by simp [sown]; intro z; exact absurd z hc_266)]
        refine zr_iincN dX9_askNow_348 rfl (by decide) rfl ?_
        dsimp only [zset]
        refine zr_goto (tgt := 231) dX9_askNow_351 (by decide) ?_
        rw [ev] at ihr
        first
        | exact ihr _ _ _ (by omega) (by omega) hH hA
        | exact ihr _ _ _ (by omega) (by omega) hH (hA.sc (k := 5) (by decide) (by decide) _)
        | (refine ihr _ _ _ (by omega) (by omega) ?_ hg
           have := hH.add (p' := fun x => q.1 x || x == zg (q.2.2.2.2 o).2.2.1 r 2) dq1 (fun j hj hn => by
             have : ¬ nI j = nI dq := fun z => hn ((nI_eq (by omega) (by omega)).mp z)
             simp [dq2, this])
           rw [show (q.1 (nI dq) || nI dq == zg (q.2.2.2.2 o).2.2.1 r 2) = true by simp [dq2]] at this
           exact this)
      · refine zr_aload_n dX9_askNow_269 rfl ?_
        refine zr_getR dX9_askNow_270 fd_9_7 rfl (MI.ob hM ⟨rfl, rfl⟩) (MI.r0 hM ⟨rfl, rfl⟩) (by decide) ?_
        refine zr_iload dX9_askNow_273 rfl ?_
        refine zr_iconst (v := nI 0) dX9_askNow_275 rfl ?_
        refine zr_iaddN dX9_askNow_276 ?_
        refine zr_ialoadA dX9_askNow_277 (MI.a668 hM ⟨rfl, rfl⟩) (by omega) ?_
        rw [hrec 0 (by decide)]
        refine zr_iload_n dX9_askNow_278 rfl ?_
        refine zr_icmp_ne (tgt := 348) dX9_askNow_279 (by decide) (fun hc_279 => ?_) (fun hc_279 => ?_)
        · have ev : saskR n k b o r q = q := by unfold saskR; dsimp only; rw [if_neg (by simp [snam]; intro _ z; exact absurd z hc_279)]
          refine zr_iincN dX9_askNow_348 rfl (by decide) rfl ?_
          dsimp only [zset]
          refine zr_goto (tgt := 231) dX9_askNow_351 (by decide) ?_
          rw [ev] at ihr
          first
          | exact ihr _ _ _ (by omega) (by omega) hH hA
          | exact ihr _ _ _ (by omega) (by omega) hH (hA.sc (k := 5) (by decide) (by decide) _)
          | (refine ihr _ _ _ (by omega) (by omega) ?_ hg
             have := hH.add (p' := fun x => q.1 x || x == zg (q.2.2.2.2 o).2.2.1 r 2) dq1 (fun j hj hn => by
               have : ¬ nI j = nI dq := fun z => hn ((nI_eq (by omega) (by omega)).mp z)
               simp [dq2, this])
             rw [show (q.1 (nI dq) || nI dq == zg (q.2.2.2.2 o).2.2.1 r 2) = true by simp [dq2]] at this
             exact this)
        · refine zr_aload_n dX9_askNow_282 rfl ?_
          refine zr_getR dX9_askNow_283 fd_9_7 rfl (MI.ob hM ⟨rfl, rfl⟩) (MI.r0 hM ⟨rfl, rfl⟩) (by decide) ?_
          refine zr_iload dX9_askNow_286 rfl ?_
          refine zr_iconst (v := nI 1) dX9_askNow_288 rfl ?_
          refine zr_iaddN dX9_askNow_289 ?_
          refine zr_ialoadA dX9_askNow_290 (MI.a668 hM ⟨rfl, rfl⟩) (by omega) ?_
          rw [hrec 1 (by decide)]
          refine zr_iload_n dX9_askNow_291 rfl ?_
          refine zr_icmp_ne (tgt := 348) dX9_askNow_292 (by decide) (fun hc_292 => ?_) (fun hc_292 => ?_)
          · have ev : saskR n k b o r q = q := by unfold saskR; dsimp only; rw [if_neg (by simp [snam]; intro _ _ z; exact absurd z hc_292)]
            refine zr_iincN dX9_askNow_348 rfl (by decide) rfl ?_
            dsimp only [zset]
            refine zr_goto (tgt := 231) dX9_askNow_351 (by decide) ?_
            rw [ev] at ihr
            first
            | exact ihr _ _ _ (by omega) (by omega) hH hA
            | exact ihr _ _ _ (by omega) (by omega) hH (hA.sc (k := 5) (by decide) (by decide) _)
            | (refine ihr _ _ _ (by omega) (by omega) ?_ hg
               have := hH.add (p' := fun x => q.1 x || x == zg (q.2.2.2.2 o).2.2.1 r 2) dq1 (fun j hj hn => by
                 have : ¬ nI j = nI dq := fun z => hn ((nI_eq (by omega) (by omega)).mp z)
                 simp [dq2, this])
               rw [show (q.1 (nI dq) || nI dq == zg (q.2.2.2.2 o).2.2.1 r 2) = true by simp [dq2]] at this
               exact this)
          · refine zr_aload_n dX9_askNow_295 rfl ?_
            refine zr_getR dX9_askNow_296 fd_9_26 rfl (MI.ob hM ⟨rfl, rfl⟩) (MI.r8 hM ⟨rfl, rfl⟩) (by decide) ?_
            refine zr_aload_n dX9_askNow_299 rfl ?_
            refine zr_getR dX9_askNow_300 fd_9_7 rfl (MI.ob hM ⟨rfl, rfl⟩) (MI.r0 hM ⟨rfl, rfl⟩) (by decide) ?_
            refine zr_iload dX9_askNow_303 rfl ?_
            refine zr_iconst (v := nI 2) dX9_askNow_305 rfl ?_
            refine zr_iaddN dX9_askNow_306 ?_
            refine zr_ialoadA dX9_askNow_307 (MI.a668 hM ⟨rfl, rfl⟩) (by omega) ?_
            rw [hrec 2 (by decide), dq2]
            refine zr_hload dX9_askNow_308 hM dq1 ?_
            rw [hH dq dq1]
            refine zr_if_eqB (tgt := 325) dX9_askNow_309 (by decide) (fun hc_309 => ?_) (fun hc_309 => ?_)
            · have ev : saskR n k b o r q = ((fun x => q.1 x || x == zg (q.2.2.2.2 o).2.2.1 r 2), ssays q.2 b (zg (q.2.2.2.2 o).2.2.1 r)) := by unfold saskR; dsimp only; rw [if_pos (by simp [sown, snam]; exact ⟨hc_266, hc_279, hc_292⟩), if_neg (by rw [dq2, hc_309]; decide)]
              refine zr_aload_n dX9_askNow_325 rfl ?_
              refine zr_getR dX9_askNow_326 fd_9_26 rfl (MI.ob hM ⟨rfl, rfl⟩) (MI.r8 hM ⟨rfl, rfl⟩) (by decide) ?_
              refine zr_aload_n dX9_askNow_329 rfl ?_
              refine zr_getR dX9_askNow_330 fd_9_7 rfl (MI.ob hM ⟨rfl, rfl⟩) (MI.r0 hM ⟨rfl, rfl⟩) (by decide) ?_
              refine zr_iload dX9_askNow_333 rfl ?_
              refine zr_iconst (v := nI 2) dX9_askNow_335 rfl ?_
              refine zr_iaddN dX9_askNow_336 ?_
              refine zr_ialoadA dX9_askNow_337 (MI.a668 hM ⟨rfl, rfl⟩) (by omega) ?_
              rw [hrec 2 (by decide), dq2]
              refine zr_iconst (v := nI 1) dX9_askNow_338 rfl ?_
              refine zr_hstore dX9_askNow_339 hM dq1 (Or.inr rfl) ?_
              refine zr_aload_n dX9_askNow_340 rfl ?_
              refine zr_iload dX9_askNow_341 rfl ?_
              refine zr_iload dX9_askNow_343 rfl ?_
              refine zr_cV2v rfl dX9_askNow_345 cv_9_122 (MI.ob hM ⟨rfl, rfl⟩) (Nat.le_of_ble_eq_true rfl) (says_ok (rc := zg (q.2.2.2.2 o).2.2.1 r) (m := zrow m 673 _) (hM.of rfl rfl) hA (by omega) (by omega) (by omega) hrec (fun g hg => ?_))
              refine zr_iincN dX9_askNow_348 rfl (by decide) rfl ?_
              dsimp only [zset]
              refine zr_goto (tgt := 231) dX9_askNow_351 (by decide) ?_
              rw [ev] at ihr
              first
              | exact ihr _ _ _ (by omega) (by omega) hH hA
              | exact ihr _ _ _ (by omega) (by omega) hH (hA.sc (k := 5) (by decide) (by decide) _)
              | (refine ihr _ _ _ (by omega) (by omega) ?_ hg
                 have := hH.add (p' := fun x => q.1 x || x == zg (q.2.2.2.2 o).2.2.1 r 2) dq1 (fun j hj hn => by
                   have : ¬ nI j = nI dq := fun z => hn ((nI_eq (by omega) (by omega)).mp z)
                   simp [dq2, this])
                 rw [show (q.1 (nI dq) || nI dq == zg (q.2.2.2.2 o).2.2.1 r 2) = true by simp [dq2]] at this
                 exact this)
            · have ev : saskR n k b o r q = (q.1, scnt q.2 5 (q.2.1 5 + 1)) := by unfold saskR; dsimp only; rw [if_pos (by simp [sown, snam]; exact ⟨hc_266, hc_279, hc_292⟩), dq2, if_pos hc_309]
              refine zr_aload_n dX9_askNow_312 rfl ?_
              refine zr_getR dX9_askNow_313 fd_9_7 rfl (MI.ob hM ⟨rfl, rfl⟩) (MI.r0 hM ⟨rfl, rfl⟩) (by decide) ?_
              refine zr_iconst (v := nI 5) dX9_askNow_316 rfl ?_
              refine zr_dup2 dX9_askNow_317 rfl rfl ?_
              refine zr_ialoadA dX9_askNow_318 (MI.a668 hM ⟨rfl, rfl⟩) (by omega) ?_
              rw [hA.2.2.1 5 (by decide) (by decide)]
              refine zr_iconst (v := nI 1) dX9_askNow_319 rfl ?_
              refine zr_iadd dX9_askNow_320 ?_
              refine zr_iastoreA dX9_askNow_321 (MI.a668 hM ⟨rfl, rfl⟩) (by omega) ?_
              refine zr_goto (tgt := 348) dX9_askNow_322 (by decide) ?_
              refine zr_iincN dX9_askNow_348 rfl (by decide) rfl ?_
              dsimp only [zset]
              refine zr_goto (tgt := 231) dX9_askNow_351 (by decide) ?_
              rw [ev] at ihr
              first
              | exact ihr _ _ _ (by omega) (by omega) hH hA
              | exact ihr _ _ _ (by omega) (by omega) hH (hA.sc (k := 5) (by decide) (by decide) _)
              | (refine ihr _ _ _ (by omega) (by omega) ?_ hg
                 have := hH.add (p' := fun x => q.1 x || x == zg (q.2.2.2.2 o).2.2.1 r 2) dq1 (fun j hj hn => by
                   have : ¬ nI j = nI dq := fun z => hn ((nI_eq (by omega) (by omega)).mp z)
                   simp [dq2, this])
                 rw [show (q.1 (nI dq) || nI dq == zg (q.2.2.2.2 o).2.2.1 r 2) = true by simp [dq2]] at this
                 exact this)
theorem askNow_167 {q0 : sQ} (hM : MI m) (hs : sOK q0.2) (h6 : h < 6)
    (hk : ∀ hd f, RA f (fR (saskH n k h) q0.2.2.2.1 q0).2 → Q (.int ((fR (saskH n k h) q0.2.2.2.1 q0).2.1 2 - x)) (zhd m hd f)) : ∀ c o hd f t6 t7 t8 t9, q0.2.2.2.1 - o < c → o ≤ q0.2.2.2.1 → hdOK hd (fR (saskH n k h) o q0).1 → RA f (fR (saskH n k h) o q0).2 →
    zwp (d + 6) M9_askNow 0 0 Q 167 [.ref 667, .int (nI h), .int n, .int k, .int x, .int (nI o), t6, t7, t8, t9] [] 0 0 (zhd m hd f) := by
  have n6 := hs.1
  intro c
  induction c with
  | zero => intro o hd f t6 t7 t8 t9 h1; omega
  | succ c ih =>
    intro o hd f t6 t7 t8 t9 h1 h2 hH hA
    have sh := fR_shpq (f := saskH n k h) (fun r q => saskH_shp) q0 o
    have hok := hs.askHs (n := n) (k := k) (h := h) o h2
    have iho := fun hd f t6 t7 t8 t9 => ih (o + 1) hd f t6 t7 t8 t9
    rw [fR_s] at iho
    generalize hq : fR (saskH n k h) o q0 = q at *
    have J2 : o < q0.2.2.2.1 → ∀ b, b = sans q.2 h o → zwp (d + 6) M9_askNow 0 0 Q 226 [.ref 667, .int (nI h), .int n, .int k, .int x, .int (nI o), .int (sby q.2 o), t7, t8, t9] [.int (bI b)] 0 0 (zhd m hd f) := by
      intro ho b hb
      have ho2 : o < q.2.2.2.1 := by rw [sh.1]; exact ho
      cases b with
      | false =>
        have ev : saskH n k h o q = q := by unfold saskH; rw [← hb]; rfl
        rw [ev] at iho
        refine zr_istore dX9_askNow_226 (by decide) rfl ?_
        dsimp only [zset]
        refine zr_iconst (v := nI 0) dX9_askNow_228 rfl ?_
        refine zr_istore dX9_askNow_229 (by decide) rfl ?_
        dsimp only [zset]
        refine zr_iload dX9_askNow_231 rfl ?_
        refine zr_aload_n dX9_askNow_233 rfl ?_
        refine zr_iload dX9_askNow_234 rfl ?_
        refine zr_cV1 rfl dX9_askNow_236 cv_9_73 (MI.ob hM ⟨rfl, rfl⟩) (Nat.le_of_ble_eq_true rfl) (records_ok hM (hA.h6 ho2) (hA.cnt ho2) ?_)
        refine zr_icmp_ge (tgt := 354) dX9_askNow_239 (by decide) (fun hc_239 => ?_) (fun hc_239 => ?_)
        · refine zr_iincN dX9_askNow_354 rfl (by decide) rfl ?_
          dsimp only [zset]
          refine zr_goto (tgt := 167) dX9_askNow_357 (by decide) ?_
          exact iho hd f _ _ _ _ (by omega) (by omega) hH hA
        · refine zr_iload dX9_askNow_242 rfl ?_
          refine zr_if_eqB (tgt := 354) dX9_askNow_244 (by decide) (fun hc_244 => ?_) (fun hc_244 => absurd hc_244 (by decide))
          refine zr_iincN dX9_askNow_354 rfl (by decide) rfl ?_
          dsimp only [zset]
          refine zr_goto (tgt := 167) dX9_askNow_357 (by decide) ?_
          exact iho hd f _ _ _ _ (by omega) (by omega) hH hA
      | true =>
        have hne : ¬ sby q.2 o = -1 := by
          intro z
          unfold sans at hb
          rw [z] at hb
          simp at hb
        obtain ⟨p, hp1, hp2⟩ := sby_of hok ho2 hne
        have hcl : (sby q.2 o).toNatClampNeg = p := by rw [hp2]; exact nI_clamp (by have := hok.1; omega)
        have ev : saskH n k h o q = fR (saskR n k p o) (q.2.2.2.2 o).2.2.1.length q := by unfold saskH; rw [← hb, hcl]; rfl
        rw [ev] at iho
        rw [hp2]
        refine zr_istore dX9_askNow_226 (by decide) rfl ?_
        dsimp only [zset]
        refine zr_iconst (v := nI 0) dX9_askNow_228 rfl ?_
        refine zr_istore dX9_askNow_229 (by decide) rfl ?_
        dsimp only [zset]
        exact askNow_in hM ho2 hok hp1 (fun hd f t8 t9 h1 h2 => iho hd f _ _ _ _ (by omega) (by omega) h1 h2) _ 0 hd f _ (Nat.lt_succ_self _) (Nat.zero_le _) hH hA
    have J1 : o < q0.2.2.2.1 → ∀ v, v = sby q.2 o → zwp (d + 6) M9_askNow 0 0 Q 198 [.ref 667, .int (nI h), .int n, .int k, .int x, .int (nI o), t6, t7, t8, t9] [.int v] 0 0 (zhd m hd f) := by
      intro ho v hv
      subst hv
      have ho2 : o < q.2.2.2.1 := by rw [sh.1]; exact ho
      have J3 : ∀ p, p < q.2.2.2.1 → sby q.2 o = nI p → ¬ o = h → zwp (d + 6) M9_askNow 0 0 Q 212 [.ref 667, .int (nI h), .int n, .int k, .int x, .int (nI o), .int (nI p), t7, t8, t9] [] 0 0 (zhd m hd f) := by
        intro p hp1 hp2 hne
        have hcl : (sby q.2 o).toNatClampNeg = p := by rw [hp2]; exact nI_clamp (by have := hok.1; omega)
        refine zr_aload_n dX9_askNow_212 rfl ?_
        refine zr_iload dX9_askNow_213 rfl ?_
        refine zr_cV1 rfl dX9_askNow_215 cv_9_59 (MI.ob hM ⟨rfl, rfl⟩) (Nat.le_of_ble_eq_true rfl) (isAwake_ok hM (hA.h6 hp1) (hA.awk hp1) ?_)
        refine zr_if_eqB (tgt := 225) dX9_askNow_218 (by decide) (fun hc_218 => ?_) (fun hc_218 => ?_)
        · refine zr_iconst (v := bI false) dX9_askNow_225 rfl ?_
          have := J2 ho (sawk (q.2.2.2.2 p)) (show sawk (q.2.2.2.2 p) = sans q.2 h o by
            unfold sans
            have e1 : (o != h) = true := by simp [hne]
            have e2 : (sby q.2 o != -1) = true := by rw [hp2]; simp [nI_ne_m1 (show p < 2 ^ 31 by have := hok.1; omega)]
            rw [hcl, e1, e2]
            rfl)
          rw [hp2, hc_218] at this
          exact this
        · refine zr_iconst (v := bI true) dX9_askNow_221 rfl ?_
          refine zr_goto (tgt := 226) dX9_askNow_222 (by decide) ?_
          have := J2 ho (sawk (q.2.2.2.2 p)) (show sawk (q.2.2.2.2 p) = sans q.2 h o by
            unfold sans
            have e1 : (o != h) = true := by simp [hne]
            have e2 : (sby q.2 o != -1) = true := by rw [hp2]; simp [nI_ne_m1 (show p < 2 ^ 31 by have := hok.1; omega)]
            rw [hcl, e1, e2]
            rfl)
          rw [hp2, hc_218] at this
          exact this
      refine zr_istore dX9_askNow_198 (by decide) rfl ?_
      dsimp only [zset]
      refine zr_iload dX9_askNow_200 rfl ?_
      refine zr_iload_n dX9_askNow_202 rfl ?_
      refine zr_icmp_eqN (tgt := 225) dX9_askNow_203 (by decide) (by omega) (by omega) (fun hc_203 => ?_) (fun hc_203 => ?_)
      · refine zr_iconst (v := bI false) dX9_askNow_225 rfl ?_
        refine J2 ho false ?_
        unfold sans
        first
        | (simp [hc_203]; done)
        | (simp [hc_209]; done)
      · refine zr_iload dX9_askNow_206 rfl ?_
        refine zr_iconst (v := -1) dX9_askNow_208 rfl ?_
        refine zr_icmp_eq (tgt := 225) dX9_askNow_209 (by decide) (fun hc_209 => ?_) (fun hc_209 => ?_)
        · refine zr_iconst (v := bI false) dX9_askNow_225 rfl ?_
          refine J2 ho false ?_
          unfold sans
          first
          | (simp [hc_203]; done)
          | (simp [hc_209]; done)
        · obtain ⟨p, hp1, hp2⟩ := sby_of hok ho2 hc_209
          have := J3 p hp1 hp2 hc_203
          rw [← hp2] at this
          exact this
    refine zr_iload dX9_askNow_167 rfl ?_
    refine zr_aload_n dX9_askNow_169 rfl ?_
    refine zr_getR dX9_askNow_170 fd_9_7 rfl (MI.ob hM ⟨rfl, rfl⟩) (MI.r0 hM ⟨rfl, rfl⟩) (by decide) ?_
    refine zr_iconst (v := nI 0) dX9_askNow_173 rfl ?_
    refine zr_ialoadA dX9_askNow_174 (MI.a668 hM ⟨rfl, rfl⟩) (by omega) ?_
    rw [hA.1, sh.1]
    refine zr_icmp_geN (tgt := 360) dX9_askNow_175 (by decide) (by omega) (by omega) (fun hc_175 => ?_) (fun hc_175 => ?_)
    · refine zr_aload_n dX9_askNow_360 rfl ?_
      refine zr_getR dX9_askNow_361 fd_9_7 rfl (MI.ob hM ⟨rfl, rfl⟩) (MI.r0 hM ⟨rfl, rfl⟩) (by decide) ?_
      refine zr_iconst (v := nI 2) dX9_askNow_364 rfl ?_
      refine zr_ialoadA dX9_askNow_365 (MI.a668 hM ⟨rfl, rfl⟩) (by omega) ?_
      rw [hA.2.2.1 2 (by decide) (by decide)]
      refine zr_iload dX9_askNow_366 rfl ?_
      refine zr_isub dX9_askNow_368 ?_
      refine zr_ireturn dX9_askNow_369 rfl (Nat.le_refl _) (Nat.le_refl _) ?_
      have e : o = q0.2.2.2.1 := by omega
      rw [← e, hq] at hk
      exact hk _ _ hA
    · refine zr_aload_n dX9_askNow_178 rfl ?_
      refine zr_iload dX9_askNow_179 rfl ?_
      refine zr_cV1 rfl dX9_askNow_181 cv_9_59 (MI.ob hM ⟨rfl, rfl⟩) (Nat.le_of_ble_eq_true rfl) (isAwake_ok hM (by omega) (hA.awk (show o < q.2.2.2.1 by rw [sh.1]; exact hc_175)) ?_)
      refine zr_if_eqB (tgt := 192) dX9_askNow_184 (by decide) (fun hc_184 => ?_) (fun hc_184 => ?_)
      · refine zr_aload_n dX9_askNow_192 rfl ?_
        refine zr_iload dX9_askNow_193 rfl ?_
        refine zr_cV1 rfl dX9_askNow_195 cv_9_63 (MI.ob hM ⟨rfl, rfl⟩) (Nat.le_of_ble_eq_true rfl) (proxy_ok hM (by omega) (hA.prx (show o < q.2.2.2.1 by rw [sh.1]; exact hc_175)) ?_)
        refine J1 hc_175 _ ?_
        unfold sby
        rw [hc_184]
        rfl
      · refine zr_iload dX9_askNow_187 rfl ?_
        refine zr_goto (tgt := 198) dX9_askNow_189 (by decide) ?_
        refine J1 hc_175 _ ?_
        unfold sby
        rw [hc_184]
        rfl
theorem askNow_36 {s : sS} {f : Nat → Int32} (hM : MI m) (hA : RA f s) (hs : sOK s) (hh : h < s.2.2.1)
    (hk : ∀ hd g, RA g (sask s h n k) → Q (.int ((sask s h n k).1 2 - x)) (zhd m hd g)) : ∀ c i hd t6 t7, (s.2.2.2 h).2.2.2.length - i < c → i ≤ (s.2.2.2 h).2.2.2.length → hdOK hd (sknown (s.2.2.2 h).2.2.2 n k (s.1 1) i) →
    zwp (d + 6) M9_askNow 0 0 Q 36 [.ref 667, .int (nI h), .int n, .int k, .int x, .int (nI i), t6, t7, zU, zU] [] 0 0 (zhd m hd f) := by
  have h6 := hA.h6 hh
  have s6 := hA.s6 hh
  intro c
  induction c with
  | zero => intro i hd t6 t7 h1; omega
  | succ c ih =>
    intro i hd t6 t7 h1 h2 hH
    have J : i < (s.2.2.2 h).2.2.2.length → ∀ b, b = snam (zg (s.2.2.2 h).2.2.2 i) n k → zwp (d + 6) M9_askNow 0 0 Q 85 [.ref 667, .int (nI h), .int n, .int k, .int x, .int (nI i), .int (nI (244 + 5 * (6 * h + i))), t7, zU, zU] [.int (bI b)] 0 0 (zhd m hd f) := by
      intro hi b hb
      have he := hA.ent hh hi
      obtain ⟨dq, dq1, dq2⟩ := ((hs.2 h hh).2.2.2.2.2.1 _ (zg_mem hi)).1
      have fin : ∀ v, v = sknown (s.2.2.2 h).2.2.2 n k (s.1 1) (i + 1) (nI dq) → zwp (d + 6) M9_askNow 0 0 Q 157 [.ref 667, .int (nI h), .int n, .int k, .int x, .int (nI i), .int (nI (244 + 5 * (6 * h + i))), .int (bI b), zU, zU] [.int (bI v), .int (nI dq), .ref 673] 0 0 (zhd m hd f) := by
        intro v hv
        refine zr_hstore dX9_askNow_157 hM dq1 (bI_01 _) ?_
        refine zr_iincN dX9_askNow_158 rfl (by decide) rfl ?_
        dsimp only [zset]
        refine zr_goto (tgt := 36) dX9_askNow_161 (by decide) ?_
        refine ih (i + 1) _ _ _ (by omega) (by omega) ?_
        rw [hv]
        refine hH.add dq1 (fun j hj hn => ?_)
        have : ¬ nI dq = nI j := fun z => hn ((nI_eq (by omega) (by omega)).mp z).symm
        show (sknown _ _ _ _ i (nI j) || _) = _
        dsimp only
        rw [dq2]
        simp [this]
      have sk : sknown (s.2.2.2 h).2.2.2 n k (s.1 1) (i + 1) (nI dq) = (sknown (s.2.2.2 h).2.2.2 n k (s.1 1) i (nI dq) || (b && decide (zg (s.2.2.2 h).2.2.2 i 3 ≤ 2 * (zg (s.2.2.2 h).2.2.2 i 4 - s.1 1)))) := by
        show (sknown _ _ _ _ i (nI dq) || _) = _
        dsimp only
        rw [dq2, ← hb]
        simp
      refine zr_istore dX9_askNow_85 (by decide) rfl ?_
      dsimp only [zset]
      refine zr_aload_n dX9_askNow_87 rfl ?_
      refine zr_getR dX9_askNow_88 fd_9_26 rfl (MI.ob hM ⟨rfl, rfl⟩) (MI.r8 hM ⟨rfl, rfl⟩) (by decide) ?_
      refine zr_aload_n dX9_askNow_91 rfl ?_
      refine zr_getR dX9_askNow_92 fd_9_7 rfl (MI.ob hM ⟨rfl, rfl⟩) (MI.r0 hM ⟨rfl, rfl⟩) (by decide) ?_
      refine zr_iload dX9_askNow_95 rfl ?_
      refine zr_iconst (v := nI 2) dX9_askNow_97 rfl ?_
      refine zr_iaddN dX9_askNow_98 ?_
      refine zr_ialoadA dX9_askNow_99 (MI.a668 hM ⟨rfl, rfl⟩) (by omega) ?_
      rw [he 2 (by decide), dq2]
      refine zr_aload_n dX9_askNow_100 rfl ?_
      refine zr_getR dX9_askNow_101 fd_9_26 rfl (MI.ob hM ⟨rfl, rfl⟩) (MI.r8 hM ⟨rfl, rfl⟩) (by decide) ?_
      refine zr_aload_n dX9_askNow_104 rfl ?_
      refine zr_getR dX9_askNow_105 fd_9_7 rfl (MI.ob hM ⟨rfl, rfl⟩) (MI.r0 hM ⟨rfl, rfl⟩) (by decide) ?_
      refine zr_iload dX9_askNow_108 rfl ?_
      refine zr_iconst (v := nI 2) dX9_askNow_110 rfl ?_
      refine zr_iaddN dX9_askNow_111 ?_
      refine zr_ialoadA dX9_askNow_112 (MI.a668 hM ⟨rfl, rfl⟩) (by omega) ?_
      rw [he 2 (by decide), dq2]
      refine zr_hload dX9_askNow_113 hM dq1 ?_
      rw [hH dq dq1]
      refine zr_if_neB (tgt := 152) dX9_askNow_114 (by decide) (fun hc_114 => ?_) (fun hc_114 => ?_)
      · refine zr_iconst (v := bI true) dX9_askNow_152 rfl ?_
        refine zr_goto (tgt := 157) dX9_askNow_153 (by decide) ?_
        refine fin _ ?_
        rw [sk]
        first
        | (rw [hc_114]; rfl)
        | (rw [hc_114, hc_119]; rfl)
        | (rw [hc_114, hc_119]; simp [← Int32.not_lt]; exact hc_149)
      · refine zr_iload dX9_askNow_117 rfl ?_
        refine zr_if_eqB (tgt := 156) dX9_askNow_119 (by decide) (fun hc_119 => ?_) (fun hc_119 => ?_)
        · refine zr_iconst (v := bI false) dX9_askNow_156 rfl ?_
          refine fin _ ?_
          rw [sk]
          first
          | (rw [hc_114]; rfl)
          | (rw [hc_114, hc_119]; rfl)
          | (rw [hc_114, hc_119]; simp [← Int32.not_lt]; exact hc_149)
        · refine zr_iconst (v := nI 2) dX9_askNow_122 rfl ?_
          refine zr_aload_n dX9_askNow_123 rfl ?_
          refine zr_getR dX9_askNow_124 fd_9_7 rfl (MI.ob hM ⟨rfl, rfl⟩) (MI.r0 hM ⟨rfl, rfl⟩) (by decide) ?_
          refine zr_iload dX9_askNow_127 rfl ?_
          refine zr_iconst (v := nI 4) dX9_askNow_129 rfl ?_
          refine zr_iaddN dX9_askNow_130 ?_
          refine zr_ialoadA dX9_askNow_131 (MI.a668 hM ⟨rfl, rfl⟩) (by omega) ?_
          rw [he 4 (by decide)]
          refine zr_aload_n dX9_askNow_132 rfl ?_
          refine zr_getR dX9_askNow_133 fd_9_7 rfl (MI.ob hM ⟨rfl, rfl⟩) (MI.r0 hM ⟨rfl, rfl⟩) (by decide) ?_
          refine zr_iconst (v := nI 1) dX9_askNow_136 rfl ?_
          refine zr_ialoadA dX9_askNow_137 (MI.a668 hM ⟨rfl, rfl⟩) (by omega) ?_
          rw [hA.2.2.1 1 (by decide) (by decide)]
          refine zr_isub dX9_askNow_138 ?_
          refine zr_imul dX9_askNow_139 ?_
          refine zr_aload_n dX9_askNow_140 rfl ?_
          refine zr_getR dX9_askNow_141 fd_9_7 rfl (MI.ob hM ⟨rfl, rfl⟩) (MI.r0 hM ⟨rfl, rfl⟩) (by decide) ?_
          refine zr_iload dX9_askNow_144 rfl ?_
          refine zr_iconst (v := nI 3) dX9_askNow_146 rfl ?_
          refine zr_iaddN dX9_askNow_147 ?_
          refine zr_ialoadA dX9_askNow_148 (MI.a668 hM ⟨rfl, rfl⟩) (by omega) ?_
          rw [he 3 (by decide)]
          refine zr_icmp_lt (tgt := 156) dX9_askNow_149 (by decide) (fun hc_149 => ?_) (fun hc_149 => ?_)
          · refine zr_iconst (v := bI false) dX9_askNow_156 rfl ?_
            refine fin _ ?_
            rw [sk]
            first
            | (rw [hc_114]; rfl)
            | (rw [hc_114, hc_119]; rfl)
            | (rw [hc_114, hc_119]; simp [← Int32.not_lt]; exact hc_149)
          · refine zr_iconst (v := bI true) dX9_askNow_152 rfl ?_
            refine zr_goto (tgt := 157) dX9_askNow_153 (by decide) ?_
            refine fin _ ?_
            rw [sk]
            first
            | (rw [hc_114]; rfl)
            | (rw [hc_114, hc_119]; rfl)
            | (rw [hc_114, hc_119]; simp [← Int32.not_lt]; exact hc_149)
    refine zr_iload dX9_askNow_36 rfl ?_
    refine zr_aload_n dX9_askNow_38 rfl ?_
    refine zr_iload_n dX9_askNow_39 rfl ?_
    refine zr_cV1 rfl dX9_askNow_40 cv_9_70 (MI.ob hM ⟨rfl, rfl⟩) (Nat.le_of_ble_eq_true rfl) (entries_ok hM h6 (hA.siz hh) ?_)
    refine zr_icmp_geN (tgt := 164) dX9_askNow_43 (by decide) (by omega) (by omega) (fun hc_43 => ?_) (fun hc_43 => ?_)
    · refine zr_iconst (v := nI 0) dX9_askNow_164 rfl ?_
      refine zr_istore dX9_askNow_165 (by decide) rfl ?_
      dsimp only [zset]
      have e : i = (s.2.2.2 h).2.2.2.length := by omega
      subst e
      exact askNow_167 (q0 := (sknown (s.2.2.2 h).2.2.2 n k (s.1 1) (s.2.2.2 h).2.2.2.length, s)) hM hs h6 hk _ 0 hd f _ _ _ _ (Nat.lt_succ_self _) (Nat.zero_le _) hH hA
    · refine zr_iload_n dX9_askNow_46 rfl ?_
      refine zr_iload dX9_askNow_47 rfl ?_
      refine zr_cS2 rfl dX9_askNow_49 cv_9_67 (Nat.le_of_ble_eq_true rfl) (kept_ok ?_)
      refine zr_istore dX9_askNow_52 (by decide) rfl ?_
      dsimp only [zset]
      refine zr_aload_n dX9_askNow_54 rfl ?_
      refine zr_getR dX9_askNow_55 fd_9_7 rfl (MI.ob hM ⟨rfl, rfl⟩) (MI.r0 hM ⟨rfl, rfl⟩) (by decide) ?_
      refine zr_iload dX9_askNow_58 rfl ?_
      refine zr_iconst (v := nI 0) dX9_askNow_60 rfl ?_
      refine zr_iaddN dX9_askNow_61 ?_
      refine zr_ialoadA dX9_askNow_62 (MI.a668 hM ⟨rfl, rfl⟩) (by omega) ?_
      rw [hA.ent hh hc_43 0 (by decide)]
      refine zr_iload_n dX9_askNow_63 rfl ?_
      refine zr_icmp_ne (tgt := 84) dX9_askNow_64 (by decide) (fun hc_64 => ?_) (fun hc_64 => ?_)
      · refine zr_iconst (v := bI false) dX9_askNow_84 rfl ?_
        exact J hc_43 _ (by simp [snam, *])
      · refine zr_aload_n dX9_askNow_67 rfl ?_
        refine zr_getR dX9_askNow_68 fd_9_7 rfl (MI.ob hM ⟨rfl, rfl⟩) (MI.r0 hM ⟨rfl, rfl⟩) (by decide) ?_
        refine zr_iload dX9_askNow_71 rfl ?_
        refine zr_iconst (v := nI 1) dX9_askNow_73 rfl ?_
        refine zr_iaddN dX9_askNow_74 ?_
        refine zr_ialoadA dX9_askNow_75 (MI.a668 hM ⟨rfl, rfl⟩) (by omega) ?_
        rw [hA.ent hh hc_43 1 (by decide)]
        refine zr_iload_n dX9_askNow_76 rfl ?_
        refine zr_icmp_ne (tgt := 84) dX9_askNow_77 (by decide) (fun hc_77 => ?_) (fun hc_77 => ?_)
        · refine zr_iconst (v := bI false) dX9_askNow_84 rfl ?_
          exact J hc_43 _ (by simp [snam, *])
        · refine zr_iconst (v := bI true) dX9_askNow_80 rfl ?_
          refine zr_goto (tgt := 85) dX9_askNow_81 (by decide) ?_
          exact J hc_43 _ (by simp [snam, *])
theorem askNow_ok {s : sS} {f : Nat → Int32} (hM : MI m) (hA : RA f s) (hs : sOK s) (hh : h < s.2.2.1)
    (hk : ∀ hd g, RA g (sask s h n k) → Q (.int ((sask s h n k).1 2 - s.1 2)) (zhd m hd g)) : zC (d + 6) M9_askNow 0 0 [.ref 667, .int (nI h), .int n, .int k] (zrow m 668 f) Q := by
  have loop : ∀ c j hd, 256 - j < c → j ≤ 256 → (∀ i, i < j → hd i = 0) → zwp (d + 6) M9_askNow 0 0 Q 11 [.ref 667, .int (nI h), .int n, .int k, .int (s.1 2), .int (nI j), zU, zU, zU, zU] [] 0 0 (zhd m hd f) := by
    intro c
    induction c with
    | zero => intro j hd h1; omega
    | succ c ih =>
      intro j hd h1 h2 h3
      refine zr_iload dX9_askNow_11 rfl ?_
      refine zr_sipush (v := nI 256) dX9_askNow_13 rfl ?_
      refine zr_icmp_geN (tgt := 33) dX9_askNow_16 (by decide) (by omega) (by omega) (fun hc_16 => ?_) (fun hc_16 => ?_)
      · refine zr_iconst (v := nI 0) dX9_askNow_33 rfl ?_
        refine zr_istore dX9_askNow_34 (by decide) rfl ?_
        dsimp only [zset]
        have e : j = 256 := by omega
        subst e
        exact askNow_36 hM hA hs hh hk _ 0 hd _ _ (Nat.lt_succ_self _) (Nat.zero_le _) (fun i hi => by rw [h3 i hi]; rfl)
      · refine zr_aload_n dX9_askNow_19 rfl ?_
        refine zr_getR dX9_askNow_20 fd_9_26 rfl (MI.ob hM ⟨rfl, rfl⟩) (MI.r8 hM ⟨rfl, rfl⟩) (by decide) ?_
        refine zr_iload dX9_askNow_23 rfl ?_
        refine zr_iconst (v := nI 0) dX9_askNow_25 rfl ?_
        refine zr_hstore dX9_askNow_26 hM hc_16 (Or.inl rfl) ?_
        refine zr_iincN dX9_askNow_27 rfl (by decide) rfl ?_
        dsimp only [zset]
        refine zr_goto (tgt := 11) dX9_askNow_30 (by decide) ?_
        refine ih (j + 1) _ (by omega) (by omega) (fun i hi => ?_)
        by_cases e : i = j
        · subst e; rw [fu_s]; rfl
        · rw [fu_n _ _ e]; exact h3 i (by omega)
  have hrow : zrow m 668 f = zhd m (zI m 673) f := by unfold zhd; rw [zrow_id]
  rw [hrow]
  refine zenterP (Or.inl (by decide +kernel)) rfl (fun h => by cases h) (Nat.le_of_ble_eq_true rfl) ?_
  show zwp _ _ _ _ _ 0 [_, _, _, _, zU, zU, zU, zU, zU, zU] [] 0 0 _
  refine zr_aload_n dX9_askNow_0 rfl ?_
  refine zr_getR dX9_askNow_1 fd_9_7 rfl (MI.ob hM ⟨rfl, rfl⟩) (MI.r0 hM ⟨rfl, rfl⟩) (by decide) ?_
  refine zr_iconst (v := nI 2) dX9_askNow_4 rfl ?_
  refine zr_ialoadA dX9_askNow_5 (MI.a668 hM ⟨rfl, rfl⟩) (by omega) ?_
  rw [hA.2.2.1 2 (by decide) (by decide)]
  refine zr_istore dX9_askNow_6 (by decide) rfl ?_
  dsimp only [zset]
  refine zr_iconst (v := nI 0) dX9_askNow_8 rfl ?_
  refine zr_istore dX9_askNow_9 (by decide) rfl ?_
  dsimp only [zset]
  exact loop _ 0 _ (Nat.lt_succ_self _) (Nat.zero_le _) (fun i hi => absurd hi (Nat.not_lt_zero i))
end
