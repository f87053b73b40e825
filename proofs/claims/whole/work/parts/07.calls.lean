/-! ===== new cells, the script, calls, a method's contract ===== -/
theorem zvl_nw {E : zE} {m : zM} : ∀ a', a' ≠ zn m → ∀ j, zvl E (znw m) a' j = zvl E m a' j := by
  intro a' h j
  simp only [zvl, zvt, zI, zR, zL, zF, znw, zc, h, if_false]
theorem zvl_n0 {E : zE} {m : zM} (j : Nat) : zvl E (znw m) (zn m) j = zd0 (zft (zLay (zn m)).1 j) := by
  simp [zvl, zvt, zI, zR, zL, zF, znw, zc, zd0, zrf]
theorem zPic.new {E : zE} {m : zM} {s : State} {H H' : Heap} (hP : zPic E m s H) (hs : H'.size = H.size + 1) (ho : ∀ q : Nat, q < H.size → H'[q]? = H[q]?) (hat : zAt E (znw m) (zn m) H') : zPic E (znw m) s H' := by
  obtain ⟨h1, h2, h3, h4, h5⟩ := hP
  have e1 : zI (znw m) 1 = zI m 1 := funext fun j => by simp only [zI, znw, zc]; rw [if_neg (by omega)]
  have e2 : zR (znw m) 1 0 = zR m 1 0 := by simp only [zR, znw, zc]; rw [if_neg (by omega)]
  have e3 : zn (znw m) = zn m + 1 := rfl
  refine ⟨by omega, by omega, h3, ?_, fun a' h6 h7 => ?_⟩
  · rw [e1, e2]
    exact va_X.kept h4 (ho _ (by omega))
  · by_cases e : a' = zn m
    · rw [e]; exact hat
    · refine (h5 a' h6 (by omega)).kept (ho _ ?_) (zvl_nw a' e)
      unfold zad
      rw [if_neg (by omega)]
      omega
theorem zad_n {E : zE} {m : zM} {s : State} {H : Heap} (hP : zPic E m s H) : zad E (zn m) = H.size := by
  obtain ⟨h1, h2, -⟩ := hP
  unfold zad
  rw [if_neg (by omega)]
  omega
def zNew (own idx ci : Nat) : Prop := ci < 10 ∧ Cond.classLink (zcn own) idx (zcl ci).1 ∈ zW ∧ Cond.instantiable (zcl ci).1 (zcl ci).2.2 ∈ zW ∧ Cond.initialized (zcl ci).1 ∈ zW
section
variable {d : Nat} {M : zMeth} {mc ms : Nat} {Q : Value → zM → Prop} {pc : Nat} {ls st : List Value} {uc us : Nat} {m : zM}
theorem zr_new {idx ci : Nat} (hd : decode M.2.2.1 pc = .ok (.new idx, 3)) (hc : zNew M.1 idx ci) (hl : (zLay (zn m)).1 = ci) (h1 : uc + 1 ≤ mc) (h2 : us + (zcl ci).2.2 ≤ ms) (kk : zwp d M mc ms Q (pc + 3) ls (.ref (zn m) :: st) (uc + 1) (us + (zcl ci).2.2) (znw m)) : zwp d M mc ms Q pc ls st uc us m := by
  intro p l e R s mid args below meth c F E X H locs lr hP hlo hls
  obtain ⟨hx, hb, hml, hown, hts, hK, hrm, -⟩ := id X
  obtain ⟨c1, c2, c3, c4⟩ := hc
  have hKn := hK.1.1 ci _ (zcl_at ci c1)
  refine W.newcK hx hb hown (hts _ c2) (hts _ c3) (hts _ c4) rfl hd (Nat.le_trans h1 hrm.2.2.1) (Nat.le_trans h2 hrm.2.2.2) hKn.2.1 rfl (fun H1 kC hkC e1 z1 o1 => ?_)
  have hz := zad_n hP
  have hP1 : zPic E (znw m) s H1 := by
    refine hP.new z1 o1 ?_
    unfold zAt
    rw [hl, if_pos c1]
    refine (u_born (zct ci) hts (zlay_in ci c1) hKn hkC (by rw [hz]; exact e1) (zct_ok ci c1)).to (fun k hk => ?_)
    rw [zvl_n0, hl]
    exact zct_df ci c1 k hk
  have := kk p l e R s mid args below meth c F E X H1 locs lr hP1 hlo hls
  rw [← hz]
  exact this
theorem zr_newarray {atype : ArrayType} {kd k : Nat} (hd : decode M.2.2.1 pc = .ok (.newarray atype, 2)) (hty : newarray.typeOf atype = zaty kd) (h10 : 10 ≤ kd) (h15 : kd < 15) (hw : Cond.arrayClass (zaty kd) ∈ zW) (hk : k < 65536) (hl : zLay (zn m) = (kd, k)) (h1 : uc + 1 ≤ mc) (h2 : us + k ≤ ms) (kk : zwp d M mc ms Q (pc + 2) ls (.ref (zn m) :: st) (uc + 1) (us + k) (znw m)) : zwp d M mc ms Q pc ls (.int (nI k) :: st) uc us m := by
  intro p l e R s mid args below meth c F E X H locs lr hP hlo hls
  obtain ⟨hx, hb, hml, hown, hts, hK, hrm, -⟩ := id X
  have hz := zad_n hP
  have hcb : componentBytes (zaty kd) ≤ 8 := by
    have : kd = 10 ∨ kd = 11 ∨ kd = 12 ∨ kd = 13 ∨ kd = 14 := by omega
    rcases this with rfl | rfl | rfl | rfl | rfl <;> decide
  have hbytes : k * componentBytes (newarray.typeOf atype) ≤ 536870912 := by
    rw [hty]
    exact Nat.le_trans (Nat.mul_le_mul (Nat.le_of_lt hk) hcb) (by decide)
  refine va_newaK hx hb (by rw [hty]; exact hts _ hw) rfl hd rfl (nI_pos (by omega)) (nI_clamp (by omega)) hbytes (Nat.le_trans h1 hrm.2.2.1) (Nat.le_trans h2 hrm.2.2.2) rfl (fun H1 cA e1 z1 o1 hAr hNm => ?_)
  have hcA : cA = E.2.2.2 kd := by
    have hRA := (hK.1.2 (zti kd) _ (zty_at kd h10 (by omega))).2
    rw [hty] at hNm
    have : s.vm.findClass ("[" ++ (zaty kd).toString) = some (E.2.2.2 kd) := by
      have h5 : kd = 10 ∨ kd = 11 ∨ kd = 12 ∨ kd = 13 ∨ kd = 14 := by omega
      rcases h5 with rfl | rfl | rfl | rfl | rfl <;> exact hRA
    exact Option.some.inj (hNm.symm.trans this)
  have hP1 : zPic E (znw m) s H1 := by
    refine hP.new z1 o1 ?_
    unfold zAt
    rw [hl, if_neg (by show ¬ kd < 10; omega), hz, e1, hcA]
    refine congrArg (fun f => some (arrV (E.2.2.2 kd) k f)) (funext fun j => ?_)
    rw [zvl_n0, hl, hty]
    have h5 : kd = 10 ∨ kd = 11 ∨ kd = 12 ∨ kd = 13 ∨ kd = 14 := by omega
    rcases h5 with rfl | rfl | rfl | rfl | rfl <;> rfl
  have := kk p l e R s mid args below meth c F E X H1 locs lr hP1 hlo hls
  rw [← hz]
  exact this
theorem zr_anewarray {idx kd k : Nat} (hd : decode M.2.2.1 pc = .ok (.anewarray idx, 3)) (h15 : 15 ≤ kd) (h19 : kd < 19) (hw : Cond.classLink (zcn M.1) idx (zcl (zcmp kd)).1 ∈ zW) (hov : Cond.arrayOver (.object (zcl (zcmp kd)).1) ∈ lw_tbl) (hk : k < 65536) (hl : zLay (zn m) = (kd, k)) (h1 : uc + 1 ≤ mc) (h2 : us + k ≤ ms) (kk : zwp d M mc ms Q (pc + 3) ls (.ref (zn m) :: st) (uc + 1) (us + k) (znw m)) : zwp d M mc ms Q pc ls (.int (nI k) :: st) uc us m := by
  intro p l e R s mid args below meth c F E X H locs lr hP hlo hls
  obtain ⟨hx, hb, hml, hown, hts, hK, hrm, -⟩ := id X
  have hz := zad_n hP
  have hk2 : (nI k).toNatClampNeg = k := nI_clamp (by omega)
  have hta : zaty kd = .object (zcl (zcmp kd)).1 := by
    have : kd = 15 ∨ kd = 16 ∨ kd = 17 ∨ kd = 18 := by omega
    rcases this with rfl | rfl | rfl | rfl <;> rfl
  refine W.anew hx hb hown (hts _ hw) (va_AO.use (hK.2 _ hov rfl)) rfl hd rfl (nI_pos (by omega)) (by rw [hk2]; omega) (Nat.le_trans h1 hrm.2.2.1) (by rw [hk2]; exact Nat.le_trans h2 hrm.2.2.2) (fun cA kA comp f1 f2 f3 f4 => ?_)
  have hcA : cA = E.2.2.2 kd := by
    have hRA := (hK.1.2 (zti kd) _ (zty_at kd (by omega) h19)).2
    rw [hta] at hRA
    obtain ⟨_, _, -, -, -, g⟩ := hRA
    exact Option.some.inj (f1.symm.trans g)
  rw [hk2]
  generalize hH1 : H.push ({ cls := cA, slots := Array.replicate k .null, vm := .none } : Cell) = H1
  have z1 : H1.size = H.size + 1 := by rw [← hH1, Array.size_push]
  have e1 : H1[H.size]? = some (arrV cA k (fun _ => .null)) := by rw [← hH1, Array.getElem?_push_size, ← arrV_new]
  have o1 : ∀ q : Nat, q < H.size → H1[q]? = H[q]? := fun q hq => by rw [← hH1, Array.getElem?_push, if_neg (Nat.ne_of_lt hq)]
  have hP1 : zPic E (znw m) s H1 := by
    refine hP.new z1 o1 ?_
    unfold zAt
    rw [hl, if_neg (by show ¬ kd < 10; omega), hz, e1, hcA]
    refine congrArg (fun f => some (arrV (E.2.2.2 kd) k f)) (funext fun j => ?_)
    rw [zvl_n0, hl]
    have h5 : kd = 15 ∨ kd = 16 ∨ kd = 17 ∨ kd = 18 := by omega
    rcases h5 with rfl | rfl | rfl | rfl <;> rfl
  have := kk p l e R s mid args below meth c F E X H1 locs lr hP1 hlo hls
  rw [← hz]
  exact this
/-- the script -/
theorem zr_sload {j : Int32} (hd : decode M.2.2.1 pc = .ok (.iaload, 1)) (hj : vp_in j (zR m 1 0)) (kk : zwp d M mc ms Q (pc + 1) ls (.int (zI m 1 j.toNatClampNeg) :: st) uc us m) : zwp d M mc ms Q pc ls (.int j :: .ref 1 :: st) uc us m := by
  intro p l e R s mid args below meth c F E X H locs lr hP hlo hls
  obtain ⟨scr, h1, h2, h3, h4, h5⟩ := hP.2.2.2.1
  have hlt : j.toNatClampNeg < zR m 1 0 := Nat.not_le.mp fun q => hj (Or.inr q)
  exact W.iald (v := .int (zI m 1 j.toNatClampNeg)) X.1 X.2.1 h1 h2 h3 (by rw [h4]; exact hj) (h5 _ hlt) rfl rfl hd (kk p l e R s mid args below meth c F E X H locs lr hP hlo hls)
theorem zr_slen (hd : decode M.2.2.1 pc = .ok (.arraylength, 1)) (kk : zwp d M mc ms Q (pc + 1) ls (.int (nI (zR m 1 0)) :: st) uc us m) : zwp d M mc ms Q pc ls (.ref 1 :: st) uc us m := by
  intro p l e R s mid args below meth c F E X H locs lr hP hlo hls
  obtain ⟨scr, h1, h2, h3, h4, h5⟩ := hP.2.2.2.1
  exact W.alen (n := nI (zR m 1 0)) X.1 X.2.1 h1 h2 (by rw [h4]; rfl) rfl rfl hd (kk p l e R s mid args below meth c F E X H locs lr hP hlo hls)
/-! contracts -/
def zPc (E : zE) (as : List Value) (m : zM) : Array Value → State → Prop := fun v U => v = (as.map (ztr E)).toArray ∧ zKs E U ∧ zPic E m U U.heap
def zrv (M : zMeth) (E : zE) (v : Value) : Option Value := match M.2.2.2.2.2 with
  | none => none
  | some _ => some (ztr E v)
def zQc (E : zE) (M : zMeth) (Q : Value → zM → Prop) : Array Value → State → Outcome → State → Prop := fun _ _ o t => ∃ (v : Value) (m' : zM), o = .returned (zrv M E v) ∧ Q v m' ∧ zPic E m' t t.heap
abbrev zws (M : zMeth) : List Cond := Cond.code M.2.2.2.2.1 M.2.2.1 M.2.2.2.1 M.2.2.2.2.2 :: zW
def zC (d : Nat) (M : zMeth) (mc ms : Nat) (as : List Value) (m : zM) (Q : Value → zM → Prop) : Prop :=
  ∀ (l : Launch) (E : zE), Met l M.2.2.2.2.1 (zws M) { frames := d, cells := mc, slots := ms, locals := 40 * d } (zPc E as m) (zQc E M Q) mc ms (fun q => E.2.1 ≤ q)
theorem zPc_blind (E : zE) (as : List Value) (m : zM) : FrameBlind (zPc E as m) := by
  intro a U g mk h
  obtain ⟨h1, h2, h3⟩ := h
  exact ⟨h1, ⟨va_K.moved (u := U) (U := U.calling g mk a) (Vm.Alike.refl U.vm) h2.1, h2.2.moved (s := U) (U := U.calling g mk a) (State.WarmedH.refl U)⟩, zPic.moved (u := U) (U := U.calling g mk a) (Vm.Alike.refl U.vm) h3⟩
/-- what the tables say of a method that is called -/
def zYs (M : zMeth) (na : Nat) : Prop :=
  Cond.code M.2.2.2.2.1 M.2.2.1 M.2.2.2.1 M.2.2.2.2.2 ∈ zW ∧ Cond.initialized M.2.2.2.2.1.cls ∈ zW ∧ (M.2.2.2.2.1.cls ≠ "java/lang/invoke/MethodHandle" ∧ M.2.2.2.2.1.cls ≠ "java/lang/invoke/VarHandle" ∧ (parseMethodDescriptor M.2.2.2.2.1.desc).map (fun d => d.parameters.length) = some na) ∧ M.2.2.2.1 ≤ 21 ∧ M.2.2.2.2.1.cls = zcn M.1
theorem zenter {as : List Value} (hy : plainName M.2.2.2.2.1.cls = true ∨ plainFor M.2.2.2.2.1 = true) (hcls : M.2.2.2.2.1.cls = zcn M.1) (hini : M.2.1 = true → M.2.2.2.2.1.name = "<init>") (hlen : (zen as).length ≤ M.2.2.2.1) (k : zwp d M mc ms Q 0 (zen as) [] 0 0 m) : zC d M mc ms as m Q := by
  intro l E
  have body : ∀ p e s mid args below meth c s₁, BodyLoose p l M.2.2.2.2.1 (headSpec (zws M) { frames := d, cells := mc, slots := ms, locals := 40 * d }) M.2.2.1 M.2.2.2.1 M.2.2.2.2.2 e s mid args below meth c s₁ → c.maxLocals = M.2.2.2.1 → zPc E as m args s →
      W p l e (headSpec (zws M) { frames := d, cells := mc, slots := ms, locals := 40 * d }).room s mid args below meth c s.heap [] 0 0 (MQ below (zQc E M Q) args s mc ms (fun q => E.2.1 ≤ q)) (entryFrame mid args M.2.2.2.1) := ?_
  · rcases hy with hy | hy
    · exact Met.ofW (cc := M.2.2.1) (maxL := M.2.2.2.1) (ret := M.2.2.2.2.2) hy rfl body
    · exact va_MetF (cc := M.2.2.1) (maxL := M.2.2.2.1) (ret := M.2.2.2.2.2) hy rfl body
  intro p e s mid args below meth c s₁ B hml hv
  obtain ⟨rfl, hK, hP⟩ := hv
  have hr := B.returns
  have hlocks := B.notSynchronized
  have hin : meth.name = M.2.2.2.2.1.name := (name_of_methodNamed B.named B.method).1
  have hts := atoms_spec (ws := zws M) B.pre
  have X : zCtx d M mc ms Q p l e (headSpec (zws M) { frames := d, cells := mc, slots := ms, locals := 40 * d }).room s mid ((as.map (ztr E)).toArray) below meth c (MQ below (zQc E M Q) ((as.map (ztr E)).toArray) s mc ms (fun q => E.2.1 ≤ q)) E := by
    refine ⟨B.exec, B.bytes, hml, ?_, fun w hw => hts w (List.mem_cons_of_mem _ hw), hK, ⟨Nat.le_refl _, Nat.le_refl _, Nat.le_refl _, Nat.le_refl _⟩, fun h => hin.trans (hini h), ?_⟩
    · rw [← hcls]; exact findClass_of_methodNamed B.named
    · intro H locs lr pc uc us i v m' hret hd h1 h2 hP' hlo hq
      refine W.widen h1 h2 ?_
      have hQ : ∀ t : State, t.heap = H → s.WarmedH t.vm → zQc E M Q ((as.map (ztr E)).toArray) s (.returned (zrv M E v)) t := fun t ht hW => ⟨v, m', rfl, hq, by rw [ht]; exact hP'.moved hW.alike⟩
      rcases hret with ⟨r1, rfl, rfl⟩ | ⟨r1, rfl, x, rfl⟩ | ⟨r1, rfl, hx⟩ | ⟨r1, rfl, x, rfl⟩ | ⟨⟨n, r1⟩, rfl, x, rfl⟩
      · have e1 : zrs M E .null = [] := by unfold zrs; rw [r1]
        have e2 : zrv M E .null = none := by unfold zrv; rw [r1]
        rw [e1]
        rw [e2] at hQ
        exact W.vret B.exec B.bytes (hr.trans r1) hQ hlo hd
      · have e1 : zrs M E (.int x) = [.int x] := by unfold zrs; rw [r1]; rfl
        have e2 : zrv M E (.int x) = some (.int x) := by unfold zrv; rw [r1]; rfl
        rw [e1]
        rw [e2] at hQ
        exact W.iret B.exec B.bytes (hr.trans r1) hQ hlo hd
      · obtain ⟨x, rfl, hx2⟩ : ∃ x, v = .int x ∧ narrow .boolean (.int x) = .int x := by
          rcases hx with rfl | rfl
          · exact ⟨0, rfl, rfl⟩
          · exact ⟨1, rfl, rfl⟩
        have e1 : zrs M E (.int x) = [.int x] := by unfold zrs; rw [r1]; rfl
        have e2 : zrv M E (.int x) = some (.int x) := by unfold zrv; rw [r1]; rfl
        rw [e1]
        rw [e2] at hQ
        exact W.zret (ty := .boolean) B.exec B.bytes (hr.trans r1) hx2 hQ hlo hd
      · have e1 : zrs M E (.long x) = [.long x] := by unfold zrs; rw [r1]; rfl
        have e2 : zrv M E (.long x) = some (.long x) := by unfold zrv; rw [r1]; rfl
        rw [e1]
        rw [e2] at hQ
        exact W.lret B.exec B.bytes (hr.trans r1) hQ hlo hd
      · have e1 : zrs M E (.ref x) = [.ref (zad E x)] := by unfold zrs; rw [r1]; rfl
        have e2 : zrv M E (.ref x) = some (.ref (zad E x)) := by unfold zrv; rw [r1]; rfl
        rw [e1]
        rw [e2] at hQ
        exact W.aret B.exec B.bytes (hr.trans r1) (Or.inl ⟨n, rfl⟩) (Or.inr ⟨_, rfl⟩) hQ hlo hd
  have hl := lv_entry (as.map (ztr E)) (n := M.2.2.2.1) (by rw [zen_len]; exact hlen)
  rw [lg_entry_eq]
  generalize (lg_sl (as.map (ztr E)) ++ List.replicate (M.2.2.2.1 - (lg_sl (as.map (ztr E))).length) Slot.unset).toArray = lr at hl ⊢
  exact k p l e _ s mid _ below meth c _ E X s.heap [] lr hP (fun q h => by cases h) ⟨hl.1, hl.2.1, fun i hi => hl.2.2 _ (by have := zen_args E as 0 i hi; rwa [Nat.zero_add] at this)⟩
/-- behind a call -/
theorem zback {p : Program} {l : Launch} {e : Env} {R : Room} {s : State} {mid : MethodId} {args : Array Value} {below : List Frame} {meth : Method} {c : Code} {F : State → Prop} {E : zE} {H : Heap} {locs : List Loc} {lr : Array Slot} {M' : zMeth} {mc' ms' : Nat} {P : Value → zM → Prop} {A : Array Value} {st0 rest : List Value}
    (hr : va_Run p l e R s mid args below meth c H locs uc us mc' ms' (F0 mid pc lr st0) rest (zQc E M' P A) (fun q => E.2.1 ≤ q)) (hlo : ∀ q ∈ locs, E.2.1 ≤ q.base)
    (kk : ∀ (v : Value) (m' : zM) (H1 : Heap) (locs1 : List Loc), P v m' → zPic E m' s H1 → (∀ q ∈ locs1, E.2.1 ≤ q.base) → W p l e R s mid args below meth c H1 locs1 (uc + mc') (us + ms') F (F0 mid (pc + 3) lr ((zrv M' E v).toList ++ rest))) :
    W p l e R s mid args below meth c H locs uc us F (F0 mid pc lr st0) := by
  intro T hT X
  obtain ⟨v, st₀, t, T', L, h0, X', hL, e1, e2, ⟨v', m', hv, hp, hpic⟩, stp⟩ := hr T hT X
  have hv' : v = zrv M' E v' := Outcome.returned.inj hv
  subst hv'
  have hal : t.vm.Alike s.vm := by rw [← e2]; exact X'.warmed.alike.symm
  obtain ⟨t2, a1, b1⟩ := kk v' m' T'.heap (locs ++ L) hp (by rw [e1]; exact hpic.moved hal) (fun q hq => by
    rcases List.mem_append.mp hq with h | h
    · exact hlo q h
    · exact hL q h) T' rfl X'
  exact ⟨t2, stp t2 a1, b1⟩
def zVs (own idx : Nat) (M' : zMeth) (na : Nat) : Prop := zYs M' na ∧ Cond.methodLink (zcn own) idx M'.2.2.2.2.1 ∈ zW ∧ Cond.instanceMethod M'.2.2.2.2.1 ∈ zW ∧ Cond.selects (zcn M'.1) M'.2.2.2.2.1 M'.2.2.2.2.1 ∈ zW ∧ M'.1 < 10
def zSs (own idx : Nat) (M' : zMeth) (na : Nat) : Prop := zYs M' na ∧ Cond.methodLink (zcn own) idx M'.2.2.2.2.1 ∈ zW ∧ Cond.static M'.2.2.2.2.1 ∈ zW
def zSn (own idx : Nat) (M' : zMeth) (na : Nat) : Prop := zYs M' na ∧ (∃ host, Cond.methodLinkNest (zcn own) idx M'.2.2.2.2.1 host ∈ lw_tbl) ∧ Cond.static M'.2.2.2.2.1 ∈ zW
def zIs (own idx : Nat) (M' : zMeth) (na : Nat) : Prop := zYs M' na ∧ Cond.methodLink (zcn own) idx M'.2.2.2.2.1 ∈ zW ∧ Cond.instanceMethod M'.2.2.2.2.1 ∈ zW ∧ M'.2.2.2.2.1.name = "<init>" ∧ M'.2.2.2.2.2 = none
def zIn (own idx : Nat) (M' : zMeth) (na : Nat) : Prop := zYs M' na ∧ (∃ host, Cond.methodLinkNest (zcn own) idx M'.2.2.2.2.1 host ∈ lw_tbl) ∧ Cond.instanceMethod M'.2.2.2.2.1 ∈ zW ∧ M'.2.2.2.2.1.name = "<init>" ∧ M'.2.2.2.2.2 = none
/-- a call by invokevirtual: as the arguments, the last one first on the stack -/
theorem zr_callV {M' : zMeth} {idx na a mc' ms' : Nat} {as rest : List Value} (hd : decode M.2.2.1 pc = .ok (.invokevirtual idx, 3)) (hv : zVs M.1 idx M' na) (ho : zOb m a M'.1) (hst : st = as.reverse ++ .ref a :: rest) (hna : as.length = na) (hcat : (rest.map fun v => v.category).sum ≤ 8) (h1 : uc + mc' ≤ mc) (h2 : us + ms' ≤ ms)
    (hc : zC d M' mc' ms' (.ref a :: as) m (fun v m' => zwp (d + 1) M mc ms Q (pc + 3) ls ((match M'.2.2.2.2.2 with | none => rest | some _ => v :: rest)) (uc + mc') (us + ms') m')) : zwp (d + 1) M mc ms Q pc ls st uc us m := by
  intro p l e R s mid args below meth c F E X H locs lr hP hlo hls
  obtain ⟨hx, hb, hml, hown, hts, hK, hrm, -⟩ := id X
  obtain ⟨⟨y1, y2, y3, y4, y6⟩, v1, v2, v3, v4⟩ := hv
  subst hst
  have hM := hc l E
  have hcat' : ((rest.map (ztr E)).map fun v => v.category).sum ≤ 8 := by
    rw [List.map_map]
    simpa [Function.comp_def, ztr_cat] using hcat
  obtain ⟨cell, q1, q2, q3, q4⟩ := (hP.2.2.2.2 a ho.2.1 ho.2.2).ob ho.1 v4
  refine zback (M' := M') (rest := rest.map (ztr E)) (va_runV (As := as.map (ztr E)) (b := zad E a) (C := zcn M'.1) (nL := M.2.2.2.1) (own := zcn M.1) (Ts := zW) (bytes := M'.2.2.1) (maxL := M'.2.2.2.1) (ret := M'.2.2.2.2.2) ⟨hx, hb, hml, hown, hts⟩ hM
    (cwV (ws' := zW) na hts (fun w hw => ?_) rfl rfl rfl ⟨y6, y3⟩ ⟨hrm.1, by show 8 + (M'.2.2.2.1 + 11) + 40 * d ≤ R.locals; have := hrm.2.1; omega⟩)
    ⟨zPc_blind _ _ _, ⟨cell, q1, by rw [q3]; rfl, by rw [q2, ← zcl_nm _ v4]; exact (hK.1.1 M'.1 _ (zcl_at _ v4)).2.1⟩, fun U hU hW => ⟨by simp [ztr], hK.moved hW, by rw [hU]; exact hP.moved hW.alike⟩⟩ rfl (by rw [List.length_map]; exact hna) hls.1 (by simp [ztr]) (lv_room hcat') hd ⟨Nat.le_trans h1 hrm.2.2.1, Nat.le_trans h2 hrm.2.2.2⟩) hlo ?_
  · refine zW_good ?_
    simp only [wsV, List.cons_append, List.nil_append, List.mem_cons] at hw
    rcases hw with rfl | rfl | rfl | rfl | rfl | hw
    · exact v1
    · exact v2
    · exact v3
    · rw [← y6]; exact y2
    · exact y1
    · exact hw
  · intro v m' H1 locs1 hp hP1 hlo1
    have := hp p l e R s mid args below meth c F E X H1 locs1 lr hP1 hlo1 hls
    unfold zrv
    cases hrt : M'.2.2.2.2.2 with
    | none => rw [hrt] at this; exact this
    | some t => rw [hrt] at this; exact this
theorem zr_callS {M' : zMeth} {idx na mc' ms' : Nat} {as rest : List Value} (hd : decode M.2.2.1 pc = .ok (.invokestatic idx, 3)) (hv : zSs M.1 idx M' na) (hst : st = as.reverse ++ rest) (hna : as.length = na) (hcat : (rest.map fun v => v.category).sum ≤ 8) (h1 : uc + mc' ≤ mc) (h2 : us + ms' ≤ ms)
    (hc : zC d M' mc' ms' as m (fun v m' => zwp (d + 1) M mc ms Q (pc + 3) ls ((match M'.2.2.2.2.2 with | none => rest | some _ => v :: rest)) (uc + mc') (us + ms') m')) : zwp (d + 1) M mc ms Q pc ls st uc us m := by
  intro p l e R s mid args below meth c F E X H locs lr hP hlo hls
  obtain ⟨hx, hb, hml, hown, hts, hK, hrm, -⟩ := id X
  obtain ⟨⟨y1, y2, y3, y4, y6⟩, v1, v2⟩ := hv
  subst hst
  have hM := hc l E
  have hcat' : ((rest.map (ztr E)).map fun v => v.category).sum ≤ 8 := by
    rw [List.map_map]
    simpa [Function.comp_def, ztr_cat] using hcat
  refine zback (M' := M') (rest := rest.map (ztr E)) (va_runS (As := as.map (ztr E)) (nL := M.2.2.2.1) (own := zcn M.1) (Ts := zW) (bytes := M'.2.2.1) (maxL := M'.2.2.2.1) (ret := M'.2.2.2.2.2) ⟨hx, hb, hml, hown, hts⟩ hM
    (va_cwS (ws' := zW) na hts (fun w hw => ?_) rfl rfl rfl y3 ⟨hrm.1, by show 8 + (M'.2.2.2.1 + 11) + 40 * d ≤ R.locals; have := hrm.2.1; omega⟩)
    ⟨zPc_blind _ _ _, fun U hU hW => ⟨rfl, hK.moved hW, by rw [hU]; exact hP.moved hW.alike⟩⟩ rfl (by rw [List.length_map]; exact hna) hls.1 (by simp) (lv_room hcat') hd ⟨Nat.le_trans h1 hrm.2.2.1, Nat.le_trans h2 hrm.2.2.2⟩) hlo ?_
  · refine zW_good ?_
    simp only [va_wsS, List.cons_append, List.nil_append, List.mem_cons] at hw
    rcases hw with rfl | rfl | rfl | rfl | hw
    · exact v1
    · exact v2
    · exact y2
    · exact y1
    · exact hw
  · intro v m' H1 locs1 hp hP1 hlo1
    have := hp p l e R s mid args below meth c F E X H1 locs1 lr hP1 hlo1 hls
    unfold zrv
    cases hrt : M'.2.2.2.2.2 with
    | none => rw [hrt] at this; exact this
    | some t => rw [hrt] at this; exact this
theorem zr_callSN {M' : zMeth} {idx na mc' ms' : Nat} {as rest : List Value} (hd : decode M.2.2.1 pc = .ok (.invokestatic idx, 3)) (hv : zSn M.1 idx M' na) (hst : st = as.reverse ++ rest) (hna : as.length = na) (hcat : (rest.map fun v => v.category).sum ≤ 8) (h1 : uc + mc' ≤ mc) (h2 : us + ms' ≤ ms)
    (hc : zC d M' mc' ms' as m (fun v m' => zwp (d + 1) M mc ms Q (pc + 3) ls ((match M'.2.2.2.2.2 with | none => rest | some _ => v :: rest)) (uc + mc') (us + ms') m')) : zwp (d + 1) M mc ms Q pc ls st uc us m := by
  intro p l e R s mid args below meth c F E X H locs lr hP hlo hls
  obtain ⟨hx, hb, hml, hown, hts, hK, hrm, -⟩ := id X
  obtain ⟨⟨y1, y2, y3, y4, y6⟩, ⟨host, v1⟩, v2⟩ := hv
  subst hst
  have hM := hc l E
  have hcat' : ((rest.map (ztr E)).map fun v => v.category).sum ≤ 8 := by
    rw [List.map_map]
    simpa [Function.comp_def, ztr_cat] using hcat
  refine zback (M' := M') (rest := rest.map (ztr E)) (va_runSN (As := as.map (ztr E)) (nL := M.2.2.2.1) (own := zcn M.1) (host := host) (Ts := zW) (bytes := M'.2.2.1) (maxL := M'.2.2.2.1) (ret := M'.2.2.2.2.2) ⟨hx, hb, hml, hown, hts⟩ hM
    ⟨va_cnB (Ts := zW) (ws' := zW) na hts (zGood y1 (fun x h => h)) rfl rfl rfl (hK.2 _ v1 rfl) (hts _ y2) y3 ⟨hrm.1, by show 8 + (M'.2.2.2.1 + 11) + 40 * d ≤ R.locals; have := hrm.2.1; omega⟩, hts _ v2, trivial⟩
    ⟨zPc_blind _ _ _, fun U hU hW => ⟨rfl, hK.moved hW, by rw [hU]; exact hP.moved hW.alike⟩⟩ rfl (by rw [List.length_map]; exact hna) hls.1 (by simp) (lv_room hcat') hd ⟨Nat.le_trans h1 hrm.2.2.1, Nat.le_trans h2 hrm.2.2.2⟩) hlo ?_
  intro v m' H1 locs1 hp hP1 hlo1
  have := hp p l e R s mid args below meth c F E X H1 locs1 lr hP1 hlo1 hls
  unfold zrv
  cases hrt : M'.2.2.2.2.2 with
  | none => rw [hrt] at this; exact this
  | some t => rw [hrt] at this; exact this
theorem zr_callI {M' : zMeth} {idx na a mc' ms' : Nat} {as rest : List Value} (hd : decode M.2.2.1 pc = .ok (.invokespecial idx, 3)) (hv : zIs M.1 idx M' na) (hst : st = as.reverse ++ .ref a :: rest) (hna : as.length = na) (hcat : (rest.map fun v => v.category).sum ≤ 8) (h1 : uc + mc' ≤ mc) (h2 : us + ms' ≤ ms)
    (hc : zC d M' mc' ms' (.ref a :: as) m (fun _ m' => zwp (d + 1) M mc ms Q (pc + 3) ls rest (uc + mc') (us + ms') m')) : zwp (d + 1) M mc ms Q pc ls st uc us m := by
  intro p l e R s mid args below meth c F E X H locs lr hP hlo hls
  obtain ⟨hx, hb, hml, hown, hts, hK, hrm, -⟩ := id X
  obtain ⟨⟨y1, y2, y3, y4, y6⟩, v1, v2, v3, v4⟩ := hv
  subst hst
  have hM := hc l E
  have hcat' : ((rest.map (ztr E)).map fun v => v.category).sum ≤ 8 := by
    rw [List.map_map]
    simpa [Function.comp_def, ztr_cat] using hcat
  have y1' : Cond.code M'.2.2.2.2.1 M'.2.2.1 M'.2.2.2.1 none ∈ zW := by rw [← v4]; exact y1
  refine zback (M' := M') (rest := rest.map (ztr E)) (va_runI (As := as.map (ztr E)) (b := zad E a) (nL := M.2.2.2.1) (own := zcn M.1) (Ts := zW) (bytes := M'.2.2.1) (maxL := M'.2.2.2.1) ⟨hx, hb, hml, hown, hts⟩ hM
    (cwI (Ts := zW) (ws' := zW) na hts (by unfold zws; rw [v4]; exact zGood y1' (fun x h => h)) (by unfold zws; rw [v4]) rfl rfl (hts _ y2) (hts _ v1) (hts _ v2) v3 y3 ⟨hrm.1, by show 8 + (M'.2.2.2.1 + 11) + 40 * d ≤ R.locals; have := hrm.2.1; omega⟩)
    ⟨zPc_blind _ _ _, fun U hU hW => ⟨rfl, hK.moved hW, by rw [hU]; exact hP.moved hW.alike⟩⟩ rfl (by rw [List.length_map]; exact hna) hls.1 (by simp [ztr]) (lv_room hcat') hd ⟨Nat.le_trans h1 hrm.2.2.1, Nat.le_trans h2 hrm.2.2.2⟩) hlo ?_
  intro v m' H1 locs1 hp hP1 hlo1
  have := hp p l e R s mid args below meth c F E X H1 locs1 lr hP1 hlo1 hls
  unfold zrv
  rw [v4]
  exact this
theorem zr_callIN {M' : zMeth} {idx na a mc' ms' : Nat} {as rest : List Value} (hd : decode M.2.2.1 pc = .ok (.invokespecial idx, 3)) (hv : zIn M.1 idx M' na) (hst : st = as.reverse ++ .ref a :: rest) (hna : as.length = na) (hcat : (rest.map fun v => v.category).sum ≤ 8) (h1 : uc + mc' ≤ mc) (h2 : us + ms' ≤ ms)
    (hc : zC d M' mc' ms' (.ref a :: as) m (fun _ m' => zwp (d + 1) M mc ms Q (pc + 3) ls rest (uc + mc') (us + ms') m')) : zwp (d + 1) M mc ms Q pc ls st uc us m := by
  intro p l e R s mid args below meth c F E X H locs lr hP hlo hls
  obtain ⟨hx, hb, hml, hown, hts, hK, hrm, -⟩ := id X
  obtain ⟨⟨y1, y2, y3, y4, y6⟩, ⟨host, v1⟩, v2, v3, v4⟩ := hv
  subst hst
  have hM := hc l E
  have hcat' : ((rest.map (ztr E)).map fun v => v.category).sum ≤ 8 := by
    rw [List.map_map]
    simpa [Function.comp_def, ztr_cat] using hcat
  have y1' : Cond.code M'.2.2.2.2.1 M'.2.2.1 M'.2.2.2.1 none ∈ zW := by rw [← v4]; exact y1
  refine zback (M' := M') (rest := rest.map (ztr E)) (va_runIN (As := as.map (ztr E)) (b := zad E a) (nL := M.2.2.2.1) (own := zcn M.1) (host := host) (Ts := zW) (bytes := M'.2.2.1) (maxL := M'.2.2.2.1) ⟨hx, hb, hml, hown, hts⟩ hM
    ⟨va_cnB (Ts := zW) (ws' := zW) na hts (by unfold zws; rw [v4]; exact zGood y1' (fun x h => h)) (by unfold zws; rw [v4]) rfl rfl (hK.2 _ v1 rfl) (hts _ y2) y3 ⟨hrm.1, by show 8 + (M'.2.2.2.1 + 11) + 40 * d ≤ R.locals; have := hrm.2.1; omega⟩, v3, hts _ v2⟩
    ⟨zPc_blind _ _ _, fun U hU hW => ⟨rfl, hK.moved hW, by rw [hU]; exact hP.moved hW.alike⟩⟩ rfl (by rw [List.length_map]; exact hna) hls.1 (by simp [ztr]) (lv_room hcat') hd ⟨Nat.le_trans h1 hrm.2.2.1, Nat.le_trans h2 hrm.2.2.2⟩) hlo ?_
  intro v m' H1 locs1 hp hP1 hlo1
  have := hp p l e R s mid args below meth c F E X H1 locs1 lr hP1 hlo1 hls
  unfold zrv
  rw [v4]
  exact this
theorem zr_objInit {idx a : Nat} {rest : List Value} (hd : decode M.2.2.1 pc = .ok (.invokespecial idx, 3)) (h1 : Cond.methodLink (zcn M.1) idx Lib.objectInit ∈ zW) (h2 : Cond.instanceMethod Lib.objectInit ∈ zW) (h3 : Cond.code Lib.objectInit ⟨#[0xb1]⟩ 1 none ∈ zW) (hcat : (rest.map fun v => v.category).sum ≤ 8) (kk : zwp (d + 1) M mc ms Q (pc + 3) ls rest uc us m) : zwp (d + 1) M mc ms Q pc ls (.ref a :: rest) uc us m := by
  intro p l e R s mid args below meth c F E X H locs lr hP hlo hls
  obtain ⟨hx, hb, hml, hown, hts, hK, hrm, -⟩ := id X
  have hcat' : ((rest.map (ztr E)).map fun v => v.category).sum ≤ 8 := by
    rw [List.map_map]
    simpa [Function.comp_def, ztr_cat] using hcat
  exact W.objInit (rest := rest.map (ztr E)) (a := zad E a) hx hb hown (hts _ h1) (hts _ h2) (hts _ h3) rfl (hls.1.trans hml.symm) rfl hd (by have := hrm.1; omega) (by have := lv_room (m := mid) (pc := pc) (ls := lr) (rest := []) hcat'; have := hrm.2.1; exact Nat.le_trans (Nat.add_le_add_right (lv_room hcat') 12) (by omega)) (kk p l e R s mid args below meth c F E X H locs lr hP hlo hls)
theorem zr_mmax {idx : Nat} {x y : Int32} (hd : decode M.2.2.1 pc = .ok (.invokestatic idx, 3)) (h1 : Cond.methodLink (zcn M.1) idx Lib.Math.max.name ∈ zW) (h2 : Cond.static Lib.Math.max.name ∈ zW) (h3 : Cond.initialized "java/lang/Math" ∈ zW) (h4 : Cond.code Lib.Math.max.name Lib.Math.max.code 2 (some .int) ∈ zW) (hcat : (st.map fun v => v.category).sum ≤ 8) (h5 : uc ≤ mc) (h6 : us ≤ ms) (kk : zwp (d + 1) M mc ms Q (pc + 3) ls (.int (if x < y then y else x) :: st) uc us m) : zwp (d + 1) M mc ms Q pc ls (.int y :: .int x :: st) uc us m := by
  intro p l e R s mid args below meth c F E X H locs lr hP hlo hls
  obtain ⟨hx, hb, hml, hown, hts, hK, hrm, -⟩ := id X
  have hcat' : ((st.map (ztr E)).map fun v => v.category).sum ≤ 8 := by
    rw [List.map_map]
    simpa [Function.comp_def, ztr_cat] using hcat
  exact va_mmax hx hb (hml.trans hls.1.symm) hown (hts _ h1) (hts _ h2) (hts _ h3) (hts _ h4) (by have := hrm.1; omega) (by have := hrm.2.1; omega) (Nat.le_trans h5 hrm.2.2.1) (Nat.le_trans h6 hrm.2.2.2) hd (kk p l e R s mid args below meth c F E X H locs lr hP hlo hls)
theorem zr_mmin {idx : Nat} {x y : Int32} (hd : decode M.2.2.1 pc = .ok (.invokestatic idx, 3)) (h1 : Cond.methodLink (zcn M.1) idx Lib.Math.min.name ∈ zW) (h2 : Cond.static Lib.Math.min.name ∈ zW) (h3 : Cond.initialized "java/lang/Math" ∈ zW) (h4 : Cond.code Lib.Math.min.name Lib.Math.min.code 2 (some .int) ∈ zW) (hcat : (st.map fun v => v.category).sum ≤ 8) (h5 : uc ≤ mc) (h6 : us ≤ ms) (kk : zwp (d + 1) M mc ms Q (pc + 3) ls (.int (if y < x then y else x) :: st) uc us m) : zwp (d + 1) M mc ms Q pc ls (.int y :: .int x :: st) uc us m := by
  intro p l e R s mid args below meth c F E X H locs lr hP hlo hls
  obtain ⟨hx, hb, hml, hown, hts, hK, hrm, -⟩ := id X
  have hcat' : ((st.map (ztr E)).map fun v => v.category).sum ≤ 8 := by
    rw [List.map_map]
    simpa [Function.comp_def, ztr_cat] using hcat
  exact va_mmin hx hb (hml.trans hls.1.symm) hown (hts _ h1) (hts _ h2) (hts _ h3) (hts _ h4) (by have := hrm.1; omega) (by have := hrm.2.1; omega) (Nat.le_trans h5 hrm.2.2.1) (Nat.le_trans h6 hrm.2.2.2) hd (kk p l e R s mid args below meth c F E X H locs lr hP hlo hls)
theorem zr_f2i {idx : Nat} {b : UInt32} (hd : decode M.2.2.1 pc = .ok (.invokestatic idx, 3)) (h1 : Cond.methodLink (zcn M.1) idx ⟨"java/lang/Float", "floatToRawIntBits", "(F)I"⟩ ∈ zW) (h2 : Cond.native ⟨"java/lang/Float", "floatToRawIntBits", "(F)I"⟩ ∈ zW) (h3 : Cond.static ⟨"java/lang/Float", "floatToRawIntBits", "(F)I"⟩ ∈ zW) (h4 : Cond.initialized "java/lang/Float" ∈ zW) (hcat : (st.map fun v => v.category).sum ≤ 8) (kk : zwp (d + 1) M mc ms Q (pc + 3) ls (.int b.toInt32 :: st) uc us m) : zwp (d + 1) M mc ms Q pc ls (.float b :: st) uc us m := by
  intro p l e R s mid args below meth c F E X H locs lr hP hlo hls
  obtain ⟨hx, hb, hml, hown, hts, hK, hrm, -⟩ := id X
  have hcat' : ((st.map (ztr E)).map fun v => v.category).sum ≤ 8 := by
    rw [List.map_map]
    simpa [Function.comp_def, ztr_cat] using hcat
  exact vn_f2i hx hb (hml.trans hls.1.symm) hown (hts _ h1) (hts _ h2) (hts _ h3) (hts _ h4) (by have := hrm.1; omega) (by have := hrm.2.1; omega) hd (kk p l e R s mid args below meth c F E X H locs lr hP hlo hls)
end
