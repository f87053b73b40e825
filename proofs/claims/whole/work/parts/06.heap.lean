/-! ===== the heap: fields, arrays, new cells ===== -/
def zct (ci : Nat) : Nat → FieldType := match ci with
  | 0 => tyX0
  | 1 => tyX1
  | 2 => tyX2
  | 3 => tyX3
  | 4 => tyX4
  | 5 => tyX5
  | 6 => tyX6
  | 7 => tyX7
  | 8 => tyX8
  | _ => tyX9
theorem z10 {P : Nat → Prop} (h0 : P 0) (h1 : P 1) (h2 : P 2) (h3 : P 3) (h4 : P 4) (h5 : P 5) (h6 : P 6) (h7 : P 7) (h8 : P 8) (h9 : P 9) : ∀ ci, ci < 10 → P ci := by
  intro ci h
  match ci, h with
  | 0, _ => exact h0
  | 1, _ => exact h1
  | 2, _ => exact h2
  | 3, _ => exact h3
  | 4, _ => exact h4
  | 5, _ => exact h5
  | 6, _ => exact h6
  | 7, _ => exact h7
  | 8, _ => exact h8
  | 9, _ => exact h9
theorem zcl_at : ∀ ci, ci < 10 → vwCl[ci]? = some (zcl ci) := z10 rfl rfl rfl rfl rfl rfl rfl rfl rfl rfl
theorem zct_ok : ∀ ci, ci < 10 → ∀ k, k < (zcl ci).2.2 → parseFieldDescriptor ((zcl ci).2.1 k).2.2.1 = some (zct ci k) := z10 tyX0_ok tyX1_ok tyX2_ok tyX3_ok tyX4_ok tyX5_ok tyX6_ok tyX7_ok tyX8_ok tyX9_ok
theorem zct_nm : ∀ ci, ci < 10 → ∀ a, a < (zcl ci).2.2 → ∀ b, b < (zcl ci).2.2 → a ≠ b → ((zcl ci).2.1 a).2.1 ≠ ((zcl ci).2.1 b).2.1 := z10 nmX0 nmX1 nmX2 nmX3 nmX4 nmX5 nmX6 nmX7 nmX8 nmX9
def zd0 (t : Nat) : Value := if t = 0 then .int 0 else if t = 1 then .null else if t = 2 then .long 0 else .float 0
theorem zct_df : ∀ ci, ci < 10 → ∀ k, k < (zcl ci).2.2 → defaultValue (zct ci k) = zd0 (zft ci k) := by decide +kernel
theorem zlay_in : ∀ ci, ci < 10 → ∀ w ∈ u_ws (zcl ci).1 (zcl ci).2.1 (zcl ci).2.2, w ∈ zW := by decide +kernel
theorem zcl_nm : ∀ ci, ci < 10 → (zcl ci).1 = zcn ci := z10 rfl rfl rfl rfl rfl rfl rfl rfl rfl rfl
/-- a field as an instruction names it: class and place, its type, whether it is final -/
def zFd (own idx ci k : Nat) (ty : FieldType) (fin : Bool) : Prop :=
  ci < 10 ∧ k < (zcl ci).2.2 ∧ Cond.fieldLink (zcn own) idx ((zcl ci).2.1 k).1 ((zcl ci).2.1 k).2.1 ((zcl ci).2.1 k).2.2.1 ∈ zW ∧ parseFieldDescriptor ((zcl ci).2.1 k).2.2.1 = some ty ∧ ((zcl ci).2.1 k).2.2.2 = fin ∧ ((zcl ci).2.1 k).1 = (zcl ci).1
theorem zad_ne {E : zE} {a b : Nat} (ha : 2 ≤ a) (hb : 2 ≤ b) (h : a ≠ b) : zad E a ≠ zad E b := by
  unfold zad
  rw [if_neg (by omega), if_neg (by omega)]
  omega
theorem zad_ge {E : zE} {a : Nat} (ha : 2 ≤ a) : E.2.1 ≤ zad E a := by
  unfold zad
  rw [if_neg (by omega)]
  omega
theorem zAt.kept {E : zE} {m m' : zM} {a : Nat} {H H' : Heap} (h : zAt E m a H) (hH : H'[zad E a]? = H[zad E a]?) (hv : ∀ k, zvl E m' a k = zvl E m a k) : zAt E m' a H' := by
  have e : zvl E m' a = zvl E m a := funext hv
  unfold zAt at h ⊢
  rw [e]
  split
  · rename_i hk
    rw [if_pos hk] at h
    exact h.kept hH
  · rename_i hk
    rw [if_neg hk] at h
    exact hH.trans h
/-- the script's row is the same -/
def zS1 (m m' : zM) : Prop := zI m' 1 = zI m 1 ∧ zR m' 1 0 = zR m 1 0
theorem zS1_I {m : zM} {a k : Nat} {v : Int32} (ha : 2 ≤ a) : zS1 m (zsI m a k v) := ⟨funext fun j => by simp only [zI, zsI, zu]; rw [if_neg (by omega)], rfl⟩
theorem zS1_R {m : zM} {a k v : Nat} (ha : 2 ≤ a) : zS1 m (zsR m a k v) := ⟨rfl, by simp only [zR, zsR, zu]; rw [if_neg (by omega)]⟩
theorem zS1_L {m : zM} {a k : Nat} {v : Int64} : zS1 m (zsL m a k v) := ⟨rfl, rfl⟩
theorem zS1_F {m : zM} {a k : Nat} {v : UInt32} : zS1 m (zsF m a k v) := ⟨rfl, rfl⟩
theorem zPic.put {E : zE} {m m' : zM} {s : State} {H H' : Heap} {a : Nat} (hP : zPic E m s H) (ha : 2 ≤ a) (hz : zn m' = zn m) (h1s : zS1 m m') (hs : H'.size = H.size) (ho : ∀ q : Nat, q ≠ zad E a → H'[q]? = H[q]?)
    (hv : ∀ a', a' ≠ a → ∀ k, zvl E m' a' k = zvl E m a' k) (hat : zAt E m' a H') : zPic E m' s H' := by
  obtain ⟨h1, h2, h3, h4, h5⟩ := hP
  refine ⟨by rw [hz]; exact h1, by rw [hs, hz]; exact h2, h3, ?_, fun a' h6 h7 => ?_⟩
  · rw [h1s.1, h1s.2]
    refine va_X.kept h4 (ho _ ?_)
    have := zad_ge (E := E) ha
    omega
  · by_cases e : a' = a
    · rw [e]; exact hat
    · exact (h5 a' h6 (by rw [← hz]; exact h7)).kept (ho _ (zad_ne h6 ha e)) (hv a' e)
theorem zvl_I {E : zE} {m : zM} {a k : Nat} {v : Int32} : ∀ a', a' ≠ a → ∀ j, zvl E (zsI m a k v) a' j = zvl E m a' j := by
  intro a' h j
  simp only [zvl, zvt, zI, zR, zL, zF, zsI, zu, h, false_and, if_false]
theorem zvl_R {E : zE} {m : zM} {a k : Nat} {v : Nat} : ∀ a', a' ≠ a → ∀ j, zvl E (zsR m a k v) a' j = zvl E m a' j := by
  intro a' h j
  simp only [zvl, zvt, zI, zR, zL, zF, zsR, zu, h, false_and, if_false]
theorem zvl_L {E : zE} {m : zM} {a k : Nat} {v : Int64} : ∀ a', a' ≠ a → ∀ j, zvl E (zsL m a k v) a' j = zvl E m a' j := by
  intro a' h j
  simp only [zvl, zvt, zI, zR, zL, zF, zsL, zu, h, false_and, if_false]
theorem zvl_F {E : zE} {m : zM} {a k : Nat} {v : UInt32} : ∀ a', a' ≠ a → ∀ j, zvl E (zsF m a k v) a' j = zvl E m a' j := by
  intro a' h j
  simp only [zvl, zvt, zI, zR, zL, zF, zsF, zu, h, false_and, if_false]
theorem zuI {E : zE} {m : zM} {a k : Nat} {v : Int32} (ht : zft (zLay a).1 k = 0) (j : Nat) : updV (zvl E m a) k (.int v) j = zvl E (zsI m a k v) a j := by
  unfold updV
  by_cases e : j = k
  · subst e
    simp [zvl, zvt, zI, zsI, zu, ht]
  · simp only [zvl, zvt, zI, zR, zL, zF, zsI, zu, e, and_false, if_false]
theorem zuR {E : zE} {m : zM} {a k : Nat} {v : Nat} (ht : zft (zLay a).1 k = 1) (h0 : v ≠ 0) (j : Nat) : updV (zvl E m a) k (.ref (zad E v)) j = zvl E (zsR m a k v) a j := by
  unfold updV
  by_cases e : j = k
  · subst e
    simp [zvl, zvt, zR, zsR, zu, ht, zrf, h0]
  · simp only [zvl, zvt, zI, zR, zL, zF, zsR, zu, e, and_false, if_false]
theorem zuL {E : zE} {m : zM} {a k : Nat} {v : Int64} (ht : zft (zLay a).1 k = 2) (j : Nat) : updV (zvl E m a) k (.long v) j = zvl E (zsL m a k v) a j := by
  unfold updV
  by_cases e : j = k
  · subst e
    simp [zvl, zvt, zL, zsL, zu, ht]
  · simp only [zvl, zvt, zI, zR, zL, zF, zsL, zu, e, and_false, if_false]
theorem zuF {E : zE} {m : zM} {a k : Nat} {v : UInt32} (ht : zft (zLay a).1 k = 3) (j : Nat) : updV (zvl E m a) k (.float v) j = zvl E (zsF m a k v) a j := by
  unfold updV
  by_cases e : j = k
  · subst e
    simp [zvl, zvt, zF, zsF, zu, ht]
  · simp only [zvl, zvt, zI, zR, zL, zF, zsF, zu, e, and_false, if_false]
section
variable {d : Nat} {M : zMeth} {mc ms : Nat} {Q : Value → zM → Prop} {pc : Nat} {ls st : List Value} {uc us : Nat} {m : zM}
theorem zAt.ob {E : zE} {m : zM} {a ci : Nat} {H : Heap} (h : zAt E m a H) (hk : (zLay a).1 = ci) (hc : ci < 10) : t_OB (zad E a) (E.2.2.1.1 ci) (zcl ci).2.2 (E.2.2.1.2 ci) H (zvl E m a) := by
  unfold zAt at h
  rw [hk, if_pos hc] at h
  exact h
theorem zAt.ar {E : zE} {m : zM} {a kd n : Nat} {H : Heap} (h : zAt E m a H) (hk : zLay a = (kd, n)) (hc : 10 ≤ kd) : H[zad E a]? = some (arrV (E.2.2.2 kd) n (zvl E m a)) := by
  unfold zAt at h
  rw [hk, if_neg (by show ¬ kd < 10; omega)] at h
  exact h
theorem zr_get {idx ci k a : Nat} {ty : FieldType} {fin : Bool} {v : Value} (hd : decode M.2.2.1 pc = .ok (.getfield idx, 3)) (hf : zFd M.1 idx ci k ty fin) (ho : zOb m a ci) (hv : ∀ E, zvl E m a k = ztr E v) (kk : zwp d M mc ms Q (pc + 3) ls (v :: st) uc us m) : zwp d M mc ms Q pc ls (.ref a :: st) uc us m := by
  intro p l e R s mid args below meth c F E X H locs lr hP hlo hls
  have hx := X.1
  have hb := X.2.1
  have hts := X.2.2.2.2.1
  obtain ⟨f1, f2, f3, -, -, -⟩ := hf
  obtain ⟨cell, q1, q2, q3, q4⟩ := (hP.2.2.2.2 a ho.2.1 ho.2.2).ob ho.1 f1
  obtain ⟨hS, hfc, kC, hkC, hkind⟩ := X.2.2.2.2.2.1.1.1 ci _ (zcl_at ci f1)
  obtain ⟨cf, kf, fi, f, hi, hsl⟩ := hS k f2
  refine W.getf hx hb X.2.2.2.1 (hts _ f3) hi (u_facts hfc hkC (u_lays hts (zlay_in ci f1) f2) hi).1 q1 (by rw [q3]; exact fun h => by cases h) (v := ztr E v) ?_ rfl rfl hd (kk p l e R s mid args below meth c F E X H locs lr hP hlo hls)
  rw [hsl, q4 k f2, hv E]
theorem zr_getI {idx ci k a : Nat} {ty : FieldType} {fin : Bool} (hd : decode M.2.2.1 pc = .ok (.getfield idx, 3)) (hf : zFd M.1 idx ci k ty fin) (ht : zft ci k = 0) (ho : zOb m a ci) (kk : zwp d M mc ms Q (pc + 3) ls (.int (zI m a k) :: st) uc us m) : zwp d M mc ms Q pc ls (.ref a :: st) uc us m :=
  zr_get hd hf ho (fun E => by unfold zvl; rw [ho.1, ht]; rfl) kk
theorem zr_getR {idx ci k a r : Nat} {ty : FieldType} {fin : Bool} (hd : decode M.2.2.1 pc = .ok (.getfield idx, 3)) (hf : zFd M.1 idx ci k ty fin) (ht : zft ci k = 1) (ho : zOb m a ci) (hr : zR m a k = r) (h0 : r ≠ 0) (kk : zwp d M mc ms Q (pc + 3) ls (.ref r :: st) uc us m) : zwp d M mc ms Q pc ls (.ref a :: st) uc us m :=
  zr_get hd hf ho (fun E => by unfold zvl; rw [ho.1, ht]; simp [zvt, zrf, hr, h0, ztr]) kk
theorem zr_getF {idx ci k a : Nat} {ty : FieldType} {fin : Bool} (hd : decode M.2.2.1 pc = .ok (.getfield idx, 3)) (hf : zFd M.1 idx ci k ty fin) (ht : zft ci k = 3) (ho : zOb m a ci) (kk : zwp d M mc ms Q (pc + 3) ls (.float (zF m a k) :: st) uc us m) : zwp d M mc ms Q pc ls (.ref a :: st) uc us m :=
  zr_get hd hf ho (fun E => by unfold zvl; rw [ho.1, ht]; rfl) kk
theorem zr_put {idx ci k a : Nat} {ty : FieldType} {fin : Bool} {v : Value} {m' : zM} (hd : decode M.2.2.1 pc = .ok (.putfield idx, 3)) (hf : zFd M.1 idx ci k ty fin) (hfin : fin = false ∨ (M.2.1 = true ∧ ci = M.1)) (ho : zOb m a ci) (hz : zn m' = zn m) (h1s : zS1 m m')
    (hn : ∀ E, narrow ty (ztr E v) = ztr E v ∧ fits ty (ztr E v) = true) (hv1 : ∀ E a', a' ≠ a → ∀ j, zvl E m' a' j = zvl E m a' j) (hv2 : ∀ E j, updV (zvl E m a) k (ztr E v) j = zvl E m' a j)
    (kk : zwp d M mc ms Q (pc + 3) ls st uc us m') : zwp d M mc ms Q pc ls (v :: .ref a :: st) uc us m := by
  intro p l e R s mid args below meth c F E X H locs lr hP hlo hls
  have hx := X.1
  have hb := X.2.1
  have hts := X.2.2.2.2.1
  have hK := X.2.2.2.2.2.1.1
  obtain ⟨f1, f2, f3, f4, f5, f6⟩ := hf
  have hap := va_apart (own := zcn M.1) hts (zlay_in ci f1) (zct ci) (zct_ok ci f1) (zct_nm ci f1) hK (zcl_at ci f1)
  obtain ⟨cell, q1, q2, q3, q4⟩ := (hP.2.2.2.2 a ho.2.1 ho.2.2).ob ho.1 f1
  obtain ⟨hS, hfc, kC, hkC, hkind⟩ := hK.1 ci _ (zcl_at ci f1)
  obtain ⟨cf, kf, fi, f, hi, hsl⟩ := hS k f2
  have hlay := hts _ (zlay_in ci f1 _ (u_in_lay f2))
  have hst := (u_facts hfc hkC (u_lays hts (zlay_in ci f1) f2) hi).1
  have fin' : ∀ H' : Heap, H'[zad E a]? = some (cell.setSlot f.slot (ztr E v)) → H'.size = H.size → (∀ q, q ≠ zad E a → H'[q]? = H[q]?) → W p l e R s mid args below meth c H' (locs ++ [⟨zad E a, f.slot⟩]) uc us F (F0 mid (pc + 3) lr (st.map (ztr E))) := by
    intro H' e1 e2 e3
    rw [hsl] at e1
    refine kk p l e R s mid args below meth c F E X H' _ lr (hP.put ho.2.1 hz h1s e2 e3 (hv1 E) ?_) (t_lc (free := fun q => E.2.1 ≤ q) hlo (zad_ge ho.2.1)) hls
    unfold zAt
    rw [ho.1, if_pos f1]
    exact t_OB.to (V := updV (zvl E m a) k (ztr E v)) ⟨_, e1, q2, q3, t_set q4 hap f2 _⟩ (fun j _ => hv2 E j)
  cases hfv : fin with
  | false =>
    unfold u_lay at hlay
    rw [hfv] at f5
    rw [if_neg (by rw [f5]; decide)] at hlay
    have h6 := u_store hfc hkC hkind hlay hi f4 (hn E).1 (hn E).2
    exact W.putK hx hb (f := f) ⟨X.2.2.2.1, hts _ f3, ⟨_, _, _, hi⟩, hst⟩ (by rw [q2]; exact h6) q1 q3 (by rw [hsl]; exact k2_hasslot (q4 k f2)) rfl rfl hd fin'
  | true =>
    rcases hfin with h | ⟨hini, hown⟩
    · rw [hfv] at h; cases h
    · unfold u_lay at hlay
      rw [hfv] at f5
      rw [if_pos f5] at hlay
      have hcf : mid.cls = cf := by
        obtain ⟨_, _, c', _, _, _, -, -, hf', -, -, -, hown2, -⟩ := Cond.laysFinal_spec hlay
        have e1 : c' = cf := by have := hi.symm.trans hf'; simp at this; exact this.1.symm
        rw [f6, zcl_nm ci f1, hown] at hown2
        rw [← e1]; exact Option.some.inj (X.2.2.2.1.symm.trans hown2)
      have h6 := u_fits hfc hkC hkind (Or.inr hlay) hi f4 (hn E).1 (hn E).2
      exact W.putFinK hx hb X.2.2.2.1 (hts _ f3) hi hst hcf (X.2.2.2.2.2.2.2.1 hini) (by rw [q2]; exact h6) q1 q3 (by rw [hsl]; exact k2_hasslot (q4 k f2)) rfl rfl hd fin'
theorem zr_putI {idx ci k a : Nat} {v : Int32} (hd : decode M.2.2.1 pc = .ok (.putfield idx, 3)) (hf : zFd M.1 idx ci k .int false) (ht : zft ci k = 0) (ho : zOb m a ci) (kk : zwp d M mc ms Q (pc + 3) ls st uc us (zsI m a k v)) : zwp d M mc ms Q pc ls (.int v :: .ref a :: st) uc us m :=
  zr_put (m' := zsI m a k v) hd hf (Or.inl rfl) ho rfl (zS1_I ho.2.1) (fun E => ⟨rfl, rfl⟩) (fun E => zvl_I) (fun E => zuI (by rw [ho.1]; exact ht)) kk
theorem zr_putZ {idx ci k a : Nat} {v : Int32} (hd : decode M.2.2.1 pc = .ok (.putfield idx, 3)) (hf : zFd M.1 idx ci k .boolean false) (ht : zft ci k = 0) (ho : zOb m a ci) (hv : v = 0 ∨ v = 1) (kk : zwp d M mc ms Q (pc + 3) ls st uc us (zsI m a k v)) : zwp d M mc ms Q pc ls (.int v :: .ref a :: st) uc us m :=
  zr_put (m' := zsI m a k v) hd hf (Or.inl rfl) ho rfl (zS1_I ho.2.1) (fun E => by rcases hv with rfl | rfl <;> exact ⟨rfl, rfl⟩) (fun E => zvl_I) (fun E => zuI (by rw [ho.1]; exact ht)) kk
theorem zr_putF {idx ci k a : Nat} {v : UInt32} (hd : decode M.2.2.1 pc = .ok (.putfield idx, 3)) (hf : zFd M.1 idx ci k .float false) (ht : zft ci k = 3) (ho : zOb m a ci) (kk : zwp d M mc ms Q (pc + 3) ls st uc us (zsF m a k v)) : zwp d M mc ms Q pc ls (.float v :: .ref a :: st) uc us m :=
  zr_put (m' := zsF m a k v) hd hf (Or.inl rfl) ho rfl zS1_F (fun E => ⟨rfl, rfl⟩) (fun E => zvl_F) (fun E => zuF (by rw [ho.1]; exact ht)) kk
theorem zr_putR {idx ci k a v : Nat} {ty : FieldType} {fin : Bool} (hd : decode M.2.2.1 pc = .ok (.putfield idx, 3)) (hf : zFd M.1 idx ci k ty fin) (hfin : fin = false ∨ (M.2.1 = true ∧ ci = M.1)) (hty : ∀ q, narrow ty (.ref q) = .ref q ∧ fits ty (.ref q) = true) (ht : zft ci k = 1) (ho : zOb m a ci) (h0 : v ≠ 0) (kk : zwp d M mc ms Q (pc + 3) ls st uc us (zsR m a k v)) : zwp d M mc ms Q pc ls (.ref v :: .ref a :: st) uc us m :=
  zr_put (m' := zsR m a k v) hd hf hfin ho rfl (zS1_R ho.2.1) (fun E => hty _) (fun E => zvl_R) (fun E => zuR (by rw [ho.1]; exact ht) h0) kk
/-! arrays -/
def zti (kd : Nat) : Nat := kd - 10
theorem zty_at {cy : Nat → ClassId} : ∀ kd, 10 ≤ kd → kd < 19 → (ztys cy)[zti kd]? = some (cy kd, zaty kd) := by
  intro kd h1 h2
  have : kd = 10 ∨ kd = 11 ∨ kd = 12 ∨ kd = 13 ∨ kd = 14 ∨ kd = 15 ∨ kd = 16 ∨ kd = 17 ∨ kd = 18 := by omega
  rcases this with rfl | rfl | rfl | rfl | rfl | rfl | rfl | rfl | rfl <;> rfl
theorem zr_iaload {a n : Nat} {j : Int32} (hd : decode M.2.2.1 pc = .ok (.iaload, 1)) (ha : zAr m a 12 n) (hj : vp_in j n) (kk : zwp d M mc ms Q (pc + 1) ls (.int (zI m a j.toNatClampNeg) :: st) uc us m) : zwp d M mc ms Q pc ls (.int j :: .ref a :: st) uc us m := by
  intro p l e R s mid args below meth c F E X H locs lr hP hlo hls
  have hlt : j.toNatClampNeg < n := Nat.not_le.mp fun q => hj (Or.inr q)
  exact W.iald (v := .int (zI m a j.toNatClampNeg)) X.1 X.2.1 ((hP.2.2.2.2 a ha.2.1 ha.2.2).ar ha.1 (by decide)) ((X.2.2.2.2.2.1.1.2 (zti 12) _ (zty_at 12 (by decide) (by decide))).1 n _) (fun q => by cases q) (by rw [arrV_size]; exact hj) (by rw [arrV_read _ _ hlt, zvl, ha.1]; rfl) rfl rfl hd (kk p l e R s mid args below meth c F E X H locs lr hP hlo hls)
theorem zr_baload {a n : Nat} {j : Int32} (hd : decode M.2.2.1 pc = .ok (.baload, 1)) (ha : zAr m a 10 n) (hj : vp_in j n) (kk : zwp d M mc ms Q (pc + 1) ls (.int (zI m a j.toNatClampNeg) :: st) uc us m) : zwp d M mc ms Q pc ls (.int j :: .ref a :: st) uc us m := by
  intro p l e R s mid args below meth c F E X H locs lr hP hlo hls
  have hlt : j.toNatClampNeg < n := Nat.not_le.mp fun q => hj (Or.inr q)
  exact W.bald (v := .int (zI m a j.toNatClampNeg)) X.1 X.2.1 ((hP.2.2.2.2 a ha.2.1 ha.2.2).ar ha.1 (by decide)) ((X.2.2.2.2.2.1.1.2 (zti 10) _ (zty_at 10 (by decide) (by decide))).1 n _) (fun q => by cases q) (by rw [arrV_size]; exact hj) (by rw [arrV_read _ _ hlt, zvl, ha.1]; rfl) rfl rfl hd (kk p l e R s mid args below meth c F E X H locs lr hP hlo hls)
theorem zr_zaload {a n : Nat} {j : Int32} (hd : decode M.2.2.1 pc = .ok (.baload, 1)) (ha : zAr m a 14 n) (hj : vp_in j n) (kk : zwp d M mc ms Q (pc + 1) ls (.int (zI m a j.toNatClampNeg) :: st) uc us m) : zwp d M mc ms Q pc ls (.int j :: .ref a :: st) uc us m := by
  intro p l e R s mid args below meth c F E X H locs lr hP hlo hls
  have hlt : j.toNatClampNeg < n := Nat.not_le.mp fun q => hj (Or.inr q)
  exact W.zald (v := .int (zI m a j.toNatClampNeg)) X.1 X.2.1 ((hP.2.2.2.2 a ha.2.1 ha.2.2).ar ha.1 (by decide)) ((X.2.2.2.2.2.1.1.2 (zti 14) _ (zty_at 14 (by decide) (by decide))).1 n _) (fun q => by cases q) (by rw [arrV_size]; exact hj) (by rw [arrV_read _ _ hlt, zvl, ha.1]; rfl) rfl rfl hd (kk p l e R s mid args below meth c F E X H locs lr hP hlo hls)
theorem zr_laload {a n : Nat} {j : Int32} (hd : decode M.2.2.1 pc = .ok (.laload, 1)) (ha : zAr m a 13 n) (hj : vp_in j n) (kk : zwp d M mc ms Q (pc + 1) ls (.long (zL m a j.toNatClampNeg) :: st) uc us m) : zwp d M mc ms Q pc ls (.int j :: .ref a :: st) uc us m := by
  intro p l e R s mid args below meth c F E X H locs lr hP hlo hls
  have hlt : j.toNatClampNeg < n := Nat.not_le.mp fun q => hj (Or.inr q)
  exact W.lald (v := .long (zL m a j.toNatClampNeg)) X.1 X.2.1 ((hP.2.2.2.2 a ha.2.1 ha.2.2).ar ha.1 (by decide)) ((X.2.2.2.2.2.1.1.2 (zti 13) _ (zty_at 13 (by decide) (by decide))).1 n _) (fun q => by cases q) (by rw [arrV_size]; exact hj) (by rw [arrV_read _ _ hlt, zvl, ha.1]; rfl) rfl rfl hd (kk p l e R s mid args below meth c F E X H locs lr hP hlo hls)
theorem zr_faload {a n : Nat} {j : Int32} (hd : decode M.2.2.1 pc = .ok (.faload, 1)) (ha : zAr m a 11 n) (hj : vp_in j n) (kk : zwp d M mc ms Q (pc + 1) ls (.float (zF m a j.toNatClampNeg) :: st) uc us m) : zwp d M mc ms Q pc ls (.int j :: .ref a :: st) uc us m := by
  intro p l e R s mid args below meth c F E X H locs lr hP hlo hls
  have hlt : j.toNatClampNeg < n := Nat.not_le.mp fun q => hj (Or.inr q)
  exact W.fald (v := .float (zF m a j.toNatClampNeg)) X.1 X.2.1 ((hP.2.2.2.2 a ha.2.1 ha.2.2).ar ha.1 (by decide)) ((X.2.2.2.2.2.1.1.2 (zti 11) _ (zty_at 11 (by decide) (by decide))).1 n _) (fun q => by cases q) (by rw [arrV_size]; exact hj) (by rw [arrV_read _ _ hlt, zvl, ha.1]; rfl) rfl rfl hd (kk p l e R s mid args below meth c F E X H locs lr hP hlo hls)
theorem zr_aaload {a kd n r : Nat} {j : Int32} (hd : decode M.2.2.1 pc = .ok (.aaload, 1)) (ha : zAr m a kd n) (h15 : 15 ≤ kd) (h19 : kd < 19) (hj : vp_in j n) (hr : zR m a j.toNatClampNeg = r) (h0 : r ≠ 0) (kk : zwp d M mc ms Q (pc + 1) ls (.ref r :: st) uc us m) : zwp d M mc ms Q pc ls (.int j :: .ref a :: st) uc us m := by
  intro p l e R s mid args below meth c F E X H locs lr hP hlo hls
  have hlt : j.toNatClampNeg < n := Nat.not_le.mp fun q => hj (Or.inr q)
  refine W.aald (ty := zaty kd) (v := .ref (zad E r)) X.1 X.2.1 ((hP.2.2.2.2 a ha.2.1 ha.2.2).ar ha.1 (by omega)) ((X.2.2.2.2.2.1.1.2 (zti kd) _ (zty_at kd (by omega) h19)).1 n _) ?_ (fun q => by cases q) (by rw [arrV_size]; exact hj) ?_ rfl rfl hd (kk p l e R s mid args below meth c F E X H locs lr hP hlo hls)
  · have : kd = 15 ∨ kd = 16 ∨ kd = 17 ∨ kd = 18 := by omega
    rcases this with rfl | rfl | rfl | rfl <;> rfl
  · have hf : zft kd j.toNatClampNeg = 1 := by
      have : kd = 15 ∨ kd = 16 ∨ kd = 17 ∨ kd = 18 := by omega
      rcases this with rfl | rfl | rfl | rfl <;> rfl
    rw [arrV_read _ _ hlt, zvl, ha.1]
    simp [hf, zvt, zrf, hr, h0]
theorem zar_put {E : zE} {m m' : zM} {s : State} {H H' : Heap} {a kd n k : Nat} {v : Value} (hP : zPic E m s H) (ha : zAr m a kd n) (h10 : 10 ≤ kd) (hz : zn m' = zn m) (h1s : zS1 m m') (e1 : H'[zad E a]? = some ((arrV (E.2.2.2 kd) n (zvl E m a)).setSlot k v)) (e2 : H'.size = H.size) (e3 : ∀ q : Nat, q ≠ zad E a → H'[q]? = H[q]?)
    (hv1 : ∀ a', a' ≠ a → ∀ j, zvl E m' a' j = zvl E m a' j) (hv2 : ∀ j, updV (zvl E m a) k v j = zvl E m' a j) : zPic E m' s H' := by
  refine hP.put ha.2.1 hz h1s e2 e3 hv1 ?_
  unfold zAt
  rw [ha.1, if_neg (by show ¬ kd < 10; omega), e1, arrV_store]
  exact congrArg (fun f => some (arrV (E.2.2.2 kd) n f)) (funext hv2)
theorem zr_iastore {a n : Nat} {j v : Int32} (hd : decode M.2.2.1 pc = .ok (.iastore, 1)) (ha : zAr m a 12 n) (hj : vp_in j n) (kk : zwp d M mc ms Q (pc + 1) ls st uc us (zsI m a j.toNatClampNeg v)) : zwp d M mc ms Q pc ls (.int v :: .int j :: .ref a :: st) uc us m := by
  intro p l e R s mid args below meth c F E X H locs lr hP hlo hls
  exact W.iast X.1 X.2.1 ((hP.2.2.2.2 a ha.2.1 ha.2.2).ar ha.1 (by decide)) ((X.2.2.2.2.2.1.1.2 (zti 12) _ (zty_at 12 (by decide) (by decide))).1 n _) (fun q => by cases q) (by rw [arrV_size]; exact hj) rfl rfl hd (fun H' e1 e2 e3 => kk p l e R s mid args below meth c F E X H' _ lr (zar_put hP ha (by decide) rfl (zS1_I ha.2.1) e1 e2 e3 zvl_I (zuI (by rw [ha.1]; rfl))) (t_lc (free := fun q => E.2.1 ≤ q) hlo (zad_ge ha.2.1)) hls)
theorem zr_lastore {a n : Nat} {j : Int32} {v : Int64} (hd : decode M.2.2.1 pc = .ok (.lastore, 1)) (ha : zAr m a 13 n) (hj : vp_in j n) (kk : zwp d M mc ms Q (pc + 1) ls st uc us (zsL m a j.toNatClampNeg v)) : zwp d M mc ms Q pc ls (.long v :: .int j :: .ref a :: st) uc us m := by
  intro p l e R s mid args below meth c F E X H locs lr hP hlo hls
  exact W.last X.1 X.2.1 ((hP.2.2.2.2 a ha.2.1 ha.2.2).ar ha.1 (by decide)) ((X.2.2.2.2.2.1.1.2 (zti 13) _ (zty_at 13 (by decide) (by decide))).1 n _) (fun q => by cases q) (by rw [arrV_size]; exact hj) rfl rfl hd (fun H' e1 e2 e3 => kk p l e R s mid args below meth c F E X H' _ lr (zar_put hP ha (by decide) rfl zS1_L e1 e2 e3 zvl_L (zuL (by rw [ha.1]; rfl))) (t_lc (free := fun q => E.2.1 ≤ q) hlo (zad_ge ha.2.1)) hls)
theorem zr_fastore {a n : Nat} {j : Int32} {v : UInt32} (hd : decode M.2.2.1 pc = .ok (.fastore, 1)) (ha : zAr m a 11 n) (hj : vp_in j n) (kk : zwp d M mc ms Q (pc + 1) ls st uc us (zsF m a j.toNatClampNeg v)) : zwp d M mc ms Q pc ls (.float v :: .int j :: .ref a :: st) uc us m := by
  intro p l e R s mid args below meth c F E X H locs lr hP hlo hls
  exact W.fast X.1 X.2.1 ((hP.2.2.2.2 a ha.2.1 ha.2.2).ar ha.1 (by decide)) ((X.2.2.2.2.2.1.1.2 (zti 11) _ (zty_at 11 (by decide) (by decide))).1 n _) (fun q => by cases q) (by rw [arrV_size]; exact hj) rfl rfl hd (fun H' e1 e2 e3 => kk p l e R s mid args below meth c F E X H' _ lr (zar_put hP ha (by decide) rfl zS1_F e1 e2 e3 zvl_F (zuF (by rw [ha.1]; rfl))) (t_lc (free := fun q => E.2.1 ≤ q) hlo (zad_ge ha.2.1)) hls)
theorem zr_bastore {a n : Nat} {j v : Int32} (hd : decode M.2.2.1 pc = .ok (.bastore, 1)) (ha : zAr m a 10 n) (hj : vp_in j n) (hv : narrow .byte (.int v) = .int v) (kk : zwp d M mc ms Q (pc + 1) ls st uc us (zsI m a j.toNatClampNeg v)) : zwp d M mc ms Q pc ls (.int v :: .int j :: .ref a :: st) uc us m := by
  intro p l e R s mid args below meth c F E X H locs lr hP hlo hls
  exact W.bast X.1 X.2.1 ((hP.2.2.2.2 a ha.2.1 ha.2.2).ar ha.1 (by decide)) ((X.2.2.2.2.2.1.1.2 (zti 10) _ (zty_at 10 (by decide) (by decide))).1 n _) (fun q => by cases q) (by rw [arrV_size]; exact hj) rfl rfl hd (fun H' e1 e2 e3 => kk p l e R s mid args below meth c F E X H' _ lr (zar_put hP ha (by decide) rfl (zS1_I ha.2.1) (by rw [hv] at e1; exact e1) e2 e3 zvl_I (zuI (by rw [ha.1]; rfl))) (t_lc (free := fun q => E.2.1 ≤ q) hlo (zad_ge ha.2.1)) hls)
theorem zr_zastore {a n : Nat} {j v : Int32} (hd : decode M.2.2.1 pc = .ok (.bastore, 1)) (ha : zAr m a 14 n) (hj : vp_in j n) (hv : v = 0 ∨ v = 1) (kk : zwp d M mc ms Q (pc + 1) ls st uc us (zsI m a j.toNatClampNeg v)) : zwp d M mc ms Q pc ls (.int v :: .int j :: .ref a :: st) uc us m := by
  intro p l e R s mid args below meth c F E X H locs lr hP hlo hls
  have hv : narrow .boolean (.int v) = .int v := by rcases hv with rfl | rfl <;> rfl
  exact W.zast X.1 X.2.1 ((hP.2.2.2.2 a ha.2.1 ha.2.2).ar ha.1 (by decide)) ((X.2.2.2.2.2.1.1.2 (zti 14) _ (zty_at 14 (by decide) (by decide))).1 n _) (fun q => by cases q) (by rw [arrV_size]; exact hj) rfl rfl hd (fun H' e1 e2 e3 => kk p l e R s mid args below meth c F E X H' _ lr (zar_put hP ha (by decide) rfl (zS1_I ha.2.1) (by rw [hv] at e1; exact e1) e2 e3 zvl_I (zuI (by rw [ha.1]; rfl))) (t_lc (free := fun q => E.2.1 ≤ q) hlo (zad_ge ha.2.1)) hls)
/-- the class of what an array of references holds -/
def zcmp (kd : Nat) : Nat := if kd = 15 then 2 else if kd = 16 then 4 else if kd = 17 then 5 else 6
theorem zr_aastore {a kd n v : Nat} {j : Int32} (hd : decode M.2.2.1 pc = .ok (.aastore, 1)) (ha : zAr m a kd n) (h15 : 15 ≤ kd) (h19 : kd < 19) (hj : vp_in j n) (hv : zOb m v (zcmp kd)) (kk : zwp d M mc ms Q (pc + 1) ls st uc us (zsR m a j.toNatClampNeg v)) : zwp d M mc ms Q pc ls (.ref v :: .int j :: .ref a :: st) uc us m := by
  intro p l e R s mid args below meth c F E X H locs lr hP hlo hls
  have hlt : j.toNatClampNeg < n := Nat.not_le.mp fun q => hj (Or.inr q)
  have h0 : ¬ j < 0 := fun q => hj (Or.inl q)
  have hc10 : zcmp kd < 10 := by unfold zcmp; split <;> (try split) <;> (try split) <;> omega
  obtain ⟨cellV, g1, g2, g3, -⟩ := (hP.2.2.2.2 v hv.2.1 hv.2.2).ob hv.1 hc10
  have hcls := (X.2.2.2.2.2.1.1.1 (zcmp kd) _ (zcl_at _ hc10)).2
  have hta : zaty kd = .object (zcl (zcmp kd)).1 := by
    have : kd = 15 ∨ kd = 16 ∨ kd = 17 ∨ kd = 18 := by omega
    rcases this with rfl | rfl | rfl | rfl <;> rfl
  have hRA := (X.2.2.2.2.2.1.1.2 (zti kd) _ (zty_at kd (by omega) h19)).2
  rw [hta] at hRA
  obtain ⟨kA, comp, k1, k2, k3, -⟩ := hRA
  have hcomp : comp = E.2.2.1.1 (zcmp kd) := Option.some.inj (k3.symm.trans hcls.1)
  subst hcomp
  obtain ⟨kC, hkC, -⟩ := hcls.2
  have hft : zft kd j.toNatClampNeg = 1 := by
    have : kd = 15 ∨ kd = 16 ∨ kd = 17 ∨ kd = 18 := by omega
    rcases this with rfl | rfl | rfl | rfl <;> rfl
  exact W.aast X.1 X.2.1 ((hP.2.2.2.2 a ha.2.1 ha.2.2).ar ha.1 (by omega)) (fun q h => by cases h) (fun h => by cases h) k1 k2 rfl hkC ⟨h0, by rw [arrV_size]; exact hlt⟩ g1 (fun q h => by rw [g3] at h; cases h) (by rw [g2]; exact hkC) (by rw [g2]; exact va_assign hcls) rfl rfl hd (fun H' e1 e2 e3 => kk p l e R s mid args below meth c F E X H' _ lr (zar_put hP ha (by omega) rfl (zS1_R ha.2.1) e1 e2 e3 zvl_R (zuR (by rw [ha.1]; exact hft) (by have := hv.2.1; omega))) (t_lc (free := fun q => E.2.1 ≤ q) hlo (zad_ge ha.2.1)) hls)
theorem zr_alen {a kd n : Nat} (hd : decode M.2.2.1 pc = .ok (.arraylength, 1)) (ha : zAr m a kd n) (h10 : 10 ≤ kd) (h19 : kd < 19) (kk : zwp d M mc ms Q (pc + 1) ls (.int (nI n) :: st) uc us m) : zwp d M mc ms Q pc ls (.ref a :: st) uc us m := by
  intro p l e R s mid args below meth c F E X H locs lr hP hlo hls
  exact W.alen (n := nI n) X.1 X.2.1 ((hP.2.2.2.2 a ha.2.1 ha.2.2).ar ha.1 h10) ((X.2.2.2.2.2.1.1.2 (zti kd) _ (zty_at kd h10 h19)).1 n _) (by rw [arrV_size]; rfl) rfl rfl hd (kk p l e R s mid args below meth c F E X H locs lr hP hlo hls)
end
