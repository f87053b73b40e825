/-! ===== methods, contexts, the judgement zwp and one row an instruction ===== -/
/-- a method: its class's number, whether it is a constructor, its bytes, its locals, its name, its answer's type -/
abbrev zMeth : Type := Nat × Bool × ByteArray × Nat × MethodName × Option FieldType
def zcn (k : Nat) : String := match k with
  | 0 => RX0
  | 1 => RX1
  | 2 => RX2
  | 3 => RX3
  | 4 => RX4
  | 5 => RX5
  | 6 => RX6
  | 7 => RX7
  | 8 => RX8
  | 9 => RX9
  | 10 => RL
  | 11 => RJ9
  | _ => RJxf58ca
def zrs (M : zMeth) (E : zE) (v : Value) : List Value := match M.2.2.2.2.2 with
  | none => []
  | some _ => [ztr E v]
/-- a return instruction, and what it may answer -/
def zRet (M : zMeth) (i : Instr) (v : Value) : Prop :=
  (M.2.2.2.2.2 = none ∧ i = .return_ ∧ v = .null) ∨ (M.2.2.2.2.2 = some .int ∧ i = .ireturn ∧ ∃ x, v = .int x) ∨ (M.2.2.2.2.2 = some .boolean ∧ i = .ireturn ∧ (v = .int 0 ∨ v = .int 1)) ∨
  (M.2.2.2.2.2 = some .long ∧ i = .lreturn ∧ ∃ x, v = .long x) ∨ ((∃ n, M.2.2.2.2.2 = some (.object n)) ∧ i = .areturn ∧ ∃ r, v = .ref r)
def zCtx (d : Nat) (M : zMeth) (mc ms : Nat) (Q : Value → zM → Prop) (p : Program) (l : Launch) (e : Env) (R : Room) (s : State) (mid : MethodId) (args : Array Value) (below : List Frame) (meth : Method) (c : Code) (F : State → Prop) (E : zE) : Prop :=
  p.tables.exec = Jvm.exec ∧ c.code = M.2.2.1 ∧ c.maxLocals = M.2.2.2.1 ∧ s.vm.findClass (zcn M.1) = some mid.cls ∧ (∀ w ∈ zW, w.before args s = true) ∧ zKs E s ∧ (d ≤ R.frames ∧ 40 * d ≤ R.locals ∧ mc ≤ R.cells ∧ ms ≤ R.slots) ∧ (M.2.1 = true → meth.name = "<init>") ∧
  ∀ (H : Heap) (locs : List Loc) (lr : Array Slot) (pc uc us : Nat) (i : Instr) (v : Value) (m : zM), zRet M i v → decode M.2.2.1 pc = .ok (i, 1) → uc ≤ mc → us ≤ ms → zPic E m s H → (∀ q ∈ locs, E.2.1 ≤ q.base) → Q v m →
    W p l e R s mid args below meth c H locs uc us F (F0 mid pc lr (zrs M E v))
def zwp (d : Nat) (M : zMeth) (mc ms : Nat) (Q : Value → zM → Prop) (pc : Nat) (ls st : List Value) (uc us : Nat) (m : zM) : Prop :=
  ∀ (p : Program) (l : Launch) (e : Env) (R : Room) (s : State) (mid : MethodId) (args : Array Value) (below : List Frame) (meth : Method) (c : Code) (F : State → Prop) (E : zE),
    zCtx d M mc ms Q p l e R s mid args below meth c F E →
    ∀ (H : Heap) (locs : List Loc) (lr : Array Slot), zPic E m s H → (∀ q ∈ locs, E.2.1 ≤ q.base) → zLs E lr M.2.2.2.1 ls →
      W p l e R s mid args below meth c H locs uc us F (F0 mid pc lr (st.map (ztr E)))
/-- an object of a class -/
def zOb (m : zM) (a ci : Nat) : Prop := (zLay a).1 = ci ∧ 2 ≤ a ∧ a < zn m
/-- an array of a kind and a length -/
def zAr (m : zM) (a kd n : Nat) : Prop := zLay a = (kd, n) ∧ 2 ≤ a ∧ a < zn m
section
variable {d : Nat} {M : zMeth} {mc ms : Nat} {Q : Value → zM → Prop} {pc : Nat} {ls st : List Value} {uc us : Nat} {m : zM}
theorem zr_iconst {n : Int} {v : Int32} (hd : decode M.2.2.1 pc = .ok (.iconst n, 1)) (hv : Int32.ofInt n = v) (k : zwp d M mc ms Q (pc + 1) ls (.int v :: st) uc us m) : zwp d M mc ms Q pc ls (st) uc us m := by
  intro p l e R s mid args below meth c F E X H locs lr hP hlo hls
  have hx := X.1
  have hb := X.2.1
  exact lv_iconst hx hb hd hv (k p l e R s mid args below meth c F E X H locs lr hP hlo hls)
theorem zr_bipush {n : Int} {v : Int32} (hd : decode M.2.2.1 pc = .ok (.bipush n, 2)) (hv : (Int8.ofInt n).toInt32 = v) (k : zwp d M mc ms Q (pc + 2) ls (.int v :: st) uc us m) : zwp d M mc ms Q pc ls (st) uc us m := by
  intro p l e R s mid args below meth c F E X H locs lr hP hlo hls
  have hx := X.1
  have hb := X.2.1
  exact lv_bipush hx hb hd hv (k p l e R s mid args below meth c F E X H locs lr hP hlo hls)
theorem zr_sipush {n : Int} {v : Int32} (hd : decode M.2.2.1 pc = .ok (.sipush n, 3)) (hv : (Int16.ofInt n).toInt32 = v) (k : zwp d M mc ms Q (pc + 3) ls (.int v :: st) uc us m) : zwp d M mc ms Q pc ls (st) uc us m := by
  intro p l e R s mid args below meth c F E X H locs lr hP hlo hls
  have hx := X.1
  have hb := X.2.1
  exact lv_sipush hx hb hd hv (k p l e R s mid args below meth c F E X H locs lr hP hlo hls)
theorem zr_lconst {n : Fin 2} {v : Int64} (hd : decode M.2.2.1 pc = .ok (.lconst n, 1)) (hv : Int64.ofNat (n : Nat) = v) (k : zwp d M mc ms Q (pc + 1) ls (.long v :: st) uc us m) : zwp d M mc ms Q pc ls (st) uc us m := by
  intro p l e R s mid args below meth c F E X H locs lr hP hlo hls
  have hx := X.1
  have hb := X.2.1
  exact lv_lconst hx hb hd hv (k p l e R s mid args below meth c F E X H locs lr hP hlo hls)
theorem zr_dconst1  (hd : decode M.2.2.1 pc = .ok (.dconst 1, 1)) (k : zwp d M mc ms Q (pc + 1) ls (.double FP.dconst1 :: st) uc us m) : zwp d M mc ms Q pc ls (st) uc us m := by
  intro p l e R s mid args below meth c F E X H locs lr hP hlo hls
  have hx := X.1
  have hb := X.2.1
  exact lv_dconst1 hx hb hd (k p l e R s mid args below meth c F E X H locs lr hP hlo hls)
theorem zr_iload_n {n : Fin 4} {x : Int32} (hd : decode M.2.2.1 pc = .ok (.iload_n n, 1)) (hl : zget ls n = .int x) (k : zwp d M mc ms Q (pc + 1) ls (.int x :: st) uc us m) : zwp d M mc ms Q pc ls st uc us m := by
  intro p l e R s mid args below meth c F E X H locs lr hP hlo hls
  have hx := X.1
  have hb := X.2.1
  have h := hls.2.2 n (by rw [hl]; rfl)
  rw [hl] at h
  exact lv_iload_n hx hb hd rfl h (k p l e R s mid args below meth c F E X H locs lr hP hlo hls)
theorem zr_iload {n : Nat} {x : Int32} (hd : decode M.2.2.1 pc = .ok (.iload n, 2)) (hl : zget ls n = .int x) (k : zwp d M mc ms Q (pc + 2) ls (.int x :: st) uc us m) : zwp d M mc ms Q pc ls st uc us m := by
  intro p l e R s mid args below meth c F E X H locs lr hP hlo hls
  have hx := X.1
  have hb := X.2.1
  have h := hls.2.2 n (by rw [hl]; rfl)
  rw [hl] at h
  exact lv_iload hx hb hd h (k p l e R s mid args below meth c F E X H locs lr hP hlo hls)
theorem zr_lload_n {n : Fin 4} {x : Int64} (hd : decode M.2.2.1 pc = .ok (.lload_n n, 1)) (hl : zget ls n = .long x) (k : zwp d M mc ms Q (pc + 1) ls (.long x :: st) uc us m) : zwp d M mc ms Q pc ls st uc us m := by
  intro p l e R s mid args below meth c F E X H locs lr hP hlo hls
  have hx := X.1
  have hb := X.2.1
  have h := hls.2.2 n (by rw [hl]; rfl)
  rw [hl] at h
  exact lv_lload_n hx hb hd rfl h (k p l e R s mid args below meth c F E X H locs lr hP hlo hls)
theorem zr_lload {n : Nat} {x : Int64} (hd : decode M.2.2.1 pc = .ok (.lload n, 2)) (hl : zget ls n = .long x) (k : zwp d M mc ms Q (pc + 2) ls (.long x :: st) uc us m) : zwp d M mc ms Q pc ls st uc us m := by
  intro p l e R s mid args below meth c F E X H locs lr hP hlo hls
  have hx := X.1
  have hb := X.2.1
  have h := hls.2.2 n (by rw [hl]; rfl)
  rw [hl] at h
  exact lv_lload hx hb hd h (k p l e R s mid args below meth c F E X H locs lr hP hlo hls)
theorem zr_fload_n {n : Fin 4} {x : UInt32} (hd : decode M.2.2.1 pc = .ok (.fload_n n, 1)) (hl : zget ls n = .float x) (k : zwp d M mc ms Q (pc + 1) ls (.float x :: st) uc us m) : zwp d M mc ms Q pc ls st uc us m := by
  intro p l e R s mid args below meth c F E X H locs lr hP hlo hls
  have hx := X.1
  have hb := X.2.1
  have h := hls.2.2 n (by rw [hl]; rfl)
  rw [hl] at h
  exact lv_fload_n hx hb hd rfl h (k p l e R s mid args below meth c F E X H locs lr hP hlo hls)
theorem zr_fload {n : Nat} {x : UInt32} (hd : decode M.2.2.1 pc = .ok (.fload n, 2)) (hl : zget ls n = .float x) (k : zwp d M mc ms Q (pc + 2) ls (.float x :: st) uc us m) : zwp d M mc ms Q pc ls st uc us m := by
  intro p l e R s mid args below meth c F E X H locs lr hP hlo hls
  have hx := X.1
  have hb := X.2.1
  have h := hls.2.2 n (by rw [hl]; rfl)
  rw [hl] at h
  exact lv_fload hx hb hd h (k p l e R s mid args below meth c F E X H locs lr hP hlo hls)
theorem zr_dload_n {n : Fin 4} {x : UInt64} (hd : decode M.2.2.1 pc = .ok (.dload_n n, 1)) (hl : zget ls n = .double x) (k : zwp d M mc ms Q (pc + 1) ls (.double x :: st) uc us m) : zwp d M mc ms Q pc ls st uc us m := by
  intro p l e R s mid args below meth c F E X H locs lr hP hlo hls
  have hx := X.1
  have hb := X.2.1
  have h := hls.2.2 n (by rw [hl]; rfl)
  rw [hl] at h
  exact lv_dload_n hx hb hd rfl h (k p l e R s mid args below meth c F E X H locs lr hP hlo hls)
theorem zr_dload {n : Nat} {x : UInt64} (hd : decode M.2.2.1 pc = .ok (.dload n, 2)) (hl : zget ls n = .double x) (k : zwp d M mc ms Q (pc + 2) ls (.double x :: st) uc us m) : zwp d M mc ms Q pc ls st uc us m := by
  intro p l e R s mid args below meth c F E X H locs lr hP hlo hls
  have hx := X.1
  have hb := X.2.1
  have h := hls.2.2 n (by rw [hl]; rfl)
  rw [hl] at h
  exact lv_dload hx hb hd h (k p l e R s mid args below meth c F E X H locs lr hP hlo hls)
theorem zr_aload_n {n : Fin 4} {x : Nat} (hd : decode M.2.2.1 pc = .ok (.aload_n n, 1)) (hl : zget ls n = .ref x) (k : zwp d M mc ms Q (pc + 1) ls (.ref x :: st) uc us m) : zwp d M mc ms Q pc ls st uc us m := by
  intro p l e R s mid args below meth c F E X H locs lr hP hlo hls
  have hx := X.1
  have hb := X.2.1
  have h := hls.2.2 n (by rw [hl]; rfl)
  rw [hl] at h
  exact lv_aload_n (x := zad E x) hx hb hd rfl h (k p l e R s mid args below meth c F E X H locs lr hP hlo hls)
theorem zr_aload {n : Nat} {x : Nat} (hd : decode M.2.2.1 pc = .ok (.aload n, 2)) (hl : zget ls n = .ref x) (k : zwp d M mc ms Q (pc + 2) ls (.ref x :: st) uc us m) : zwp d M mc ms Q pc ls st uc us m := by
  intro p l e R s mid args below meth c F E X H locs lr hP hlo hls
  have hx := X.1
  have hb := X.2.1
  have h := hls.2.2 n (by rw [hl]; rfl)
  rw [hl] at h
  exact lv_aload (x := zad E x) hx hb hd h (k p l e R s mid args below meth c F E X H locs lr hP hlo hls)
theorem zr_istore_n {n : Fin 4} {x : Int32} (hd : decode M.2.2.1 pc = .ok (.istore_n n, 1)) (hn : (n : Nat) < M.2.2.2.1) (hc : zc1 ls n = true) (k : zwp d M mc ms Q (pc + 1) (zset ls (n : Nat) (.int x)) st uc us m) : zwp d M mc ms Q pc ls (.int x :: st) uc us m := by
  intro p l e R s mid args below meth c F E X H locs lr hP hlo hls
  have hx := X.1
  have hb := X.2.1
  exact lv_istore_n hx hb hd rfl hls.has hn rfl (fun lr' h' => k p l e R s mid args below meth c F E X H locs lr' hP hlo (hls.put1 (v := .int x) hc h'))
theorem zr_istore {n : Nat} {x : Int32} (hd : decode M.2.2.1 pc = .ok (.istore n, 2)) (hn : (n : Nat) < M.2.2.2.1) (hc : zc1 ls n = true) (k : zwp d M mc ms Q (pc + 2) (zset ls n (.int x)) st uc us m) : zwp d M mc ms Q pc ls (.int x :: st) uc us m := by
  intro p l e R s mid args below meth c F E X H locs lr hP hlo hls
  have hx := X.1
  have hb := X.2.1
  exact lv_istore hx hb hd hls.has hn rfl (fun lr' h' => k p l e R s mid args below meth c F E X H locs lr' hP hlo (hls.put1 (v := .int x) hc h'))
theorem zr_lstore_n {n : Fin 4} {x : Int64} (hd : decode M.2.2.1 pc = .ok (.lstore_n n, 1)) (hn : (n : Nat) + 1 < M.2.2.2.1) (hc : zc1 ls n = true) (k : zwp d M mc ms Q (pc + 1) (zset (zset ls (n : Nat) (.long x)) ((n : Nat) + 1) zU) st uc us m) : zwp d M mc ms Q pc ls (.long x :: st) uc us m := by
  intro p l e R s mid args below meth c F E X H locs lr hP hlo hls
  have hx := X.1
  have hb := X.2.1
  exact lv_lstore_n hx hb hd rfl hls.has hn rfl (fun lr' h' => k p l e R s mid args below meth c F E X H locs lr' hP hlo (hls.put2 (v := .long x) hc h'))
theorem zr_lstore {n : Nat} {x : Int64} (hd : decode M.2.2.1 pc = .ok (.lstore n, 2)) (hn : (n : Nat) + 1 < M.2.2.2.1) (hc : zc1 ls n = true) (k : zwp d M mc ms Q (pc + 2) (zset (zset ls n (.long x)) (n + 1) zU) st uc us m) : zwp d M mc ms Q pc ls (.long x :: st) uc us m := by
  intro p l e R s mid args below meth c F E X H locs lr hP hlo hls
  have hx := X.1
  have hb := X.2.1
  exact lv_lstore hx hb hd hls.has hn rfl (fun lr' h' => k p l e R s mid args below meth c F E X H locs lr' hP hlo (hls.put2 (v := .long x) hc h'))
theorem zr_fstore_n {n : Fin 4} {x : UInt32} (hd : decode M.2.2.1 pc = .ok (.fstore_n n, 1)) (hn : (n : Nat) < M.2.2.2.1) (hc : zc1 ls n = true) (k : zwp d M mc ms Q (pc + 1) (zset ls (n : Nat) (.float x)) st uc us m) : zwp d M mc ms Q pc ls (.float x :: st) uc us m := by
  intro p l e R s mid args below meth c F E X H locs lr hP hlo hls
  have hx := X.1
  have hb := X.2.1
  exact lv_fstore_n hx hb hd rfl hls.has hn rfl (fun lr' h' => k p l e R s mid args below meth c F E X H locs lr' hP hlo (hls.put1 (v := .float x) hc h'))
theorem zr_fstore {n : Nat} {x : UInt32} (hd : decode M.2.2.1 pc = .ok (.fstore n, 2)) (hn : (n : Nat) < M.2.2.2.1) (hc : zc1 ls n = true) (k : zwp d M mc ms Q (pc + 2) (zset ls n (.float x)) st uc us m) : zwp d M mc ms Q pc ls (.float x :: st) uc us m := by
  intro p l e R s mid args below meth c F E X H locs lr hP hlo hls
  have hx := X.1
  have hb := X.2.1
  exact lv_fstore hx hb hd hls.has hn rfl (fun lr' h' => k p l e R s mid args below meth c F E X H locs lr' hP hlo (hls.put1 (v := .float x) hc h'))
theorem zr_dstore_n {n : Fin 4} {x : UInt64} (hd : decode M.2.2.1 pc = .ok (.dstore_n n, 1)) (hn : (n : Nat) + 1 < M.2.2.2.1) (hc : zc1 ls n = true) (k : zwp d M mc ms Q (pc + 1) (zset (zset ls (n : Nat) (.double x)) ((n : Nat) + 1) zU) st uc us m) : zwp d M mc ms Q pc ls (.double x :: st) uc us m := by
  intro p l e R s mid args below meth c F E X H locs lr hP hlo hls
  have hx := X.1
  have hb := X.2.1
  exact lv_dstore_n hx hb hd rfl hls.has hn rfl (fun lr' h' => k p l e R s mid args below meth c F E X H locs lr' hP hlo (hls.put2 (v := .double x) hc h'))
theorem zr_dstore {n : Nat} {x : UInt64} (hd : decode M.2.2.1 pc = .ok (.dstore n, 2)) (hn : (n : Nat) + 1 < M.2.2.2.1) (hc : zc1 ls n = true) (k : zwp d M mc ms Q (pc + 2) (zset (zset ls n (.double x)) (n + 1) zU) st uc us m) : zwp d M mc ms Q pc ls (.double x :: st) uc us m := by
  intro p l e R s mid args below meth c F E X H locs lr hP hlo hls
  have hx := X.1
  have hb := X.2.1
  exact lv_dstore hx hb hd hls.has hn rfl (fun lr' h' => k p l e R s mid args below meth c F E X H locs lr' hP hlo (hls.put2 (v := .double x) hc h'))
theorem zr_astore_n {n : Fin 4} {x : Nat} (hd : decode M.2.2.1 pc = .ok (.astore_n n, 1)) (hn : (n : Nat) < M.2.2.2.1) (hc : zc1 ls n = true) (k : zwp d M mc ms Q (pc + 1) (zset ls (n : Nat) (.ref x)) st uc us m) : zwp d M mc ms Q pc ls (.ref x :: st) uc us m := by
  intro p l e R s mid args below meth c F E X H locs lr hP hlo hls
  have hx := X.1
  have hb := X.2.1
  exact lv_astore_n (x := zad E x) hx hb hd rfl hls.has hn rfl (fun lr' h' => k p l e R s mid args below meth c F E X H locs lr' hP hlo (hls.put1 (v := .ref x) hc h'))
theorem zr_astore {n : Nat} {x : Nat} (hd : decode M.2.2.1 pc = .ok (.astore n, 2)) (hn : (n : Nat) < M.2.2.2.1) (hc : zc1 ls n = true) (k : zwp d M mc ms Q (pc + 2) (zset ls n (.ref x)) st uc us m) : zwp d M mc ms Q pc ls (.ref x :: st) uc us m := by
  intro p l e R s mid args below meth c F E X H locs lr hP hlo hls
  have hx := X.1
  have hb := X.2.1
  exact lv_astore (x := zad E x) hx hb hd hls.has hn rfl (fun lr' h' => k p l e R s mid args below meth c F E X H locs lr' hP hlo (hls.put1 (v := .ref x) hc h'))
theorem zr_iinc {n : Nat} {z : Int} {x v : Int32} (hd : decode M.2.2.1 pc = .ok (.iinc n z, 3)) (hl : zget ls n = .int x) (hv : x + Int32.ofInt z = v) (hn : n < M.2.2.2.1) (hc : zc1 ls n = true) (k : zwp d M mc ms Q (pc + 3) (zset ls n (.int v)) st uc us m) : zwp d M mc ms Q pc ls st uc us m := by
  intro p l e R s mid args below meth c F E X H locs lr hP hlo hls
  have hx := X.1
  have hb := X.2.1
  have h0 := zlv_in hls (i := n) (by rw [hl]; rfl)
  rw [hl] at h0
  obtain ⟨k0, hk0⟩ := List.getElem?_of_mem h0
  exact lv_iinc hx hb hd hls.has hk0 hv hn rfl (fun lr' h' => k p l e R s mid args below meth c F E X H locs lr' hP hlo (hls.put1 (v := .int v) hc h'))
theorem zr_iadd {x y : Int32} (hd : decode M.2.2.1 pc = .ok (.iadd, 1)) (k : zwp d M mc ms Q (pc + 1) ls (.int (x + y) :: st) uc us m) : zwp d M mc ms Q pc ls (.int y :: .int x :: st) uc us m := by
  intro p l e R s mid args below meth c F E X H locs lr hP hlo hls
  have hx := X.1
  have hb := X.2.1
  exact lv_iadd hx hb hd (k p l e R s mid args below meth c F E X H locs lr hP hlo hls)
theorem zr_isub {x y : Int32} (hd : decode M.2.2.1 pc = .ok (.isub, 1)) (k : zwp d M mc ms Q (pc + 1) ls (.int (x - y) :: st) uc us m) : zwp d M mc ms Q pc ls (.int y :: .int x :: st) uc us m := by
  intro p l e R s mid args below meth c F E X H locs lr hP hlo hls
  have hx := X.1
  have hb := X.2.1
  exact lv_isub hx hb hd (k p l e R s mid args below meth c F E X H locs lr hP hlo hls)
theorem zr_imul {x y : Int32} (hd : decode M.2.2.1 pc = .ok (.imul, 1)) (k : zwp d M mc ms Q (pc + 1) ls (.int (x * y) :: st) uc us m) : zwp d M mc ms Q pc ls (.int y :: .int x :: st) uc us m := by
  intro p l e R s mid args below meth c F E X H locs lr hP hlo hls
  have hx := X.1
  have hb := X.2.1
  exact lv_imul hx hb hd (k p l e R s mid args below meth c F E X H locs lr hP hlo hls)
theorem zr_iand {x y : Int32} (hd : decode M.2.2.1 pc = .ok (.iand, 1)) (k : zwp d M mc ms Q (pc + 1) ls (.int (x &&& y) :: st) uc us m) : zwp d M mc ms Q pc ls (.int y :: .int x :: st) uc us m := by
  intro p l e R s mid args below meth c F E X H locs lr hP hlo hls
  have hx := X.1
  have hb := X.2.1
  exact lv_iand hx hb hd (k p l e R s mid args below meth c F E X H locs lr hP hlo hls)
theorem zr_ior {x y : Int32} (hd : decode M.2.2.1 pc = .ok (.ior, 1)) (k : zwp d M mc ms Q (pc + 1) ls (.int (x ||| y) :: st) uc us m) : zwp d M mc ms Q pc ls (.int y :: .int x :: st) uc us m := by
  intro p l e R s mid args below meth c F E X H locs lr hP hlo hls
  have hx := X.1
  have hb := X.2.1
  exact lv_ior hx hb hd (k p l e R s mid args below meth c F E X H locs lr hP hlo hls)
theorem zr_ishl {x y : Int32} (hd : decode M.2.2.1 pc = .ok (.ishl, 1)) (k : zwp d M mc ms Q (pc + 1) ls (.int (x <<< (y &&& 31)) :: st) uc us m) : zwp d M mc ms Q pc ls (.int y :: .int x :: st) uc us m := by
  intro p l e R s mid args below meth c F E X H locs lr hP hlo hls
  have hx := X.1
  have hb := X.2.1
  exact lv_ishl hx hb hd (k p l e R s mid args below meth c F E X H locs lr hP hlo hls)
theorem zr_idiv {x y : Int32} (hd : decode M.2.2.1 pc = .ok (.idiv, 1)) (hne : ¬ y = 0) (k : zwp d M mc ms Q (pc + 1) ls (.int (x / y) :: st) uc us m) : zwp d M mc ms Q pc ls (.int y :: .int x :: st) uc us m := by
  intro p l e R s mid args below meth c F E X H locs lr hP hlo hls
  have hx := X.1
  have hb := X.2.1
  exact lv_idiv hx hb hd hne (k p l e R s mid args below meth c F E X H locs lr hP hlo hls)
theorem zr_irem {x y : Int32} (hd : decode M.2.2.1 pc = .ok (.irem, 1)) (hne : ¬ y = 0) (k : zwp d M mc ms Q (pc + 1) ls (.int (x - x / y * y) :: st) uc us m) : zwp d M mc ms Q pc ls (.int y :: .int x :: st) uc us m := by
  intro p l e R s mid args below meth c F E X H locs lr hP hlo hls
  have hx := X.1
  have hb := X.2.1
  exact lv_irem hx hb hd hne (k p l e R s mid args below meth c F E X H locs lr hP hlo hls)
theorem zr_ladd {x y : Int64} (hd : decode M.2.2.1 pc = .ok (.ladd, 1)) (k : zwp d M mc ms Q (pc + 1) ls (.long (x + y) :: st) uc us m) : zwp d M mc ms Q pc ls (.long y :: .long x :: st) uc us m := by
  intro p l e R s mid args below meth c F E X H locs lr hP hlo hls
  have hx := X.1
  have hb := X.2.1
  exact lv_ladd hx hb hd (k p l e R s mid args below meth c F E X H locs lr hP hlo hls)
theorem zr_lmul {x y : Int64} (hd : decode M.2.2.1 pc = .ok (.lmul, 1)) (k : zwp d M mc ms Q (pc + 1) ls (.long (x * y) :: st) uc us m) : zwp d M mc ms Q pc ls (.long y :: .long x :: st) uc us m := by
  intro p l e R s mid args below meth c F E X H locs lr hP hlo hls
  have hx := X.1
  have hb := X.2.1
  exact lv_lmul hx hb hd (k p l e R s mid args below meth c F E X H locs lr hP hlo hls)
theorem zr_land {x y : Int64} (hd : decode M.2.2.1 pc = .ok (.land, 1)) (k : zwp d M mc ms Q (pc + 1) ls (.long (x &&& y) :: st) uc us m) : zwp d M mc ms Q pc ls (.long y :: .long x :: st) uc us m := by
  intro p l e R s mid args below meth c F E X H locs lr hP hlo hls
  have hx := X.1
  have hb := X.2.1
  exact lv_land hx hb hd (k p l e R s mid args below meth c F E X H locs lr hP hlo hls)
theorem zr_lor {x y : Int64} (hd : decode M.2.2.1 pc = .ok (.lor, 1)) (k : zwp d M mc ms Q (pc + 1) ls (.long (x ||| y) :: st) uc us m) : zwp d M mc ms Q pc ls (.long y :: .long x :: st) uc us m := by
  intro p l e R s mid args below meth c F E X H locs lr hP hlo hls
  have hx := X.1
  have hb := X.2.1
  exact lv_lor hx hb hd (k p l e R s mid args below meth c F E X H locs lr hP hlo hls)
theorem zr_lcmp {x y : Int64} (hd : decode M.2.2.1 pc = .ok (.lcmp, 1)) (k : zwp d M mc ms Q (pc + 1) ls (.int (lg_cmp x y) :: st) uc us m) : zwp d M mc ms Q pc ls (.long y :: .long x :: st) uc us m := by
  intro p l e R s mid args below meth c F E X H locs lr hP hlo hls
  have hx := X.1
  have hb := X.2.1
  exact W.lcmp hx hb hd (k p l e R s mid args below meth c F E X H locs lr hP hlo hls)
theorem zr_i2l {x : Int32} (hd : decode M.2.2.1 pc = .ok (.i2l, 1)) (k : zwp d M mc ms Q (pc + 1) ls (.long x.toInt64 :: st) uc us m) : zwp d M mc ms Q pc ls (.int x :: st) uc us m := by
  intro p l e R s mid args below meth c F E X H locs lr hP hlo hls
  have hx := X.1
  have hb := X.2.1
  exact lv_i2l hx hb hd rfl (k p l e R s mid args below meth c F E X H locs lr hP hlo hls)
theorem zr_i2b {x : Int32} (hd : decode M.2.2.1 pc = .ok (.i2b, 1)) (k : zwp d M mc ms Q (pc + 1) ls (.int x.toInt8.toInt32 :: st) uc us m) : zwp d M mc ms Q pc ls (.int x :: st) uc us m := by
  intro p l e R s mid args below meth c F E X H locs lr hP hlo hls
  have hx := X.1
  have hb := X.2.1
  exact lv_i2b hx hb hd rfl (k p l e R s mid args below meth c F E X H locs lr hP hlo hls)
theorem zr_lushr {x : Int64} {y : Int32} (hd : decode M.2.2.1 pc = .ok (.lushr, 1)) (k : zwp d M mc ms Q (pc + 1) ls (.long (x.toUInt64 >>> (y.toInt64.toUInt64 &&& Int64.toUInt64 63)).toInt64 :: st) uc us m) : zwp d M mc ms Q pc ls (.int y :: .long x :: st) uc us m := by
  intro p l e R s mid args below meth c F E X H locs lr hP hlo hls
  have hx := X.1
  have hb := X.2.1
  exact lv_lushr hx hb hd rfl (k p l e R s mid args below meth c F E X H locs lr hP hlo hls)
theorem zr_lshl {x : Int64} {y : Int32} (hd : decode M.2.2.1 pc = .ok (.lshl, 1)) (k : zwp d M mc ms Q (pc + 1) ls (.long (x <<< (y.toInt64 &&& 63)) :: st) uc us m) : zwp d M mc ms Q pc ls (.int y :: .long x :: st) uc us m := by
  intro p l e R s mid args below meth c F E X H locs lr hP hlo hls
  have hx := X.1
  have hb := X.2.1
  exact lv_lshl hx hb hd rfl (k p l e R s mid args below meth c F E X H locs lr hP hlo hls)
theorem zr_fadd {x y : UInt32} (hd : decode M.2.2.1 pc = .ok (.fadd, 1)) (hne : vf_n32 (FP.fadd x y)) (k : zwp d M mc ms Q (pc + 1) ls (.float (FP.fadd x y) :: st) uc us m) : zwp d M mc ms Q pc ls (.float y :: .float x :: st) uc us m := by
  intro p l e R s mid args below meth c F E X H locs lr hP hlo hls
  have hx := X.1
  have hb := X.2.1
  exact lv_fadd hx hb hd hne (k p l e R s mid args below meth c F E X H locs lr hP hlo hls)
theorem zr_fmul {x y : UInt32} (hd : decode M.2.2.1 pc = .ok (.fmul, 1)) (hne : vf_n32 (FP.fmul x y)) (k : zwp d M mc ms Q (pc + 1) ls (.float (FP.fmul x y) :: st) uc us m) : zwp d M mc ms Q pc ls (.float y :: .float x :: st) uc us m := by
  intro p l e R s mid args below meth c F E X H locs lr hP hlo hls
  have hx := X.1
  have hb := X.2.1
  exact lv_fmul hx hb hd hne (k p l e R s mid args below meth c F E X H locs lr hP hlo hls)
theorem zr_dmul {x y : UInt64} (hd : decode M.2.2.1 pc = .ok (.dmul, 1)) (hne : vf_n64 (FP.dmul x y)) (k : zwp d M mc ms Q (pc + 1) ls (.double (FP.dmul x y) :: st) uc us m) : zwp d M mc ms Q pc ls (.double y :: .double x :: st) uc us m := by
  intro p l e R s mid args below meth c F E X H locs lr hP hlo hls
  have hx := X.1
  have hb := X.2.1
  exact lv_dmul hx hb hd hne (k p l e R s mid args below meth c F E X H locs lr hP hlo hls)
theorem zr_fcmp {x y : UInt32} {op : CmpOp} (hd : decode M.2.2.1 pc = .ok (.fcmp op, 1)) (k : zwp d M mc ms Q (pc + 1) ls (.int (Op.cmpValue (FP.fcmp x y) op) :: st) uc us m) : zwp d M mc ms Q pc ls (.float y :: .float x :: st) uc us m := by
  intro p l e R s mid args below meth c F E X H locs lr hP hlo hls
  have hx := X.1
  have hb := X.2.1
  exact lv_fcmp hx hb hd (k p l e R s mid args below meth c F E X H locs lr hP hlo hls)
theorem zr_dcmp {x y : UInt64} {op : CmpOp} (hd : decode M.2.2.1 pc = .ok (.dcmp op, 1)) (k : zwp d M mc ms Q (pc + 1) ls (.int (Op.cmpValue (FP.dcmp x y) op) :: st) uc us m) : zwp d M mc ms Q pc ls (.double y :: .double x :: st) uc us m := by
  intro p l e R s mid args below meth c F E X H locs lr hP hlo hls
  have hx := X.1
  have hb := X.2.1
  exact lv_dcmp hx hb hd (k p l e R s mid args below meth c F E X H locs lr hP hlo hls)
theorem zr_i2f {x : Int32} (hd : decode M.2.2.1 pc = .ok (.i2f, 1)) (k : zwp d M mc ms Q (pc + 1) ls (.float (FP.i2f x) :: st) uc us m) : zwp d M mc ms Q pc ls (.int x :: st) uc us m := by
  intro p l e R s mid args below meth c F E X H locs lr hP hlo hls
  have hx := X.1
  have hb := X.2.1
  exact lv_i2f hx hb hd (k p l e R s mid args below meth c F E X H locs lr hP hlo hls)
theorem zr_d2i {x : UInt64} (hd : decode M.2.2.1 pc = .ok (.d2i, 1)) (k : zwp d M mc ms Q (pc + 1) ls (.int (FP.d2i x) :: st) uc us m) : zwp d M mc ms Q pc ls (.double x :: st) uc us m := by
  intro p l e R s mid args below meth c F E X H locs lr hP hlo hls
  have hx := X.1
  have hb := X.2.1
  exact lv_d2i hx hb hd (k p l e R s mid args below meth c F E X H locs lr hP hlo hls)
theorem zr_f2d {x : UInt32} (hd : decode M.2.2.1 pc = .ok (.f2d, 1)) (hne : vf_n64 (FP.f2d x)) (k : zwp d M mc ms Q (pc + 1) ls (.double (FP.f2d x) :: st) uc us m) : zwp d M mc ms Q pc ls (.float x :: st) uc us m := by
  intro p l e R s mid args below meth c F E X H locs lr hP hlo hls
  have hx := X.1
  have hb := X.2.1
  exact lv_f2d hx hb hd hne (k p l e R s mid args below meth c F E X H locs lr hP hlo hls)
theorem zr_dup {a : Value} (hd : decode M.2.2.1 pc = .ok (.dup, 1)) (ha : a.category = 1) (k : zwp d M mc ms Q (pc + 1) ls (a :: a :: st) uc us m) : zwp d M mc ms Q pc ls (a :: st) uc us m := by
  intro p l e R s mid args below meth c F E X H locs lr hP hlo hls
  have hx := X.1
  have hb := X.2.1
  exact lv_dup hx hb hd ((ztr_cat E a).trans ha) (k p l e R s mid args below meth c F E X H locs lr hP hlo hls)
theorem zr_pop {a : Value} (hd : decode M.2.2.1 pc = .ok (.pop, 1)) (ha : a.category = 1) (k : zwp d M mc ms Q (pc + 1) ls st uc us m) : zwp d M mc ms Q pc ls (a :: st) uc us m := by
  intro p l e R s mid args below meth c F E X H locs lr hP hlo hls
  have hx := X.1
  have hb := X.2.1
  exact lv_pop hx hb hd ((ztr_cat E a).trans ha) (k p l e R s mid args below meth c F E X H locs lr hP hlo hls)
theorem zr_dup2 {a b : Value} (hd : decode M.2.2.1 pc = .ok (.dup2, 1)) (ha : a.category = 1) (hb1 : b.category = 1) (k : zwp d M mc ms Q (pc + 1) ls (a :: b :: a :: b :: st) uc us m) : zwp d M mc ms Q pc ls (a :: b :: st) uc us m := by
  intro p l e R s mid args below meth c F E X H locs lr hP hlo hls
  have hx := X.1
  have hb := X.2.1
  exact lv_dup2_11 hx hb hd ((ztr_cat E a).trans ha) ((ztr_cat E b).trans hb1) (k p l e R s mid args below meth c F E X H locs lr hP hlo hls)
theorem zr_if_eq {x : Int32} {off : Int} {tgt : Nat} (hd : decode M.2.2.1 pc = .ok (.ifCond .eq off, 3)) (ht : (pc : Int) + off = (tgt : Int)) (kt : x = 0 → zwp d M mc ms Q tgt ls st uc us m) (kf : ¬ x = 0 → zwp d M mc ms Q (pc + 3) ls st uc us m) : zwp d M mc ms Q pc ls (.int x :: st) uc us m := by
  intro p l e R s mid args below meth c F E X H locs lr hP hlo hls
  have hx := X.1
  have hb := X.2.1
  exact lv_if_eq hx hb hd ht (fun q => kt q p l e R s mid args below meth c F E X H locs lr hP hlo hls) (fun q => kf q p l e R s mid args below meth c F E X H locs lr hP hlo hls)
theorem zr_icmp_eq {x y : Int32} {off : Int} {tgt : Nat} (hd : decode M.2.2.1 pc = .ok (.if_icmp .eq off, 3)) (ht : (pc : Int) + off = (tgt : Int)) (kt : x = y → zwp d M mc ms Q tgt ls st uc us m) (kf : ¬ x = y → zwp d M mc ms Q (pc + 3) ls st uc us m) : zwp d M mc ms Q pc ls (.int y :: .int x :: st) uc us m := by
  intro p l e R s mid args below meth c F E X H locs lr hP hlo hls
  have hx := X.1
  have hb := X.2.1
  exact lv_icmp_eq hx hb hd ht (fun q => kt q p l e R s mid args below meth c F E X H locs lr hP hlo hls) (fun q => kf q p l e R s mid args below meth c F E X H locs lr hP hlo hls)
theorem zr_if_ne {x : Int32} {off : Int} {tgt : Nat} (hd : decode M.2.2.1 pc = .ok (.ifCond .ne off, 3)) (ht : (pc : Int) + off = (tgt : Int)) (kt : ¬ x = 0 → zwp d M mc ms Q tgt ls st uc us m) (kf : x = 0 → zwp d M mc ms Q (pc + 3) ls st uc us m) : zwp d M mc ms Q pc ls (.int x :: st) uc us m := by
  intro p l e R s mid args below meth c F E X H locs lr hP hlo hls
  have hx := X.1
  have hb := X.2.1
  exact lv_if_ne hx hb hd ht (fun q => kt q p l e R s mid args below meth c F E X H locs lr hP hlo hls) (fun q => kf q p l e R s mid args below meth c F E X H locs lr hP hlo hls)
theorem zr_icmp_ne {x y : Int32} {off : Int} {tgt : Nat} (hd : decode M.2.2.1 pc = .ok (.if_icmp .ne off, 3)) (ht : (pc : Int) + off = (tgt : Int)) (kt : ¬ x = y → zwp d M mc ms Q tgt ls st uc us m) (kf : x = y → zwp d M mc ms Q (pc + 3) ls st uc us m) : zwp d M mc ms Q pc ls (.int y :: .int x :: st) uc us m := by
  intro p l e R s mid args below meth c F E X H locs lr hP hlo hls
  have hx := X.1
  have hb := X.2.1
  exact lv_icmp_ne hx hb hd ht (fun q => kt q p l e R s mid args below meth c F E X H locs lr hP hlo hls) (fun q => kf q p l e R s mid args below meth c F E X H locs lr hP hlo hls)
theorem zr_if_lt {x : Int32} {off : Int} {tgt : Nat} (hd : decode M.2.2.1 pc = .ok (.ifCond .lt off, 3)) (ht : (pc : Int) + off = (tgt : Int)) (kt : x < 0 → zwp d M mc ms Q tgt ls st uc us m) (kf : ¬ x < 0 → zwp d M mc ms Q (pc + 3) ls st uc us m) : zwp d M mc ms Q pc ls (.int x :: st) uc us m := by
  intro p l e R s mid args below meth c F E X H locs lr hP hlo hls
  have hx := X.1
  have hb := X.2.1
  exact lv_if_lt hx hb hd ht (fun q => kt q p l e R s mid args below meth c F E X H locs lr hP hlo hls) (fun q => kf q p l e R s mid args below meth c F E X H locs lr hP hlo hls)
theorem zr_icmp_lt {x y : Int32} {off : Int} {tgt : Nat} (hd : decode M.2.2.1 pc = .ok (.if_icmp .lt off, 3)) (ht : (pc : Int) + off = (tgt : Int)) (kt : x < y → zwp d M mc ms Q tgt ls st uc us m) (kf : ¬ x < y → zwp d M mc ms Q (pc + 3) ls st uc us m) : zwp d M mc ms Q pc ls (.int y :: .int x :: st) uc us m := by
  intro p l e R s mid args below meth c F E X H locs lr hP hlo hls
  have hx := X.1
  have hb := X.2.1
  exact lv_icmp_lt hx hb hd ht (fun q => kt q p l e R s mid args below meth c F E X H locs lr hP hlo hls) (fun q => kf q p l e R s mid args below meth c F E X H locs lr hP hlo hls)
theorem zr_if_ge {x : Int32} {off : Int} {tgt : Nat} (hd : decode M.2.2.1 pc = .ok (.ifCond .ge off, 3)) (ht : (pc : Int) + off = (tgt : Int)) (kt : 0 ≤ x → zwp d M mc ms Q tgt ls st uc us m) (kf : ¬ 0 ≤ x → zwp d M mc ms Q (pc + 3) ls st uc us m) : zwp d M mc ms Q pc ls (.int x :: st) uc us m := by
  intro p l e R s mid args below meth c F E X H locs lr hP hlo hls
  have hx := X.1
  have hb := X.2.1
  exact lv_if_ge hx hb hd ht (fun q => kt q p l e R s mid args below meth c F E X H locs lr hP hlo hls) (fun q => kf q p l e R s mid args below meth c F E X H locs lr hP hlo hls)
theorem zr_icmp_ge {x y : Int32} {off : Int} {tgt : Nat} (hd : decode M.2.2.1 pc = .ok (.if_icmp .ge off, 3)) (ht : (pc : Int) + off = (tgt : Int)) (kt : y ≤ x → zwp d M mc ms Q tgt ls st uc us m) (kf : ¬ y ≤ x → zwp d M mc ms Q (pc + 3) ls st uc us m) : zwp d M mc ms Q pc ls (.int y :: .int x :: st) uc us m := by
  intro p l e R s mid args below meth c F E X H locs lr hP hlo hls
  have hx := X.1
  have hb := X.2.1
  exact lv_icmp_ge hx hb hd ht (fun q => kt q p l e R s mid args below meth c F E X H locs lr hP hlo hls) (fun q => kf q p l e R s mid args below meth c F E X H locs lr hP hlo hls)
theorem zr_if_gt {x : Int32} {off : Int} {tgt : Nat} (hd : decode M.2.2.1 pc = .ok (.ifCond .gt off, 3)) (ht : (pc : Int) + off = (tgt : Int)) (kt : 0 < x → zwp d M mc ms Q tgt ls st uc us m) (kf : ¬ 0 < x → zwp d M mc ms Q (pc + 3) ls st uc us m) : zwp d M mc ms Q pc ls (.int x :: st) uc us m := by
  intro p l e R s mid args below meth c F E X H locs lr hP hlo hls
  have hx := X.1
  have hb := X.2.1
  exact lv_if_gt hx hb hd ht (fun q => kt q p l e R s mid args below meth c F E X H locs lr hP hlo hls) (fun q => kf q p l e R s mid args below meth c F E X H locs lr hP hlo hls)
theorem zr_icmp_gt {x y : Int32} {off : Int} {tgt : Nat} (hd : decode M.2.2.1 pc = .ok (.if_icmp .gt off, 3)) (ht : (pc : Int) + off = (tgt : Int)) (kt : y < x → zwp d M mc ms Q tgt ls st uc us m) (kf : ¬ y < x → zwp d M mc ms Q (pc + 3) ls st uc us m) : zwp d M mc ms Q pc ls (.int y :: .int x :: st) uc us m := by
  intro p l e R s mid args below meth c F E X H locs lr hP hlo hls
  have hx := X.1
  have hb := X.2.1
  exact lv_icmp_gt hx hb hd ht (fun q => kt q p l e R s mid args below meth c F E X H locs lr hP hlo hls) (fun q => kf q p l e R s mid args below meth c F E X H locs lr hP hlo hls)
theorem zr_if_le {x : Int32} {off : Int} {tgt : Nat} (hd : decode M.2.2.1 pc = .ok (.ifCond .le off, 3)) (ht : (pc : Int) + off = (tgt : Int)) (kt : x ≤ 0 → zwp d M mc ms Q tgt ls st uc us m) (kf : ¬ x ≤ 0 → zwp d M mc ms Q (pc + 3) ls st uc us m) : zwp d M mc ms Q pc ls (.int x :: st) uc us m := by
  intro p l e R s mid args below meth c F E X H locs lr hP hlo hls
  have hx := X.1
  have hb := X.2.1
  exact lv_if_le hx hb hd ht (fun q => kt q p l e R s mid args below meth c F E X H locs lr hP hlo hls) (fun q => kf q p l e R s mid args below meth c F E X H locs lr hP hlo hls)
theorem zr_icmp_le {x y : Int32} {off : Int} {tgt : Nat} (hd : decode M.2.2.1 pc = .ok (.if_icmp .le off, 3)) (ht : (pc : Int) + off = (tgt : Int)) (kt : x ≤ y → zwp d M mc ms Q tgt ls st uc us m) (kf : ¬ x ≤ y → zwp d M mc ms Q (pc + 3) ls st uc us m) : zwp d M mc ms Q pc ls (.int y :: .int x :: st) uc us m := by
  intro p l e R s mid args below meth c F E X H locs lr hP hlo hls
  have hx := X.1
  have hb := X.2.1
  exact lv_icmp_le hx hb hd ht (fun q => kt q p l e R s mid args below meth c F E X H locs lr hP hlo hls) (fun q => kf q p l e R s mid args below meth c F E X H locs lr hP hlo hls)
theorem zr_goto {off : Int} {tgt : Nat} (hd : decode M.2.2.1 pc = .ok (.goto off, 3)) (ht : (pc : Int) + off = (tgt : Int)) (k : zwp d M mc ms Q tgt ls st uc us m) : zwp d M mc ms Q pc ls st uc us m := by
  intro p l e R s mid args below meth c F E X H locs lr hP hlo hls
  have hx := X.1
  have hb := X.2.1
  exact lv_goto hx hb hd ht (k p l e R s mid args below meth c F E X H locs lr hP hlo hls)
theorem zr_lookup {dflt : Int} {ps : Array (Int × Int)} {len : Nat} {x : Int32} {off : Int} {tgt : Nat} (hd : decode M.2.2.1 pc = .ok (.lookupswitch dflt ps, len)) (hp : (ps.toList.zip (ps.toList.drop 1)).all (fun (a, next) => a.1 < next.1) = true) (ho : Op.lookupswitch.offset ps.toList dflt x.toInt = off) (ht : (pc : Int) + off = (tgt : Int)) (k : zwp d M mc ms Q tgt ls st uc us m) : zwp d M mc ms Q pc ls (.int x :: st) uc us m := by
  intro p l e R s mid args below meth c F E X H locs lr hP hlo hls
  have hx := X.1
  have hb := X.2.1
  exact lv_lookup hx hb hd hp ho ht (k p l e R s mid args below meth c F E X H locs lr hP hlo hls)
theorem zr_tableOut {dflt lo hi : Int} {offs : Array Int} {len : Nat} {x : Int32} {tgt : Nat} (hd : decode M.2.2.1 pc = .ok (.tableswitch dflt lo hi offs, len)) (h : x.toInt < lo ∨ hi < x.toInt) (ht : (pc : Int) + dflt = (tgt : Int)) (k : zwp d M mc ms Q tgt ls st uc us m) : zwp d M mc ms Q pc ls (.int x :: st) uc us m := by
  intro p l e R s mid args below meth c F E X H locs lr hP hlo hls
  have hx := X.1
  have hb := X.2.1
  exact lv_tableOut hx hb hd h ht (k p l e R s mid args below meth c F E X H locs lr hP hlo hls)
theorem zr_tableIn {dflt lo hi : Int} {offs : Array Int} {len : Nat} {x : Int32} {off : Int} {tgt : Nat} (hd : decode M.2.2.1 pc = .ok (.tableswitch dflt lo hi offs, len)) (h1 : ¬ x.toInt < lo) (h2 : ¬ hi < x.toInt) (ho : offs[(x.toInt - lo).toNat]? = some off) (ht : (pc : Int) + off = (tgt : Int)) (k : zwp d M mc ms Q tgt ls st uc us m) : zwp d M mc ms Q pc ls (.int x :: st) uc us m := by
  intro p l e R s mid args below meth c F E X H locs lr hP hlo hls
  have hx := X.1
  have hb := X.2.1
  exact lv_tableIn hx hb hd h1 h2 ho ht (k p l e R s mid args below meth c F E X H locs lr hP hlo hls)
theorem zr_ldc {idx : Nat} {v : Int32} (hd : decode M.2.2.1 pc = .ok (.ldc idx, 2)) (hc : Cond.constant (zcn M.1) idx v ∈ zW) (k : zwp d M mc ms Q (pc + 2) ls (.int v :: st) uc us m) : zwp d M mc ms Q pc ls st uc us m := by
  intro p l e R s mid args below meth c F E X H locs lr hP hlo hls
  have hx := X.1
  have hb := X.2.1
  exact lv_ldc hx hb X.2.2.2.1 (X.2.2.2.2.1 _ hc) hd (k p l e R s mid args below meth c F E X H locs lr hP hlo hls)
theorem zr_ldcf {idx : Nat} {v : UInt32} (hd : decode M.2.2.1 pc = .ok (.ldc idx, 2)) (hc : Cond.constantFloat (zcn M.1) idx v ∈ zW) (k : zwp d M mc ms Q (pc + 2) ls (.float v :: st) uc us m) : zwp d M mc ms Q pc ls st uc us m := by
  intro p l e R s mid args below meth c F E X H locs lr hP hlo hls
  have hx := X.1
  have hb := X.2.1
  exact lv_ldcf hx hb X.2.2.2.1 (X.2.2.2.2.1 _ hc) hd (k p l e R s mid args below meth c F E X H locs lr hP hlo hls)
theorem zr_ldc2 {idx : Nat} {v : Int64} (hd : decode M.2.2.1 pc = .ok (.ldc2_w idx, 3)) (hc : Cond.constantLong (zcn M.1) idx v ∈ zW) (k : zwp d M mc ms Q (pc + 3) ls (.long v :: st) uc us m) : zwp d M mc ms Q pc ls st uc us m := by
  intro p l e R s mid args below meth c F E X H locs lr hP hlo hls
  have hx := X.1
  have hb := X.2.1
  exact lv_ldc2 hx hb X.2.2.2.1 (X.2.2.2.2.1 _ hc) hd (k p l e R s mid args below meth c F E X H locs lr hP hlo hls)
theorem zr_ldc2d {idx : Nat} {v : UInt64} (hd : decode M.2.2.1 pc = .ok (.ldc2_w idx, 3)) (hc : Cond.constantDouble (zcn M.1) idx v ∈ zW) (k : zwp d M mc ms Q (pc + 3) ls (.double v :: st) uc us m) : zwp d M mc ms Q pc ls st uc us m := by
  intro p l e R s mid args below meth c F E X H locs lr hP hlo hls
  have hx := X.1
  have hb := X.2.1
  exact lv_ldc2d hx hb X.2.2.2.1 (X.2.2.2.2.1 _ hc) hd (k p l e R s mid args below meth c F E X H locs lr hP hlo hls)
theorem zr_ret {i : Instr} {v : Value} (hd : decode M.2.2.1 pc = .ok (i, 1)) (hr : zRet M i v) (hst : ∀ E, st.map (ztr E) = zrs M E v) (h1 : uc ≤ mc) (h2 : us ≤ ms) (hq : Q v m) : zwp d M mc ms Q pc ls st uc us m := by
  intro p l e R s mid args below meth c F E X H locs lr hP hlo hls
  have hx := X.1
  have hb := X.2.1
  rw [hst E]
  exact X.2.2.2.2.2.2.2.2 H locs lr pc uc us i v m hr hd h1 h2 hP hlo hq
theorem zr_ireturn {x : Int32} (hd : decode M.2.2.1 pc = .ok (.ireturn, 1)) (hr : M.2.2.2.2.2 = some .int) (h1 : uc ≤ mc) (h2 : us ≤ ms) (hq : Q (.int x) m) : zwp d M mc ms Q pc ls [.int x] uc us m :=
  zr_ret hd (Or.inr (Or.inl ⟨hr, rfl, x, rfl⟩)) (fun E => by unfold zrs; rw [hr]; rfl) h1 h2 hq
theorem zr_zreturn {x : Int32} (hd : decode M.2.2.1 pc = .ok (.ireturn, 1)) (hr : M.2.2.2.2.2 = some .boolean) (hx : x = 0 ∨ x = 1) (h1 : uc ≤ mc) (h2 : us ≤ ms) (hq : Q (.int x) m) : zwp d M mc ms Q pc ls [.int x] uc us m :=
  zr_ret hd (Or.inr (Or.inr (Or.inl ⟨hr, rfl, hx.imp (congrArg Value.int) (congrArg Value.int)⟩))) (fun E => by unfold zrs; rw [hr]; rfl) h1 h2 hq
theorem zr_lreturn {x : Int64} (hd : decode M.2.2.1 pc = .ok (.lreturn, 1)) (hr : M.2.2.2.2.2 = some .long) (h1 : uc ≤ mc) (h2 : us ≤ ms) (hq : Q (.long x) m) : zwp d M mc ms Q pc ls [.long x] uc us m :=
  zr_ret hd (Or.inr (Or.inr (Or.inr (Or.inl ⟨hr, rfl, x, rfl⟩)))) (fun E => by unfold zrs; rw [hr]; rfl) h1 h2 hq
theorem zr_areturn {x : Nat} {n : String} (hd : decode M.2.2.1 pc = .ok (.areturn, 1)) (hr : M.2.2.2.2.2 = some (.object n)) (h1 : uc ≤ mc) (h2 : us ≤ ms) (hq : Q (.ref x) m) : zwp d M mc ms Q pc ls [.ref x] uc us m :=
  zr_ret hd (Or.inr (Or.inr (Or.inr (Or.inr ⟨⟨n, hr⟩, rfl, x, rfl⟩)))) (fun E => by unfold zrs; rw [hr]; rfl) h1 h2 hq
theorem zr_return (hd : decode M.2.2.1 pc = .ok (.return_, 1)) (hr : M.2.2.2.2.2 = none) (h1 : uc ≤ mc) (h2 : us ≤ ms) (hq : Q .null m) : zwp d M mc ms Q pc ls [] uc us m :=
  zr_ret hd (Or.inl ⟨hr, rfl, rfl⟩) (fun E => by unfold zrs; rw [hr]; rfl) h1 h2 hq
theorem zr_top {a b : Value} (h : a = b) (k : zwp d M mc ms Q pc ls (b :: st) uc us m) : zwp d M mc ms Q pc ls (a :: st) uc us m := h ▸ k
theorem zr_ls {ls' : List Value} (h : ls = ls') (k : zwp d M mc ms Q pc ls' st uc us m) : zwp d M mc ms Q pc ls st uc us m := h ▸ k
theorem zr_mono {Q' : Value → zM → Prop} (h : ∀ v m', Q v m' → Q' v m') (k : zwp d M mc ms Q pc ls st uc us m) : zwp d M mc ms Q' pc ls st uc us m := by
  intro p l e R s mid args below meth c F E X
  exact k p l e R s mid args below meth c F E ⟨X.1, X.2.1, X.2.2.1, X.2.2.2.1, X.2.2.2.2.1, X.2.2.2.2.2.1, X.2.2.2.2.2.2.1, X.2.2.2.2.2.2.2.1, fun H locs lr pc uc us i v m' h1 h2 h3 h4 h5 h6 h7 => X.2.2.2.2.2.2.2.2 H locs lr pc uc us i v m' h1 h2 h3 h4 h5 h6 (h v m' h7)⟩
end
