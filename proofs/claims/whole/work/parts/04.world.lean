/-! ===== a pure memory: ints, references (0: null, 1: the script, n + 2: the n-th cell made), longs, floats, the next number; the script's ints stand in row 1, its length at (1, 0) of the references ===== -/
abbrev zM : Type := (Nat → Nat → Int32) × (Nat → Nat → Nat) × (Nat → Nat → Int64) × (Nat → Nat → UInt32) × Nat
def zI (m : zM) (a k : Nat) : Int32 := m.1 a k
def zR (m : zM) (a k : Nat) : Nat := m.2.1 a k
def zL (m : zM) (a k : Nat) : Int64 := m.2.2.1 a k
def zF (m : zM) (a k : Nat) : UInt32 := m.2.2.2.1 a k
def zn (m : zM) : Nat := m.2.2.2.2
def zu {α : Type} (f : Nat → Nat → α) (a k : Nat) (v : α) : Nat → Nat → α := fun x j => if x = a ∧ j = k then v else f x j
def zc {α : Type} (f : Nat → Nat → α) (a : Nat) (v : α) : Nat → Nat → α := fun x j => if x = a then v else f x j
def zsI (m : zM) (a k : Nat) (v : Int32) : zM := (zu m.1 a k v, m.2)
def zsR (m : zM) (a k : Nat) (v : Nat) : zM := (m.1, zu m.2.1 a k v, m.2.2)
def zsL (m : zM) (a k : Nat) (v : Int64) : zM := (m.1, m.2.1, zu m.2.2.1 a k v, m.2.2.2)
def zsF (m : zM) (a k : Nat) (v : UInt32) : zM := (m.1, m.2.1, m.2.2.1, zu m.2.2.2.1 a k v, m.2.2.2.2)
def znw (m : zM) : zM := (zc m.1 (zn m) 0, zc m.2.1 (zn m) 0, zc m.2.2.1 (zn m) 0, zc m.2.2.2.1 (zn m) 0, zn m + 1)
/-- what lies at a number: (a kind, a length). 0 to 9: the objects of vwCl; 10 byte, 11 float, 12 int, 13 long, 14 boolean, 15 Entry, 16 Host, 17 Link, 18 NameRecord arrays -/
def zLk (o : Nat) : Nat × Nat :=
  if o = 0 then (5, 0) else if o = 1 then (16, 6) else if o = 92 then (1, 0) else if o = 93 then (13, 4)
  else if (o - 2) % 15 = 0 then (4, 0) else if (o - 2) % 15 = 1 then (18, 5) else if (o - 2) % 15 < 7 then (6, 0) else if (o - 2) % 15 = 7 then (0, 0) else if (o - 2) % 15 = 8 then (15, 6) else (2, 0)
def zLm (o : Nat) : Nat × Nat :=
  if o = 0 then (7, 0) else if o = 1 then (10, 120) else if o = 2 then (12, 60) else if o = 3 then (12, 300) else if o = 4 then (9, 0) else if o = 5 then (12, 424) else if o = 6 then (12, 2120)
  else if o = 7 then (11, 5) else if o = 8 then (12, 424) else if o = 9 then (12, 3) else if o = 10 then (14, 256) else if o = 11 then (12, 120) else if o = 12 then (12, 5) else (99, 0)
def zLay (a : Nat) : Nat × Nat :=
  if a < 2 then (99, 0) else if a = 2 then (8, 0) else if a < 97 then zLk (a - 3) else if a = 97 then (3, 0) else if a = 98 then (17, 6) else if a < 663 then zLk ((a - 99) % 94) else zLm (a - 663)
/-- the type of a kind's place: 0 int and its like, 1 a reference, 2 long, 3 float -/
def zft (kd k : Nat) : Nat :=
  if kd = 0 then (if k = 0 then 1 else 0) else if kd = 1 then 1 else if kd = 2 then 0 else if kd = 3 then (if k = 0 then 1 else 0) else if kd = 4 then (if k < 2 then 1 else 0)
  else if kd = 5 then (if k < 2 then 1 else if k = 9 then 3 else 0) else if kd = 6 then 0 else if kd = 7 then (if k = 0 ∨ k = 2 ∨ k = 3 then 1 else 0) else if kd = 8 then (if k < 3 then 1 else 0)
  else if kd = 9 then (if k = 0 ∨ k = 2 ∨ k = 3 ∨ k = 4 ∨ k = 7 ∨ k = 8 ∨ k = 9 ∨ k = 12 then 1 else if k = 1 ∨ k = 5 then 3 else 0)
  else if kd = 11 then 3 else if kd = 13 then 2 else if 15 ≤ kd then 1 else 0
/-- a launch's own numbers: the script's cell, the first new cell, the classes' numbers, the array classes' -/
abbrev zE : Type := Nat × Nat × va_G × (Nat → ClassId)
def zad (E : zE) (r : Nat) : Nat := if r = 1 then E.1 else E.2.1 + (r - 2)
def ztr (E : zE) (v : Value) : Value := match v with
  | .ref r => .ref (zad E r)
  | v => v
def zrf (E : zE) (r : Nat) : Value := if r = 0 then .null else .ref (zad E r)
def zvt (E : zE) (m : zM) (a k t : Nat) : Value := if t = 0 then .int (zI m a k) else if t = 1 then zrf E (zR m a k) else if t = 2 then .long (zL m a k) else .float (zF m a k)
def zvl (E : zE) (m : zM) (a k : Nat) : Value := zvt E m a k (zft (zLay a).1 k)
def zcl (kd : Nat) : vw_C := vwCl.getD kd (RX0, TX0, 0)
def zAt (E : zE) (m : zM) (a : Nat) (H : Heap) : Prop :=
  if (zLay a).1 < 10 then t_OB (zad E a) (E.2.2.1.1 (zLay a).1) (zcl (zLay a).1).2.2 (E.2.2.1.2 (zLay a).1) H (zvl E m a)
  else H[zad E a]? = some (arrV (E.2.2.2 (zLay a).1) (zLay a).2 (zvl E m a))
def zPic (E : zE) (m : zM) (U : State) (H : Heap) : Prop :=
  2 ≤ zn m ∧ H.size + 2 = E.2.1 + zn m ∧ E.1 < E.2.1 ∧ va_X E.1 (zR m 1 0) (zI m 1) U H ∧ ∀ a, 2 ≤ a → a < zn m → zAt E m a H
def ztys (cy : Nat → ClassId) : List (ClassId × FieldType) := [(cy 10, .byte), (cy 11, .float), (cy 12, .int), (cy 13, .long), (cy 14, .boolean), (cy 15, .object RX2), (cy 16, .object RX4), (cy 17, .object RX5), (cy 18, .object RX6)]
def zaty (kd : Nat) : FieldType := if kd = 10 then .byte else if kd = 11 then .float else if kd = 12 then .int else if kd = 13 then .long else if kd = 14 then .boolean else if kd = 15 then .object RX2 else if kd = 16 then .object RX4 else if kd = 17 then .object RX5 else .object RX6
def zW : List Cond := lw_tbl.filter goodWord
theorem zin {w : Cond} (i : Nat) (h : lw_tbl[i]? = some w) (hg : goodWord w = true) : w ∈ zW := List.mem_filter.mpr ⟨List.mem_of_getElem? h, hg⟩
theorem zW_good {w : Cond} (h : w ∈ zW) : w ∈ zW ∧ ((w.onTables && w.keeps) = true ∨ ∃ ty, w = .arrayClass ty) := ⟨h, good_of_word (List.mem_filter.mp h).2⟩
theorem zGood {w : Cond} {ws : List Cond} (h : w ∈ zW) (hs : ∀ x ∈ ws, x ∈ zW) : GoodIn zW (w :: ws) := fun x hx => zW_good ((List.mem_cons.mp hx).elim (fun e => e ▸ h) (hs x))
/-- the class words of the nest, and of the arrays over own classes, which a warmed table keeps too -/
def znest (U : State) : Prop := ∀ w ∈ lw_tbl, (match w with | .methodLinkNest _ _ _ _ => true | .arrayOver (.object _) => true | _ => false) = true → va_Nw w U
def zKs (E : zE) (U : State) : Prop := va_K E.2.2.1 vwCl (ztys E.2.2.2) U ∧ znest U
theorem znest.moved {s U : State} (hW : s.WarmedH U.vm) (h : znest s) : znest U := by
  intro w hw hk
  have h1 := h w hw hk
  match w, hk, h1 with
  | .methodLinkNest a i x b, _, h1 => exact va_Nw.warmM hW h1
  | .arrayOver (.object C), _, h1 => exact va_AO.moved hW.alike h1
theorem zKs.moved {E : zE} {s U : State} (hW : s.WarmedH U.vm) (h : zKs E s) : zKs E U := ⟨va_K.moved hW.alike h.1, h.2.moved hW⟩
theorem zPic.moved {E : zE} {m : zM} {u U : State} {H : Heap} (hvm : u.vm.Alike U.vm) (h : zPic E m u H) : zPic E m U H := ⟨h.1, h.2.1, h.2.2.1, va_X.moved hvm h.2.2.2.1, h.2.2.2.2⟩
/-- locals: a place that holds no value, or a long's second half, is a retAddr here -/
def zU : Value := .retAddr 0
def zget : List Value → Nat → Value
  | [], _ => zU
  | v :: _, 0 => v
  | _ :: l, n + 1 => zget l n
def zset : List Value → Nat → Value → List Value
  | [], 0, x => [x]
  | [], n + 1, x => zU :: zset [] n x
  | _ :: l, 0, x => x :: l
  | v :: l, n + 1, x => v :: zset l n x
def zis (v : Value) : Bool := match v with
  | .retAddr _ => false
  | _ => true
def zc1 (ls : List Value) (i : Nat) : Bool := match i with
  | 0 => true
  | j + 1 => !((zget ls j).category == 2)
def zen : List Value → List Value
  | [] => []
  | v :: l => if v.category = 2 then v :: zU :: zen l else v :: zen l
theorem zget_zset (ls : List Value) (i : Nat) (x : Value) (j : Nat) : zget (zset ls i x) j = if j = i then x else zget ls j := by
  induction ls generalizing i j with
  | nil =>
    induction i generalizing j with
    | zero => cases j <;> simp [zset, zget]
    | succ i ih => cases j with
      | zero => simp [zset, zget]
      | succ j => simp [zset, zget, ih]
  | cons v l ih => cases i with
    | zero => cases j <;> simp [zset, zget]
    | succ i => cases j with
      | zero => simp [zset, zget]
      | succ j => simp [zset, zget, ih]
theorem ztr_cat (E : zE) (v : Value) : (ztr E v).category = v.category := by cases v <;> rfl
def zLs (E : zE) (lr : Array Slot) (nL : Nat) (ls : List Value) : Prop := lr.size = nL ∧ lv_wf lr ∧ ∀ i, zis (zget ls i) = true → lr[i]? = some (.val (ztr E (zget ls i)))
def zlv (E : zE) (nL : Nat) (ls : List Value) : List (Nat × Value) := (List.range nL).filterMap (fun i => if zis (zget ls i) = true then some (i, ztr E (zget ls i)) else none)
theorem zLs.has {E : zE} {lr : Array Slot} {nL : Nat} {ls : List Value} (h : zLs E lr nL ls) : lv_has lr nL (zlv E nL ls) := by
  refine ⟨h.1, h.2.1, fun q hq => ?_⟩
  obtain ⟨i, hi, he⟩ := List.mem_filterMap.mp hq
  by_cases hz : zis (zget ls i) = true
  · rw [if_pos hz] at he
    cases he
    exact h.2.2 i hz
  · rw [if_neg hz] at he
    cases he
theorem zlv_in {E : zE} {lr : Array Slot} {nL : Nat} {ls : List Value} (h : zLs E lr nL ls) {i : Nat} (hz : zis (zget ls i) = true) : (i, ztr E (zget ls i)) ∈ zlv E nL ls := by
  have h1 := h.2.2 i hz
  have h2 : i < nL := by rw [← h.1]; exact lv_lt h1
  exact List.mem_filterMap.mpr ⟨i, List.mem_range.mpr h2, by rw [if_pos hz]⟩
theorem zLs.put1 {E : zE} {lr lr' : Array Slot} {nL i : Nat} {ls : List Value} {v : Value} (h : zLs E lr nL ls) (hc : zc1 ls i = true)
    (h' : lv_has lr' nL ((i, ztr E v) :: (zlv E nL ls).filter (fun q => !(q.1 == i) && !(q.1 + 1 == i && q.2.category == 2)))) : zLs E lr' nL (zset ls i v) := by
  refine ⟨h'.1, h'.2.1, fun j hj => ?_⟩
  rw [zget_zset] at hj ⊢
  by_cases e : j = i
  · rw [if_pos e]
    subst e
    exact h'.2.2 (j, ztr E v) List.mem_cons_self
  · rw [if_neg e] at hj ⊢
    refine h'.2.2 (j, ztr E (zget ls j)) (List.mem_cons_of_mem _ (List.mem_filter.mpr ⟨zlv_in h hj, ?_⟩))
    simp only [Bool.and_eq_true, Bool.not_eq_true', beq_eq_false_iff_ne, ne_eq, Bool.and_eq_false_iff]
    refine ⟨e, ?_⟩
    by_cases e2 : j + 1 = i
    · right
      subst e2
      rw [ztr_cat]
      simpa [zc1] using hc
    · exact Or.inl e2
theorem zLs.put2 {E : zE} {lr lr' : Array Slot} {nL i : Nat} {ls : List Value} {v : Value} (h : zLs E lr nL ls) (hc : zc1 ls i = true)
    (h' : lv_has lr' nL ((i, ztr E v) :: (zlv E nL ls).filter (fun q => !(q.1 == i) && (!(q.1 == i + 1) && !(q.1 + 1 == i && q.2.category == 2))))) : zLs E lr' nL (zset (zset ls i v) (i + 1) zU) := by
  refine ⟨h'.1, h'.2.1, fun j hj => ?_⟩
  rw [zget_zset, zget_zset] at hj ⊢
  by_cases e1 : j = i + 1
  · rw [if_pos e1] at hj
    simp [zis, zU] at hj
  rw [if_neg e1] at hj ⊢
  by_cases e : j = i
  · rw [if_pos e]
    subst e
    exact h'.2.2 (j, ztr E v) List.mem_cons_self
  · rw [if_neg e] at hj ⊢
    refine h'.2.2 (j, ztr E (zget ls j)) (List.mem_cons_of_mem _ (List.mem_filter.mpr ⟨zlv_in h hj, ?_⟩))
    simp only [Bool.and_eq_true, Bool.not_eq_true', beq_eq_false_iff_ne, ne_eq, Bool.and_eq_false_iff]
    refine ⟨e, e1, ?_⟩
    by_cases e2 : j + 1 = i
    · right
      subst e2
      rw [ztr_cat]
      simpa [zc1] using hc
    · exact Or.inl e2
theorem zen_args (E : zE) (as : List Value) : ∀ (o i : Nat), zis (zget (zen as) i) = true → (o + i, ztr E (zget (zen as) i)) ∈ lv_args o (as.map (ztr E)) := by
  induction as with
  | nil => intro o i h; simp [zen, zget, zis, zU] at h
  | cons v l ih =>
    intro o i h
    rw [List.map_cons, lv_args, ztr_cat]
    unfold zen at h ⊢
    by_cases hc : v.category = 2
    · rw [if_pos hc] at h ⊢
      rw [if_pos hc]
      match i with
      | 0 => exact List.mem_cons_self
      | 1 => simp [zget, zis, zU] at h
      | i + 2 =>
        have := ih (o + 2) i h
        rw [show o + 2 + i = o + (i + 2) by omega] at this
        exact List.mem_cons_of_mem _ this
    · rw [if_neg hc] at h ⊢
      rw [if_neg hc]
      match i with
      | 0 => exact List.mem_cons_self
      | i + 1 =>
        have := ih (o + 1) i h
        rw [show o + 1 + i = o + (i + 1) by omega] at this
        exact List.mem_cons_of_mem _ this
theorem zen_len (E : zE) (as : List Value) : (lg_sl (as.map (ztr E))).length = (zen as).length := by
  induction as with
  | nil => rfl
  | cons v l ih =>
    unfold lg_sl at ih
    unfold zen
    by_cases hc : v.category = 2
    · rw [if_pos hc]
      simp only [lg_sl, List.map_cons, List.flatMap_cons, ztr_cat, hc, if_true, List.length_append, List.length_cons, List.length_nil]
      rw [ih]
      omega
    · rw [if_neg hc]
      simp only [lg_sl, List.map_cons, List.flatMap_cons, ztr_cat, hc, if_false, List.length_append, List.length_cons, List.length_nil]
      rw [ih]
      omega
