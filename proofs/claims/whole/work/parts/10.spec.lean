/-! ===== what a link is: records and entries as rows of numbers, hosts, counts ===== -/
abbrev sR : Type := Nat → Int32
def z0 : sR := fun _ => 0
/-- a list's place -/
def zg (l : List sR) (i : Nat) : sR := l.getD i z0
def zat (l : List sR) (i k : Nat) : Int32 := (zg l i) k
/-- a host: awake (1 or 0), its proxy, its records, its cache -/
abbrev sH : Type := Int32 × Int32 × List sR × List sR
/-- a link: the counts (1 time, 2 said, 3 probed, 4 moved, 5 held, 6 said at the last tick), the rate, the number of hosts, the hosts -/
abbrev sS : Type := (Nat → Int32) × UInt32 × Nat × (Nat → sH)
def sone (a b : sR) : Bool := a 0 == b 0 && a 1 == b 1
def ssame (a b : sR) : Bool := sone a b && a 2 == b 2
def snam (a : sR) (n k : Int32) : Bool := a 0 == n && a 1 == k
def sown (a : sR) : Bool := a 4 == 3
def sawk (x : sH) : Bool := x.1 == 1
def sstd (s : sS) (h : Nat) : Bool := sawk (s.2.2.2 h) || ((s.2.2.2 h).2.1 != -1 && sawk (s.2.2.2 (s.2.2.2 h).2.1.toNatClampNeg))
def sdef (s : sS) (h : Nat) (r : sR) : Bool := sown r && r 6 == 1 && sstd s h
/-- an update of a function -/
def fu {α : Type} (f : Nat → α) (k : Nat) (v : α) : Nat → α := fun j => if j = k then v else f j
/-- f 0, then f 1, .. up to f (n - 1) -/
def fR {α : Type} (f : Nat → α → α) : Nat → α → α
  | 0, a => a
  | n + 1, a => f n (fR f n a)
def anyN (p : Nat → Bool) : Nat → Bool
  | 0 => false
  | n + 1 => anyN p n || p n
def cntN (p : Nat → Bool) : Nat → Nat
  | 0 => 0
  | n + 1 => cntN p n + (if p n then 1 else 0)
theorem fu_s {α : Type} (f : Nat → α) (k : Nat) (v : α) : fu f k v k = v := by simp [fu]
theorem fu_n {α : Type} (f : Nat → α) {k j : Nat} (v : α) (h : j ≠ k) : fu f k v j = f j := by simp [fu, h]
theorem anyN_iff {p : Nat → Bool} {n : Nat} : anyN p n = true ↔ ∃ i, i < n ∧ p i = true := by
  induction n with
  | zero => simp [anyN]
  | succ n ih =>
    rw [anyN, Bool.or_eq_true, ih]
    constructor
    · rintro (⟨i, h1, h2⟩ | h)
      · exact ⟨i, by omega, h2⟩
      · exact ⟨n, by omega, h⟩
    · rintro ⟨i, h1, h2⟩
      by_cases e : i = n
      · subst e; exact Or.inr h2
      · exact Or.inl ⟨i, by omega, h2⟩
theorem anyN_false {p : Nat → Bool} {n : Nat} : anyN p n = false ↔ ∀ i, i < n → p i = false := by
  rw [← Bool.not_eq_true, anyN_iff]
  constructor
  · intro h i hi
    rw [← Bool.not_eq_true]
    exact fun z => h ⟨i, hi, z⟩
  · rintro h ⟨i, hi, z⟩
    rw [h i hi] at z
    cases z
theorem any_anyN (l : List sR) (p : sR → Bool) : l.any p = anyN (fun i => p (zg l i)) l.length := by
  rw [Bool.eq_iff_iff, anyN_iff, List.any_eq_true]
  constructor
  · rintro ⟨x, hx, hp⟩
    obtain ⟨i, hi, he⟩ := List.getElem_of_mem hx
    exact ⟨i, hi, by simp [zg, List.getD, hi, he, hp]⟩
  · rintro ⟨i, hi, hp⟩
    exact ⟨l[i], List.getElem_mem hi, by simpa [zg, List.getD, hi] using hp⟩
theorem cntN_le (p : Nat → Bool) (n : Nat) : cntN p n ≤ n := by
  induction n with
  | zero => simp [cntN]
  | succ n ih => rw [cntN]; split <;> omega
/-! places of lists -/
theorem zat_app_l {l l' : List sR} {i k : Nat} (h : i < l.length) : zat (l ++ l') i k = zat l i k := by
  simp [zat, zg, List.getD, List.getElem?_append_left h]
theorem zat_app_r {l : List sR} {x : sR} {k : Nat} : zat (l ++ [x]) l.length k = x k := by
  simp [zat, zg, List.getD]
theorem zat_erase {l : List sR} {j i k : Nat} : zat (l.eraseIdx j) i k = if i < j then zat l i k else zat l (i + 1) k := by
  simp only [zat, zg, List.getD, List.getElem?_eraseIdx]
  split <;> rfl
theorem zat_set {l : List sR} {j i k : Nat} {x : sR} (h : j < l.length) : zat (l.set j x) i k = if i = j then x k else zat l i k := by
  simp only [zat, zg, List.getD, List.getElem?_set]
  by_cases e : j = i
  · subst e; simp [h]
  · rw [if_neg e, if_neg (fun z => e z.symm)]
theorem zat_map {l : List sR} {i k : Nat} {f : sR → sR} (h : i < l.length) : zat (l.map f) i k = f (zg l i) k := by
  simp [zat, zg, List.getD, h]
theorem zat_drop {l : List sR} {j i k : Nat} : zat (l.drop j) i k = zat l (j + i) k := by
  simp [zat, zg, List.getD, List.getElem?_drop]
theorem zat_take {l : List sR} {j i k : Nat} (h : i < j) : zat (l.take j) i k = zat l i k := by
  simp [zat, zg, List.getD, List.getElem?_take, h]
/-! what happens -/
def sshort (t : Int32) (e : sR) : sR := fun k => if k = 4 then (if t + 1 < e 4 then t + 1 else e 4) else e k
def sent (t : Int32) (r : sR) : sR := fun k => if k = 4 then t + r 3 else r k
def shc1 (x : sH) (r : sR) : List sR := x.2.2.2.filter (fun e => !ssame e r)
def shc2 (x : sH) (r : sR) : List sR := if (shc1 x r).length = 6 then (shc1 x r).eraseIdx 0 else shc1 x r
def shc3 (t : Int32) (x : sH) (r : sR) : List sR := shc2 x r ++ [sent t r]
def srival (t : Int32) (r e : sR) : sR := if sone e r && !ssame e r then sshort t e else e
def shear (t : Int32) (x : sH) (r : sR) : sH :=
  if sawk x && !(x.2.2.1.any (fun a => ssame a r)) then (x.1, x.2.1, x.2.2.1, if r 6 == 1 then (shc3 t x r).map (srival t r) else shc3 t x r) else x
def scnt (s : sS) (k : Nat) (v : Int32) : sS := (fu s.1 k v, s.2)
def shst (s : sS) (h : Nat) (x : sH) : sS := (s.1, s.2.1, s.2.2.1, fu s.2.2.2 h x)
/-- the hosts below k, but 'by', have heard it -/
def sheard (s : sS) (b : Nat) (r : sR) (k : Nat) : sS := (s.1, s.2.1, s.2.2.1, fun h => if h < k ∧ h ≠ b then shear (s.1 1) (s.2.2.2 h) r else s.2.2.2 h)
def ssays (s : sS) (b : Nat) (r : sR) : sS := scnt (sheard s b r s.2.2.1) 2 (s.1 2 + 1)
def shostNow (s : sS) : sS := (s.1, s.2.1, s.2.2.1 + 1, fu s.2.2.2 s.2.2.1 (1, -1, [], []))
def srec (name kind data life : Int32) (sole : Bool) : sR := fun k => if k = 0 then name else if k = 1 then kind else if k = 2 then data else if k = 3 then life else if k = 4 then (if sole then 0 else 3) else if k = 5 then 0 else bI sole
def sadd (s : sS) (h : Nat) (r : sR) : sS := shst s h ((s.2.2.2 h).1, (s.2.2.2 h).2.1, (s.2.2.2 h).2.2.1 ++ [r], (s.2.2.2 h).2.2.2)
def srecordNow (s : sS) (h : Nat) (r : sR) (sole : Bool) : sS := if sole then sadd s h r else ssays (sadd s h r) h r
def sbye (t : Int32) (r : sR) (x : sH) : sH := if sawk x then (x.1, x.2.1, x.2.2.1, x.2.2.2.map (fun e => if ssame e r then sshort t e else e)) else x
/-- the goodbye, as far as the hosts below k -/
def sbyeN (s : sS) (r : sR) (k : Nat) : sS := (s.1, s.2.1, s.2.2.1, fun h => if h < k then sbye (s.1 1) r (s.2.2.2 h) else s.2.2.2 h)
def sdrop (s : sS) (h r : Nat) : sS := shst s h ((s.2.2.2 h).1, (s.2.2.2 h).2.1, (s.2.2.2 h).2.2.1.eraseIdx r, (s.2.2.2 h).2.2.2)
def sleave (s : sS) (h r : Nat) : sS :=
  let a := zg (s.2.2.2 h).2.2.1 r
  if sown a then sdrop (scnt (sbyeN s a s.2.2.1) 2 (s.1 2 + 1)) h r else sdrop s h r
def sin (x lo hi : Int32) : Bool := decide (lo ≤ x) && decide (x ≤ hi)
def sisH (s : sS) (h : Int32) : Bool := decide (0 ≤ h) && decide (h < nI s.2.2.1)
def sisN (name kind : Int32) : Bool := sin name 0 15 && sin kind 0 3
def scanRecord (s : sS) (h name kind data life : Int32) : Int32 :=
  if !sisH s h || !sisN name kind || !sin data 0 255 || !sin life 2 60 then -2
  else if !(sawk (s.2.2.2 h.toNatClampNeg)) || (s.2.2.2 h.toNatClampNeg).2.2.1.any (fun a => snam a name kind) then -3
  else if (s.2.2.2 h.toNatClampNeg).2.2.1.length = 5 then -4 else 0
/-- a tick's first part: entries end, in the hosts below k -/
def saged (t : Int32) (x : sH) : sH := (x.1, x.2.1, x.2.2.1, x.2.2.2.filter (fun e => decide (t < e 4)))
def sages (s : sS) (k : Nat) : sS := (fu s.1 1 (s.1 1 + 1), s.2.1, s.2.2.1, fun h => if h < k then saged (s.1 1 + 1) (s.2.2.2 h) else s.2.2.2 h)
def sopp (s : sS) (h : Nat) (r : sR) : Bool := anyN (fun o => o != h && (s.2.2.2 o).2.2.1.any (fun a => sdef s o a && (sone a r && !ssame a r))) s.2.2.1
def soutb (s : sS) (h : Nat) (r : sR) : Bool := anyN (fun o => o != h && sawk (s.2.2.2 o) && (s.2.2.2 o).2.2.1.any (fun a => !sown a && (sone a r && decide (r 2 < a 2)))) s.2.2.1
/-- a record's field is set -/
def ssetr (s : sS) (h r : Nat) (x : sR) : sS := shst s h ((s.2.2.2 h).1, (s.2.2.2 h).2.1, (s.2.2.2 h).2.2.1.set r x, (s.2.2.2 h).2.2.2)
def sadv (s : sS) (h r : Nat) : sS :=
  let a := zg (s.2.2.2 h).2.2.1 r
  if !(sawk (s.2.2.2 h)) || sown a then s
  else if 0 < a 5 then ssetr s h r (fu a 5 (a 5 - 1))
  else
    let s1 := scnt s 3 (s.1 3 + 1)
    if sopp s1 h a then scnt (ssetr s1 h r (fu (fu (fu a 0 (a 0 + 1 - (a 0 + 1) / 16 * 16)) 4 0) 5 0)) 4 (s1.1 4 + 1)
    else if soutb s1 h a then ssetr s1 h r (fu (fu a 4 0) 5 1)
    else if a 4 + 1 = 3 then ssays (ssetr s1 h r (fu a 4 (a 4 + 1))) h (fu a 4 (a 4 + 1)) else ssetr s1 h r (fu a 4 (a 4 + 1))
def sadvH (s : sS) (h : Nat) : sS := fR (fun r s => sadv s h r) (s.2.2.2 h).2.2.1.length s
def srate (s : sS) : sS := (fu s.1 6 (s.1 2), FP.fadd (FP.fmul s.2.1 1061158912) (FP.fmul (FP.i2f (s.1 2 - s.1 6)) 1048576000), s.2.2)
def stick (s : sS) : sS := srate (fR (fun h s => sadvH s h) s.2.2.1 (sages s s.2.2.1))
def sticks (s : sS) (n : Nat) : sS := fR (fun _ s => stick s) n s
/-! what is asked -/
def sownN (l : List sR) : Nat := cntN (fun i => sown (zg l i)) l.length
def sstood (s : sS) (h : Nat) : Nat → Int32
  | 0 => 0
  | o + 1 => sstood s h o ||| (if (s.2.2.2 o).2.1 = nI h then 1 <<< (nI o &&& 31) else 0)
def sof (s : sS) (h : Nat) (what : Nat) : Int32 :=
  if what = 0 then nI (s.2.2.2 h).2.2.1.length else if what = 1 then (s.2.2.2 h).1 else if what = 2 then (s.2.2.2 h).2.1 else if what = 3 then nI (s.2.2.2 h).2.2.2.length
  else if what = 4 then nI (sownN (s.2.2.2 h).2.2.1) else sstood s h s.2.2.1
def srecth (s : sS) (h r what : Nat) : Int32 := if what = 7 then bI (sdef s h (zg (s.2.2.2 h).2.2.1 r)) else zat (s.2.2.2 h).2.2.1 r what
def sentr (s : sS) (h i what : Nat) : Int32 := zat (s.2.2.2 h).2.2.2 i what - (if what = 4 then s.1 1 else 0)
def snewest (l : List sR) (n k : Int32) : Nat → Int32
  | 0 => -1
  | i + 1 => if snam (zg l i) n k then zg l i 2 else snewest l n k i
def smost (l : List sR) (n k t : Int32) : Nat → Int32
  | 0 => -1
  | i + 1 => if snam (zg l i) n k then (if smost l n k t i < zg l i 4 - t then zg l i 4 - t else smost l n k t i) else smost l n k t i
def sfinds (s : sS) (h : Nat) (n k : Int32) (what : Nat) : Int32 :=
  if what = 0 then snewest (s.2.2.2 h).2.2.2 n k (s.2.2.2 h).2.2.2.length else if what = 1 then nI (cntN (fun i => snam (zg (s.2.2.2 h).2.2.2 i) n k) (s.2.2.2 h).2.2.2.length)
  else smost (s.2.2.2 h).2.2.2 n k (s.1 1) (s.2.2.2 h).2.2.2.length
def sdn (s : sS) (h : Nat) (n k : Int32) (a : sR) : Bool := sdef s h a && snam a n k
def shas (s : sS) (n k : Int32) (h : Nat) : Bool := (s.2.2.2 h).2.2.1.any (sdn s h n k)
/-- the first host that has one, below m -/
def sfirst (s : sS) (n k : Int32) : Nat → Int32
  | 0 => -1
  | h + 1 => if sfirst s n k h = -1 ∧ shas s n k h = true then nI h else sfirst s n k h
/-- the data of the first such record among the first ones -/
def sfdata (s : sS) (h : Nat) (n k : Int32) : Nat → Int32
  | 0 => -1
  | r + 1 => if anyN (fun i => sdn s h n k (zg (s.2.2.2 h).2.2.1 i)) r then sfdata s h n k r else if sdn s h n k (zg (s.2.2.2 h).2.2.1 r) then zg (s.2.2.2 h).2.2.1 r 2 else -1
def sdata (s : sS) (n k : Int32) : Nat → Int32
  | 0 => -1
  | h + 1 => if sfirst s n k h = -1 then (if shas s n k h then sfdata s h n k (s.2.2.2 h).2.2.1.length else -1) else sdata s n k h
def sowner (s : sS) (n k : Int32) (what : Nat) : Int32 := if what = 0 then sfirst s n k s.2.2.1 else if what = 1 then sdata s n k s.2.2.1 else nI (cntN (shas s n k) s.2.2.1)
def sownd (s : sS) (e : sR) : Bool := anyN (fun h => (s.2.2.2 h).2.2.1.any (fun a => sown a && ssame a e)) s.2.2.1
def sstale (s : sS) (h : Nat) : Nat := cntN (fun i => !sownd s (zg (s.2.2.2 h).2.2.2 i)) (s.2.2.2 h).2.2.2.length
def sallh (s : sS) (what h : Nat) : Int32 :=
  if what = 0 then nI (s.2.2.2 h).2.2.2.length else if what = 1 then nI (sstale s h) else if what = 2 then nI (s.2.2.2 h).2.2.1.length - nI (sownN (s.2.2.2 h).2.2.1) else (s.2.2.2 h).1
def sall (s : sS) (what : Nat) : Nat → Int32
  | 0 => 0
  | h + 1 => sall s what h + sallh s what h
/-! whether it may be done -/
def scanHost (s : sS) : Int32 := if s.2.2.1 = 6 then -4 else 0
def sisR (s : sS) (h r : Int32) : Bool := sisH s h && (decide (0 ≤ r) && decide (r < nI (s.2.2.2 h.toNatClampNeg).2.2.1.length))
def scanLeave (s : sS) (h r : Int32) : Int32 := if !sisR s h r then -2 else if sawk (s.2.2.2 h.toNatClampNeg) then 0 else -3
def scanAsk (s : sS) (h n k : Int32) : Int32 := if !sisH s h || !sisN n k then -2 else if sawk (s.2.2.2 h.toNatClampNeg) then 0 else -3
def scanSleep (s : sS) (h p : Int32) : Int32 :=
  if !sisH s h || (p != -1 && !sisH s p) || p == h then -2 else if !sawk (s.2.2.2 h.toNatClampNeg) || (p != -1 && !sawk (s.2.2.2 p.toNatClampNeg)) then -3 else 0
def scanWake (s : sS) (h : Int32) : Int32 := if !sisH s h then -2 else if sawk (s.2.2.2 h.toNatClampNeg) then -3 else 0
/-! asking, sleeping, waking -/
def ssleep (s : sS) (h : Nat) (p : Int32) : sS := shst s h (0, p, (s.2.2.2 h).2.2.1, (s.2.2.2 h).2.2.2)
def swake0 (s : sS) (h : Nat) : sS := shst s h (1, -1, (s.2.2.2 h).2.2.1, (s.2.2.2 h).2.2.2)
def swakeR (h r : Nat) (s : sS) : sS :=
  let a := zg (s.2.2.2 h).2.2.1 r
  if sown a then (if a 6 == 1 && sopp s h a then ssetr s h r (fu (fu a 4 0) 5 0) else ssays s h a) else s
def swake (s : sS) (h : Nat) : sS := fR (swakeR h) (s.2.2.2 h).2.2.1.length (swake0 s h)
/-- the data that are known at a question -/
def sknown (l : List sR) (n k t : Int32) (c : Nat) (x : Int32) : Bool := anyN (fun i => snam (zg l i) n k && decide (zg l i 3 ≤ 2 * (zg l i 4 - t)) && (zg l i 2 == x)) c
/-- who speaks for a host -/
def sby (s : sS) (o : Nat) : Int32 := if sawk (s.2.2.2 o) then nI o else (s.2.2.2 o).2.1
def sans (s : sS) (h o : Nat) : Bool := o != h && (sby s o != -1 && sawk (s.2.2.2 (sby s o).toNatClampNeg))
def saskR (n k : Int32) (b o r : Nat) (q : (Int32 → Bool) × sS) : (Int32 → Bool) × sS :=
  let a := zg (q.2.2.2.2 o).2.2.1 r
  if sown a && snam a n k then (if q.1 (a 2) then (q.1, scnt q.2 5 (q.2.1 5 + 1)) else ((fun x => q.1 x || x == a 2), ssays q.2 b a)) else q
def saskH (n k : Int32) (h o : Nat) (q : (Int32 → Bool) × sS) : (Int32 → Bool) × sS :=
  if sans q.2 h o then fR (saskR n k (sby q.2 o).toNatClampNeg o) (q.2.2.2.2 o).2.2.1.length q else q
def sask (s : sS) (h : Nat) (n k : Int32) : sS := (fR (saskH n k h) s.2.2.1 (sknown (s.2.2.2 h).2.2.2 n k (s.1 1) (s.2.2.2 h).2.2.2.length, s)).2
