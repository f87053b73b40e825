/-! ===== the whole state, and the reference's memory as one ===== -/
/-- the link, the saved links (the oldest first), the text, the counts of refusals, why -/
abbrev sW : Type := sS × List sS × List Int32 × (Nat → Int32) × Int32 × Int32
def skeep (l : List sS) (s : sS) : List sS := (if l.length = 5 then l.drop 1 else l) ++ [s]
/-- i cells of g, from b on, laid at a -/
def cpy (f g : Nat → Int32) (a b i : Nat) : Nat → Int32 := fun j => if a ≤ j ∧ j < a + i then g (b + (j - a)) else f j
def cpyF (f g : Nat → UInt32) (a b i : Nat) : Nat → UInt32 := fun j => if a ≤ j ∧ j < a + i then g (b + (j - a)) else f j
theorem cpy_0 (f g : Nat → Int32) (a b : Nat) : cpy f g a b 0 = f := by
  funext j
  unfold cpy
  rw [if_neg (by omega)]
theorem cpyF_0 (f g : Nat → UInt32) (a b : Nat) : cpyF f g a b 0 = f := by
  funext j
  unfold cpyF
  rw [if_neg (by omega)]
theorem cpy_s (f g : Nat → Int32) (a b i : Nat) : fu (cpy f g a b i) (a + i) (g (b + i)) = cpy f g a b (i + 1) := by
  funext j
  unfold fu cpy
  by_cases e : j = a + i
  · subst e
    rw [if_pos rfl, if_pos (by omega)]
    congr 1
    omega
  · rw [if_neg e]
    by_cases h : a ≤ j ∧ j < a + i
    · rw [if_pos h, if_pos (by omega)]
    · rw [if_neg h, if_neg (by omega)]
theorem cpyF_s (f g : Nat → UInt32) (a b i : Nat) : fu (cpyF f g a b i) (a + i) (g (b + i)) = cpyF f g a b (i + 1) := by
  funext j
  unfold fu cpyF
  by_cases e : j = a + i
  · subst e
    rw [if_pos rfl, if_pos (by omega)]
    congr 1
    omega
  · rw [if_neg e]
    by_cases h : a ≤ j ∧ j < a + i
    · rw [if_pos h, if_pos (by omega)]
    · rw [if_neg h, if_neg (by omega)]
theorem cpy_s0 (f g : Nat → Int32) (b i : Nat) : fu (cpy f g 0 b i) i (g (b + i)) = cpy f g 0 b (i + 1) := by
  have := cpy_s f g 0 b i
  rwa [Nat.zero_add] at this
theorem cpyF_s0 (f g : Nat → UInt32) (b i : Nat) : fu (cpyF f g 0 b i) i (g (b + i)) = cpyF f g 0 b (i + 1) := by
  have := cpyF_s f g 0 b i
  rwa [Nat.zero_add] at this
theorem cpy_sb (f g : Nat → Int32) (a i : Nat) : fu (cpy f g a 0 i) (a + i) (g i) = cpy f g a 0 (i + 1) := by
  have := cpy_s f g a 0 i
  rwa [Nat.zero_add] at this
theorem cpy_s00 (f g : Nat → Int32) (i : Nat) : fu (cpy f g 0 0 i) i (g i) = cpy f g 0 0 (i + 1) := by
  have := cpy_s f g 0 0 i
  rwa [Nat.zero_add] at this
theorem cpy_out {f g : Nat → Int32} {a b i j : Nat} (h : j < a ∨ a + i ≤ j) : cpy f g a b i j = f j := by
  unfold cpy
  rw [if_neg (by omega)]
theorem cpy_in {f g : Nat → Int32} {a b i j : Nat} (h : j < i) : cpy f g a b i (a + j) = g (b + j) := by
  unfold cpy
  rw [if_pos (by omega)]
  congr 1
  omega
theorem cpyF_out {f g : Nat → UInt32} {a b i j : Nat} (h : j < a ∨ a + i ≤ j) : cpyF f g a b i j = f j := by
  unfold cpyF
  rw [if_neg (by omega)]
theorem cpyF_in {f g : Nat → UInt32} {a b i j : Nat} (h : j < i) : cpyF f g a b i (a + j) = g (b + j) := by
  unfold cpyF
  rw [if_pos (by omega)]
  congr 1
  omega
/-- a row of floats -/
def zrwF (m : zM) (a : Nat) (g : Nat → UInt32) : zM := (m.1, m.2.1, m.2.2.1, (fun x j => if x = a then g j else m.2.2.2.1 x j), m.2.2.2.2)
theorem zrwF_s (m : zM) (a : Nat) (g : Nat → UInt32) : zF (zrwF m a g) a = g := by funext j; simp [zF, zrwF]
theorem zrwF_n (m : zM) {a b : Nat} (g : Nat → UInt32) (h : b ≠ a) : zF (zrwF m a g) b = zF m b := by funext j; simp [zF, zrwF, h]
theorem zrwF_id (m : zM) (a : Nat) : zrwF m a (zF m a) = m := by
  unfold zrwF
  refine Prod.ext rfl (Prod.ext rfl (Prod.ext rfl (Prod.ext ?_ rfl)))
  funext x j
  simp only [zF]
  by_cases h : x = a
  · rw [if_pos h, h]
  · rw [if_neg h]
theorem zsF_rwF (m : zM) (a j : Nat) (g : Nat → UInt32) (v : UInt32) : zsF (zrwF m a g) a j v = zrwF m a (fu g j v) := by
  unfold zrwF zsF
  refine Prod.ext rfl (Prod.ext rfl (Prod.ext rfl (Prod.ext ?_ rfl)))
  funext x k
  by_cases h : x = a <;> simp [zu, fu, h]
theorem zsF_rw (m : zM) (a j : Nat) (v : UInt32) : zsF m a j v = zrwF m a (fu (zF m a) j v) := by
  have := zsF_rwF m a j (zF m a) v
  rwa [zrwF_id] at this
theorem zsI_F (m : zM) (a b k : Nat) (g : Nat → UInt32) (v : Int32) : zsI (zrwF m a g) b k v = zrwF (zsI m b k v) a g := rfl
theorem zI_F (m : zM) (a : Nat) (g : Nat → UInt32) : zI (zrwF m a g) = zI m := rfl
theorem zF_I (m : zM) (a : Nat) (g : Nat → Int32) : zF (zrow m a g) = zF m := rfl
/-- all that is not the reference's stands as it was -/
def zlo (m m' : zM) : Prop := ∀ a, a < 667 → zI m' a = zI m a ∧ zR m' a = zR m a ∧ zL m' a = zL m a ∧ zF m' a = zF m a
theorem zlo.rf {m : zM} : zlo m m := fun _ _ => ⟨rfl, rfl, rfl, rfl⟩
theorem zlo.tr {m m' m'' : zM} (h : zlo m m') (h' : zlo m' m'') : zlo m m'' := fun a ha => ⟨(h' a ha).1.trans (h a ha).1, (h' a ha).2.1.trans (h a ha).2.1, (h' a ha).2.2.1.trans (h a ha).2.2.1, (h' a ha).2.2.2.trans (h a ha).2.2.2⟩
theorem zlo.row {m : zM} {b : Nat} {g : Nat → Int32} (h : 667 ≤ b) : zlo m (zrow m b g) := fun a ha => ⟨zrow_n m g (by omega), rfl, rfl, rfl⟩
theorem zlo.rwF {m : zM} {b : Nat} {g : Nat → UInt32} (h : 667 ≤ b) : zlo m (zrwF m b g) := fun a ha => ⟨rfl, rfl, rfl, zrwF_n m g (by omega)⟩
theorem zlo.sI {m : zM} {b k : Nat} {v : Int32} (h : 667 ≤ b) : zlo m (zsI m b k v) := by rw [zsI_rw]; exact zlo.row h
theorem zlo.sF {m : zM} {b k : Nat} {v : UInt32} (h : 667 ≤ b) : zlo m (zsF m b k v) := by rw [zsF_rw]; exact zlo.rwF h
theorem RA.cg {f g : Nat → Int32} {s : sS} (hA : RA f s) (h : ∀ j, j < 424 → g j = f j) : RA g s := by
  obtain ⟨h1, h2, h3, h4⟩ := hA
  refine ⟨by rw [h 0 (by omega)]; exact h1, h2, fun k hk1 hk2 => by rw [h k (by omega)]; exact h3 k hk1 hk2, fun x hx => ?_⟩
  exact (h4 x hx).off (fun j hj => h j (by unfold hreg at hj; omega))
/-- the saved links -/
def RP (n : Int32) (f : Nat → Int32) (q : Nat → UInt32) (l : List sS) : Prop := n = nI l.length ∧ l.length ≤ 5 ∧ ∀ j s, l[j]? = some s → RA (fun k => f (424 * j + k)) s ∧ q j = s.2.1
def RT (n : Int32) (f : Nat → Int32) (l : List Int32) : Prop := n = nI l.length ∧ l.length ≤ 120 ∧ ∀ j c, l[j]? = some c → f j = c
def RM (m : zM) (w : sW) : Prop := MI m ∧ RA (zI m 668) w.1 ∧ zF m 667 1 = w.1.2.1 ∧ RP (zI m 667 6) (zI m 669) (zF m 670) w.2.1 ∧ RT (zI m 667 10) (zI m 674) w.2.2.1 ∧ (∀ k, k < 3 → zI m 672 k = w.2.2.2.1 k) ∧ zI m 667 14 = w.2.2.2.2.1 ∧ zI m 667 15 = w.2.2.2.2.2
theorem RP.drop {n : Int32} {f f' : Nat → Int32} {q q' : Nat → UInt32} {l : List sS} (hp : RP n f q l) (h5 : l.length = 5) (hf : ∀ j, j < 1696 → f' j = f (424 + j)) (hq : ∀ j, j < 4 → q' j = q (1 + j)) : RP (n - 1) f' q' (l.drop 1) := by
  obtain ⟨h1, h2, h3⟩ := hp
  refine ⟨by rw [h1, h5, List.length_drop, h5]; rfl, by rw [List.length_drop]; omega, fun j s hj => ?_⟩
  rw [List.getElem?_drop] at hj
  have hl : 1 + j < l.length := (List.getElem?_eq_some_iff.mp hj).1
  obtain ⟨h4, h5'⟩ := h3 _ _ hj
  exact ⟨h4.cg (fun k hk => by rw [hf _ (by omega)]; congr 1; omega), by rw [hq j (by omega)]; exact h5'⟩
theorem RP.push {n : Int32} {f f' g : Nat → Int32} {q q' : Nat → UInt32} {l : List sS} {s : sS} (hp : RP n f q l) (h4 : l.length ≤ 4) (hs : RA g s) (hf : ∀ j, j < 424 * l.length → f' j = f j) (hg : ∀ j, j < 424 → f' (424 * l.length + j) = g j) (hq : ∀ j, j < l.length → q' j = q j) (hr : q' l.length = s.2.1) : RP (n + 1) f' q' (l ++ [s]) := by
  obtain ⟨h1, h2, h3⟩ := hp
  refine ⟨by rw [h1, List.length_append]; exact (nI_succ _).symm, by rw [List.length_append]; show l.length + 1 ≤ 5; omega, fun j x hj => ?_⟩
  by_cases e : j < l.length
  · rw [List.getElem?_append_left e] at hj
    obtain ⟨a1, a2⟩ := h3 _ _ hj
    exact ⟨a1.cg (fun k hk => hf _ (by omega)), by rw [hq j e]; exact a2⟩
  · rw [List.getElem?_append_right (by omega)] at hj
    have e2 : j - l.length = 0 := by
      have := (List.getElem?_eq_some_iff.mp hj).1
      simp at this
      omega
    have e3 : j = l.length := by omega
    rw [e2] at hj
    simp at hj
    subst hj
    subst e3
    exact ⟨hs.cg (fun k hk => hg k hk), hr⟩
section
variable {d : Nat} {Q : Value → zM → Prop} {m : zM}
theorem refuses_ok {why : Int32} {k : Nat} (hM : MI m) (hk3 : k < 3) (hw : -2 - why = nI k) (hk : Q (.int why) (zrow m 672 (fu (zI m 672) k (zI m 672 k + nI 1)))) : zC (d + 1) M9_refuses 0 0 [.ref 667, .int why] m Q := by
  refine zenterP (Or.inl (by decide +kernel)) rfl (fun h => by cases h) (Nat.le_of_ble_eq_true rfl) ?_
  show zwp _ _ _ _ _ 0 [_, _] [] 0 0 _
  refine zr_aload_n dX9_refuses_0 rfl ?_
  refine zr_getR dX9_refuses_1 fd_9_23 rfl (MI.ob hM ⟨rfl, rfl⟩) (MI.r7 hM ⟨rfl, rfl⟩) (by decide) ?_
  refine zr_bipush (v := -2) dX9_refuses_4 rfl ?_
  refine zr_iload_n dX9_refuses_6 rfl ?_
  refine zr_isub dX9_refuses_7 ?_
  rw [hw]
  refine zr_dup2 dX9_refuses_8 rfl rfl ?_
  refine zr_ialoadN dX9_refuses_9 (MI.a672 hM ⟨rfl, rfl⟩) (by omega) (by decide) ?_
  refine zr_iconst (v := nI 1) dX9_refuses_10 rfl ?_
  refine zr_iadd dX9_refuses_11 ?_
  refine zr_iastoreN dX9_refuses_12 (MI.a672 hM ⟨rfl, rfl⟩) (by omega) (by decide) ?_
  rw [zsI_rw]
  refine zr_iload_n dX9_refuses_13 rfl ?_
  refine zr_ireturn dX9_refuses_14 rfl (Nat.le_refl _) (Nat.le_refl _) ?_
  exact hk
/-- what keep leaves -/
def zkp (m m' : zM) : Prop := m'.2.1 = m.2.1 ∧ m'.2.2.2.2 = m.2.2.2.2 ∧ zL m' = zL m ∧ (∀ a, a ≠ 669 → a ≠ 667 → zI m' a = zI m a) ∧ (∀ j, j ≠ 6 → zI m' 667 j = zI m 667 j) ∧ ∀ a, a ≠ 670 → zF m' a = zF m a
theorem keep_78 {f0 : Nat → Int32} {q0 : Nat → UInt32} {n : Int32} {nn : Nat} (hM : MI m) (hn : n = nI nn) (h4 : nn ≤ 4) (hk : Q .null (zsI (zrwF (zrow (zrow m 667 (fu (zI m 667) 6 n)) 669 (cpy f0 (zI m 668) (424 * nn) 0 424)) 670 (fu q0 nn (zF m 667 1))) 667 6 (nI nn + nI 1))) : ∀ c i, 424 - i < c → i ≤ 424 →
    zwp (d + 1) M9_keep 0 0 Q 78 [.ref 667, .int (nI i)] [] 0 0 (zrwF (zrow (zrow m 667 (fu (zI m 667) 6 n)) 669 (cpy f0 (zI m 668) (424 * nn) 0 i)) 670 q0) := by
  intro c
  induction c with
  | zero => intro i h1; omega
  | succ c ih =>
    intro i h1 h2
    have hs6 : ∀ q, zI (zrwF (zrow (zrow m 667 (fu (zI m 667) 6 n)) 669 (cpy f0 (zI m 668) (424 * nn) 0 i)) 670 q) 667 6 = nI nn := fun q => by rw [zI_F, zrow_n _ _ (by decide), zrow_s, fu_s, hn]
    refine zr_iload_n dX9_keep_78 rfl ?_
    refine zr_sipush (v := nI 424) dX9_keep_79 rfl ?_
    refine zr_icmp_geN (tgt := 112) dX9_keep_82 (by decide) (by omega) (by omega) (fun hc_82 => ?_) (fun hc_82 => ?_)
    · have e : i = 424 := by omega
      subst e
      refine zr_aload_n dX9_keep_112 rfl ?_
      refine zr_getR dX9_keep_113 fd_9_16 rfl (MI.ob hM ⟨rfl, rfl⟩) (MI.r3 hM ⟨rfl, rfl⟩) (by decide) ?_
      refine zr_aload_n dX9_keep_116 rfl ?_
      refine zr_getI dX9_keep_117 fd_9_40 rfl (MI.ob hM ⟨rfl, rfl⟩) ?_
      rw [hs6]
      refine zr_aload_n dX9_keep_120 rfl ?_
      refine zr_getF dX9_keep_121 fd_9_43 rfl (MI.ob hM ⟨rfl, rfl⟩) ?_
      rw [zrwF_n _ _ (by decide)]
      refine zr_fastoreN dX9_keep_124 (MI.a670 hM ⟨rfl, rfl⟩) (by omega) (by decide) ?_
      rw [zsF_rwF]
      refine zr_aload_n dX9_keep_125 rfl ?_
      refine zr_dup dX9_keep_126 rfl ?_
      refine zr_getI dX9_keep_127 fd_9_40 rfl (MI.ob hM ⟨rfl, rfl⟩) ?_
      rw [hs6]
      refine zr_iconst (v := nI 1) dX9_keep_130 rfl ?_
      refine zr_iaddN dX9_keep_131 ?_
      refine zr_putI dX9_keep_132 fd_9_40 rfl (MI.ob hM ⟨rfl, rfl⟩) ?_
      refine zr_return dX9_keep_135 rfl (Nat.le_refl _) (Nat.le_refl _) ?_
      rw [nI_succ]; exact hk
    · refine zr_aload_n dX9_keep_85 rfl ?_
      refine zr_getR dX9_keep_86 fd_9_13 rfl (MI.ob hM ⟨rfl, rfl⟩) (MI.r2 hM ⟨rfl, rfl⟩) (by decide) ?_
      refine zr_sipush (v := nI 424) dX9_keep_89 rfl ?_
      refine zr_aload_n dX9_keep_92 rfl ?_
      refine zr_getI dX9_keep_93 fd_9_40 rfl (MI.ob hM ⟨rfl, rfl⟩) ?_
      rw [hs6]
      refine zr_imulN dX9_keep_96 ?_
      refine zr_iload_n dX9_keep_97 rfl ?_
      refine zr_iaddN dX9_keep_98 ?_
      refine zr_aload_n dX9_keep_99 rfl ?_
      refine zr_getR dX9_keep_100 fd_9_7 rfl (MI.ob hM ⟨rfl, rfl⟩) (MI.r0 hM ⟨rfl, rfl⟩) (by decide) ?_
      refine zr_iload_n dX9_keep_103 rfl ?_
      refine zr_ialoadN dX9_keep_104 (MI.a668 hM ⟨rfl, rfl⟩) (by omega) (by decide) ?_
      rw [zI_F, zrow_n _ _ (by decide), zrow_n _ _ (by decide)]
      refine zr_iastoreN dX9_keep_105 (MI.a669 hM ⟨rfl, rfl⟩) (by omega) (by decide) ?_
      rw [zsI_F, zsI_row, cpy_sb]
      refine zr_iincN dX9_keep_106 rfl (by decide) rfl ?_
      dsimp only [zset]
      refine zr_goto (tgt := 78) dX9_keep_109 (by decide) ?_
      exact ih (i + 1) (by omega) (by omega)
theorem keep_41 {nn : Nat} {g : Nat → Int32} (hM : MI m) (hn : zI m 667 6 = nI nn) (h5 : nn = 5) (hk : zwp (d + 1) M9_keep 0 0 Q 78 [.ref 667, .int (nI 0)] [] 0 0 (zrwF (zrow (zrow m 667 (fu (zI m 667) 6 (nI 4))) 669 g) 670 (cpyF (zF m 670) (zF m 670) 0 1 4))) : ∀ c i, 4 - i < c → i ≤ 4 →
    zwp (d + 1) M9_keep 0 0 Q 41 [.ref 667, .int (nI i)] [] 0 0 (zrwF (zrow m 669 g) 670 (cpyF (zF m 670) (zF m 670) 0 1 i)) := by
  intro c
  induction c with
  | zero => intro i h1; omega
  | succ c ih =>
    intro i h1 h2
    refine zr_iload_n dX9_keep_41 rfl ?_
    refine zr_iconst (v := nI 4) dX9_keep_42 rfl ?_
    refine zr_icmp_geN (tgt := 66) dX9_keep_43 (by decide) (by omega) (by omega) (fun hc_43 => ?_) (fun hc_43 => ?_)
    · refine zr_aload_n dX9_keep_66 rfl ?_
      refine zr_dup dX9_keep_67 rfl ?_
      refine zr_getI dX9_keep_68 fd_9_40 rfl (MI.ob hM ⟨rfl, rfl⟩) ?_
      rw [zI_F, zrow_n _ _ (by decide), hn, h5]
      refine zr_iconst (v := nI 1) dX9_keep_71 rfl ?_
      refine zr_isubN dX9_keep_72 (by omega) ?_
      refine zr_putI dX9_keep_73 fd_9_40 rfl (MI.ob hM ⟨rfl, rfl⟩) ?_
      rw [zsI_F, zsI_rw, zrow_n _ _ (by decide), zrow_comm _ _ _ (by decide)]
      refine zr_iconst (v := nI 0) dX9_keep_76 rfl ?_
      refine zr_istore_n dX9_keep_77 (by decide) rfl ?_
      dsimp only [zset]
      have e : i = 4 := by omega
      subst e
      exact hk
    · refine zr_aload_n dX9_keep_46 rfl ?_
      refine zr_getR dX9_keep_47 fd_9_16 rfl (MI.ob hM ⟨rfl, rfl⟩) (MI.r3 hM ⟨rfl, rfl⟩) (by decide) ?_
      refine zr_iload_n dX9_keep_50 rfl ?_
      refine zr_aload_n dX9_keep_51 rfl ?_
      refine zr_getR dX9_keep_52 fd_9_16 rfl (MI.ob hM ⟨rfl, rfl⟩) (MI.r3 hM ⟨rfl, rfl⟩) (by decide) ?_
      refine zr_iload_n dX9_keep_55 rfl ?_
      refine zr_iconst (v := nI 1) dX9_keep_56 rfl ?_
      refine zr_iaddN dX9_keep_57 ?_
      refine zr_faloadN dX9_keep_58 (MI.a670 hM ⟨rfl, rfl⟩) (by omega) (by decide) ?_
      rw [zrwF_s, cpyF_out (by omega), Nat.add_comm i 1]
      refine zr_fastoreN dX9_keep_59 (MI.a670 hM ⟨rfl, rfl⟩) (by omega) (by decide) ?_
      rw [zsF_rwF, cpyF_s0]
      refine zr_iincN dX9_keep_60 rfl (by decide) rfl ?_
      dsimp only [zset]
      refine zr_goto (tgt := 41) dX9_keep_63 (by decide) ?_
      exact ih (i + 1) (by omega) (by omega)
theorem keep_10 {nn : Nat} (hM : MI m) (hn : zI m 667 6 = nI nn) (h5 : nn = 5) (hk : zwp (d + 1) M9_keep 0 0 Q 78 [.ref 667, .int (nI 0)] [] 0 0 (zrwF (zrow (zrow m 667 (fu (zI m 667) 6 (nI 4))) 669 (cpy (zI m 669) (zI m 669) 0 424 1696)) 670 (cpyF (zF m 670) (zF m 670) 0 1 4))) : ∀ c i, 1696 - i < c → i ≤ 1696 →
    zwp (d + 1) M9_keep 0 0 Q 10 [.ref 667, .int (nI i)] [] 0 0 (zrow m 669 (cpy (zI m 669) (zI m 669) 0 424 i)) := by
  intro c
  induction c with
  | zero => intro i h1; omega
  | succ c ih =>
    intro i h1 h2
    refine zr_iload_n dX9_keep_10 rfl ?_
    refine zr_sipush (v := nI 1696) dX9_keep_11 rfl ?_
    refine zr_icmp_geN (tgt := 39) dX9_keep_14 (by decide) (by omega) (by omega) (fun hc_14 => ?_) (fun hc_14 => ?_)
    · refine zr_iconst (v := nI 0) dX9_keep_39 rfl ?_
      refine zr_istore_n dX9_keep_40 (by decide) rfl ?_
      dsimp only [zset]
      have e : i = 1696 := by omega
      subst e
      have := keep_41 (g := cpy (zI m 669) (zI m 669) 0 424 1696) hM hn h5 hk _ 0 (Nat.lt_succ_self _) (Nat.zero_le _)
      rw [cpyF_0] at this
      have e2 : zrwF (zrow m 669 (cpy (zI m 669) (zI m 669) 0 424 1696)) 670 (zF m 670) = zrow m 669 (cpy (zI m 669) (zI m 669) 0 424 1696) := zrwF_id (zrow m 669 (cpy (zI m 669) (zI m 669) 0 424 1696)) 670
      rw [e2] at this
      exact this
    · refine zr_aload_n dX9_keep_17 rfl ?_
      refine zr_getR dX9_keep_18 fd_9_13 rfl (MI.ob hM ⟨rfl, rfl⟩) (MI.r2 hM ⟨rfl, rfl⟩) (by decide) ?_
      refine zr_iload_n dX9_keep_21 rfl ?_
      refine zr_aload_n dX9_keep_22 rfl ?_
      refine zr_getR dX9_keep_23 fd_9_13 rfl (MI.ob hM ⟨rfl, rfl⟩) (MI.r2 hM ⟨rfl, rfl⟩) (by decide) ?_
      refine zr_iload_n dX9_keep_26 rfl ?_
      refine zr_sipush (v := nI 424) dX9_keep_27 rfl ?_
      refine zr_iaddN dX9_keep_30 ?_
      refine zr_ialoadN dX9_keep_31 (MI.a669 hM ⟨rfl, rfl⟩) (by omega) (by decide) ?_
      rw [zrow_s, cpy_out (by omega), Nat.add_comm i 424]
      refine zr_iastoreN dX9_keep_32 (MI.a669 hM ⟨rfl, rfl⟩) (by omega) (by decide) ?_
      rw [zsI_row, cpy_s0]
      refine zr_iincN dX9_keep_33 rfl (by decide) rfl ?_
      dsimp only [zset]
      refine zr_goto (tgt := 10) dX9_keep_36 (by decide) ?_
      exact ih (i + 1) (by omega) (by omega)
theorem zkp_of {n v : Int32} {f : Nat → Int32} {q : Nat → UInt32} : zkp m (zsI (zrwF (zrow (zrow m 667 (fu (zI m 667) 6 n)) 669 f) 670 q) 667 6 v) := by
  refine ⟨rfl, rfl, rfl, fun a h1 h2 => ?_, fun j hj => ?_, fun a h => ?_⟩
  · rw [zsI_F, zI_F, zsI_rw, zrow_n _ _ h2, zrow_n _ _ h1, zrow_n _ _ h2]
  · rw [zsI_F, zI_F, zsI_rw, zrow_s, fu_n _ _ hj, zrow_n _ _ (by decide), zrow_s, fu_n _ _ hj]
  · rw [zsI_F, zrwF_n _ _ h]
    rfl
theorem keep_fin {n v : Int32} {f : Nat → Int32} {q : Nat → UInt32} {l : List sS} (h : RP v f q l) : RP (zI (zsI (zrwF (zrow (zrow m 667 (fu (zI m 667) 6 n)) 669 f) 670 q) 667 6 v) 667 6) (zI (zsI (zrwF (zrow (zrow m 667 (fu (zI m 667) 6 n)) 669 f) 670 q) 667 6 v) 669) (zF (zsI (zrwF (zrow (zrow m 667 (fu (zI m 667) 6 n)) 669 f) 670 q) 667 6 v) 670) l := by
  rw [zsI_F, zI_F, zrwF_s, zsI_rw, zrow_s, fu_s, zrow_n _ _ (by decide), zrow_s]
  exact h
theorem keep_ok {l : List sS} {s : sS} (hM : MI m) (hP : RP (zI m 667 6) (zI m 669) (zF m 670) l) (hA : RA (zI m 668) s) (hr : zF m 667 1 = s.2.1)
    (hk : ∀ m', zkp m m' → RP (zI m' 667 6) (zI m' 669) (zF m' 670) (skeep l s) → Q .null m') : zC (d + 1) M9_keep 0 0 [.ref 667] m Q := by
  have hn := hP.1
  refine zenterP (Or.inl (by decide +kernel)) rfl (fun h => by cases h) (Nat.le_of_ble_eq_true rfl) ?_
  show zwp _ _ _ _ _ 0 [_, zU] [] 0 0 _
  refine zr_aload_n dX9_keep_0 rfl ?_
  refine zr_getI dX9_keep_1 fd_9_40 rfl (MI.ob hM ⟨rfl, rfl⟩) ?_
  rw [hn]
  refine zr_iconst (v := nI 5) dX9_keep_4 rfl ?_
  refine zr_icmp_ne (tgt := 76) dX9_keep_5 (by decide) (fun hc_5 => ?_) (fun hc_5 => ?_)
  · refine zr_iconst (v := nI 0) dX9_keep_76 rfl ?_
    refine zr_istore_n dX9_keep_77 (by decide) rfl ?_
    dsimp only [zset]
    have h5 : l.length ≤ 4 := by
      have := hP.2.1
      have : ¬ l.length = 5 := fun z => hc_5 (by rw [z])
      omega
    have := keep_78 (d := d) (Q := Q) (f0 := zI m 669) (q0 := zF m 670) hM (n := nI l.length) (nn := l.length) rfl h5 (hk _ ?_ ?_) _ 0 (Nat.lt_succ_self _) (Nat.zero_le _)
    · rw [cpy_0, ← hn] at this
      have e1 : zrow m 667 (fu (zI m 667) 6 (zI m 667 6)) = m := by
        have : fu (zI m 667) 6 (zI m 667 6) = zI m 667 := by
          funext j
          unfold fu
          split
          · rename_i z; rw [z]
          · rfl
        rw [this, zrow_id]
      rw [e1, zrow_id, zrwF_id] at this
      exact this
    · exact zkp_of
    · refine keep_fin ?_
      unfold skeep
      rw [if_neg (by omega)]
      have hP2 := hP
      rw [hn] at hP2
      refine hP2.push h5 hA (fun j hj => ?_) (fun j hj => ?_) (fun j hj => ?_) ?_
      · exact cpy_out (by omega)
      · have := cpy_in (f := zI m 669) (g := zI m 668) (a := 424 * l.length) (b := 0) hj
        rwa [Nat.zero_add] at this
      · exact fu_n _ _ (by omega)
      · rw [fu_s]
        exact hr
  · refine zr_iconst (v := nI 0) dX9_keep_8 rfl ?_
    refine zr_istore_n dX9_keep_9 (by decide) rfl ?_
    dsimp only [zset]
    have h5 : l.length = 5 := (nI_eq (by have := hP.2.1; omega) (by decide)).mp hc_5
    have := keep_10 (d := d) (Q := Q) hM hn h5 ?_ _ 0 (Nat.lt_succ_self _) (Nat.zero_le _)
    · rw [cpy_0, zrow_id] at this
      exact this
    · have := keep_78 (d := d) (Q := Q) (f0 := cpy (zI m 669) (zI m 669) 0 424 1696) (q0 := cpyF (zF m 670) (zF m 670) 0 1 4) hM (n := nI 4) (nn := 4) rfl (Nat.le_refl _) (hk _ ?_ ?_) _ 0 (Nat.lt_succ_self _) (Nat.zero_le _)
      · rw [cpy_0] at this
        exact this
      · exact zkp_of
      · refine keep_fin ?_
        have hd := hP.drop h5 (f' := cpy (zI m 669) (zI m 669) 0 424 1696) (q' := cpyF (zF m 670) (zF m 670) 0 1 4) (fun j hj => by have := cpy_in (f := zI m 669) (g := zI m 669) (a := 0) (b := 424) hj; rwa [Nat.zero_add] at this) (fun j hj => by have := cpyF_in (f := zF m 670) (g := zF m 670) (a := 0) (b := 1) hj; rwa [Nat.zero_add] at this)
        have hl : (l.drop 1).length = 4 := by rw [List.length_drop, h5]
        have e0 : zI m 667 6 - 1 = nI 4 := by rw [hn, h5]; rfl
        rw [e0] at hd
        unfold skeep
        rw [if_pos h5]
        refine hd.push (by omega) hA (fun j hj => ?_) (fun j hj => ?_) (fun j hj => ?_) ?_
        · rw [hl] at hj
          exact cpy_out (by omega)
        · rw [hl]
          have := cpy_in (f := cpy (zI m 669) (zI m 669) 0 424 1696) (g := zI m 668) (a := 424 * 4) (b := 0) hj
          rwa [Nat.zero_add] at this
        · rw [hl] at hj
          exact fu_n _ _ (by omega)
        · rw [hl, fu_s]
          exact hr
end
