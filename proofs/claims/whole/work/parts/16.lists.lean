/-! ===== lists that are worked through from behind (some go), or from the front (each is changed) ===== -/
def bk (p : sR → Bool) (l : List sR) (j : Nat) : List sR := l.take j ++ (l.drop j).filter p
def mk (g : sR → sR) (l : List sR) (i : Nat) : List sR := (l.take i).map g ++ l.drop i
section
variable {p : sR → Bool} {g : sR → sR} {l : List sR} {j i k : Nat}
theorem zg_lt (h : i < l.length) : zg l i = l[i] := by simp [zg, h]
theorem bk_len : bk p l l.length = l := by simp [bk]
theorem bk_0 : bk p l 0 = l.filter p := by simp [bk]
theorem bk_split (h : j < l.length) : l.drop j = zg l j :: l.drop (j + 1) := by rw [zg_lt h, List.drop_eq_getElem_cons h]
theorem bk_take (h : j < l.length) : l.take (j + 1) = l.take j ++ [zg l j] := by rw [zg_lt h, List.take_succ_eq_append_getElem h]
theorem bk_keep (h : j < l.length) (hp : p (zg l j) = true) : bk p l (j + 1) = bk p l j := by
  rw [bk, bk, bk_split h, bk_take h, List.filter_cons_of_pos hp, List.append_assoc, List.singleton_append]
theorem bk_drop (h : j < l.length) (hp : p (zg l j) = false) : (bk p l (j + 1)).eraseIdx j = bk p l j := by
  rw [bk, bk, bk_split h, bk_take h, List.filter_cons_of_neg (by simp [hp]), List.append_assoc]
  have hl : (l.take j).length = j := by simp; omega
  rw [List.eraseIdx_append_of_length_le (by omega), hl, Nat.sub_self, List.singleton_append, List.eraseIdx_cons_zero]
theorem bk_llt (h : j ≤ l.length) : j ≤ (bk p l j).length := by
  rw [bk, List.length_append, List.length_take]
  omega
theorem bk_lle (h : j ≤ l.length) : (bk p l j).length ≤ l.length := by
  rw [bk, List.length_append, List.length_take]
  have := List.length_filter_le p (l.drop j)
  rw [List.length_drop] at this
  omega
theorem zg_app_l {l' : List sR} (h : i < l.length) : zg (l ++ l') i = zg l i := by
  simp [zg, List.getD, List.getElem?_append_left h]
theorem bk_at (h : j < l.length) : zg (bk p l (j + 1)) j = zg l j := by
  unfold bk
  rw [zg_app_l (by rw [List.length_take]; omega)]
  simp [zg, List.getD, List.getElem?_take]
theorem mk_0 : mk g l 0 = l := by simp [mk]
theorem mk_len : mk g l l.length = l.map g := by simp [mk]
theorem mk_ln : (mk g l i).length = l.length := by simp [mk]; omega
theorem mk_at (h : i < l.length) : zg (mk g l i) i = zg l i := by
  rw [zg_lt (by rw [mk_ln]; exact h), zg_lt h]
  unfold mk
  rw [List.getElem_append_right (by simp; omega)]
  simp [Nat.min_eq_left (Nat.le_of_lt h)]
theorem mk_set (h : i < l.length) : (mk g l i).set i (g (zg l i)) = mk g l (i + 1) := by
  unfold mk
  have hl : ((l.take i).map g).length = i := by simp; omega
  rw [List.set_append_right _ _ (by omega), hl, Nat.sub_self, bk_split h, List.set_cons_zero, bk_take h, List.map_append, List.append_assoc]
  rfl
theorem mk_same (h : i < l.length) (hg : g (zg l i) = zg l i) : mk g l (i + 1) = mk g l i := by
  unfold mk
  rw [bk_split h, bk_take h, List.map_append, List.append_assoc, List.map_cons, List.map_nil, hg]
  rfl
theorem zg_app_r {x : sR} : zg (l ++ [x]) l.length = x := by simp [zg, List.getD]
theorem zg_set_s {x : sR} (h : i < l.length) : zg (l.set i x) i = x := by simp [zg, List.getD, h]
theorem zg_set_n {x : sR} (h : j ≠ i) : zg (l.set i x) j = zg l j := by
  simp only [zg, List.getD, List.getElem?_set]
  rw [if_neg (fun z => h z.symm)]
theorem zg_erase : zg (l.eraseIdx j) i = if i < j then zg l i else zg l (i + 1) := by
  simp only [zg, List.getD, List.getElem?_eraseIdx]
  split <;> rfl
theorem zg_mem (h : i < l.length) : zg l i ∈ l := by rw [zg_lt h]; exact List.getElem_mem h
end
/-! host by host: how 'all' changes -/
section
variable {f g : Nat → Int32} {h : Nat} {x : sH}
/-- the places of a host's cache -/
def creg (h j : Nat) : Prop := j = 10 + 4 * h + 3 ∨ (244 + 30 * h ≤ j ∧ j < 274 + 30 * h)
theorem creg_hreg {j : Nat} (hj : creg h j) : hreg h j := by unfold creg at hj; unfold hreg; omega
/-- a cache is changed -/
def sca (x : sH) (c : List sR) : sH := (x.1, x.2.1, x.2.2.1, c)
theorem RAh.cache {c : List sR} (hx : RAh f h x) (hg : ∀ j, ¬ creg h j → g j = f j) (h1 : g (10 + 4 * h + 3) = nI c.length) (h2 : c.length ≤ 6) (h3 : ∀ i, i < c.length → ∀ k, k < 5 → g (244 + 5 * (6 * h + i) + k) = zat c i k) (h6 : h < 6) : RAh g h (sca x c) := by
  obtain ⟨a1, a2, a3, a4, a5, a6, a7, a8⟩ := hx
  refine ⟨by rw [hg _ (by unfold creg; omega)]; exact a1, by rw [hg _ (by unfold creg; omega)]; exact a2, by rw [hg _ (by unfold creg; omega)]; exact a3, h1, a5, h2, fun r hr k hk => ?_, h3⟩
  have hr5 : r < 5 := Nat.lt_of_lt_of_le hr a5
  rw [hg _ (by unfold creg; omega)]
  exact a7 r hr k hk
/-- an entry's end is set -/
theorem RAh.end (hx : RAh f h x) (h6 : h < 6) {i : Nat} (hi : i < x.2.2.2.length) (v : Int32) : RAh (fu f (244 + 5 * (6 * h + i) + 4) v) h (sca x (x.2.2.2.set i (fu (zg x.2.2.2 i) 4 v))) := by
  have l6 := hx.2.2.2.2.2.1
  refine hx.cache (fun j hj => fu_n _ _ (by unfold creg at hj; omega)) (by rw [fu_n _ _ (by omega), List.length_set]; exact hx.2.2.2.1) (by rw [List.length_set]; exact l6) (fun i' hi' k hk => ?_) h6
  rw [List.length_set] at hi'
  rw [zat_set hi]
  by_cases e : i' = i
  · subst e
    rw [if_pos rfl]
    by_cases e2 : k = 4
    · subst e2; rw [fu_s, fu_s]
    · rw [fu_n _ _ (by omega), fu_n _ _ e2]
      exact hx.2.2.2.2.2.2.2 i' hi k hk
  · rw [if_neg e, fu_n _ _ (by omega)]
    exact hx.2.2.2.2.2.2.2 i' hi' k hk
/-- an entry is dropped: those behind it move up, as far as place q -/
def dG (f : Nat → Int32) (h : Nat) (v : Int32) (a q : Nat) : Nat → Int32 := fun j => if j = 10 + 4 * h + 3 then v else if a ≤ j ∧ j < q then f (j + 5) else f j
theorem RAh.drop (hx : RAh f h x) (h6 : h < 6) {i : Nat} (hi : i < x.2.2.2.length) : RAh (dG f h (nI (x.2.2.2.length - 1)) (244 + 5 * (6 * h + i)) (244 + 5 * (6 * h + (x.2.2.2.length - 1)))) h (sca x (x.2.2.2.eraseIdx i)) := by
  have l6 := hx.2.2.2.2.2.1
  have hl : (x.2.2.2.eraseIdx i).length = x.2.2.2.length - 1 := by rw [List.length_eraseIdx, if_pos hi]
  refine hx.cache (fun j hj => ?_) (by rw [hl]; simp [dG]) (by omega) (fun i' hi' k hk => ?_) h6
  · unfold creg at hj
    unfold dG
    rw [if_neg (by omega), if_neg (by omega)]
  · rw [hl] at hi'
    unfold dG
    rw [if_neg (by omega), zat_erase]
    by_cases e : i' < i
    · rw [if_neg (by omega), if_pos e]
      exact hx.2.2.2.2.2.2.2 i' (by omega) k hk
    · rw [if_pos (by omega), if_neg e, show 244 + 5 * (6 * h + i') + k + 5 = 244 + 5 * (6 * h + (i' + 1)) + k by omega]
      exact hx.2.2.2.2.2.2.2 (i' + 1) (by omega) k hk
theorem sca_sca (x : sH) (c c' : List sR) : sca (sca x c) c' = sca x c' := rfl
theorem sca_id (x : sH) : sca x x.2.2.2 = x := rfl
end
section
variable {d : Nat} {Q : Value → zM → Prop} {m : zM} {f : Nat → Int32} {h : Nat} {x : sH}
theorem dropsEntry_loop {i : Nat} (hM : MI m) (h6 : h < 6) (hi : i < x.2.2.2.length) (l6 : x.2.2.2.length ≤ 6) (hk : Q .null (zrow m 668 (dG f h (nI (x.2.2.2.length - 1)) (244 + 5 * (6 * h + i)) (244 + 5 * (6 * h + (x.2.2.2.length - 1)))))) : ∀ c q, 244 + 5 * (6 * h + (x.2.2.2.length - 1)) - q < c → 244 + 5 * (6 * h + i) ≤ q → q ≤ 244 + 5 * (6 * h + (x.2.2.2.length - 1)) →
    zwp (d + 2) M9_dropsEntry 0 0 Q 23 [.ref 667, .int (nI h), .int (nI i), .int (nI q)] [] 0 0 (zrow m 668 (dG f h (nI (x.2.2.2.length - 1)) (244 + 5 * (6 * h + i)) q)) := by
  intro c
  induction c with
  | zero => intro q h1; omega
  | succ c ih =>
    intro q h1 h2 h3
    refine zr_iload_n dX9_dropsEntry_23 rfl ?_
    refine zr_iload_n dX9_dropsEntry_24 rfl ?_
    refine zr_aload_n dX9_dropsEntry_25 rfl ?_
    refine zr_iload_n dX9_dropsEntry_26 rfl ?_
    refine zr_cV1 rfl dX9_dropsEntry_27 cv_9_70 (MI.ob hM ⟨rfl, rfl⟩) (Nat.le_of_ble_eq_true rfl) (entries_ok hM h6 (show dG f h (nI (x.2.2.2.length - 1)) (244 + 5 * (6 * h + i)) q (10 + 4 * h + 3) = nI (x.2.2.2.length - 1) by simp [dG]) ?_)
    refine zr_cS2 rfl dX9_dropsEntry_30 cv_9_67 (Nat.le_of_ble_eq_true rfl) (kept_ok ?_)
    refine zr_icmp_geN (tgt := 56) dX9_dropsEntry_33 (by decide) (by omega) (by omega) (fun hc_33 => ?_) (fun hc_33 => ?_)
    · refine zr_return dX9_dropsEntry_56 rfl (Nat.le_refl _) (Nat.le_refl _) ?_
      have e : q = 244 + 5 * (6 * h + (x.2.2.2.length - 1)) := by omega
      rw [e]; exact hk
    · refine zr_aload_n dX9_dropsEntry_36 rfl ?_
      refine zr_getR dX9_dropsEntry_37 fd_9_7 rfl (MI.ob hM ⟨rfl, rfl⟩) (MI.r0 hM ⟨rfl, rfl⟩) (by decide) ?_
      refine zr_iload_n dX9_dropsEntry_40 rfl ?_
      refine zr_aload_n dX9_dropsEntry_41 rfl ?_
      refine zr_getR dX9_dropsEntry_42 fd_9_7 rfl (MI.ob hM ⟨rfl, rfl⟩) (MI.r0 hM ⟨rfl, rfl⟩) (by decide) ?_
      refine zr_iload_n dX9_dropsEntry_45 rfl ?_
      refine zr_iconst (v := nI 5) dX9_dropsEntry_46 rfl ?_
      refine zr_iaddN dX9_dropsEntry_47 ?_
      refine zr_ialoadA dX9_dropsEntry_48 (MI.a668 hM ⟨rfl, rfl⟩) (by omega) ?_
      refine zr_iastoreA dX9_dropsEntry_49 (MI.a668 hM ⟨rfl, rfl⟩) (by omega) ?_
      refine zr_iincN dX9_dropsEntry_50 rfl (by decide) rfl ?_
      dsimp only [zset]
      refine zr_goto (tgt := 23) dX9_dropsEntry_53 (by decide) ?_
      have hs := ih (q + 1) (by omega) (by omega) (by omega)
      have e : fu (dG f h (nI (x.2.2.2.length - 1)) (244 + 5 * (6 * h + i)) q) q (dG f h (nI (x.2.2.2.length - 1)) (244 + 5 * (6 * h + i)) q (q + 5)) = dG f h (nI (x.2.2.2.length - 1)) (244 + 5 * (6 * h + i)) (q + 1) := by
        funext j
        by_cases e1 : j = q
        · subst e1
          rw [fu_s]
          unfold dG
          rw [if_neg (by omega), if_neg (by omega), if_neg (by omega), if_pos (by omega)]
        · rw [fu_n _ _ e1]
          unfold dG
          by_cases e2 : j = 10 + 4 * h + 3
          · rw [if_pos e2, if_pos e2]
          · rw [if_neg e2, if_neg e2]
            by_cases e3 : 244 + 5 * (6 * h + i) ≤ j ∧ j < q
            · rw [if_pos e3, if_pos (by omega)]
            · rw [if_neg e3, if_neg (by omega)]
      rw [e]
      exact hs
theorem dropsEntry_ok {i : Nat} (hM : MI m) (h6 : h < 6) (hx : RAh f h x) (hi : i < x.2.2.2.length) (hk : ∀ g, (∀ j, ¬ creg h j → g j = f j) → RAh g h (sca x (x.2.2.2.eraseIdx i)) → Q .null (zrow m 668 g)) : zC (d + 2) M9_dropsEntry 0 0 [.ref 667, .int (nI h), .int (nI i)] (zrow m 668 f) Q := by
  have l6 := hx.2.2.2.2.2.1
  refine zenterP (Or.inl (by decide +kernel)) rfl (fun h => by cases h) (Nat.le_of_ble_eq_true rfl) ?_
  show zwp _ _ _ _ _ 0 [_, _, _, zU] [] 0 0 _
  refine zr_aload_n dX9_dropsEntry_0 rfl ?_
  refine zr_getR dX9_dropsEntry_1 fd_9_7 rfl (MI.ob hM ⟨rfl, rfl⟩) (MI.r0 hM ⟨rfl, rfl⟩) (by decide) ?_
  refine zr_bipush (v := nI 10) dX9_dropsEntry_4 rfl ?_
  refine zr_iconst (v := nI 4) dX9_dropsEntry_6 rfl ?_
  refine zr_iload_n dX9_dropsEntry_7 rfl ?_
  refine zr_imulN dX9_dropsEntry_8 ?_
  refine zr_iaddN dX9_dropsEntry_9 ?_
  refine zr_iconst (v := nI 3) dX9_dropsEntry_10 rfl ?_
  refine zr_iaddN dX9_dropsEntry_11 ?_
  refine zr_dup2 dX9_dropsEntry_12 rfl rfl ?_
  refine zr_ialoadA dX9_dropsEntry_13 (MI.a668 hM ⟨rfl, rfl⟩) (by omega) ?_
  rw [hx.2.2.2.1]
  refine zr_iconst (v := nI 1) dX9_dropsEntry_14 rfl ?_
  refine zr_isubN dX9_dropsEntry_15 (by omega) ?_
  refine zr_iastoreA dX9_dropsEntry_16 (MI.a668 hM ⟨rfl, rfl⟩) (by omega) ?_
  refine zr_iload_n dX9_dropsEntry_17 rfl ?_
  refine zr_iload_n dX9_dropsEntry_18 rfl ?_
  refine zr_cS2 rfl dX9_dropsEntry_19 cv_9_67 (Nat.le_of_ble_eq_true rfl) (kept_ok ?_)
  refine zr_istore_n dX9_dropsEntry_22 (by decide) rfl ?_
  dsimp only [zset]
  have e : fu f (10 + 4 * h + 3) (nI (x.2.2.2.length - 1)) = dG f h (nI (x.2.2.2.length - 1)) (244 + 5 * (6 * h + i)) (244 + 5 * (6 * h + i)) := by
    funext j
    unfold fu dG
    by_cases e2 : j = 10 + 4 * h + 3
    · rw [if_pos e2, if_pos e2]
    · rw [if_neg e2, if_neg e2, if_neg (by omega)]
  rw [e]
  refine dropsEntry_loop hM h6 hi l6 (hk _ (fun j hj => ?_) (hx.drop h6 hi)) _ _ (Nat.lt_succ_self _) (Nat.le_refl _) (by omega)
  unfold creg at hj
  unfold dG
  rw [if_neg (by omega), if_neg (by omega)]
theorem shortens_ok {p : Nat} {t : Int32} (hM : MI m) (hp : p + 4 < 424) (ht : f 1 = t) (hk : Q .null (zrow m 668 (fu f (p + 4) (if t + 1 < f (p + 4) then t + 1 else f (p + 4))))) : zC (d + 1) M9_shortens 0 0 [.ref 667, .int (nI p)] (zrow m 668 f) Q := by
  refine zenterP (Or.inl (by decide +kernel)) rfl (fun h => by cases h) (Nat.le_of_ble_eq_true rfl) ?_
  show zwp _ _ _ _ _ 0 [_, _] [] 0 0 _
  refine zr_aload_n dX9_shortens_0 rfl ?_
  refine zr_getR dX9_shortens_1 fd_9_7 rfl (MI.ob hM ⟨rfl, rfl⟩) (MI.r0 hM ⟨rfl, rfl⟩) (by decide) ?_
  refine zr_iload_n dX9_shortens_4 rfl ?_
  refine zr_iconst (v := nI 4) dX9_shortens_5 rfl ?_
  refine zr_iaddN dX9_shortens_6 ?_
  refine zr_aload_n dX9_shortens_7 rfl ?_
  refine zr_getR dX9_shortens_8 fd_9_7 rfl (MI.ob hM ⟨rfl, rfl⟩) (MI.r0 hM ⟨rfl, rfl⟩) (by decide) ?_
  refine zr_iload_n dX9_shortens_11 rfl ?_
  refine zr_iconst (v := nI 4) dX9_shortens_12 rfl ?_
  refine zr_iaddN dX9_shortens_13 ?_
  refine zr_ialoadA dX9_shortens_14 (MI.a668 hM ⟨rfl, rfl⟩) (by omega) ?_
  refine zr_aload_n dX9_shortens_15 rfl ?_
  refine zr_getR dX9_shortens_16 fd_9_7 rfl (MI.ob hM ⟨rfl, rfl⟩) (MI.r0 hM ⟨rfl, rfl⟩) (by decide) ?_
  refine zr_iconst (v := nI 1) dX9_shortens_19 rfl ?_
  refine zr_ialoadA dX9_shortens_20 (MI.a668 hM ⟨rfl, rfl⟩) (by omega) ?_
  rw [ht]
  refine zr_iconst (v := nI 1) dX9_shortens_21 rfl ?_
  refine zr_iadd dX9_shortens_22 ?_
  refine zr_icmp_le (tgt := 37) dX9_shortens_23 (by decide) (fun hc_23 => ?_) (fun hc_23 => ?_)
  · refine zr_aload_n dX9_shortens_37 rfl ?_
    refine zr_getR dX9_shortens_38 fd_9_7 rfl (MI.ob hM ⟨rfl, rfl⟩) (MI.r0 hM ⟨rfl, rfl⟩) (by decide) ?_
    refine zr_iload_n dX9_shortens_41 rfl ?_
    refine zr_iconst (v := nI 4) dX9_shortens_42 rfl ?_
    refine zr_iaddN dX9_shortens_43 ?_
    refine zr_ialoadA dX9_shortens_44 (MI.a668 hM ⟨rfl, rfl⟩) (by omega) ?_
    refine zr_iastoreA dX9_shortens_45 (MI.a668 hM ⟨rfl, rfl⟩) (by omega) ?_
    refine zr_return dX9_shortens_46 rfl (Nat.le_refl _) (Nat.le_refl _) ?_
    first
    | (rw [if_neg (by rw [Int32.not_lt]; exact hc_23)] at hk; exact hk)
    | (rw [if_pos (by rw [← Int32.not_le]; exact hc_23)] at hk; exact hk)
  · refine zr_aload_n dX9_shortens_26 rfl ?_
    refine zr_getR dX9_shortens_27 fd_9_7 rfl (MI.ob hM ⟨rfl, rfl⟩) (MI.r0 hM ⟨rfl, rfl⟩) (by decide) ?_
    refine zr_iconst (v := nI 1) dX9_shortens_30 rfl ?_
    refine zr_ialoadA dX9_shortens_31 (MI.a668 hM ⟨rfl, rfl⟩) (by omega) ?_
    rw [ht]
    refine zr_iconst (v := nI 1) dX9_shortens_32 rfl ?_
    refine zr_iadd dX9_shortens_33 ?_
    refine zr_goto (tgt := 45) dX9_shortens_34 (by decide) ?_
    refine zr_iastoreA dX9_shortens_45 (MI.a668 hM ⟨rfl, rfl⟩) (by omega) ?_
    refine zr_return dX9_shortens_46 rfl (Nat.le_refl _) (Nat.le_refl _) ?_
    first
    | (rw [if_neg (by rw [Int32.not_lt]; exact hc_23)] at hk; exact hk)
    | (rw [if_pos (by rw [← Int32.not_le]; exact hc_23)] at hk; exact hk)
end
