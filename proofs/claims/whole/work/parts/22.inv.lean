/-! ===== what always holds of a link ===== -/
def rOK (a : sR) : Prop := (∃ j, j ≤ 3 ∧ a 4 = nI j) ∧ (∃ q, q < 256 ∧ a 2 = nI q) ∧ (a 6 = 0 ∨ a 6 = 1) ∧ ∃ l, 2 ≤ l ∧ l ≤ 60 ∧ a 3 = nI l
def eOK (t : Int32) (e : sR) : Prop := (∃ q, q < 256 ∧ e 2 = nI q) ∧ ∃ j, 1 ≤ j ∧ j ≤ 60 ∧ e 4 - t = nI j
def hOK (n : Nat) (t : Int32) (x : sH) : Prop := (x.1 = 0 ∨ x.1 = 1) ∧ (x.2.1 = -1 ∨ ∃ p, p < n ∧ x.2.1 = nI p) ∧ x.2.2.1.length ≤ 5 ∧ x.2.2.2.length ≤ 6 ∧ (∀ a ∈ x.2.2.1, rOK a) ∧ (∀ e ∈ x.2.2.2, eOK t e) ∧ x.2.2.2.Pairwise (fun a b => ssame a b = false)
def sOK (s : sS) : Prop := s.2.2.1 ≤ 6 ∧ ∀ h, h < s.2.2.1 → hOK s.2.2.1 (s.1 1) (s.2.2.2 h)
section
variable {s : sS} {h r n b : Nat} {x : sH} {a : sR} {t : Int32}
theorem sOK.px (hs : sOK s) : sPx s := fun h hh => (hs.2 h hh).2.1
theorem sOK.st (hs : sOK s) : sSt s := fun h hh a ha => ((hs.2 h hh).2.2.2.2.1 a ha).1
theorem sOK.rec (hs : sOK s) (hh : h < s.2.2.1) (hr : r < (s.2.2.2 h).2.2.1.length) : rOK (zg (s.2.2.2 h).2.2.1 r) := (hs.2 h hh).2.2.2.2.1 _ (zg_mem hr)
theorem hOK.cache {c : List sR} (hx : hOK n t x) (h1 : c.length ≤ 6) (h2 : ∀ e ∈ c, eOK t e) (h3 : c.Pairwise (fun a b => ssame a b = false)) : hOK n t (sca x c) := ⟨hx.1, hx.2.1, hx.2.2.1, h1, hx.2.2.2.2.1, h2, h3⟩
theorem ssame_key {a b c d : sR} (h0 : a 0 = c 0) (h1 : a 1 = c 1) (h2 : a 2 = c 2) (g0 : b 0 = d 0) (g1 : b 1 = d 1) (g2 : b 2 = d 2) : ssame a b = ssame c d := by simp [ssame, sone, *]
theorem ssame_comm (a b : sR) : ssame a b = ssame b a := by
  simp only [ssame, sone]
  rw [show (a 0 == b 0) = (b 0 == a 0) from BEq.comm, show (a 1 == b 1) = (b 1 == a 1) from BEq.comm, show (a 2 == b 2) = (b 2 == a 2) from BEq.comm]
theorem ssame_sent {e : sR} : ssame e (sent t a) = ssame e a := ssame_key rfl rfl rfl (by simp [sent]) (by simp [sent]) (by simp [sent])
theorem sshort_key {e : sR} : sshort t e 0 = e 0 ∧ sshort t e 1 = e 1 ∧ sshort t e 2 = e 2 := by simp [sshort]
theorem i_addsub (t x : Int32) : t + x - t = x := by rw [Int32.add_comm, Int32.add_sub_cancel]
theorem sshort_ok {e : sR} (he : eOK t e) : eOK t (sshort t e) := by
  obtain ⟨⟨q, q1, q2⟩, j, j1, j2, j3⟩ := he
  refine ⟨⟨q, q1, by rw [sshort_key.2.2]; exact q2⟩, ?_⟩
  show ∃ j, 1 ≤ j ∧ j ≤ 60 ∧ (if t + 1 < e 4 then t + 1 else e 4) - t = nI j
  split
  · exact ⟨1, by omega, by omega, i_addsub t 1⟩
  · exact ⟨j, j1, j2, j3⟩
theorem pw_map {g : sR → sR} {l : List sR} (hg : ∀ e, (g e) 0 = e 0 ∧ (g e) 1 = e 1 ∧ (g e) 2 = e 2) (hl : l.Pairwise (fun a b => ssame a b = false)) : (l.map g).Pairwise (fun a b => ssame a b = false) := by
  rw [List.pairwise_map]
  exact hl.imp (fun {a b} h => by rw [ssame_key (hg a).1 (hg a).2.1 (hg a).2.2 (hg b).1 (hg b).2.1 (hg b).2.2]; exact h)
theorem srival_key {e : sR} : (srival t a e) 0 = e 0 ∧ (srival t a e) 1 = e 1 ∧ (srival t a e) 2 = e 2 := by
  unfold srival
  split
  · exact sshort_key
  · exact ⟨rfl, rfl, rfl⟩
theorem srival_ok {e : sR} (he : eOK t e) : eOK t (srival t a e) := by
  unfold srival
  split
  · exact sshort_ok he
  · exact he
theorem sent_ok (ha : rOK a) : eOK t (sent t a) := by
  obtain ⟨-, ⟨q, q1, q2⟩, -, l, l1, l2, l3⟩ := ha
  refine ⟨⟨q, q1, by simp [sent]; exact q2⟩, l, by omega, l2, ?_⟩
  show t + a 3 - t = nI l
  rw [i_addsub]
  exact l3
theorem hOK.hear (hx : hOK n t x) (ha : rOK a) : hOK n t (shear t x a) := by
  unfold shear
  split
  · have hp1 : (shc1 x a).Pairwise (fun a b => ssame a b = false) := hx.2.2.2.2.2.2.sublist List.filter_sublist
    have he1 : ∀ e ∈ shc1 x a, eOK t e ∧ ssame e a = false := fun e he => by
      obtain ⟨h1, h2⟩ := List.mem_filter.mp he
      exact ⟨hx.2.2.2.2.2.1 e h1, by simpa using h2⟩
    have hl1 : (shc1 x a).length ≤ 6 := Nat.le_trans (List.length_filter_le _ _) hx.2.2.2.1
    have hp2 : (shc2 x a).Pairwise (fun a b => ssame a b = false) := by
      unfold shc2
      split
      · exact hp1.sublist (List.eraseIdx_sublist _ _)
      · exact hp1
    have he2 : ∀ e ∈ shc2 x a, eOK t e ∧ ssame e a = false := fun e he => by
      unfold shc2 at he
      split at he
      · exact he1 e (List.mem_of_mem_eraseIdx he)
      · exact he1 e he
    have hl2 : (shc2 x a).length ≤ 5 := by
      unfold shc2
      split
      · rw [List.length_eraseIdx, if_pos (by omega)]; omega
      · omega
    have hp3 : (shc3 t x a).Pairwise (fun a b => ssame a b = false) := by
      unfold shc3
      rw [List.pairwise_append]
      refine ⟨hp2, List.pairwise_singleton _ _, fun e he y hy => ?_⟩
      rw [List.mem_singleton] at hy
      subst hy
      rw [ssame_sent]
      exact (he2 e he).2
    have he3 : ∀ e ∈ shc3 t x a, eOK t e := fun e he => by
      unfold shc3 at he
      rcases List.mem_append.mp he with h1 | h1
      · exact (he2 e h1).1
      · rw [List.mem_singleton] at h1
        subst h1
        exact sent_ok ha
    have hl3 : (shc3 t x a).length ≤ 6 := by unfold shc3; simp; omega
    split
    · refine hx.cache (by rw [List.length_map]; exact hl3) (fun e he => ?_) (pw_map (fun e => srival_key) hp3)
      obtain ⟨e', h1, rfl⟩ := List.mem_map.mp he
      exact srival_ok (he3 e' h1)
    · exact hx.cache hl3 he3 hp3
  · exact hx
theorem sOK.host (hs : sOK s) (hx : hOK s.2.2.1 (s.1 1) x) : sOK (shst s h x) := by
  refine ⟨hs.1, fun h' hh' => ?_⟩
  show hOK s.2.2.1 (s.1 1) (fu s.2.2.2 h x h')
  by_cases e : h' = h
  · subst e; rw [fu_s]; exact hx
  · rw [fu_n _ _ e]; exact hs.2 h' hh'
theorem sOK.sc (hs : sOK s) {k : Nat} (hk : k ≠ 1) (v : Int32) : sOK (scnt s k v) := by
  refine ⟨hs.1, fun h hh => ?_⟩
  show hOK s.2.2.1 (fu s.1 k v 1) (s.2.2.2 h)
  rw [fu_n _ _ (fun z => hk z.symm)]
  exact hs.2 h hh
theorem sOK.says (hs : sOK s) (ha : rOK a) : sOK (ssays s b a) := by
  refine sOK.sc (s := sheard s b a s.2.2.1) (k := 2) ⟨hs.1, fun h hh => ?_⟩ (by decide) _
  show hOK s.2.2.1 (s.1 1) (if h < s.2.2.1 ∧ h ≠ b then shear (s.1 1) (s.2.2.2 h) a else s.2.2.2 h)
  split
  · exact (hs.2 h hh).hear ha
  · exact hs.2 h hh
theorem sOK.setr (hs : sOK s) (hh : h < s.2.2.1) (ha : rOK a) : sOK (ssetr s h r a) := by
  have hx := hs.2 h hh
  refine hs.host ⟨hx.1, hx.2.1, by rw [List.length_set]; exact hx.2.2.1, hx.2.2.2.1, fun y hy => ?_, hx.2.2.2.2.2⟩
  rcases List.mem_or_eq_of_mem_set hy with h1 | h1
  · exact hx.2.2.2.2.1 y h1
  · rw [h1]; exact ha
theorem sOK.adv (hs : sOK s) (hh : h < s.2.2.1) (hr : r < (s.2.2.2 h).2.2.1.length) : sOK (sadv s h r) := by
  have ha := hs.rec hh hr
  unfold sadv
  generalize zg (s.2.2.2 h).2.2.1 r = a at ha
  dsimp only
  obtain ⟨⟨j, j1, j2⟩, ⟨q, q1, q2⟩, so, l, l1, l2, l3⟩ := ha
  split
  · exact hs
  rename_i h1
  simp only [Bool.or_eq_true, Bool.not_eq_true', not_or, Bool.not_eq_false, Bool.not_eq_true] at h1
  split
  · exact hs.setr hh ⟨⟨j, j1, by rw [fu_n _ _ (by decide)]; exact j2⟩, ⟨q, q1, by rw [fu_n _ _ (by decide)]; exact q2⟩, by rw [fu_n _ _ (by decide)]; exact so, l, l1, l2, by rw [fu_n _ _ (by decide)]; exact l3⟩
  have hs1 : sOK (scnt s 3 (s.1 3 + 1)) := hs.sc (by decide) _
  split
  · refine sOK.sc (hs1.setr hh ⟨⟨0, by omega, ?_⟩, ⟨q, q1, ?_⟩, ?_, l, l1, l2, ?_⟩) (by decide) _
    · rw [fu_n _ _ (by decide), fu_s]; rfl
    · rw [fu_n _ _ (by decide), fu_n _ _ (by decide), fu_n _ _ (by decide)]; exact q2
    · rw [fu_n _ _ (by decide), fu_n _ _ (by decide), fu_n _ _ (by decide)]; exact so
    · rw [fu_n _ _ (by decide), fu_n _ _ (by decide), fu_n _ _ (by decide)]; exact l3
  split
  · refine hs1.setr hh ⟨⟨0, by omega, ?_⟩, ⟨q, q1, ?_⟩, ?_, l, l1, l2, ?_⟩
    · rw [fu_n _ _ (by decide), fu_s]; rfl
    · rw [fu_n _ _ (by decide), fu_n _ _ (by decide)]; exact q2
    · rw [fu_n _ _ (by decide), fu_n _ _ (by decide)]; exact so
    · rw [fu_n _ _ (by decide), fu_n _ _ (by decide)]; exact l3
  have j3 : j < 3 := by
    have h2 := h1.2
    rw [sown_nI j2 j1] at h2
    simpa using h2
  have ha2 : rOK (fu a 4 (a 4 + 1)) := ⟨⟨j + 1, by omega, by rw [fu_s, j2]; exact nI_1 j⟩, ⟨q, q1, by rw [fu_n _ _ (by decide)]; exact q2⟩, by rw [fu_n _ _ (by decide)]; exact so, l, l1, l2, by rw [fu_n _ _ (by decide)]; exact l3⟩
  split
  · exact (hs1.setr hh ha2).says ha2
  · exact hs1.setr hh ha2
/-! what a step leaves as it is -/
def sShp (s s' : sS) : Prop := s'.2.2.1 = s.2.2.1 ∧ s'.2.1 = s.2.1 ∧ ∀ h, (s'.2.2.2 h).1 = (s.2.2.2 h).1 ∧ (s'.2.2.2 h).2.1 = (s.2.2.2 h).2.1 ∧ (s'.2.2.2 h).2.2.1.length = (s.2.2.2 h).2.2.1.length
theorem sShp.rf : sShp s s := ⟨rfl, rfl, fun _ => ⟨rfl, rfl, rfl⟩⟩
theorem sShp.tr {s' s'' : sS} (h1 : sShp s s') (h2 : sShp s' s'') : sShp s s'' := ⟨h2.1.trans h1.1, h2.2.1.trans h1.2.1, fun h => ⟨(h2.2.2 h).1.trans (h1.2.2 h).1, (h2.2.2 h).2.1.trans (h1.2.2 h).2.1, (h2.2.2 h).2.2.trans (h1.2.2 h).2.2⟩⟩
theorem shear_shp : (shear t x a).1 = x.1 ∧ (shear t x a).2.1 = x.2.1 ∧ (shear t x a).2.2.1 = x.2.2.1 := by
  unfold shear
  split <;> exact ⟨rfl, rfl, rfl⟩
theorem ssays_shp : sShp s (ssays s b a) := by
  refine ⟨rfl, rfl, fun h => ?_⟩
  show (if h < s.2.2.1 ∧ h ≠ b then shear (s.1 1) (s.2.2.2 h) a else s.2.2.2 h).1 = _ ∧ (if h < s.2.2.1 ∧ h ≠ b then shear (s.1 1) (s.2.2.2 h) a else s.2.2.2 h).2.1 = _ ∧ (if h < s.2.2.1 ∧ h ≠ b then shear (s.1 1) (s.2.2.2 h) a else s.2.2.2 h).2.2.1.length = _
  split
  · exact ⟨shear_shp.1, shear_shp.2.1, by rw [shear_shp.2.2]⟩
  · exact ⟨rfl, rfl, rfl⟩
theorem ssetr_shp : sShp s (ssetr s h r a) := by
  refine ⟨rfl, rfl, fun h' => ?_⟩
  unfold ssetr shst
  dsimp only
  by_cases e : h' = h
  · subst e; rw [fu_s]; exact ⟨rfl, rfl, by simp⟩
  · rw [fu_n _ _ e]; exact ⟨rfl, rfl, rfl⟩
theorem scnt_shp {k : Nat} {v : Int32} : sShp s (scnt s k v) := ⟨rfl, rfl, fun _ => ⟨rfl, rfl, rfl⟩⟩
theorem sadv_shp : sShp s (sadv s h r) := by
  unfold sadv
  dsimp only
  split
  · exact sShp.rf
  split
  · exact ssetr_shp
  split
  · exact (scnt_shp.tr ssetr_shp).tr scnt_shp
  split
  · exact scnt_shp.tr ssetr_shp
  split
  · exact (scnt_shp.tr ssetr_shp).tr ssays_shp
  · exact scnt_shp.tr ssetr_shp
theorem fR_shp {f : Nat → sS → sS} (hf : ∀ i s, sShp s (f i s)) : ∀ n, sShp s (fR f n s)
  | 0 => sShp.rf
  | n + 1 => (fR_shp hf n).tr (hf n _)
theorem sadvH_shp : sShp s (sadvH s h) := fR_shp (fun r s => sadv_shp) _
theorem sOK.advR (hs : sOK s) (hh : h < s.2.2.1) : ∀ k, k ≤ (s.2.2.2 h).2.2.1.length → sOK (fR (fun r s => sadv s h r) k s)
  | 0, _ => hs
  | k + 1, hk => by
    have sh : sShp s (fR (fun r s => sadv s h r) k s) := fR_shp (fun r s => sadv_shp) k
    exact (hs.advR hh k (by omega)).adv (by rw [sh.1]; exact hh) (by rw [(sh.2.2 h).2.2]; omega)
theorem sOK.advH (hs : sOK s) : ∀ k, k ≤ s.2.2.1 → sOK (fR (fun h s => sadvH s h) k s)
  | 0, _ => hs
  | k + 1, hk => by
    have sh : sShp s (fR (fun h s => sadvH s h) k s) := fR_shp (fun h s => sadvH_shp) k
    exact (hs.advH k (by omega)).advR (by rw [sh.1]; omega) _ (Nat.le_refl _)
theorem saged_ok (hx : hOK n t x) : hOK n (t + 1) (saged (t + 1) x) := by
  refine ⟨hx.1, hx.2.1, hx.2.2.1, Nat.le_trans (List.length_filter_le _ _) hx.2.2.2.1, hx.2.2.2.2.1, fun e he => ?_, hx.2.2.2.2.2.2.sublist List.filter_sublist⟩
  obtain ⟨h1, h2⟩ := List.mem_filter.mp he
  obtain ⟨q, j, j1, j2, j3⟩ := hx.2.2.2.2.2.1 e h1
  simp only [decide_eq_true_eq] at h2
  have e4 : e 4 = nI j + t := by rw [← j3, Int32.sub_add_cancel]
  by_cases ej : j = 1
  · subst ej
    rw [e4, show nI 1 = (1 : Int32) from rfl, Int32.add_comm] at h2
    exact absurd h2 (fun z => Int32.lt_irrefl z)
  · refine ⟨q, j - 1, by omega, by omega, ?_⟩
    obtain ⟨i, rfl⟩ : ∃ i, j = i + 1 := ⟨j - 1, by omega⟩
    rw [e4, ← nI_1, show i + 1 - 1 = i by omega, Int32.add_assoc, Int32.add_comm 1 t]
    exact Int32.add_sub_cancel (nI i) (t + 1)
theorem sOK.ages (hs : sOK s) : sOK (sages s s.2.2.1) := by
  refine ⟨hs.1, fun h hh => ?_⟩
  show hOK s.2.2.1 (fu s.1 1 (s.1 1 + 1) 1) (if h < s.2.2.1 then saged (s.1 1 + 1) (s.2.2.2 h) else s.2.2.2 h)
  rw [fu_s, if_pos (show h < s.2.2.1 from hh)]
  exact saged_ok (hs.2 h hh)
theorem sOK.rate (hs : sOK s) : sOK (srate s) := by
  refine ⟨hs.1, fun h hh => ?_⟩
  show hOK s.2.2.1 (fu s.1 6 (s.1 2) 1) (s.2.2.2 h)
  rw [fu_n _ _ (by decide)]
  exact hs.2 h hh
theorem sOK.tick (hs : sOK s) : sOK (stick s) := (hs.ages.advH _ (Nat.le_refl _)).rate
theorem sOK.ticks (hs : sOK s) : ∀ n, sOK (sticks s n)
  | 0 => hs
  | n + 1 => (hs.ticks n).tick
end
