/-! ===== what always holds of a link, for answers ===== -/
def r2 (a : sR) : Prop := (∃ j, j < 16 ∧ a 0 = nI j) ∧ (∃ j, j < 4 ∧ a 1 = nI j) ∧ (∃ j, j ≤ 60 ∧ a 3 = nI j) ∧ (a 5 = 0 ∨ a 5 = 1)
def e2 (e : sR) : Prop := (∃ j, j < 16 ∧ e 0 = nI j) ∧ (∃ j, j < 4 ∧ e 1 = nI j) ∧ ∃ j, j ≤ 60 ∧ e 3 = nI j
def h2 (x : sH) : Prop := (∀ a ∈ x.2.2.1, r2 a) ∧ ∀ e ∈ x.2.2.2, e2 e
def sV (s : sS) : Prop := ∀ h, h < s.2.2.1 → h2 (s.2.2.2 h)
theorem nI_16 {j : Nat} (hj : j < 16) : nI j + 1 - (nI j + 1) / 16 * 16 = nI ((j + 1) % 16) := by
  have : ∀ j : Fin 16, nI j + 1 - (nI j + 1) / 16 * 16 = nI ((j.val + 1) % 16) := by decide +kernel
  exact this ⟨j, hj⟩
section
variable {s : sS} {h r n b o : Nat} {x : sH} {a e : sR} {t : Int32}
theorem e2.k (h : e2 e) {e' : sR} (h0 : e' 0 = e 0) (h1 : e' 1 = e 1) (h3 : e' 3 = e 3) : e2 e' := by
  obtain ⟨a1, a2, a3⟩ := h
  unfold e2
  rw [h0, h1, h3]
  exact ⟨a1, a2, a3⟩
theorem e2.short (h : e2 e) : e2 (sshort t e) := h.k rfl rfl rfl
theorem e2.rival (h : e2 e) : e2 (srival t a e) := by
  unfold srival
  split
  · exact h.short
  · exact h
theorem r2.sent (h : r2 a) : e2 (sent t a) := ⟨h.1, h.2.1, h.2.2.1⟩
theorem r2.k (h : r2 a) {a' : sR} (h0 : a' 0 = a 0) (h1 : a' 1 = a 1) (h3 : a' 3 = a 3) (h5 : a' 5 = 0 ∨ a' 5 = 1) : r2 a' := by
  obtain ⟨a1, a2, a3, a4⟩ := h
  unfold r2
  rw [h0, h1, h3]
  exact ⟨a1, a2, a3, h5⟩
theorem h2.hear (hx : h2 x) (ha : r2 a) : h2 (shear t x a) := by
  unfold shear
  split
  · have he1 : ∀ e ∈ shc1 x a, e2 e := fun e he => hx.2 e (List.mem_filter.mp he).1
    have he2 : ∀ e ∈ shc2 x a, e2 e := fun e he => by
      unfold shc2 at he
      split at he
      · exact he1 e (List.mem_of_mem_eraseIdx he)
      · exact he1 e he
    have he3 : ∀ e ∈ shc3 t x a, e2 e := fun e he => by
      unfold shc3 at he
      rcases List.mem_append.mp he with h1 | h1
      · exact he2 e h1
      · rw [List.mem_singleton.mp h1]; exact ha.sent
    refine ⟨hx.1, ?_⟩
    split
    · intro e he
      obtain ⟨e', h1, rfl⟩ := List.mem_map.mp he
      exact (he3 e' h1).rival
    · exact he3
  · exact hx
theorem sV.host (hs : sV s) (hx : h2 x) : sV (shst s h x) := fun h' hh' => by
  show h2 (fu s.2.2.2 h x h')
  by_cases e : h' = h
  · subst e; rw [fu_s]; exact hx
  · rw [fu_n _ _ e]; exact hs h' hh'
theorem sV.sc (hs : sV s) {k : Nat} {v : Int32} : sV (scnt s k v) := hs
theorem sV.says (hs : sV s) (ha : r2 a) : sV (ssays s b a) := fun h hh => by
  show h2 (if h < s.2.2.1 ∧ h ≠ b then shear (s.1 1) (s.2.2.2 h) a else s.2.2.2 h)
  split
  · exact (hs h hh).hear ha
  · exact hs h hh
theorem sV.setr (hs : sV s) (hh : h < s.2.2.1) (ha : r2 a) : sV (ssetr s h r a) := by
  have hx := hs h hh
  refine hs.host ⟨fun y hy => ?_, hx.2⟩
  rcases List.mem_or_eq_of_mem_set hy with h1 | h1
  · exact hx.1 y h1
  · rw [h1]; exact ha
theorem sV.rec (hs : sV s) (hh : h < s.2.2.1) (hr : r < (s.2.2.2 h).2.2.1.length) : r2 (zg (s.2.2.2 h).2.2.1 r) := (hs h hh).1 _ (zg_mem hr)
theorem sV.adv (hs : sV s) (hh : h < s.2.2.1) (hr : r < (s.2.2.2 h).2.2.1.length) : sV (sadv s h r) := by
  have ha := hs.rec hh hr
  unfold sadv
  generalize zg (s.2.2.2 h).2.2.1 r = a at ha
  dsimp only
  have hs1 : sV (scnt s 3 (s.1 3 + 1)) := hs
  split
  · exact hs
  split
  · rename_i h1
    refine hs.setr hh (ha.k rfl rfl rfl ?_)
    rw [fu_s]
    rcases ha.2.2.2 with z | z
    · rw [z] at h1; exact absurd h1 (by decide)
    · rw [z]; exact Or.inl rfl
  split
  · refine (hs1.setr hh ?_).sc
    obtain ⟨⟨j, j1, j2⟩, a2, a3, a4⟩ := ha
    refine ⟨⟨(j + 1) % 16, Nat.mod_lt _ (by decide), ?_⟩, a2, a3, Or.inl rfl⟩
    show a 0 + 1 - (a 0 + 1) / 16 * 16 = _
    rw [j2, nI_16 j1]
  split
  · exact hs1.setr hh (ha.k rfl rfl rfl (Or.inr rfl))
  have ha2 : r2 (fu a 4 (a 4 + 1)) := ha.k rfl rfl rfl ha.2.2.2
  split
  · exact (hs1.setr hh ha2).says ha2
  · exact hs1.setr hh ha2
theorem sV.advR (hs : sV s) (hh : h < s.2.2.1) : ∀ k, k ≤ (s.2.2.2 h).2.2.1.length → sV (fR (fun r s => sadv s h r) k s)
  | 0, _ => hs
  | k + 1, hk => by
    have sh : sShp s (fR (fun r s => sadv s h r) k s) := fR_shp (fun r s => sadv_shp) k
    exact (hs.advR hh k (by omega)).adv (by rw [sh.1]; exact hh) (by rw [(sh.2.2 h).2.2]; omega)
theorem sV.advH (hs : sV s) : ∀ k, k ≤ s.2.2.1 → sV (fR (fun h s => sadvH s h) k s)
  | 0, _ => hs
  | k + 1, hk => by
    have sh : sShp s (fR (fun h s => sadvH s h) k s) := fR_shp (fun h s => sadvH_shp) k
    exact (hs.advH k (by omega)).advR (by rw [sh.1]; omega) _ (Nat.le_refl _)
theorem sV.ages (hs : sV s) : sV (sages s s.2.2.1) := fun h hh => by
  show h2 (if h < s.2.2.1 then saged (s.1 1 + 1) (s.2.2.2 h) else s.2.2.2 h)
  rw [if_pos (show h < s.2.2.1 from hh)]
  exact ⟨(hs h hh).1, fun e he => (hs h hh).2 e (List.mem_filter.mp he).1⟩
theorem sV.tick (hs : sV s) : sV (stick s) := by
  have := (hs.ages.advH s.2.2.1 (Nat.le_refl _))
  exact this
theorem sV.ticks (hs : sV s) : ∀ n, sV (sticks s n)
  | 0 => hs
  | n + 1 => (hs.ticks n).tick
theorem sV.wakeR (hs : sV s) (hh : h < s.2.2.1) (hr : r < (s.2.2.2 h).2.2.1.length) : sV (swakeR h r s) := by
  have ha := hs.rec hh hr
  unfold swakeR
  generalize zg (s.2.2.2 h).2.2.1 r = a at ha
  dsimp only
  split
  · split
    · exact hs.setr hh (ha.k rfl rfl rfl (Or.inl rfl))
    · exact hs.says ha
  · exact hs
theorem sV.wakeRs (hs : sV s) (hh : h < s.2.2.1) : ∀ k, k ≤ (s.2.2.2 h).2.2.1.length → sV (fR (swakeR h) k s)
  | 0, _ => hs
  | k + 1, hk => by
    have sh : sShp s (fR (swakeR h) k s) := fR_shp (fun r s => swakeR_shp) k
    exact (hs.wakeRs hh k (by omega)).wakeR (by rw [sh.1]; exact hh) (by rw [(sh.2.2 h).2.2]; omega)
theorem sV.wake (hs : sV s) (hh : h < s.2.2.1) : sV (swake s h) := by
  have h1 : sV (swake0 s h) := hs.host (hs h hh)
  exact h1.wakeRs hh _ (by rw [swake0_recs]; exact Nat.le_refl _)
theorem sV.askR {q : sQ} {n k : Int32} (hs : sV q.2) (hh : o < q.2.2.2.1) (hr : r < (q.2.2.2.2 o).2.2.1.length) : sV (saskR n k b o r q).2 := by
  have ha := hs.rec hh hr
  unfold saskR
  dsimp only
  split
  · split
    · exact hs.sc
    · exact hs.says ha
  · exact hs
theorem sV.askRs {q : sQ} {n k : Int32} (hs : sV q.2) (hh : o < q.2.2.2.1) : ∀ c, c ≤ (q.2.2.2.2 o).2.2.1.length → sV (fR (saskR n k b o) c q).2
  | 0, _ => hs
  | c + 1, hc => by
    have sh := fR_shpq (f := saskR n k b o) (fun r q => saskR_shp) q c
    exact sV.askR (hs.askRs hh c (by omega)) (by rw [sh.1]; exact hh) (by rw [(sh.2.2 o).2.2]; omega)
theorem sV.askH {q : sQ} {n k : Int32} (hs : sV q.2) (hh : o < q.2.2.2.1) : sV (saskH n k h o q).2 := by
  unfold saskH
  split
  · exact hs.askRs hh _ (Nat.le_refl _)
  · exact hs
theorem sV.askHs {q : sQ} {n k : Int32} (hs : sV q.2) : ∀ c, c ≤ q.2.2.2.1 → sV (fR (saskH n k h) c q).2
  | 0, _ => hs
  | c + 1, hc => by
    have sh := fR_shpq (f := saskH n k h) (fun r q => saskH_shp) q c
    exact sV.askH (hs.askHs c (by omega)) (by rw [sh.1]; omega)
theorem sV.ask {n k : Int32} (hs : sV s) : sV (sask s h n k) := sV.askHs (q := (sknown (s.2.2.2 h).2.2.2 n k (s.1 1) (s.2.2.2 h).2.2.2.length, s)) hs _ (Nat.le_refl _)
theorem sV.hostNow (hs : sV s) : sV (shostNow s) := fun h hh => by
  have hh2 : h < s.2.2.1 + 1 := hh
  show h2 (fu s.2.2.2 s.2.2.1 (1, -1, [], []) h)
  by_cases e : h = s.2.2.1
  · subst e
    rw [fu_s]
    exact ⟨(fun a ha => by cases ha), (fun a ha => by cases ha)⟩
  · rw [fu_n _ _ e]
    exact hs h (by omega)
theorem sV.add (hs : sV s) (hh : h < s.2.2.1) (ha : r2 a) : sV (sadd s h a) := by
  have hx := hs h hh
  refine hs.host ⟨fun y hy => ?_, hx.2⟩
  rcases List.mem_append.mp hy with z | z
  · exact hx.1 y z
  · rw [List.mem_singleton.mp z]; exact ha
theorem sV.recordNow (hs : sV s) {sole : Bool} (hh : h < s.2.2.1) (ha : r2 a) : sV (srecordNow s h a sole) := by
  unfold srecordNow
  split
  · exact hs.add hh ha
  · exact (hs.add hh ha).says ha
theorem sV.drop (hs : sV s) (hh : h < s.2.2.1) : sV (sdrop s h r) := by
  have hx := hs h hh
  exact hs.host ⟨fun y hy => hx.1 y (List.mem_of_mem_eraseIdx hy), hx.2⟩
theorem h2.bye (hx : h2 x) : h2 (sbye t a x) := by
  unfold sbye
  split
  · refine ⟨hx.1, fun e he => ?_⟩
    obtain ⟨e', h1, rfl⟩ := List.mem_map.mp he
    split
    · exact (hx.2 e' h1).short
    · exact hx.2 e' h1
  · exact hx
theorem sV.byeN (hs : sV s) (k : Nat) : sV (sbyeN s a k) := fun h hh => by
  show h2 (if h < k then sbye (s.1 1) a (s.2.2.2 h) else s.2.2.2 h)
  split
  · exact (hs h hh).bye
  · exact hs h hh
theorem sV.leave (hs : sV s) (hh : h < s.2.2.1) : sV (sleave s h r) := by
  unfold sleave
  dsimp only
  split
  · exact sV.drop (s := scnt (sbyeN s _ s.2.2.1) 2 _) (hs.byeN _) hh
  · exact hs.drop hh
theorem srec_r2 {n k q l : Int32} {sole : Bool} (hn : sisN n k = true) (hl : sin l 2 60 = true) : r2 (srec n k q l sole) := by
  unfold sisN at hn
  rw [Bool.and_eq_true] at hn
  obtain ⟨i, -, i2, i3⟩ := sin_of (a := 0) (b := 15) hn.1 rfl rfl (by decide) (by decide)
  obtain ⟨j, -, j2, j3⟩ := sin_of (a := 0) (b := 3) hn.2 rfl rfl (by decide) (by decide)
  obtain ⟨p, -, p2, p3⟩ := sin_of (a := 2) (b := 60) hl rfl rfl (by decide) (by decide)
  exact ⟨⟨i, by omega, i3⟩, ⟨j, by omega, j3⟩, ⟨p, p2, p3⟩, Or.inl rfl⟩
theorem sV.od (hs : sV s) (hk : sOK s) {c : Int32} {x : Nat → Int32} (hc : olet c) (h0 : oc c x s = 0) : sV (od c x s).2 := by
  have n6 := hk.1
  rcases hc with rfl | rfl | rfl | rfl | rfl | rfl | rfl | rfl
  · exact hs.hostNow
  · exact hs.ticks _
  · obtain ⟨i, i1, i2, -⟩ := scanSleep_0 n6 h0
    rw [od_z, i2, hN_nI (show i < 2 ^ 31 by omega)]
    exact hs.host (hs i i1)
  · obtain ⟨i, i1, i2, -⟩ := scanWake_0 n6 h0
    rw [od_w, i2, hN_nI (show i < 2 ^ 31 by omega)]
    exact hs.wake i1
  · obtain ⟨i, i1, i2, -⟩ := scanLeave_0 hk h0
    rw [od_g, i2, hN_nI (show i < 2 ^ 31 by omega)]
    exact hs.leave i1
  · exact hs.ask
  · obtain ⟨i, i1, i2, i3, -, i4, -⟩ := scanRecord_0 n6 h0
    rw [od_c, i2, hN_nI (show i < 2 ^ 31 by omega)]
    exact hs.recordNow i1 (srec_r2 i3 i4)
  · obtain ⟨i, i1, i2, i3, -, i4, -⟩ := scanRecord_0 n6 h0
    rw [od_s, i2, hN_nI (show i < 2 ^ 31 by omega)]
    exact hs.recordNow i1 (srec_r2 i3 i4)
end
