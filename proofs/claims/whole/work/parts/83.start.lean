/-! ===== the law from its first row ===== -/
section
variable {L : Nat} {Q : Value → zM → Prop} {X : Nat → Int32} {m : zM}
theorem law_0 (hL : L ≤ 3072) (hz : zn m = 2) (hS : lS m L X) (hk : ∀ m, Q (.int 1) m) : zwp 12 M10_law 600000 7302250 Q 0 [.ref 1] [] 0 0 m := by
  refine zr_new dL_law_0 nw_10_7 (by rw [hz]; rfl) (by first | omega | (simp only [zk_0, zk_1, zk_2, zk_3, zk_4, zk_5, zk_6, zk_7, zk_8, zk_9]; omega) | fail "none") (by first | omega | (simp only [zk_0, zk_1, zk_2, zk_3, zk_4, zk_5, zk_6, zk_7, zk_8, zk_9]; omega) | fail "none") ?_
  rw [hz]
  refine zr_dup dL_law_3 rfl ?_
  refine zr_callI (as := []) dL_law_4 cv_10_9 rfl rfl (Nat.le_of_ble_eq_true rfl) (by first | omega | (simp only [zk_0, zk_1, zk_2, zk_3, zk_4, zk_5, zk_6, zk_7, zk_8, zk_9]; omega) | fail "none") (by first | omega | (simp only [zk_0, zk_1, zk_2, zk_3, zk_4, zk_5, zk_6, zk_7, zk_8, zk_9]; omega) | fail "none") (Ninit_ok (by rw [zn_nw]; omega) (fun k => by have := (znw_s (m := m) (k := k)).1; rw [hz] at this; exact this) (fun m1 n1 b1 c1 => ?_))
  refine zr_astore_n dL_law_7 (by decide) rfl ?_
  dsimp only [zset]
  refine zr_new dL_law_8 nw_10_10 (by rw [n1]; rfl) (by first | omega | (simp only [zk_0, zk_1, zk_2, zk_3, zk_4, zk_5, zk_6, zk_7, zk_8, zk_9]; omega) | fail "none") (by first | omega | (simp only [zk_0, zk_1, zk_2, zk_3, zk_4, zk_5, zk_6, zk_7, zk_8, zk_9]; omega) | fail "none") ?_
  rw [n1]
  refine zr_dup dL_law_11 rfl ?_
  refine zr_callI (as := []) dL_law_12 cv_10_12 rfl rfl (Nat.le_of_ble_eq_true rfl) (by first | omega | (simp only [zk_0, zk_1, zk_2, zk_3, zk_4, zk_5, zk_6, zk_7, zk_8, zk_9]; omega) | fail "none") (by first | omega | (simp only [zk_0, zk_1, zk_2, zk_3, zk_4, zk_5, zk_6, zk_7, zk_8, zk_9]; omega) | fail "none") (Minit_ok (by rw [zn_nw]; omega) (fun k => by have := (znw_s (m := m1) (k := k)).1; rw [n1] at this; exact this) (by have := (znw_s (m := m1) (k := 1)).2.2.2; rw [n1] at this; exact this) (fun m2 n2 b2 c2 => ?_))
  refine zr_astore_n dL_law_15 (by decide) rfl ?_
  dsimp only [zset]
  refine zr_iconst (v := nI 0) dL_law_16 rfl ?_
  refine zr_istore_n dL_law_17 (by decide) rfl ?_
  dsimp only [zset]
  have hb : zbl 667 m1 m2 := (zbl.nw (by omega)).tr b2
  have hb1 : zbl 2 m m1 := (zbl.nw (by omega)).tr b1
  have s1 : lS m1 L X := ⟨by rw [hb1.R (by omega)]; exact hS.1, by rw [hb1.I (by omega)]; exact hS.2⟩
  have s2 : lS m2 L X := ⟨by rw [hb.R (by omega)]; exact s1.1, by rw [hb.I (by omega)]; exact s1.2⟩
  refine law_18 hL ?_ ?_ hk _ 0 w00 m2 (Nat.lt_succ_self _) (by omega) s2 ((c1.zi (hb.zi (lo := 2) (hi := 667) (by omega)) (by omega) (by omega)).rc n2) c2.rm wI_00
  · decide
  · decide
end
/-! what the start knows of the classes -/
section
variable {s : State} {args : Array Value}
theorem zst_cl (hts : ∀ w ∈ zW, w.before args s = true) : ∀ ci, ci < 10 → ∃ (cC : ClassId) (iS : Nat → Nat), u_Kn s (zcl ci).1 (zcl ci).2.1 (zcl ci).2.2 cC iS := by
  intro ci hc
  have hi : ∃ n, Cond.instantiable (zcl ci).1 n ∈ zW := by
    rcases (show ci = 0 ∨ ci = 1 ∨ ci = 2 ∨ ci = 3 ∨ ci = 4 ∨ ci = 5 ∨ ci = 6 ∨ ci = 7 ∨ ci = 8 ∨ ci = 9 by omega) with rfl | rfl | rfl | rfl | rfl | rfl | rfl | rfl | rfl | rfl
    · exact ⟨_, nw_4_18.2.2.1⟩
    · exact ⟨_, nw_5_18.2.2.1⟩
    · exact ⟨_, nw_0_9.2.2.1⟩
    · exact ⟨_, nw_8_16.2.2.1⟩
    · exact ⟨_, nw_5_9.2.2.1⟩
    · exact ⟨_, nw_8_9.2.2.1⟩
    · exact ⟨_, nw_4_9.2.2.1⟩
    · exact ⟨_, nw_8_23.2.2.1⟩
    · exact ⟨_, nw_10_7.2.2.1⟩
    · exact ⟨_, nw_10_10.2.2.1⟩
  obtain ⟨n, hn⟩ := hi
  exact u_known hts (zlay_in ci hc) (hts _ hn)
theorem zst_ar (ty : FieldType) (hR : ∀ c, s.vm.findClass ("[" ++ ty.toString) = some c → va_RA s c ty) (h : (Cond.arrayClass ty).before args s = true) : ∃ c : ClassId, ArrOfT s c ty ∧ va_RA s c ty := by
  obtain ⟨c, k, comp, h1, h2, h3⟩ := Cond.arrayClass_spec h
  exact ⟨c, fun N z => ⟨fun k h => (by cases h), k, h2, comp, h3⟩, hR c h1⟩
theorem zst_ao {C : String} (h : (Cond.arrayOver (.object C)).before args s = true) : ∃ c : ClassId, ArrOfT s c (.object C) ∧ va_RA s c (.object C) := by
  obtain ⟨comp, c, k, h1, h2, h3, h4, h5⟩ := Cond.arrayOver_spec h
  exact ⟨c, fun N z => ⟨fun k h => (by cases h), k, h3, comp, h4⟩, k, comp, h3, h4, h1, h5⟩
theorem zst_nest (hts : ∀ w ∈ lw_tbl, w.before args s = true) : znest s := by
  intro w hw hk
  have h1 := hts w hw
  match w, hk, h1 with
  | .methodLinkNest a i x b, _, h1 => exact va_Nw.of rfl h1
  | .arrayOver (.object C), _, h1 => exact va_AO.of h1
def zcy (c0 c1 c2 c3 c4 c5 c6 c7 c8 : ClassId) : Nat → ClassId := fun k => if k = 10 then c0 else if k = 11 then c1 else if k = 12 then c2 else if k = 13 then c3 else if k = 14 then c4 else if k = 15 then c5 else if k = 16 then c6 else if k = 17 then c7 else c8
theorem zst_K (hts : ∀ w ∈ lw_tbl, w.before args s = true) (b h : Nat) : ∃ (D : va_G) (cy : Nat → ClassId), zKs (b, h, D, cy) s := by
  have hw : ∀ w ∈ zW, w.before args s = true := fun w hw => hts w (List.mem_filter.mp hw).1
  have hcl := zst_cl hw
  obtain ⟨c0, k0⟩ := zst_ar .byte (fun c h => h) (hw _ ac_byte)
  obtain ⟨c1, k1⟩ := zst_ar .float (fun c h => h) (hw _ ac_float)
  obtain ⟨c2, k2⟩ := zst_ar .int (fun c h => h) (hw _ ac_int)
  obtain ⟨c3, k3⟩ := zst_ar .long (fun c h => h) (hw _ ac_long)
  obtain ⟨c4, k4⟩ := zst_ar .boolean (fun c h => h) (hw _ ac_boolean)
  obtain ⟨c5, k5⟩ := zst_ao (hts _ ao_2)
  obtain ⟨c6, k6⟩ := zst_ao (hts _ ao_4)
  obtain ⟨c7, k7⟩ := zst_ao (hts _ ao_5)
  obtain ⟨c8, k8⟩ := zst_ao (hts _ ao_6)
  have hD : ∀ ci, ∃ q : ClassId × (Nat → Nat), ci < 10 → u_Kn s (zcl ci).1 (zcl ci).2.1 (zcl ci).2.2 q.1 q.2 := fun ci => by
    by_cases hc : ci < 10
    · obtain ⟨a, i, h⟩ := hcl ci hc
      exact ⟨(a, i), fun _ => h⟩
    · exact ⟨(c0, fun _ => 0), fun h => absurd h hc⟩
  refine ⟨(fun ci => (Classical.choose (hD ci)).1, fun ci => (Classical.choose (hD ci)).2), zcy c0 c1 c2 c3 c4 c5 c6 c7 c8, ⟨fun ci q hq => ?_, fun k q hq => ?_⟩, zst_nest hts⟩
  · have hc : ci < 10 := (List.getElem?_eq_some_iff.mp hq).1
    rw [zcl_at ci hc] at hq
    injection hq with hq
    subst hq
    exact Classical.choose_spec (hD ci) hc
  · have hc : k < 9 := (List.getElem?_eq_some_iff.mp hq).1
    rcases (show k = 0 ∨ k = 1 ∨ k = 2 ∨ k = 3 ∨ k = 4 ∨ k = 5 ∨ k = 6 ∨ k = 7 ∨ k = 8 by omega) with rfl | rfl | rfl | rfl | rfl | rfl | rfl | rfl | rfl
    · injection hq with hq; subst hq; exact k0
    · injection hq with hq; subst hq; exact k1
    · injection hq with hq; subst hq; exact k2
    · injection hq with hq; subst hq; exact k3
    · injection hq with hq; subst hq; exact k4
    · injection hq with hq; subst hq; exact k5
    · injection hq with hq; subst hq; exact k6
    · injection hq with hq; subst hq; exact k7
    · injection hq with hq; subst hq; exact k8
end
