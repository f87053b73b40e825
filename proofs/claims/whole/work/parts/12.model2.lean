/-! ===== the reference: what is asked ===== -/
section
variable {d : Nat} {Q : Value → zM → Prop} {m : zM} {f : Nat → Int32} {s : sS}
/-- a proxy is none, or a host -/
def sPx (s : sS) : Prop := ∀ h, h < s.2.2.1 → (s.2.2.2 h).2.1 = -1 ∨ ∃ p, p < s.2.2.1 ∧ (s.2.2.2 h).2.1 = nI p
theorem nI_ne_m1 {n : Nat} (h : n < 2 ^ 31) : ¬ nI n = -1 := by
  intro e
  have := congrArg Int32.toInt e
  rw [nI_toInt h] at this
  have h2 : (-1 : Int32).toInt = -1 := by decide
  omega
theorem isDefended_ok {h r : Nat} (hM : MI m) (hA : RA f s) (hX : sPx s) (hh : h < s.2.2.1) (hr : r < (s.2.2.2 h).2.2.1.length) (hk : Q (.int (bI (sdef s h (zg (s.2.2.2 h).2.2.1 r)))) (zrow m 668 f)) : zC (d + 2) M9_isDefended 0 0 [.ref 667, .int (nI h), .int (nI r)] (zrow m 668 f) Q := by
  have h6 := hA.h6 hh
  have h5 := hA.c5 hh
  have hrec := hA.rec hh hr
  have J : ∀ b : Bool, b = sstd s h → zwp (d + 2) M9_isDefended 0 0 Q 40 [.ref 667, .int (nI h), .int (nI r), .int (nI (34 + 7 * (5 * h + r))), zU] [.int (bI b)] 0 0 (zrow m 668 f) := by
    intro b hb
    refine zr_istore dX9_isDefended_40 (by decide) rfl ?_
    dsimp only [zset]
    refine zr_aload_n dX9_isDefended_42 rfl ?_
    refine zr_getR dX9_isDefended_43 fd_9_7 rfl (MI.ob hM ⟨rfl, rfl⟩) (MI.r0 hM ⟨rfl, rfl⟩) (by decide) ?_
    refine zr_iload_n dX9_isDefended_46 rfl ?_
    refine zr_iconst (v := nI 4) dX9_isDefended_47 rfl ?_
    refine zr_iaddN dX9_isDefended_48 ?_
    refine zr_ialoadA dX9_isDefended_49 (MI.a668 hM ⟨rfl, rfl⟩) (by omega) ?_
    refine zr_iconst (v := nI 3) dX9_isDefended_50 rfl ?_
    refine zr_icmp_ne (tgt := 76) dX9_isDefended_51 (by decide) (fun hc_51 => ?_) (fun hc_51 => ?_)
    · refine zr_iconst (v := nI 0) dX9_isDefended_76 rfl ?_
      refine zr_z0 dX9_isDefended_77 rfl (Nat.le_refl _) (Nat.le_refl _) ?_ hk
      (try simp only [hrec 4 (by decide), hrec 6 (by decide)] at *); simp_all [sdef, sown, nI1, nI3]
    · refine zr_aload_n dX9_isDefended_54 rfl ?_
      refine zr_getR dX9_isDefended_55 fd_9_7 rfl (MI.ob hM ⟨rfl, rfl⟩) (MI.r0 hM ⟨rfl, rfl⟩) (by decide) ?_
      refine zr_iload_n dX9_isDefended_58 rfl ?_
      refine zr_bipush (v := nI 6) dX9_isDefended_59 rfl ?_
      refine zr_iaddN dX9_isDefended_61 ?_
      refine zr_ialoadA dX9_isDefended_62 (MI.a668 hM ⟨rfl, rfl⟩) (by omega) ?_
      refine zr_iconst (v := nI 1) dX9_isDefended_63 rfl ?_
      refine zr_icmp_ne (tgt := 76) dX9_isDefended_64 (by decide) (fun hc_64 => ?_) (fun hc_64 => ?_)
      · refine zr_iconst (v := nI 0) dX9_isDefended_76 rfl ?_
        refine zr_z0 dX9_isDefended_77 rfl (Nat.le_refl _) (Nat.le_refl _) ?_ hk
        (try simp only [hrec 4 (by decide), hrec 6 (by decide)] at *); simp_all [sdef, sown, nI1, nI3]
      · refine zr_iload dX9_isDefended_67 rfl ?_
        refine zr_if_eqB (tgt := 76) dX9_isDefended_69 (by decide) (fun hc_69 => ?_) (fun hc_69 => ?_)
        · refine zr_iconst (v := nI 0) dX9_isDefended_76 rfl ?_
          refine zr_z0 dX9_isDefended_77 rfl (Nat.le_refl _) (Nat.le_refl _) ?_ hk
          (try simp only [hrec 4 (by decide), hrec 6 (by decide)] at *); simp_all [sdef, sown, nI1, nI3]
        · refine zr_iconst (v := nI 1) dX9_isDefended_72 rfl ?_
          refine zr_goto (tgt := 77) dX9_isDefended_73 (by decide) ?_
          refine zr_z1 dX9_isDefended_77 rfl (Nat.le_refl _) (Nat.le_refl _) ?_ hk
          (try simp only [hrec 4 (by decide), hrec 6 (by decide)] at *); simp_all [sdef, sown, nI1, nI3]
  refine zenterP (Or.inl (by decide +kernel)) rfl (fun h => by cases h) (Nat.le_of_ble_eq_true rfl) ?_
  show zwp _ _ _ _ _ 0 [_, _, _, zU, zU] [] 0 0 _
  refine zr_iload_n dX9_isDefended_0 rfl ?_
  refine zr_iload_n dX9_isDefended_1 rfl ?_
  refine zr_cS2 rfl dX9_isDefended_2 cv_9_55 (Nat.le_of_ble_eq_true rfl) (at_ok ?_)
  refine zr_istore_n dX9_isDefended_5 (by decide) rfl ?_
  dsimp only [zset]
  refine zr_aload_n dX9_isDefended_6 rfl ?_
  refine zr_iload_n dX9_isDefended_7 rfl ?_
  refine zr_cV1 rfl dX9_isDefended_8 cv_9_59 (MI.ob hM ⟨rfl, rfl⟩) (Nat.le_of_ble_eq_true rfl) (isAwake_ok hM h6 (hA.awk hh) ?_)
  refine zr_if_neB (tgt := 35) dX9_isDefended_11 (by decide) (fun hc_11 => ?_) (fun hc_11 => ?_)
  · refine zr_iconst (v := bI true) dX9_isDefended_35 rfl ?_
    refine zr_goto (tgt := 40) dX9_isDefended_36 (by decide) ?_
    refine J _ ?_
    (try have hcl : (s.2.2.2 h).2.1.toNatClampNeg = p := by rw [hp2]; exact nI_clamp (by have := hA.h6 hp1; omega))
    simp_all [sstd]
  · refine zr_aload_n dX9_isDefended_14 rfl ?_
    refine zr_iload_n dX9_isDefended_15 rfl ?_
    refine zr_cV1 rfl dX9_isDefended_16 cv_9_63 (MI.ob hM ⟨rfl, rfl⟩) (Nat.le_of_ble_eq_true rfl) (proxy_ok hM h6 (hA.prx hh) ?_)
    refine zr_iconst (v := -1) dX9_isDefended_19 rfl ?_
    refine zr_icmp_eq (tgt := 39) dX9_isDefended_20 (by decide) (fun hc_20 => ?_) (fun hc_20 => ?_)
    · refine zr_iconst (v := bI false) dX9_isDefended_39 rfl ?_
      refine J _ ?_
      (try have hcl : (s.2.2.2 h).2.1.toNatClampNeg = p := by rw [hp2]; exact nI_clamp (by have := hA.h6 hp1; omega))
      simp_all [sstd]
    · obtain ⟨p, hp1, hp2⟩ := (hX h hh).resolve_left hc_20
      refine zr_aload_n dX9_isDefended_23 rfl ?_
      refine zr_aload_n dX9_isDefended_24 rfl ?_
      refine zr_iload_n dX9_isDefended_25 rfl ?_
      refine zr_cV1 rfl dX9_isDefended_26 cv_9_63 (MI.ob hM ⟨rfl, rfl⟩) (Nat.le_of_ble_eq_true rfl) (proxy_ok hM h6 ((hA.prx hh).trans hp2) ?_)
      refine zr_cV1 rfl dX9_isDefended_29 cv_9_59 (MI.ob hM ⟨rfl, rfl⟩) (Nat.le_of_ble_eq_true rfl) (isAwake_ok hM (hA.h6 hp1) (hA.awk hp1) ?_)
      refine zr_if_eqB (tgt := 39) dX9_isDefended_32 (by decide) (fun hc_32 => ?_) (fun hc_32 => ?_)
      · refine zr_iconst (v := bI false) dX9_isDefended_39 rfl ?_
        refine J _ ?_
        (try have hcl : (s.2.2.2 h).2.1.toNatClampNeg = p := by rw [hp2]; exact nI_clamp (by have := hA.h6 hp1; omega))
        simp_all [sstd]
      · refine zr_iconst (v := bI true) dX9_isDefended_35 rfl ?_
        refine zr_goto (tgt := 40) dX9_isDefended_36 (by decide) ?_
        refine J _ ?_
        (try have hcl : (s.2.2.2 h).2.1.toNatClampNeg = p := by rw [hp2]; exact nI_clamp (by have := hA.h6 hp1; omega))
        simp_all [sstd]
theorem hasSame_loop {h p : Nat} {rc : sR} (hM : MI m) (hA : RA f s) (hh : h < s.2.2.1) (hp : p + 2 < 424) (hrc : ∀ k, k < 3 → f (p + k) = rc k) (hk : Q (.int (bI ((s.2.2.2 h).2.2.1.any (fun a => ssame a rc)))) (zrow m 668 f)) : ∀ n r b, (s.2.2.2 h).2.2.1.length - r < n → r ≤ (s.2.2.2 h).2.2.1.length → b = anyN (fun i => ssame (zg (s.2.2.2 h).2.2.1 i) rc) r →
    zwp (d + 3) M9_hasSame 0 0 Q 5 [.ref 667, .int (nI h), .int (nI p), .int (bI b), .int (nI r)] [] 0 0 (zrow m 668 f) := by
  have h6 := hA.h6 hh
  have h5 := hA.c5 hh
  intro n
  induction n with
  | zero => intro r b h1; omega
  | succ n ih =>
    intro r b h1 h2 hb
    refine zr_iload dX9_hasSame_5 rfl ?_
    refine zr_aload_n dX9_hasSame_7 rfl ?_
    refine zr_iload_n dX9_hasSame_8 rfl ?_
    refine zr_cV1 rfl dX9_hasSame_9 cv_9_73 (MI.ob hM ⟨rfl, rfl⟩) (Nat.le_of_ble_eq_true rfl) (records_ok hM h6 (hA.cnt hh) ?_)
    refine zr_icmp_geN (tgt := 45) dX9_hasSame_12 (by decide) (by omega) (by omega) (fun hc_12 => ?_) (fun hc_12 => ?_)
    · refine zr_iload_n dX9_hasSame_45 rfl ?_
      refine zr_zreturnB dX9_hasSame_46 rfl (Nat.le_refl _) (Nat.le_refl _) ?_
      have e : r = (s.2.2.2 h).2.2.1.length := by omega
      rw [any_anyN] at hk
      rw [hb, e]; exact hk
    · refine zr_iload_n dX9_hasSame_15 rfl ?_
      refine zr_if_neB (tgt := 33) dX9_hasSame_16 (by decide) (fun hc_16 => ?_) (fun hc_16 => ?_)
      · refine zr_iconst (v := bI true) dX9_hasSame_33 rfl ?_
        refine zr_goto (tgt := 38) dX9_hasSame_34 (by decide) ?_
        refine zr_istore_n dX9_hasSame_38 (by decide) rfl ?_
        dsimp only [zset]
        refine zr_iincN dX9_hasSame_39 rfl (by decide) rfl ?_
        dsimp only [zset]
        refine zr_goto (tgt := 5) dX9_hasSame_42 (by decide) ?_
        exact ih (r + 1) _ (by omega) (by omega) (by simp_all [anyN])
      · refine zr_aload_n dX9_hasSame_19 rfl ?_
        refine zr_iload_n dX9_hasSame_20 rfl ?_
        refine zr_iload dX9_hasSame_21 rfl ?_
        refine zr_cS2 rfl dX9_hasSame_23 cv_9_55 (Nat.le_of_ble_eq_true rfl) (at_ok ?_)
        refine zr_iload_n dX9_hasSame_26 rfl ?_
        refine zr_cV2 rfl dX9_hasSame_27 cv_9_76 (MI.ob hM ⟨rfl, rfl⟩) (Nat.le_of_ble_eq_true rfl) (areSame_ok hM (by omega) hp (fun k hk => hA.rec hh hc_12 k (by omega)) hrc ?_)
        refine zr_if_eqB (tgt := 37) dX9_hasSame_30 (by decide) (fun hc_30 => ?_) (fun hc_30 => ?_)
        · refine zr_iconst (v := bI false) dX9_hasSame_37 rfl ?_
          refine zr_istore_n dX9_hasSame_38 (by decide) rfl ?_
          dsimp only [zset]
          refine zr_iincN dX9_hasSame_39 rfl (by decide) rfl ?_
          dsimp only [zset]
          refine zr_goto (tgt := 5) dX9_hasSame_42 (by decide) ?_
          exact ih (r + 1) _ (by omega) (by omega) (by simp_all [anyN])
        · refine zr_iconst (v := bI true) dX9_hasSame_33 rfl ?_
          refine zr_goto (tgt := 38) dX9_hasSame_34 (by decide) ?_
          refine zr_istore_n dX9_hasSame_38 (by decide) rfl ?_
          dsimp only [zset]
          refine zr_iincN dX9_hasSame_39 rfl (by decide) rfl ?_
          dsimp only [zset]
          refine zr_goto (tgt := 5) dX9_hasSame_42 (by decide) ?_
          exact ih (r + 1) _ (by omega) (by omega) (by simp_all [anyN])
theorem hasSame_ok {h p : Nat} {rc : sR} (hM : MI m) (hA : RA f s) (hh : h < s.2.2.1) (hp : p + 2 < 424) (hrc : ∀ k, k < 3 → f (p + k) = rc k) (hk : Q (.int (bI ((s.2.2.2 h).2.2.1.any (fun a => ssame a rc)))) (zrow m 668 f)) : zC (d + 3) M9_hasSame 0 0 [.ref 667, .int (nI h), .int (nI p)] (zrow m 668 f) Q := by
  refine zenterP (Or.inl (by decide +kernel)) rfl (fun h => by cases h) (Nat.le_of_ble_eq_true rfl) ?_
  show zwp _ _ _ _ _ 0 [_, _, _, zU, zU] [] 0 0 _
  refine zr_iconst (v := bI false) dX9_hasSame_0 rfl ?_
  refine zr_istore_n dX9_hasSame_1 (by decide) rfl ?_
  dsimp only [zset]
  refine zr_iconst (v := nI 0) dX9_hasSame_2 rfl ?_
  refine zr_istore dX9_hasSame_3 (by decide) rfl ?_
  dsimp only [zset]
  exact hasSame_loop hM hA hh hp hrc hk _ 0 false (Nat.lt_succ_self _) (Nat.zero_le _) rfl
theorem canHost_ok (hM : MI m) (hA : RA f s) (hk : Q (.int (scanHost s)) (zrow m 668 f)) : zC (d + 1) M9_canHost 0 0 [.ref 667] (zrow m 668 f) Q := by
  have h6 := hA.2.1
  refine zenterP (Or.inl (by decide +kernel)) rfl (fun h => by cases h) (Nat.le_of_ble_eq_true rfl) ?_
  show zwp _ _ _ _ _ 0 [_] [] 0 0 _
  refine zr_aload_n dX9_canHost_0 rfl ?_
  refine zr_getR dX9_canHost_1 fd_9_7 rfl (MI.ob hM ⟨rfl, rfl⟩) (MI.r0 hM ⟨rfl, rfl⟩) (by decide) ?_
  refine zr_iconst (v := nI 0) dX9_canHost_4 rfl ?_
  refine zr_ialoadA dX9_canHost_5 (MI.a668 hM ⟨rfl, rfl⟩) (by omega) ?_
  rw [hA.1]
  refine zr_bipush (v := nI 6) dX9_canHost_6 rfl ?_
  refine zr_icmp_neN (tgt := 16) dX9_canHost_8 (by decide) (by omega) (by omega) (fun hc_8 => ?_) (fun hc_8 => ?_)
  · refine zr_iconst (v := nI 0) dX9_canHost_16 rfl ?_
    refine zr_ireturn dX9_canHost_17 rfl (Nat.le_refl _) (Nat.le_refl _) ?_
    simpa [scanHost, hc_8, nI0] using hk
  · refine zr_bipush (v := -4) dX9_canHost_11 rfl ?_
    refine zr_goto (tgt := 17) dX9_canHost_13 (by decide) ?_
    refine zr_ireturn dX9_canHost_17 rfl (Nat.le_refl _) (Nat.le_refl _) ?_
    simpa [scanHost, hc_8, nI0] using hk
theorem canRecord_loop {h : Nat} {name kind data life : Int32} (hM : MI m) (hA : RA f s) (hh : h < s.2.2.1) (h0 : ¬ (!sisH s (nI h) || !sisN name kind || !sin data 0 255 || !sin life 2 60) = true) (hk : Q (.int (scanRecord s (nI h) name kind data life)) (zrow m 668 f)) : ∀ n r b, (s.2.2.2 h).2.2.1.length - r < n → r ≤ (s.2.2.2 h).2.2.1.length → b = anyN (fun i => snam (zg (s.2.2.2 h).2.2.1 i) name kind) r →
    zwp (d + 3) M9_canRecord 0 0 Q 53 [.ref 667, .int (nI h), .int name, .int kind, .int data, .int life, .int (bI b), .int (nI r)] [] 0 0 (zrow m 668 f) := by
  have h6 := hA.h6 hh
  have h5 := hA.c5 hh
  intro n
  induction n with
  | zero => intro r b h1; omega
  | succ n ih =>
    intro r b h1 h2 hb
    refine zr_iload dX9_canRecord_53 rfl ?_
    refine zr_aload_n dX9_canRecord_55 rfl ?_
    refine zr_iload_n dX9_canRecord_56 rfl ?_
    refine zr_cV1 rfl dX9_canRecord_57 cv_9_73 (MI.ob hM ⟨rfl, rfl⟩) (Nat.le_of_ble_eq_true rfl) (records_ok hM h6 (hA.cnt hh) ?_)
    refine zr_icmp_geN (tgt := 115) dX9_canRecord_60 (by decide) (by omega) (by omega) (fun hc_60 => ?_) (fun hc_60 => ?_)
    · refine zr_aload_n dX9_canRecord_115 rfl ?_
      refine zr_iload_n dX9_canRecord_116 rfl ?_
      refine zr_cV1 rfl dX9_canRecord_117 cv_9_59 (MI.ob hM ⟨rfl, rfl⟩) (Nat.le_of_ble_eq_true rfl) (isAwake_ok hM h6 (hA.awk hh) ?_)
      refine zr_if_eqB (tgt := 128) dX9_canRecord_120 (by decide) (fun hc_120 => ?_) (fun hc_120 => ?_)
      · refine zr_bipush (v := -3) dX9_canRecord_128 rfl ?_
        refine zr_goto (tgt := 148) dX9_canRecord_130 (by decide) ?_
        refine zr_ireturn dX9_canRecord_148 rfl (Nat.le_refl _) (Nat.le_refl _) ?_
        have e : r = (s.2.2.2 h).2.2.1.length := by omega
        have hcl : (nI h).toNatClampNeg = h := nI_clamp (by omega)
        have hb2 : b = (s.2.2.2 h).2.2.1.any (fun a => snam a name kind) := by rw [any_anyN, hb, e]
        rw [scanRecord, if_neg h0, hcl, ← hb2] at hk
        simp_all [nI0]
      · refine zr_iload dX9_canRecord_123 rfl ?_
        refine zr_if_eqB (tgt := 133) dX9_canRecord_125 (by decide) (fun hc_125 => ?_) (fun hc_125 => ?_)
        · refine zr_aload_n dX9_canRecord_133 rfl ?_
          refine zr_iload_n dX9_canRecord_134 rfl ?_
          refine zr_cV1 rfl dX9_canRecord_135 cv_9_73 (MI.ob hM ⟨rfl, rfl⟩) (Nat.le_of_ble_eq_true rfl) (records_ok hM h6 (hA.cnt hh) ?_)
          refine zr_iconst (v := nI 5) dX9_canRecord_138 rfl ?_
          refine zr_icmp_neN (tgt := 147) dX9_canRecord_139 (by decide) (by omega) (by omega) (fun hc_139 => ?_) (fun hc_139 => ?_)
          · refine zr_iconst (v := nI 0) dX9_canRecord_147 rfl ?_
            refine zr_ireturn dX9_canRecord_148 rfl (Nat.le_refl _) (Nat.le_refl _) ?_
            have e : r = (s.2.2.2 h).2.2.1.length := by omega
            have hcl : (nI h).toNatClampNeg = h := nI_clamp (by omega)
            have hb2 : b = (s.2.2.2 h).2.2.1.any (fun a => snam a name kind) := by rw [any_anyN, hb, e]
            rw [scanRecord, if_neg h0, hcl, ← hb2] at hk
            simp_all [nI0]
          · refine zr_bipush (v := -4) dX9_canRecord_142 rfl ?_
            refine zr_goto (tgt := 148) dX9_canRecord_144 (by decide) ?_
            refine zr_ireturn dX9_canRecord_148 rfl (Nat.le_refl _) (Nat.le_refl _) ?_
            have e : r = (s.2.2.2 h).2.2.1.length := by omega
            have hcl : (nI h).toNatClampNeg = h := nI_clamp (by omega)
            have hb2 : b = (s.2.2.2 h).2.2.1.any (fun a => snam a name kind) := by rw [any_anyN, hb, e]
            rw [scanRecord, if_neg h0, hcl, ← hb2] at hk
            simp_all [nI0]
        · refine zr_bipush (v := -3) dX9_canRecord_128 rfl ?_
          refine zr_goto (tgt := 148) dX9_canRecord_130 (by decide) ?_
          refine zr_ireturn dX9_canRecord_148 rfl (Nat.le_refl _) (Nat.le_refl _) ?_
          have e : r = (s.2.2.2 h).2.2.1.length := by omega
          have hcl : (nI h).toNatClampNeg = h := nI_clamp (by omega)
          have hb2 : b = (s.2.2.2 h).2.2.1.any (fun a => snam a name kind) := by rw [any_anyN, hb, e]
          rw [scanRecord, if_neg h0, hcl, ← hb2] at hk
          simp_all [nI0]
    · refine zr_iload dX9_canRecord_63 rfl ?_
      refine zr_if_neB (tgt := 102) dX9_canRecord_65 (by decide) (fun hc_65 => ?_) (fun hc_65 => ?_)
      · refine zr_iconst (v := bI true) dX9_canRecord_102 rfl ?_
        refine zr_goto (tgt := 107) dX9_canRecord_103 (by decide) ?_
        refine zr_istore dX9_canRecord_107 (by decide) rfl ?_
        dsimp only [zset]
        refine zr_iincN dX9_canRecord_109 rfl (by decide) rfl ?_
        dsimp only [zset]
        refine zr_goto (tgt := 53) dX9_canRecord_112 (by decide) ?_
        exact ih (r + 1) _ (by omega) (by omega) (by simp_all [anyN, snam])
      · refine zr_aload_n dX9_canRecord_68 rfl ?_
        refine zr_getR dX9_canRecord_69 fd_9_7 rfl (MI.ob hM ⟨rfl, rfl⟩) (MI.r0 hM ⟨rfl, rfl⟩) (by decide) ?_
        refine zr_iload_n dX9_canRecord_72 rfl ?_
        refine zr_iload dX9_canRecord_73 rfl ?_
        refine zr_cS2 rfl dX9_canRecord_75 cv_9_55 (Nat.le_of_ble_eq_true rfl) (at_ok ?_)
        refine zr_iconst (v := nI 0) dX9_canRecord_78 rfl ?_
        refine zr_iaddN dX9_canRecord_79 ?_
        refine zr_ialoadA dX9_canRecord_80 (MI.a668 hM ⟨rfl, rfl⟩) (by omega) ?_
        rw [hA.rec hh hc_60 0 (by decide)]
        refine zr_iload_n dX9_canRecord_81 rfl ?_
        refine zr_icmp_ne (tgt := 106) dX9_canRecord_82 (by decide) (fun hc_82 => ?_) (fun hc_82 => ?_)
        · refine zr_iconst (v := bI false) dX9_canRecord_106 rfl ?_
          refine zr_istore dX9_canRecord_107 (by decide) rfl ?_
          dsimp only [zset]
          refine zr_iincN dX9_canRecord_109 rfl (by decide) rfl ?_
          dsimp only [zset]
          refine zr_goto (tgt := 53) dX9_canRecord_112 (by decide) ?_
          exact ih (r + 1) _ (by omega) (by omega) (by simp_all [anyN, snam])
        · refine zr_aload_n dX9_canRecord_85 rfl ?_
          refine zr_getR dX9_canRecord_86 fd_9_7 rfl (MI.ob hM ⟨rfl, rfl⟩) (MI.r0 hM ⟨rfl, rfl⟩) (by decide) ?_
          refine zr_iload_n dX9_canRecord_89 rfl ?_
          refine zr_iload dX9_canRecord_90 rfl ?_
          refine zr_cS2 rfl dX9_canRecord_92 cv_9_55 (Nat.le_of_ble_eq_true rfl) (at_ok ?_)
          refine zr_iconst (v := nI 1) dX9_canRecord_95 rfl ?_
          refine zr_iaddN dX9_canRecord_96 ?_
          refine zr_ialoadA dX9_canRecord_97 (MI.a668 hM ⟨rfl, rfl⟩) (by omega) ?_
          rw [hA.rec hh hc_60 1 (by decide)]
          refine zr_iload_n dX9_canRecord_98 rfl ?_
          refine zr_icmp_ne (tgt := 106) dX9_canRecord_99 (by decide) (fun hc_99 => ?_) (fun hc_99 => ?_)
          · refine zr_iconst (v := bI false) dX9_canRecord_106 rfl ?_
            refine zr_istore dX9_canRecord_107 (by decide) rfl ?_
            dsimp only [zset]
            refine zr_iincN dX9_canRecord_109 rfl (by decide) rfl ?_
            dsimp only [zset]
            refine zr_goto (tgt := 53) dX9_canRecord_112 (by decide) ?_
            exact ih (r + 1) _ (by omega) (by omega) (by simp_all [anyN, snam])
          · refine zr_iconst (v := bI true) dX9_canRecord_102 rfl ?_
            refine zr_goto (tgt := 107) dX9_canRecord_103 (by decide) ?_
            refine zr_istore dX9_canRecord_107 (by decide) rfl ?_
            dsimp only [zset]
            refine zr_iincN dX9_canRecord_109 rfl (by decide) rfl ?_
            dsimp only [zset]
            refine zr_goto (tgt := 53) dX9_canRecord_112 (by decide) ?_
            exact ih (r + 1) _ (by omega) (by omega) (by simp_all [anyN, snam])
theorem canRecord_ok {h name kind data life : Int32} (hM : MI m) (hA : RA f s) (hk : Q (.int (scanRecord s h name kind data life)) (zrow m 668 f)) : zC (d + 3) M9_canRecord 0 0 [.ref 667, .int h, .int name, .int kind, .int data, .int life] (zrow m 668 f) Q := by
  refine zenterP (Or.inl (by decide +kernel)) rfl (fun h => by cases h) (Nat.le_of_ble_eq_true rfl) ?_
  show zwp _ _ _ _ _ 0 [_, _, _, _, _, _, zU, zU] [] 0 0 _
  refine zr_aload_n dX9_canRecord_0 rfl ?_
  refine zr_iload_n dX9_canRecord_1 rfl ?_
  refine zr_cV1 rfl dX9_canRecord_2 cv_9_110 (MI.ob hM ⟨rfl, rfl⟩) (Nat.le_of_ble_eq_true rfl) (isHost_ok hM hA ?_)
  refine zr_if_eqB (tgt := 44) dX9_canRecord_5 (by decide) (fun hc_5 => ?_) (fun hc_5 => ?_)
  · refine zr_bipush (v := -2) dX9_canRecord_44 rfl ?_
    refine zr_ireturn dX9_canRecord_46 rfl (Nat.le_refl _) (Nat.le_refl _) ?_
    simpa [scanRecord, *] using hk
  · refine zr_iload_n dX9_canRecord_8 rfl ?_
    refine zr_iload_n dX9_canRecord_9 rfl ?_
    refine zr_cS2 rfl dX9_canRecord_10 cv_9_113 (Nat.le_of_ble_eq_true rfl) (isName_ok ?_)
    refine zr_if_eqB (tgt := 44) dX9_canRecord_13 (by decide) (fun hc_13 => ?_) (fun hc_13 => ?_)
    · refine zr_bipush (v := -2) dX9_canRecord_44 rfl ?_
      refine zr_ireturn dX9_canRecord_46 rfl (Nat.le_refl _) (Nat.le_refl _) ?_
      simpa [scanRecord, *] using hk
    · refine zr_iload dX9_canRecord_16 rfl ?_
      refine zr_i2l dX9_canRecord_18 ?_
      refine zr_lconst (v := 0) dX9_canRecord_19 rfl ?_
      refine zr_ldc2 dX9_canRecord_20 kc_9_116 ?_
      refine zr_cS3 rfl dX9_canRecord_23 cv_9_47 (Nat.le_of_ble_eq_true rfl) (in32_ok (lo := 0) (hi := 255) rfl rfl ?_)
      refine zr_if_eqB (tgt := 44) dX9_canRecord_26 (by decide) (fun hc_26 => ?_) (fun hc_26 => ?_)
      · refine zr_bipush (v := -2) dX9_canRecord_44 rfl ?_
        refine zr_ireturn dX9_canRecord_46 rfl (Nat.le_refl _) (Nat.le_refl _) ?_
        simpa [scanRecord, *] using hk
      · refine zr_iload dX9_canRecord_29 rfl ?_
        refine zr_i2l dX9_canRecord_31 ?_
        refine zr_ldc2 dX9_canRecord_32 kc_9_118 ?_
        refine zr_ldc2 dX9_canRecord_35 kc_9_120 ?_
        refine zr_cS3 rfl dX9_canRecord_38 cv_9_47 (Nat.le_of_ble_eq_true rfl) (in32_ok (lo := 2) (hi := 60) rfl rfl ?_)
        refine zr_if_neB (tgt := 47) dX9_canRecord_41 (by decide) (fun hc_41 => ?_) (fun hc_41 => ?_)
        · refine zr_iconst (v := bI false) dX9_canRecord_47 rfl ?_
          refine zr_istore dX9_canRecord_48 (by decide) rfl ?_
          dsimp only [zset]
          refine zr_iconst (v := nI 0) dX9_canRecord_50 rfl ?_
          refine zr_istore dX9_canRecord_51 (by decide) rfl ?_
          dsimp only [zset]
          obtain ⟨k, hk1, rfl⟩ := sisH_of hA.2.1 hc_5
          exact canRecord_loop hM hA hk1 (by simp [*]) hk _ 0 false (Nat.lt_succ_self _) (Nat.zero_le _) rfl
        · refine zr_bipush (v := -2) dX9_canRecord_44 rfl ?_
          refine zr_ireturn dX9_canRecord_46 rfl (Nat.le_refl _) (Nat.le_refl _) ?_
          simpa [scanRecord, *] using hk
end
