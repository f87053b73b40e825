/-! ===== rows in handy shapes: numbers that are nI n, answers that are bI b, calls by their number of arguments ===== -/
def bI (b : Bool) : Int32 := if b then 1 else 0
theorem bI_01 (b : Bool) : bI b = 0 ∨ bI b = 1 := by cases b <;> simp [bI]
theorem bI_eq0 {b : Bool} : bI b = 0 ↔ b = false := by cases b <;> simp [bI]
theorem bI_ne0 {b : Bool} : ¬ bI b = 0 ↔ b = true := by cases b <;> simp [bI]
section
variable {d : Nat} {M : zMeth} {Q : Value → zM → Prop} {pc : Nat} {ls st : List Value} {m : zM} {mc ms uc us : Nat}
theorem zr_iaddN {a b : Nat} (hd : decode M.2.2.1 pc = .ok (.iadd, 1)) (k : zwp d M mc ms Q (pc + 1) ls (.int (nI (a + b)) :: st) uc us m) : zwp d M mc ms Q pc ls (.int (nI b) :: .int (nI a) :: st) uc us m :=
  zr_iadd hd (by rw [nI_add]; exact k)
theorem zr_imulN {a b : Nat} (hd : decode M.2.2.1 pc = .ok (.imul, 1)) (k : zwp d M mc ms Q (pc + 1) ls (.int (nI (a * b)) :: st) uc us m) : zwp d M mc ms Q pc ls (.int (nI b) :: .int (nI a) :: st) uc us m :=
  zr_imul hd (by rw [pk_mul]; exact k)
theorem zr_isubN {a b : Nat} (hd : decode M.2.2.1 pc = .ok (.isub, 1)) (h : b ≤ a) (k : zwp d M mc ms Q (pc + 1) ls (.int (nI (a - b)) :: st) uc us m) : zwp d M mc ms Q pc ls (.int (nI b) :: .int (nI a) :: st) uc us m :=
  zr_isub hd (by rw [pk_sub h]; exact k)
theorem zr_iincN {n : Nat} {x : Nat} (hd : decode M.2.2.1 pc = .ok (.iinc n 1, 3)) (hl : zget ls n = .int (nI x)) (hn : n < M.2.2.2.1) (hc : zc1 ls n = true) (k : zwp d M mc ms Q (pc + 3) (zset ls n (.int (nI (x + 1)))) st uc us m) : zwp d M mc ms Q pc ls st uc us m :=
  zr_iinc hd hl (by rw [show Int32.ofInt 1 = (1 : Int32) from rfl]; exact nI_1 x) hn hc k
theorem zr_idecN {n : Nat} {x : Nat} (hd : decode M.2.2.1 pc = .ok (.iinc n (-1), 3)) (hl : zget ls n = .int (nI (x + 1))) (hn : n < M.2.2.2.1) (hc : zc1 ls n = true) (k : zwp d M mc ms Q (pc + 3) (zset ls n (.int (nI x))) st uc us m) : zwp d M mc ms Q pc ls st uc us m :=
  zr_iinc hd hl (by rw [show Int32.ofInt (-1) = (-1 : Int32) from rfl]; exact pk_m1 x) hn hc k
theorem zr_ialoadN {a n j : Nat} (hd : decode M.2.2.1 pc = .ok (.iaload, 1)) (ha : zAr m a 12 n) (hj : j < n) (hn : n < 65536) (kk : zwp d M mc ms Q (pc + 1) ls (.int (zI m a j) :: st) uc us m) : zwp d M mc ms Q pc ls (.int (nI j) :: .ref a :: st) uc us m :=
  zr_iaload hd ha (vp_in_nI hj (by omega)) (by rw [nI_clamp (by omega)]; exact kk)
theorem zr_iastoreN {a n j : Nat} {v : Int32} (hd : decode M.2.2.1 pc = .ok (.iastore, 1)) (ha : zAr m a 12 n) (hj : j < n) (hn : n < 65536) (kk : zwp d M mc ms Q (pc + 1) ls st uc us (zsI m a j v)) : zwp d M mc ms Q pc ls (.int v :: .int (nI j) :: .ref a :: st) uc us m :=
  zr_iastore hd ha (vp_in_nI hj (by omega)) (by rw [nI_clamp (by omega)]; exact kk)
theorem zr_faloadN {a n j : Nat} (hd : decode M.2.2.1 pc = .ok (.faload, 1)) (ha : zAr m a 11 n) (hj : j < n) (hn : n < 65536) (kk : zwp d M mc ms Q (pc + 1) ls (.float (zF m a j) :: st) uc us m) : zwp d M mc ms Q pc ls (.int (nI j) :: .ref a :: st) uc us m :=
  zr_faload hd ha (vp_in_nI hj (by omega)) (by rw [nI_clamp (by omega)]; exact kk)
theorem zr_fastoreN {a n j : Nat} {v : UInt32} (hd : decode M.2.2.1 pc = .ok (.fastore, 1)) (ha : zAr m a 11 n) (hj : j < n) (hn : n < 65536) (kk : zwp d M mc ms Q (pc + 1) ls st uc us (zsF m a j v)) : zwp d M mc ms Q pc ls (.float v :: .int (nI j) :: .ref a :: st) uc us m :=
  zr_fastore hd ha (vp_in_nI hj (by omega)) (by rw [nI_clamp (by omega)]; exact kk)
theorem zr_laloadN {a n j : Nat} (hd : decode M.2.2.1 pc = .ok (.laload, 1)) (ha : zAr m a 13 n) (hj : j < n) (hn : n < 65536) (kk : zwp d M mc ms Q (pc + 1) ls (.long (zL m a j) :: st) uc us m) : zwp d M mc ms Q pc ls (.int (nI j) :: .ref a :: st) uc us m :=
  zr_laload hd ha (vp_in_nI hj (by omega)) (by rw [nI_clamp (by omega)]; exact kk)
theorem zr_lastoreN {a n j : Nat} {v : Int64} (hd : decode M.2.2.1 pc = .ok (.lastore, 1)) (ha : zAr m a 13 n) (hj : j < n) (hn : n < 65536) (kk : zwp d M mc ms Q (pc + 1) ls st uc us (zsL m a j v)) : zwp d M mc ms Q pc ls (.long v :: .int (nI j) :: .ref a :: st) uc us m :=
  zr_lastore hd ha (vp_in_nI hj (by omega)) (by rw [nI_clamp (by omega)]; exact kk)
theorem zr_aaloadN {a kd n j r : Nat} (hd : decode M.2.2.1 pc = .ok (.aaload, 1)) (ha : zAr m a kd n) (h15 : 15 ≤ kd) (h19 : kd < 19) (hj : j < n) (hn : n < 65536) (hr : zR m a j = r) (h0 : r ≠ 0) (kk : zwp d M mc ms Q (pc + 1) ls (.ref r :: st) uc us m) : zwp d M mc ms Q pc ls (.int (nI j) :: .ref a :: st) uc us m :=
  zr_aaload hd ha h15 h19 (vp_in_nI hj (by omega)) (by rw [nI_clamp (by omega)]; exact hr) h0 kk
theorem zr_aastoreN {a kd n j v : Nat} (hd : decode M.2.2.1 pc = .ok (.aastore, 1)) (ha : zAr m a kd n) (h15 : 15 ≤ kd) (h19 : kd < 19) (hj : j < n) (hn : n < 65536) (hv : zOb m v (zcmp kd)) (kk : zwp d M mc ms Q (pc + 1) ls st uc us (zsR m a j v)) : zwp d M mc ms Q pc ls (.ref v :: .int (nI j) :: .ref a :: st) uc us m :=
  zr_aastore hd ha h15 h19 (vp_in_nI hj (by omega)) hv (by rw [nI_clamp (by omega)]; exact kk)
theorem zr_icmp_eqN {a b : Nat} {off : Int} {tgt : Nat} (hd : decode M.2.2.1 pc = .ok (.if_icmp .eq off, 3)) (ht : (pc : Int) + off = (tgt : Int)) (ha : a < 2 ^ 31) (hb : b < 2 ^ 31) (kt : a = b → zwp d M mc ms Q tgt ls st uc us m) (kf : ¬ a = b → zwp d M mc ms Q (pc + 3) ls st uc us m) : zwp d M mc ms Q pc ls (.int (nI b) :: .int (nI a) :: st) uc us m :=
  zr_icmp_eq hd ht (fun q => kt ((nI_eq ha hb).mp q)) (fun q => kf (fun z => q ((nI_eq ha hb).mpr z)))
theorem zr_icmp_neN {a b : Nat} {off : Int} {tgt : Nat} (hd : decode M.2.2.1 pc = .ok (.if_icmp .ne off, 3)) (ht : (pc : Int) + off = (tgt : Int)) (ha : a < 2 ^ 31) (hb : b < 2 ^ 31) (kt : ¬ a = b → zwp d M mc ms Q tgt ls st uc us m) (kf : a = b → zwp d M mc ms Q (pc + 3) ls st uc us m) : zwp d M mc ms Q pc ls (.int (nI b) :: .int (nI a) :: st) uc us m :=
  zr_icmp_ne hd ht (fun q => kt (fun z => q ((nI_eq ha hb).mpr z))) (fun q => kf ((nI_eq ha hb).mp q))
theorem zr_icmp_ltN {a b : Nat} {off : Int} {tgt : Nat} (hd : decode M.2.2.1 pc = .ok (.if_icmp .lt off, 3)) (ht : (pc : Int) + off = (tgt : Int)) (ha : a < 2 ^ 31) (hb : b < 2 ^ 31) (kt : a < b → zwp d M mc ms Q tgt ls st uc us m) (kf : b ≤ a → zwp d M mc ms Q (pc + 3) ls st uc us m) : zwp d M mc ms Q pc ls (.int (nI b) :: .int (nI a) :: st) uc us m :=
  zr_icmp_lt hd ht (fun q => kt ((nI_ltI ha hb).mp q)) (fun q => kf (Nat.not_lt.mp (fun z => q ((nI_ltI ha hb).mpr z))))
theorem zr_icmp_geN {a b : Nat} {off : Int} {tgt : Nat} (hd : decode M.2.2.1 pc = .ok (.if_icmp .ge off, 3)) (ht : (pc : Int) + off = (tgt : Int)) (ha : a < 2 ^ 31) (hb : b < 2 ^ 31) (kt : b ≤ a → zwp d M mc ms Q tgt ls st uc us m) (kf : a < b → zwp d M mc ms Q (pc + 3) ls st uc us m) : zwp d M mc ms Q pc ls (.int (nI b) :: .int (nI a) :: st) uc us m :=
  zr_icmp_ge hd ht (fun q => kt ((nI_leI hb ha).mp q)) (fun q => kf (Nat.not_le.mp (fun z => q ((nI_leI hb ha).mpr z))))
theorem zr_icmp_gtN {a b : Nat} {off : Int} {tgt : Nat} (hd : decode M.2.2.1 pc = .ok (.if_icmp .gt off, 3)) (ht : (pc : Int) + off = (tgt : Int)) (ha : a < 2 ^ 31) (hb : b < 2 ^ 31) (kt : b < a → zwp d M mc ms Q tgt ls st uc us m) (kf : a ≤ b → zwp d M mc ms Q (pc + 3) ls st uc us m) : zwp d M mc ms Q pc ls (.int (nI b) :: .int (nI a) :: st) uc us m :=
  zr_icmp_gt hd ht (fun q => kt ((nI_ltI hb ha).mp q)) (fun q => kf (Nat.not_lt.mp (fun z => q ((nI_ltI hb ha).mpr z))))
theorem zr_icmp_leN {a b : Nat} {off : Int} {tgt : Nat} (hd : decode M.2.2.1 pc = .ok (.if_icmp .le off, 3)) (ht : (pc : Int) + off = (tgt : Int)) (ha : a < 2 ^ 31) (hb : b < 2 ^ 31) (kt : a ≤ b → zwp d M mc ms Q tgt ls st uc us m) (kf : b < a → zwp d M mc ms Q (pc + 3) ls st uc us m) : zwp d M mc ms Q pc ls (.int (nI b) :: .int (nI a) :: st) uc us m :=
  zr_icmp_le hd ht (fun q => kt ((nI_leI ha hb).mp q)) (fun q => kf (Nat.not_le.mp (fun z => q ((nI_leI ha hb).mpr z))))
theorem zr_if_eqB {b : Bool} {off : Int} {tgt : Nat} (hd : decode M.2.2.1 pc = .ok (.ifCond .eq off, 3)) (ht : (pc : Int) + off = (tgt : Int)) (kt : b = false → zwp d M mc ms Q tgt ls st uc us m) (kf : b = true → zwp d M mc ms Q (pc + 3) ls st uc us m) : zwp d M mc ms Q pc ls (.int (bI b) :: st) uc us m :=
  zr_if_eq hd ht (fun q => kt (bI_eq0.mp q)) (fun q => kf (bI_ne0.mp q))
theorem zr_if_neB {b : Bool} {off : Int} {tgt : Nat} (hd : decode M.2.2.1 pc = .ok (.ifCond .ne off, 3)) (ht : (pc : Int) + off = (tgt : Int)) (kt : b = true → zwp d M mc ms Q tgt ls st uc us m) (kf : b = false → zwp d M mc ms Q (pc + 3) ls st uc us m) : zwp d M mc ms Q pc ls (.int (bI b) :: st) uc us m :=
  zr_if_ne hd ht (fun q => kt (bI_ne0.mp q)) (fun q => kf (bI_eq0.mp q))
theorem zr_zreturnB {b : Bool} (hd : decode M.2.2.1 pc = .ok (.ireturn, 1)) (hr : M.2.2.2.2.2 = some .boolean) (h1 : uc ≤ mc) (h2 : us ≤ ms) (hq : Q (.int (bI b)) m) : zwp d M mc ms Q pc ls [.int (bI b)] uc us m := zr_zreturn hd hr (bI_01 b) h1 h2 hq
theorem zr_z1 (hd : decode M.2.2.1 pc = .ok (.ireturn, 1)) (hr : M.2.2.2.2.2 = some .boolean) (h1 : uc ≤ mc) (h2 : us ≤ ms) {b : Bool} (hb : b = true) (hq : Q (.int (bI b)) m) : zwp d M mc ms Q pc ls [.int (nI 1)] uc us m := zr_zreturn hd hr (Or.inr rfl) h1 h2 (by rw [hb] at hq; exact hq)
theorem zr_z0 (hd : decode M.2.2.1 pc = .ok (.ireturn, 1)) (hr : M.2.2.2.2.2 = some .boolean) (h1 : uc ≤ mc) (h2 : us ≤ ms) {b : Bool} (hb : b = false) (hq : Q (.int (bI b)) m) : zwp d M mc ms Q pc ls [.int (nI 0)] uc us m := zr_zreturn hd hr (Or.inl rfl) h1 h2 (by rw [hb] at hq; exact hq)
theorem zr_cV0 {M' : zMeth} {idx a : Nat} {rt : FieldType} (hr : M'.2.2.2.2.2 = some rt) (hd : decode M.2.2.1 pc = .ok (.invokevirtual idx, 3)) (hv : zVs M.1 idx M' 0) (ho : zOb m a M'.1) (hcat : (st.map fun v => v.category).sum ≤ 8) (hc : zC d M' 0 0 [.ref a] m (fun v m' => zwp (d + 1) M 0 0 Q (pc + 3) ls (v :: st) 0 0 m')) : zwp (d + 1) M 0 0 Q pc ls (.ref a :: st) 0 0 m :=
  zr_callV (as := []) hd hv ho rfl rfl hcat (Nat.le_refl _) (Nat.le_refl _) (by rw [hr]; exact hc)
theorem zr_cS0 {M' : zMeth} {idx : Nat} {rt : FieldType} (hr : M'.2.2.2.2.2 = some rt) (hd : decode M.2.2.1 pc = .ok (.invokestatic idx, 3)) (hv : zSs M.1 idx M' 0) (hcat : (st.map fun v => v.category).sum ≤ 8) (hc : zC d M' 0 0 [] m (fun v m' => zwp (d + 1) M 0 0 Q (pc + 3) ls (v :: st) 0 0 m')) : zwp (d + 1) M 0 0 Q pc ls (st) 0 0 m :=
  zr_callS (as := []) hd hv rfl rfl hcat (Nat.le_refl _) (Nat.le_refl _) (by rw [hr]; exact hc)
theorem zr_cSN0 {M' : zMeth} {idx : Nat} {rt : FieldType} (hr : M'.2.2.2.2.2 = some rt) (hd : decode M.2.2.1 pc = .ok (.invokestatic idx, 3)) (hv : zSn M.1 idx M' 0) (hcat : (st.map fun v => v.category).sum ≤ 8) (hc : zC d M' 0 0 [] m (fun v m' => zwp (d + 1) M 0 0 Q (pc + 3) ls (v :: st) 0 0 m')) : zwp (d + 1) M 0 0 Q pc ls (st) 0 0 m :=
  zr_callSN (as := []) hd hv rfl rfl hcat (Nat.le_refl _) (Nat.le_refl _) (by rw [hr]; exact hc)
theorem zr_cV0v {M' : zMeth} {idx a : Nat} (hr : M'.2.2.2.2.2 = none) (hd : decode M.2.2.1 pc = .ok (.invokevirtual idx, 3)) (hv : zVs M.1 idx M' 0) (ho : zOb m a M'.1) (hcat : (st.map fun v => v.category).sum ≤ 8) (hc : zC d M' 0 0 [.ref a] m (fun v m' => zwp (d + 1) M 0 0 Q (pc + 3) ls (st) 0 0 m')) : zwp (d + 1) M 0 0 Q pc ls (.ref a :: st) 0 0 m :=
  zr_callV (as := []) hd hv ho rfl rfl hcat (Nat.le_refl _) (Nat.le_refl _) (by rw [hr]; exact hc)
theorem zr_cS0v {M' : zMeth} {idx : Nat} (hr : M'.2.2.2.2.2 = none) (hd : decode M.2.2.1 pc = .ok (.invokestatic idx, 3)) (hv : zSs M.1 idx M' 0) (hcat : (st.map fun v => v.category).sum ≤ 8) (hc : zC d M' 0 0 [] m (fun v m' => zwp (d + 1) M 0 0 Q (pc + 3) ls (st) 0 0 m')) : zwp (d + 1) M 0 0 Q pc ls (st) 0 0 m :=
  zr_callS (as := []) hd hv rfl rfl hcat (Nat.le_refl _) (Nat.le_refl _) (by rw [hr]; exact hc)
theorem zr_cSN0v {M' : zMeth} {idx : Nat} (hr : M'.2.2.2.2.2 = none) (hd : decode M.2.2.1 pc = .ok (.invokestatic idx, 3)) (hv : zSn M.1 idx M' 0) (hcat : (st.map fun v => v.category).sum ≤ 8) (hc : zC d M' 0 0 [] m (fun v m' => zwp (d + 1) M 0 0 Q (pc + 3) ls (st) 0 0 m')) : zwp (d + 1) M 0 0 Q pc ls (st) 0 0 m :=
  zr_callSN (as := []) hd hv rfl rfl hcat (Nat.le_refl _) (Nat.le_refl _) (by rw [hr]; exact hc)
theorem zr_cV1 {M' : zMeth} {idx a : Nat} {v1 : Value} {rt : FieldType} (hr : M'.2.2.2.2.2 = some rt) (hd : decode M.2.2.1 pc = .ok (.invokevirtual idx, 3)) (hv : zVs M.1 idx M' 1) (ho : zOb m a M'.1) (hcat : (st.map fun v => v.category).sum ≤ 8) (hc : zC d M' 0 0 [.ref a, v1] m (fun v m' => zwp (d + 1) M 0 0 Q (pc + 3) ls (v :: st) 0 0 m')) : zwp (d + 1) M 0 0 Q pc ls (v1 :: .ref a :: st) 0 0 m :=
  zr_callV (as := [v1]) hd hv ho rfl rfl hcat (Nat.le_refl _) (Nat.le_refl _) (by rw [hr]; exact hc)
theorem zr_cS1 {M' : zMeth} {idx : Nat} {v1 : Value} {rt : FieldType} (hr : M'.2.2.2.2.2 = some rt) (hd : decode M.2.2.1 pc = .ok (.invokestatic idx, 3)) (hv : zSs M.1 idx M' 1) (hcat : (st.map fun v => v.category).sum ≤ 8) (hc : zC d M' 0 0 [v1] m (fun v m' => zwp (d + 1) M 0 0 Q (pc + 3) ls (v :: st) 0 0 m')) : zwp (d + 1) M 0 0 Q pc ls (v1 :: st) 0 0 m :=
  zr_callS (as := [v1]) hd hv rfl rfl hcat (Nat.le_refl _) (Nat.le_refl _) (by rw [hr]; exact hc)
theorem zr_cSN1 {M' : zMeth} {idx : Nat} {v1 : Value} {rt : FieldType} (hr : M'.2.2.2.2.2 = some rt) (hd : decode M.2.2.1 pc = .ok (.invokestatic idx, 3)) (hv : zSn M.1 idx M' 1) (hcat : (st.map fun v => v.category).sum ≤ 8) (hc : zC d M' 0 0 [v1] m (fun v m' => zwp (d + 1) M 0 0 Q (pc + 3) ls (v :: st) 0 0 m')) : zwp (d + 1) M 0 0 Q pc ls (v1 :: st) 0 0 m :=
  zr_callSN (as := [v1]) hd hv rfl rfl hcat (Nat.le_refl _) (Nat.le_refl _) (by rw [hr]; exact hc)
theorem zr_cV1v {M' : zMeth} {idx a : Nat} {v1 : Value} (hr : M'.2.2.2.2.2 = none) (hd : decode M.2.2.1 pc = .ok (.invokevirtual idx, 3)) (hv : zVs M.1 idx M' 1) (ho : zOb m a M'.1) (hcat : (st.map fun v => v.category).sum ≤ 8) (hc : zC d M' 0 0 [.ref a, v1] m (fun v m' => zwp (d + 1) M 0 0 Q (pc + 3) ls (st) 0 0 m')) : zwp (d + 1) M 0 0 Q pc ls (v1 :: .ref a :: st) 0 0 m :=
  zr_callV (as := [v1]) hd hv ho rfl rfl hcat (Nat.le_refl _) (Nat.le_refl _) (by rw [hr]; exact hc)
theorem zr_cS1v {M' : zMeth} {idx : Nat} {v1 : Value} (hr : M'.2.2.2.2.2 = none) (hd : decode M.2.2.1 pc = .ok (.invokestatic idx, 3)) (hv : zSs M.1 idx M' 1) (hcat : (st.map fun v => v.category).sum ≤ 8) (hc : zC d M' 0 0 [v1] m (fun v m' => zwp (d + 1) M 0 0 Q (pc + 3) ls (st) 0 0 m')) : zwp (d + 1) M 0 0 Q pc ls (v1 :: st) 0 0 m :=
  zr_callS (as := [v1]) hd hv rfl rfl hcat (Nat.le_refl _) (Nat.le_refl _) (by rw [hr]; exact hc)
theorem zr_cSN1v {M' : zMeth} {idx : Nat} {v1 : Value} (hr : M'.2.2.2.2.2 = none) (hd : decode M.2.2.1 pc = .ok (.invokestatic idx, 3)) (hv : zSn M.1 idx M' 1) (hcat : (st.map fun v => v.category).sum ≤ 8) (hc : zC d M' 0 0 [v1] m (fun v m' => zwp (d + 1) M 0 0 Q (pc + 3) ls (st) 0 0 m')) : zwp (d + 1) M 0 0 Q pc ls (v1 :: st) 0 0 m :=
  zr_callSN (as := [v1]) hd hv rfl rfl hcat (Nat.le_refl _) (Nat.le_refl _) (by rw [hr]; exact hc)
theorem zr_cV2 {M' : zMeth} {idx a : Nat} {v1 v2 : Value} {rt : FieldType} (hr : M'.2.2.2.2.2 = some rt) (hd : decode M.2.2.1 pc = .ok (.invokevirtual idx, 3)) (hv : zVs M.1 idx M' 2) (ho : zOb m a M'.1) (hcat : (st.map fun v => v.category).sum ≤ 8) (hc : zC d M' 0 0 [.ref a, v1, v2] m (fun v m' => zwp (d + 1) M 0 0 Q (pc + 3) ls (v :: st) 0 0 m')) : zwp (d + 1) M 0 0 Q pc ls (v2 :: v1 :: .ref a :: st) 0 0 m :=
  zr_callV (as := [v1, v2]) hd hv ho rfl rfl hcat (Nat.le_refl _) (Nat.le_refl _) (by rw [hr]; exact hc)
theorem zr_cS2 {M' : zMeth} {idx : Nat} {v1 v2 : Value} {rt : FieldType} (hr : M'.2.2.2.2.2 = some rt) (hd : decode M.2.2.1 pc = .ok (.invokestatic idx, 3)) (hv : zSs M.1 idx M' 2) (hcat : (st.map fun v => v.category).sum ≤ 8) (hc : zC d M' 0 0 [v1, v2] m (fun v m' => zwp (d + 1) M 0 0 Q (pc + 3) ls (v :: st) 0 0 m')) : zwp (d + 1) M 0 0 Q pc ls (v2 :: v1 :: st) 0 0 m :=
  zr_callS (as := [v1, v2]) hd hv rfl rfl hcat (Nat.le_refl _) (Nat.le_refl _) (by rw [hr]; exact hc)
theorem zr_cSN2 {M' : zMeth} {idx : Nat} {v1 v2 : Value} {rt : FieldType} (hr : M'.2.2.2.2.2 = some rt) (hd : decode M.2.2.1 pc = .ok (.invokestatic idx, 3)) (hv : zSn M.1 idx M' 2) (hcat : (st.map fun v => v.category).sum ≤ 8) (hc : zC d M' 0 0 [v1, v2] m (fun v m' => zwp (d + 1) M 0 0 Q (pc + 3) ls (v :: st) 0 0 m')) : zwp (d + 1) M 0 0 Q pc ls (v2 :: v1 :: st) 0 0 m :=
  zr_callSN (as := [v1, v2]) hd hv rfl rfl hcat (Nat.le_refl _) (Nat.le_refl _) (by rw [hr]; exact hc)
theorem zr_cV2v {M' : zMeth} {idx a : Nat} {v1 v2 : Value} (hr : M'.2.2.2.2.2 = none) (hd : decode M.2.2.1 pc = .ok (.invokevirtual idx, 3)) (hv : zVs M.1 idx M' 2) (ho : zOb m a M'.1) (hcat : (st.map fun v => v.category).sum ≤ 8) (hc : zC d M' 0 0 [.ref a, v1, v2] m (fun v m' => zwp (d + 1) M 0 0 Q (pc + 3) ls (st) 0 0 m')) : zwp (d + 1) M 0 0 Q pc ls (v2 :: v1 :: .ref a :: st) 0 0 m :=
  zr_callV (as := [v1, v2]) hd hv ho rfl rfl hcat (Nat.le_refl _) (Nat.le_refl _) (by rw [hr]; exact hc)
theorem zr_cS2v {M' : zMeth} {idx : Nat} {v1 v2 : Value} (hr : M'.2.2.2.2.2 = none) (hd : decode M.2.2.1 pc = .ok (.invokestatic idx, 3)) (hv : zSs M.1 idx M' 2) (hcat : (st.map fun v => v.category).sum ≤ 8) (hc : zC d M' 0 0 [v1, v2] m (fun v m' => zwp (d + 1) M 0 0 Q (pc + 3) ls (st) 0 0 m')) : zwp (d + 1) M 0 0 Q pc ls (v2 :: v1 :: st) 0 0 m :=
  zr_callS (as := [v1, v2]) hd hv rfl rfl hcat (Nat.le_refl _) (Nat.le_refl _) (by rw [hr]; exact hc)
theorem zr_cSN2v {M' : zMeth} {idx : Nat} {v1 v2 : Value} (hr : M'.2.2.2.2.2 = none) (hd : decode M.2.2.1 pc = .ok (.invokestatic idx, 3)) (hv : zSn M.1 idx M' 2) (hcat : (st.map fun v => v.category).sum ≤ 8) (hc : zC d M' 0 0 [v1, v2] m (fun v m' => zwp (d + 1) M 0 0 Q (pc + 3) ls (st) 0 0 m')) : zwp (d + 1) M 0 0 Q pc ls (v2 :: v1 :: st) 0 0 m :=
  zr_callSN (as := [v1, v2]) hd hv rfl rfl hcat (Nat.le_refl _) (Nat.le_refl _) (by rw [hr]; exact hc)
theorem zr_cV3 {M' : zMeth} {idx a : Nat} {v1 v2 v3 : Value} {rt : FieldType} (hr : M'.2.2.2.2.2 = some rt) (hd : decode M.2.2.1 pc = .ok (.invokevirtual idx, 3)) (hv : zVs M.1 idx M' 3) (ho : zOb m a M'.1) (hcat : (st.map fun v => v.category).sum ≤ 8) (hc : zC d M' 0 0 [.ref a, v1, v2, v3] m (fun v m' => zwp (d + 1) M 0 0 Q (pc + 3) ls (v :: st) 0 0 m')) : zwp (d + 1) M 0 0 Q pc ls (v3 :: v2 :: v1 :: .ref a :: st) 0 0 m :=
  zr_callV (as := [v1, v2, v3]) hd hv ho rfl rfl hcat (Nat.le_refl _) (Nat.le_refl _) (by rw [hr]; exact hc)
theorem zr_cS3 {M' : zMeth} {idx : Nat} {v1 v2 v3 : Value} {rt : FieldType} (hr : M'.2.2.2.2.2 = some rt) (hd : decode M.2.2.1 pc = .ok (.invokestatic idx, 3)) (hv : zSs M.1 idx M' 3) (hcat : (st.map fun v => v.category).sum ≤ 8) (hc : zC d M' 0 0 [v1, v2, v3] m (fun v m' => zwp (d + 1) M 0 0 Q (pc + 3) ls (v :: st) 0 0 m')) : zwp (d + 1) M 0 0 Q pc ls (v3 :: v2 :: v1 :: st) 0 0 m :=
  zr_callS (as := [v1, v2, v3]) hd hv rfl rfl hcat (Nat.le_refl _) (Nat.le_refl _) (by rw [hr]; exact hc)
theorem zr_cSN3 {M' : zMeth} {idx : Nat} {v1 v2 v3 : Value} {rt : FieldType} (hr : M'.2.2.2.2.2 = some rt) (hd : decode M.2.2.1 pc = .ok (.invokestatic idx, 3)) (hv : zSn M.1 idx M' 3) (hcat : (st.map fun v => v.category).sum ≤ 8) (hc : zC d M' 0 0 [v1, v2, v3] m (fun v m' => zwp (d + 1) M 0 0 Q (pc + 3) ls (v :: st) 0 0 m')) : zwp (d + 1) M 0 0 Q pc ls (v3 :: v2 :: v1 :: st) 0 0 m :=
  zr_callSN (as := [v1, v2, v3]) hd hv rfl rfl hcat (Nat.le_refl _) (Nat.le_refl _) (by rw [hr]; exact hc)
theorem zr_cV3v {M' : zMeth} {idx a : Nat} {v1 v2 v3 : Value} (hr : M'.2.2.2.2.2 = none) (hd : decode M.2.2.1 pc = .ok (.invokevirtual idx, 3)) (hv : zVs M.1 idx M' 3) (ho : zOb m a M'.1) (hcat : (st.map fun v => v.category).sum ≤ 8) (hc : zC d M' 0 0 [.ref a, v1, v2, v3] m (fun v m' => zwp (d + 1) M 0 0 Q (pc + 3) ls (st) 0 0 m')) : zwp (d + 1) M 0 0 Q pc ls (v3 :: v2 :: v1 :: .ref a :: st) 0 0 m :=
  zr_callV (as := [v1, v2, v3]) hd hv ho rfl rfl hcat (Nat.le_refl _) (Nat.le_refl _) (by rw [hr]; exact hc)
theorem zr_cS3v {M' : zMeth} {idx : Nat} {v1 v2 v3 : Value} (hr : M'.2.2.2.2.2 = none) (hd : decode M.2.2.1 pc = .ok (.invokestatic idx, 3)) (hv : zSs M.1 idx M' 3) (hcat : (st.map fun v => v.category).sum ≤ 8) (hc : zC d M' 0 0 [v1, v2, v3] m (fun v m' => zwp (d + 1) M 0 0 Q (pc + 3) ls (st) 0 0 m')) : zwp (d + 1) M 0 0 Q pc ls (v3 :: v2 :: v1 :: st) 0 0 m :=
  zr_callS (as := [v1, v2, v3]) hd hv rfl rfl hcat (Nat.le_refl _) (Nat.le_refl _) (by rw [hr]; exact hc)
theorem zr_cSN3v {M' : zMeth} {idx : Nat} {v1 v2 v3 : Value} (hr : M'.2.2.2.2.2 = none) (hd : decode M.2.2.1 pc = .ok (.invokestatic idx, 3)) (hv : zSn M.1 idx M' 3) (hcat : (st.map fun v => v.category).sum ≤ 8) (hc : zC d M' 0 0 [v1, v2, v3] m (fun v m' => zwp (d + 1) M 0 0 Q (pc + 3) ls (st) 0 0 m')) : zwp (d + 1) M 0 0 Q pc ls (v3 :: v2 :: v1 :: st) 0 0 m :=
  zr_callSN (as := [v1, v2, v3]) hd hv rfl rfl hcat (Nat.le_refl _) (Nat.le_refl _) (by rw [hr]; exact hc)
theorem zr_cV4 {M' : zMeth} {idx a : Nat} {v1 v2 v3 v4 : Value} {rt : FieldType} (hr : M'.2.2.2.2.2 = some rt) (hd : decode M.2.2.1 pc = .ok (.invokevirtual idx, 3)) (hv : zVs M.1 idx M' 4) (ho : zOb m a M'.1) (hcat : (st.map fun v => v.category).sum ≤ 8) (hc : zC d M' 0 0 [.ref a, v1, v2, v3, v4] m (fun v m' => zwp (d + 1) M 0 0 Q (pc + 3) ls (v :: st) 0 0 m')) : zwp (d + 1) M 0 0 Q pc ls (v4 :: v3 :: v2 :: v1 :: .ref a :: st) 0 0 m :=
  zr_callV (as := [v1, v2, v3, v4]) hd hv ho rfl rfl hcat (Nat.le_refl _) (Nat.le_refl _) (by rw [hr]; exact hc)
theorem zr_cS4 {M' : zMeth} {idx : Nat} {v1 v2 v3 v4 : Value} {rt : FieldType} (hr : M'.2.2.2.2.2 = some rt) (hd : decode M.2.2.1 pc = .ok (.invokestatic idx, 3)) (hv : zSs M.1 idx M' 4) (hcat : (st.map fun v => v.category).sum ≤ 8) (hc : zC d M' 0 0 [v1, v2, v3, v4] m (fun v m' => zwp (d + 1) M 0 0 Q (pc + 3) ls (v :: st) 0 0 m')) : zwp (d + 1) M 0 0 Q pc ls (v4 :: v3 :: v2 :: v1 :: st) 0 0 m :=
  zr_callS (as := [v1, v2, v3, v4]) hd hv rfl rfl hcat (Nat.le_refl _) (Nat.le_refl _) (by rw [hr]; exact hc)
theorem zr_cSN4 {M' : zMeth} {idx : Nat} {v1 v2 v3 v4 : Value} {rt : FieldType} (hr : M'.2.2.2.2.2 = some rt) (hd : decode M.2.2.1 pc = .ok (.invokestatic idx, 3)) (hv : zSn M.1 idx M' 4) (hcat : (st.map fun v => v.category).sum ≤ 8) (hc : zC d M' 0 0 [v1, v2, v3, v4] m (fun v m' => zwp (d + 1) M 0 0 Q (pc + 3) ls (v :: st) 0 0 m')) : zwp (d + 1) M 0 0 Q pc ls (v4 :: v3 :: v2 :: v1 :: st) 0 0 m :=
  zr_callSN (as := [v1, v2, v3, v4]) hd hv rfl rfl hcat (Nat.le_refl _) (Nat.le_refl _) (by rw [hr]; exact hc)
theorem zr_cV4v {M' : zMeth} {idx a : Nat} {v1 v2 v3 v4 : Value} (hr : M'.2.2.2.2.2 = none) (hd : decode M.2.2.1 pc = .ok (.invokevirtual idx, 3)) (hv : zVs M.1 idx M' 4) (ho : zOb m a M'.1) (hcat : (st.map fun v => v.category).sum ≤ 8) (hc : zC d M' 0 0 [.ref a, v1, v2, v3, v4] m (fun v m' => zwp (d + 1) M 0 0 Q (pc + 3) ls (st) 0 0 m')) : zwp (d + 1) M 0 0 Q pc ls (v4 :: v3 :: v2 :: v1 :: .ref a :: st) 0 0 m :=
  zr_callV (as := [v1, v2, v3, v4]) hd hv ho rfl rfl hcat (Nat.le_refl _) (Nat.le_refl _) (by rw [hr]; exact hc)
theorem zr_cS4v {M' : zMeth} {idx : Nat} {v1 v2 v3 v4 : Value} (hr : M'.2.2.2.2.2 = none) (hd : decode M.2.2.1 pc = .ok (.invokestatic idx, 3)) (hv : zSs M.1 idx M' 4) (hcat : (st.map fun v => v.category).sum ≤ 8) (hc : zC d M' 0 0 [v1, v2, v3, v4] m (fun v m' => zwp (d + 1) M 0 0 Q (pc + 3) ls (st) 0 0 m')) : zwp (d + 1) M 0 0 Q pc ls (v4 :: v3 :: v2 :: v1 :: st) 0 0 m :=
  zr_callS (as := [v1, v2, v3, v4]) hd hv rfl rfl hcat (Nat.le_refl _) (Nat.le_refl _) (by rw [hr]; exact hc)
theorem zr_cSN4v {M' : zMeth} {idx : Nat} {v1 v2 v3 v4 : Value} (hr : M'.2.2.2.2.2 = none) (hd : decode M.2.2.1 pc = .ok (.invokestatic idx, 3)) (hv : zSn M.1 idx M' 4) (hcat : (st.map fun v => v.category).sum ≤ 8) (hc : zC d M' 0 0 [v1, v2, v3, v4] m (fun v m' => zwp (d + 1) M 0 0 Q (pc + 3) ls (st) 0 0 m')) : zwp (d + 1) M 0 0 Q pc ls (v4 :: v3 :: v2 :: v1 :: st) 0 0 m :=
  zr_callSN (as := [v1, v2, v3, v4]) hd hv rfl rfl hcat (Nat.le_refl _) (Nat.le_refl _) (by rw [hr]; exact hc)
theorem zr_cV5 {M' : zMeth} {idx a : Nat} {v1 v2 v3 v4 v5 : Value} {rt : FieldType} (hr : M'.2.2.2.2.2 = some rt) (hd : decode M.2.2.1 pc = .ok (.invokevirtual idx, 3)) (hv : zVs M.1 idx M' 5) (ho : zOb m a M'.1) (hcat : (st.map fun v => v.category).sum ≤ 8) (hc : zC d M' 0 0 [.ref a, v1, v2, v3, v4, v5] m (fun v m' => zwp (d + 1) M 0 0 Q (pc + 3) ls (v :: st) 0 0 m')) : zwp (d + 1) M 0 0 Q pc ls (v5 :: v4 :: v3 :: v2 :: v1 :: .ref a :: st) 0 0 m :=
  zr_callV (as := [v1, v2, v3, v4, v5]) hd hv ho rfl rfl hcat (Nat.le_refl _) (Nat.le_refl _) (by rw [hr]; exact hc)
theorem zr_cS5 {M' : zMeth} {idx : Nat} {v1 v2 v3 v4 v5 : Value} {rt : FieldType} (hr : M'.2.2.2.2.2 = some rt) (hd : decode M.2.2.1 pc = .ok (.invokestatic idx, 3)) (hv : zSs M.1 idx M' 5) (hcat : (st.map fun v => v.category).sum ≤ 8) (hc : zC d M' 0 0 [v1, v2, v3, v4, v5] m (fun v m' => zwp (d + 1) M 0 0 Q (pc + 3) ls (v :: st) 0 0 m')) : zwp (d + 1) M 0 0 Q pc ls (v5 :: v4 :: v3 :: v2 :: v1 :: st) 0 0 m :=
  zr_callS (as := [v1, v2, v3, v4, v5]) hd hv rfl rfl hcat (Nat.le_refl _) (Nat.le_refl _) (by rw [hr]; exact hc)
theorem zr_cSN5 {M' : zMeth} {idx : Nat} {v1 v2 v3 v4 v5 : Value} {rt : FieldType} (hr : M'.2.2.2.2.2 = some rt) (hd : decode M.2.2.1 pc = .ok (.invokestatic idx, 3)) (hv : zSn M.1 idx M' 5) (hcat : (st.map fun v => v.category).sum ≤ 8) (hc : zC d M' 0 0 [v1, v2, v3, v4, v5] m (fun v m' => zwp (d + 1) M 0 0 Q (pc + 3) ls (v :: st) 0 0 m')) : zwp (d + 1) M 0 0 Q pc ls (v5 :: v4 :: v3 :: v2 :: v1 :: st) 0 0 m :=
  zr_callSN (as := [v1, v2, v3, v4, v5]) hd hv rfl rfl hcat (Nat.le_refl _) (Nat.le_refl _) (by rw [hr]; exact hc)
theorem zr_cV5v {M' : zMeth} {idx a : Nat} {v1 v2 v3 v4 v5 : Value} (hr : M'.2.2.2.2.2 = none) (hd : decode M.2.2.1 pc = .ok (.invokevirtual idx, 3)) (hv : zVs M.1 idx M' 5) (ho : zOb m a M'.1) (hcat : (st.map fun v => v.category).sum ≤ 8) (hc : zC d M' 0 0 [.ref a, v1, v2, v3, v4, v5] m (fun v m' => zwp (d + 1) M 0 0 Q (pc + 3) ls (st) 0 0 m')) : zwp (d + 1) M 0 0 Q pc ls (v5 :: v4 :: v3 :: v2 :: v1 :: .ref a :: st) 0 0 m :=
  zr_callV (as := [v1, v2, v3, v4, v5]) hd hv ho rfl rfl hcat (Nat.le_refl _) (Nat.le_refl _) (by rw [hr]; exact hc)
theorem zr_cS5v {M' : zMeth} {idx : Nat} {v1 v2 v3 v4 v5 : Value} (hr : M'.2.2.2.2.2 = none) (hd : decode M.2.2.1 pc = .ok (.invokestatic idx, 3)) (hv : zSs M.1 idx M' 5) (hcat : (st.map fun v => v.category).sum ≤ 8) (hc : zC d M' 0 0 [v1, v2, v3, v4, v5] m (fun v m' => zwp (d + 1) M 0 0 Q (pc + 3) ls (st) 0 0 m')) : zwp (d + 1) M 0 0 Q pc ls (v5 :: v4 :: v3 :: v2 :: v1 :: st) 0 0 m :=
  zr_callS (as := [v1, v2, v3, v4, v5]) hd hv rfl rfl hcat (Nat.le_refl _) (Nat.le_refl _) (by rw [hr]; exact hc)
theorem zr_cSN5v {M' : zMeth} {idx : Nat} {v1 v2 v3 v4 v5 : Value} (hr : M'.2.2.2.2.2 = none) (hd : decode M.2.2.1 pc = .ok (.invokestatic idx, 3)) (hv : zSn M.1 idx M' 5) (hcat : (st.map fun v => v.category).sum ≤ 8) (hc : zC d M' 0 0 [v1, v2, v3, v4, v5] m (fun v m' => zwp (d + 1) M 0 0 Q (pc + 3) ls (st) 0 0 m')) : zwp (d + 1) M 0 0 Q pc ls (v5 :: v4 :: v3 :: v2 :: v1 :: st) 0 0 m :=
  zr_callSN (as := [v1, v2, v3, v4, v5]) hd hv rfl rfl hcat (Nat.le_refl _) (Nat.le_refl _) (by rw [hr]; exact hc)
theorem zr_cV6 {M' : zMeth} {idx a : Nat} {v1 v2 v3 v4 v5 v6 : Value} {rt : FieldType} (hr : M'.2.2.2.2.2 = some rt) (hd : decode M.2.2.1 pc = .ok (.invokevirtual idx, 3)) (hv : zVs M.1 idx M' 6) (ho : zOb m a M'.1) (hcat : (st.map fun v => v.category).sum ≤ 8) (hc : zC d M' 0 0 [.ref a, v1, v2, v3, v4, v5, v6] m (fun v m' => zwp (d + 1) M 0 0 Q (pc + 3) ls (v :: st) 0 0 m')) : zwp (d + 1) M 0 0 Q pc ls (v6 :: v5 :: v4 :: v3 :: v2 :: v1 :: .ref a :: st) 0 0 m :=
  zr_callV (as := [v1, v2, v3, v4, v5, v6]) hd hv ho rfl rfl hcat (Nat.le_refl _) (Nat.le_refl _) (by rw [hr]; exact hc)
theorem zr_cV6v {M' : zMeth} {idx a : Nat} {v1 v2 v3 v4 v5 v6 : Value} (hr : M'.2.2.2.2.2 = none) (hd : decode M.2.2.1 pc = .ok (.invokevirtual idx, 3)) (hv : zVs M.1 idx M' 6) (ho : zOb m a M'.1) (hcat : (st.map fun v => v.category).sum ≤ 8) (hc : zC d M' 0 0 [.ref a, v1, v2, v3, v4, v5, v6] m (fun v m' => zwp (d + 1) M 0 0 Q (pc + 3) ls (st) 0 0 m')) : zwp (d + 1) M 0 0 Q pc ls (v6 :: v5 :: v4 :: v3 :: v2 :: v1 :: .ref a :: st) 0 0 m :=
  zr_callV (as := [v1, v2, v3, v4, v5, v6]) hd hv ho rfl rfl hcat (Nat.le_refl _) (Nat.le_refl _) (by rw [hr]; exact hc)
theorem zr_lsget {ls' : List Value} (h : ∀ i, zget ls' i = zget ls i) (k : zwp d M mc ms Q pc ls' st uc us m) : zwp d M mc ms Q pc ls st uc us m := by
  intro p l e R s mid args below meth c F E X H locs lr hP hlo hls
  exact k p l e R s mid args below meth c F E X H locs lr hP hlo ⟨hls.1, hls.2.1, fun i hi => by rw [h] at hi ⊢; exact hls.2.2 i hi⟩
theorem zget_pads (l : List Value) (n i : Nat) : zget (l ++ List.replicate n zU) i = zget l i := by
  induction l generalizing i with
  | nil =>
    rw [List.nil_append]
    induction n generalizing i with
    | zero => rfl
    | succ n ih => cases i with
      | zero => rfl
      | succ i => exact ih i
  | cons v l ih => cases i with
    | zero => rfl
    | succ i => exact ih i
theorem zenterP {as : List Value} (hy : plainName M.2.2.2.2.1.cls = true ∨ plainFor M.2.2.2.2.1 = true) (hcls : M.2.2.2.2.1.cls = zcn M.1) (hini : M.2.1 = true → M.2.2.2.2.1.name = "<init>") (hlen : (zen as).length ≤ M.2.2.2.1) (k : zwp d M mc ms Q 0 (zen as ++ List.replicate (M.2.2.2.1 - (zen as).length) zU) [] 0 0 m) : zC d M mc ms as m Q :=
  zenter hy hcls hini hlen (zr_lsget (zget_pads _ _) k)
end
