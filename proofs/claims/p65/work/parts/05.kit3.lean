/-! still more rows: shifts, longs, bytes, booleans, copies, long answers, what the class's acts keep -/
theorem iI_sm : ∀ k : Nat, k < 32 → ((iI (k : Int) &&& 31).toBitVec.smod 32).toNat = k := by decide +kernel
theorem iI_shl1 (e : Nat) (y : Int) (h0 : 0 ≤ y) (h1 : y ≤ e) (he : e ≤ 30) : ∃ w : Int, iI 1 <<< (iI y &&& 31) = iI w ∧ (1 ≤ w ∧ w ≤ 2 ^ e ∧ w = 2 ^ y.toNat) := by
  obtain ⟨n, rfl⟩ := Int.eq_ofNat_of_zero_le h0
  have hn : n ≤ e := by omega
  have hp : (2 : Nat) ^ n ≤ 2 ^ e := Nat.pow_le_pow_right (by decide) hn
  have hp3 : (2 : Nat) ^ n ≤ 2 ^ 30 := Nat.pow_le_pow_right (by decide) (by omega)
  have hq : (2 : Nat) ^ 30 = 1073741824 := by decide
  have hp1 : 1 ≤ (2 : Nat) ^ n := Nat.one_le_two_pow
  refine ⟨((2 ^ n : Nat) : Int), ?_, ?_, ?_, ?_⟩
  · have e1 : iI 1 = nI 1 := by decide
    rw [e1, pk_shlN (n := 1) _ n (iI_sm n (by omega)) (by rw [Nat.one_mul]; omega), Nat.one_mul, iI_nat (by omega)]
  · omega
  · have hc : ((2 ^ e : Nat) : Int) = (2 : Int) ^ e := by simp
    rw [← hc]; omega
  · simp
theorem iI_shr (x y : Int) (hx : 0 ≤ x ∧ x < 2147483648) (hy : 0 ≤ y ∧ y ≤ 31) : ∃ w : Int, iI x >>> (iI y &&& 31) = iI w ∧ (0 ≤ w ∧ w ≤ x ∧ w = ((x.toNat / 2 ^ y.toNat : Nat) : Int)) := by
  obtain ⟨n, rfl⟩ := Int.eq_ofNat_of_zero_le hy.1
  obtain ⟨k, rfl⟩ := Int.eq_ofNat_of_zero_le hx.1
  have hd : k / 2 ^ n ≤ k := Nat.div_le_self _ _
  refine ⟨((k / 2 ^ n : Nat) : Int), ?_, ?_, ?_, ?_⟩
  · have e1 : iI (k : Int) = nI k := (iI_nat (by omega)).symm
    rw [e1, pk_shrN (by omega) _ n (iI_sm n (by omega)), iI_nat (by omega)]
  · exact Int.natCast_nonneg _
  · exact Int.ofNat_le.mpr hd
  · simp
/-- the lowest bit -/
theorem iI_and1 (a : Int) (ha : 0 ≤ a ∧ a < 2147483648) : ∃ w : Int, iI a &&& iI 1 = iI w ∧ (0 ≤ w ∧ w ≤ 1 ∧ w = a % 2) := by
  have e : (iI a &&& iI 1).toBitVec.toNat = a.toNat &&& 1 := by
    rw [← iI_bv ha.1 ha.2]; rfl
  rw [Nat.and_one_is_mod] at e
  exact ⟨_, iI_back e (by omega), by omega, by omega, by omega⟩
theorem iI_and3 (a : Int) (ha : 0 ≤ a ∧ a < 2147483648) : ∃ w : Int, iI a &&& iI (-1) = iI w ∧ (0 ≤ w ∧ w ≤ a ∧ w = a) := by
  have e : (iI a &&& iI (-1)).toBitVec.toNat = a.toNat &&& (2 ^ 32 - 1) := by
    rw [← iI_bv ha.1 ha.2]; rfl
  rw [Nat.and_two_pow_sub_one_of_lt_two_pow (by omega)] at e
  exact ⟨_, iI_back e (by omega), by omega, by omega, by omega⟩
theorem iI_or1 (a b : Int) (ha : 0 ≤ a ∧ a ≤ 1) (hb : 0 ≤ b ∧ b ≤ 1) : ∃ w : Int, iI a ||| iI b = iI w ∧ (0 ≤ w ∧ w ≤ 1 ∧ a ≤ w ∧ b ≤ w ∧ w ≤ a + b) := by
  rcases iI_z ha with rfl | rfl <;> rcases iI_z hb with rfl | rfl
  · exact ⟨0, by decide, by decide⟩
  · exact ⟨1, by decide, by decide⟩
  · exact ⟨1, by decide, by decide⟩
  · exact ⟨1, by decide, by decide⟩
theorem iI_orx (k : Nat) (a b : Int) (ha : 0 ≤ a ∧ a < 2 ^ k) (hb : 0 ≤ b ∧ b < 2 ^ k) (hk : k ≤ 30) : ∃ w : Int, iI a ||| iI b = iI w ∧ (0 ≤ w ∧ w < 2 ^ k ∧ a ≤ w ∧ b ≤ w) ∧ ∀ j : Nat, w.toNat.testBit j = (a.toNat.testBit j || b.toNat.testBit j) := by
  have hp : (2 : Nat) ^ k ≤ 2 ^ 30 := Nat.pow_le_pow_right (by decide) hk
  have hc : ((2 ^ k : Nat) : Int) = (2 : Int) ^ k := by simp
  have h30 : (2 : Nat) ^ 30 = 1073741824 := by decide
  have e : (iI a ||| iI b).toBitVec.toNat = a.toNat ||| b.toNat := by
    rw [← iI_bv ha.1 (by omega), ← iI_bv hb.1 (by omega)]; rfl
  have h1 : a.toNat ||| b.toNat < 2 ^ k := Nat.or_lt_two_pow (by omega) (by omega)
  have h2 : a.toNat ≤ a.toNat ||| b.toNat := Nat.left_le_or
  have h3 : b.toNat ≤ a.toNat ||| b.toNat := Nat.right_le_or
  refine ⟨((a.toNat ||| b.toNat : Nat) : Int), iI_back e (by omega), ⟨by omega, by omega, by omega, by omega⟩, fun j => ?_⟩
  show (a.toNat ||| b.toNat).testBit j = _
  rw [Nat.testBit_or]
theorem iI_not (x : Int) (hx : iR x) : ∃ w : Int, iI x ^^^ iI (-1) = iI w ∧ w = -1 - x := by
  refine ⟨-1 - x, ?_, rfl⟩
  have e : iI (-1) = -1 := by decide
  rw [e, ← Int32.toBitVec_inj]
  have e2 : (iI x ^^^ (-1 : Int32)).toBitVec = ~~~ (iI x).toBitVec := by
    show (iI x).toBitVec ^^^ (-1 : Int32).toBitVec = _
    have e3 : (-1 : Int32).toBitVec = BitVec.allOnes 32 := by decide
    rw [e3, BitVec.xor_allOnes]
  rw [e2]
  apply BitVec.eq_of_toInt_eq
  rw [BitVec.toInt_not]
  have h1 : (iI x).toBitVec.toInt = x := iI_toInt hx
  have h2 : (iI (-1 - x)).toBitVec.toInt = -1 - x := iI_toInt ⟨by have := hx.2; omega, by have := hx.1; omega⟩
  rw [h2]
  have h3 : (iI x).toBitVec.toNat = (x % 4294967296).toNat := by
    have h4 := BitVec.toInt_eq_toNat_bmod (iI x).toBitVec
    rw [h1] at h4
    have h5 := (iI x).toBitVec.isLt
    rw [Int.bmod_def] at h4
    split at h4 <;> omega
  rw [h3, Int.bmod_def]
  have := hx.1
  have := hx.2
  split <;> omega
theorem iI_i2b (x : Int) : ∃ w : Int, (iI x).toInt8.toInt32 = iI w ∧ (-128 ≤ w ∧ w ≤ 127) :=
  ⟨(iI x).toInt8.toInt, by
    apply Int32.toInt_inj.mp
    have h1 := (iI x).toInt8.le_toInt
    have h2 := (iI x).toInt8.toInt_lt
    rw [Int8.toInt_toInt32, iI_toInt ⟨by omega, by omega⟩], (iI x).toInt8.le_toInt, by have h2 := (iI x).toInt8.toInt_lt; omega⟩
theorem iI_i2s (x : Int) : ∃ w : Int, (iI x).toInt16.toInt32 = iI w ∧ (-32768 ≤ w ∧ w ≤ 32767) :=
  ⟨(iI x).toInt16.toInt, by
    apply Int32.toInt_inj.mp
    have h1 := (iI x).toInt16.le_toInt
    have h2 := (iI x).toInt16.toInt_lt
    rw [Int16.toInt_toInt32, iI_toInt ⟨by omega, by omega⟩], (iI x).toInt16.le_toInt, by have h2 := (iI x).toInt16.toInt_lt; omega⟩
/-- a byte or a boolean put into a row -/
theorem iI_nb {v : Int} (h : -128 ≤ v ∧ v ≤ 127) : vp_nar .byte (iI v) = iI v := by
  apply Int32.toInt_inj.mp
  show (iI v).toInt8.toInt32.toInt = _
  rw [Int8.toInt_toInt32, iI_toInt ⟨by omega, by omega⟩]
  have e : (iI v).toInt8 = Int8.ofInt v := by
    rw [← Int8.ofInt_int32ToInt, iI_toInt ⟨by omega, by omega⟩]
  rw [e, Int8.toInt_ofInt_of_le (by omega) (by omega)]
theorem iI_nzv {v : Int} (h : 0 ≤ v ∧ v ≤ 1) : vp_nar .boolean (iI v) = iI v := by
  rcases iI_z h with rfl | rfl <;> decide
theorem iI_updb {c : Nat → Int} {a v : Int} (ha : iR a) (hv : -128 ≤ v ∧ v ≤ 127) : upd (fun j => iI (c j)) (iI a).toNatClampNeg (vp_nar .byte (iI v)) = fun j => iI (uI c a.toNat v j) := by rw [iI_nb hv, iI_upd ha]
theorem iI_updz {c : Nat → Int} {a v : Int} (ha : iR a) (hv : 0 ≤ v ∧ v ≤ 1) : upd (fun j => iI (c j)) (iI a).toNatClampNeg (vp_nar .boolean (iI v)) = fun j => iI (uI c a.toNat v j) := by rw [iI_nzv hv, iI_upd ha]
theorem lI_cpy {f g : Nat → Int} {a b n : Nat} : va_cpy (fun j => lI (f j)) (fun j => lI (g j)) a b n = fun j => lI (cI f g a b n j) := by
  funext j
  unfold cI va_cpy
  split <;> rfl
theorem cI_or {f g : Nat → Int} {a n : Nat} (j : Nat) : cI f g a a n j = f j ∨ cI f g a a n j = g j := by
  unfold cI va_cpy
  split
  · next h => exact Or.inl (by congr 1; omega)
  · exact Or.inr rfl
section G3
variable {p : Program} {l : Launch} {e : Env} {R : Room} {s : State} {m : MethodId} {args : Array Value} {below : List Frame} {meth : Method} {c : Code} {H H0 : Heap} {locs : List Loc} {cells slots pc : Nat} {Q : State → Prop} {D : va_G} {K : Nat → ClassId} {A : Nat → Prop} {ws : va_W} {ls : Array Slot} {rest : List Value} {cc : ByteArray} {tys : List (ClassId × FieldType)} {cl : List vw_C}
theorem g_ladd (hx : p.tables.exec = Jvm.exec) (hb : c.code = cc) {a b : Int} (hdg : decode cc pc = .ok (.ladd, 1)) (k : W p l e R s m args below meth c H locs cells slots Q (F0 m (pc + 1) ls (.long (lI (a + b)) :: rest))) : W p l e R s m args below meth c H locs cells slots Q (F0 m pc ls (.long (lI b) :: .long (lI a) :: rest)) := lv_ladd hx hb hdg (by rw [lI_add]; exact k)
theorem g_lsub (hx : p.tables.exec = Jvm.exec) (hb : c.code = cc) {a b : Int} (hdg : decode cc pc = .ok (.lsub, 1)) (k : W p l e R s m args below meth c H locs cells slots Q (F0 m (pc + 1) ls (.long (lI (a - b)) :: rest))) : W p l e R s m args below meth c H locs cells slots Q (F0 m pc ls (.long (lI b) :: .long (lI a) :: rest)) := lv_lsub hx hb hdg (by rw [lI_sub]; exact k)
theorem g_lmul (hx : p.tables.exec = Jvm.exec) (hb : c.code = cc) {a b : Int} (hdg : decode cc pc = .ok (.lmul, 1)) (k : W p l e R s m args below meth c H locs cells slots Q (F0 m (pc + 1) ls (.long (lI (a * b)) :: rest))) : W p l e R s m args below meth c H locs cells slots Q (F0 m pc ls (.long (lI b) :: .long (lI a) :: rest)) := lv_lmul hx hb hdg (by rw [lI_mul]; exact k)
theorem lI_eq {a b : Int} (ha : lR a) (hb : lR b) : lI a = lI b ↔ a = b := by rw [← Int64.toInt_inj, lI_toInt ha, lI_toInt hb]
theorem g_lif_lt (hx : p.tables.exec = Jvm.exec) (hb : c.code = cc) {a b : Int} {off : Int} {tgt : Nat} (ha : lR a) (hb1 : lR b) (hdg : decode cc pc = .ok (.ifCond .lt off, 3)) (ht : (pc : Int) + off = (tgt : Int)) (kt : a < b → W p l e R s m args below meth c H locs cells slots Q (F0 m tgt ls rest)) (kf : b ≤ a → W p l e R s m args below meth c H locs cells slots Q (F0 m (pc + 3) ls rest)) : W p l e R s m args below meth c H locs cells slots Q (F0 m pc ls (.int (lg_cmp (lI a) (lI b)) :: rest)) :=
  lv_if_lt hx hb hdg ht (fun h => kt ((lI_lt ha hb1).mp ((lg_cmp_lt _ _).mp h))) (fun h => kf (Int.not_lt.mp fun q => h ((lg_cmp_lt _ _).mpr ((lI_lt ha hb1).mpr q))))
theorem g_lif_ge (hx : p.tables.exec = Jvm.exec) (hb : c.code = cc) {a b : Int} {off : Int} {tgt : Nat} (ha : lR a) (hb1 : lR b) (hdg : decode cc pc = .ok (.ifCond .ge off, 3)) (ht : (pc : Int) + off = (tgt : Int)) (kt : b ≤ a → W p l e R s m args below meth c H locs cells slots Q (F0 m tgt ls rest)) (kf : a < b → W p l e R s m args below meth c H locs cells slots Q (F0 m (pc + 3) ls rest)) : W p l e R s m args below meth c H locs cells slots Q (F0 m pc ls (.int (lg_cmp (lI a) (lI b)) :: rest)) :=
  lv_if_ge hx hb hdg ht (fun h => kt ((lI_le hb1 ha).mp ((lg_cmp_ge _ _).mp h))) (fun h => kf (Int.not_le.mp fun q => h ((lg_cmp_ge _ _).mpr ((lI_le hb1 ha).mpr q))))
theorem g_lif_gt (hx : p.tables.exec = Jvm.exec) (hb : c.code = cc) {a b : Int} {off : Int} {tgt : Nat} (ha : lR a) (hb1 : lR b) (hdg : decode cc pc = .ok (.ifCond .gt off, 3)) (ht : (pc : Int) + off = (tgt : Int)) (kt : b < a → W p l e R s m args below meth c H locs cells slots Q (F0 m tgt ls rest)) (kf : a ≤ b → W p l e R s m args below meth c H locs cells slots Q (F0 m (pc + 3) ls rest)) : W p l e R s m args below meth c H locs cells slots Q (F0 m pc ls (.int (lg_cmp (lI a) (lI b)) :: rest)) :=
  lv_if_gt hx hb hdg ht (fun h => kt ((lI_lt hb1 ha).mp ((lg_cmp_gt _ _).mp h))) (fun h => kf (Int.not_lt.mp fun q => h ((lg_cmp_gt _ _).mpr ((lI_lt hb1 ha).mpr q))))
theorem g_lif_le (hx : p.tables.exec = Jvm.exec) (hb : c.code = cc) {a b : Int} {off : Int} {tgt : Nat} (ha : lR a) (hb1 : lR b) (hdg : decode cc pc = .ok (.ifCond .le off, 3)) (ht : (pc : Int) + off = (tgt : Int)) (kt : a ≤ b → W p l e R s m args below meth c H locs cells slots Q (F0 m tgt ls rest)) (kf : b < a → W p l e R s m args below meth c H locs cells slots Q (F0 m (pc + 3) ls rest)) : W p l e R s m args below meth c H locs cells slots Q (F0 m pc ls (.int (lg_cmp (lI a) (lI b)) :: rest)) :=
  lv_if_le hx hb hdg ht (fun h => kt ((lI_le ha hb1).mp ((lg_cmp_le _ _).mp h))) (fun h => kf (Int.not_le.mp fun q => h ((lg_cmp_le _ _).mpr ((lI_le ha hb1).mpr q))))
theorem g_lif_eq (hx : p.tables.exec = Jvm.exec) (hb : c.code = cc) {a b : Int} {off : Int} {tgt : Nat} (ha : lR a) (hb1 : lR b) (hdg : decode cc pc = .ok (.ifCond .eq off, 3)) (ht : (pc : Int) + off = (tgt : Int)) (kt : a = b → W p l e R s m args below meth c H locs cells slots Q (F0 m tgt ls rest)) (kf : a ≠ b → W p l e R s m args below meth c H locs cells slots Q (F0 m (pc + 3) ls rest)) : W p l e R s m args below meth c H locs cells slots Q (F0 m pc ls (.int (lg_cmp (lI a) (lI b)) :: rest)) :=
  lv_if_eq hx hb hdg ht (fun h => kt ((lI_eq ha hb1).mp ((lg_cmp_eq _ _).mp h))) (fun h => kf (fun q => h ((lg_cmp_eq _ _).mpr ((lI_eq ha hb1).mpr q))))
theorem g_lif_ne (hx : p.tables.exec = Jvm.exec) (hb : c.code = cc) {a b : Int} {off : Int} {tgt : Nat} (ha : lR a) (hb1 : lR b) (hdg : decode cc pc = .ok (.ifCond .ne off, 3)) (ht : (pc : Int) + off = (tgt : Int)) (kt : a ≠ b → W p l e R s m args below meth c H locs cells slots Q (F0 m tgt ls rest)) (kf : a = b → W p l e R s m args below meth c H locs cells slots Q (F0 m (pc + 3) ls rest)) : W p l e R s m args below meth c H locs cells slots Q (F0 m pc ls (.int (lg_cmp (lI a) (lI b)) :: rest)) :=
  lv_if_ne hx hb hdg ht (fun h => kt (fun q => h ((lg_cmp_eq _ _).mpr ((lI_eq ha hb1).mpr q)))) (fun h => kf ((lI_eq ha hb1).mp ((lg_cmp_eq _ _).mp h)))
theorem g_bald (hx : p.tables.exec = Jvm.exec) (hb : c.code = cc) (hK : va_K D cl tys s) (hP : va_P D cl ws H) (q0 t0 : Nat) {ar : Nat} {cA : ClassId} {n : Nat} {f : Nat → Int} (ha : ws[q0]? = some (ar, .inl (cA, n, .inl (fun j => iI (f j))))) (ht : tys[t0]? = some (cA, .byte)) {a : Int} (h0 : 0 ≤ a) (h1 : a < n) (hn : n < 2147483648) (hdg : decode cc pc = .ok (.baload, 1)) (k : W p l e R s m args below meth c H locs cells slots Q (F0 m (pc + 1) ls (.int (iI (f a.toNat)) :: rest))) : W p l e R s m args below meth c H locs cells slots Q (F0 m pc ls (.int (iI a) :: .ref ar :: rest)) :=
  va_bald hx hb hK hP q0 t0 ha ht (iI_in h0 h1 hn) hdg (by rw [iI_cl ⟨by omega, by omega⟩]; exact k)
theorem g_zald (hx : p.tables.exec = Jvm.exec) (hb : c.code = cc) (hK : va_K D cl tys s) (hP : va_P D cl ws H) (q0 t0 : Nat) {ar : Nat} {cA : ClassId} {n : Nat} {f : Nat → Int} (ha : ws[q0]? = some (ar, .inl (cA, n, .inl (fun j => iI (f j))))) (ht : tys[t0]? = some (cA, .boolean)) {a : Int} (h0 : 0 ≤ a) (h1 : a < n) (hn : n < 2147483648) (hdg : decode cc pc = .ok (.baload, 1)) (k : W p l e R s m args below meth c H locs cells slots Q (F0 m (pc + 1) ls (.int (iI (f a.toNat)) :: rest))) : W p l e R s m args below meth c H locs cells slots Q (F0 m pc ls (.int (iI a) :: .ref ar :: rest)) :=
  va_zald hx hb hK hP q0 t0 ha ht (iI_in h0 h1 hn) hdg (by rw [iI_cl ⟨by omega, by omega⟩]; exact k)
theorem g_lald (hx : p.tables.exec = Jvm.exec) (hb : c.code = cc) (hK : va_K D cl tys s) (hP : va_P D cl ws H) (q0 t0 : Nat) {ar : Nat} {cA : ClassId} {n : Nat} {f : Nat → Int} (ha : ws[q0]? = some (ar, .inl (cA, n, .inr (.inl (fun j => lI (f j)))))) (ht : tys[t0]? = some (cA, .long)) {a : Int} (h0 : 0 ≤ a) (h1 : a < n) (hn : n < 2147483648) (hdg : decode cc pc = .ok (.laload, 1)) (k : W p l e R s m args below meth c H locs cells slots Q (F0 m (pc + 1) ls (.long (lI (f a.toNat)) :: rest))) : W p l e R s m args below meth c H locs cells slots Q (F0 m pc ls (.int (iI a) :: .ref ar :: rest)) :=
  va_lald hx hb hK hP q0 t0 ha ht (iI_in h0 h1 hn) hdg (by rw [iI_cl ⟨by omega, by omega⟩]; exact k)
theorem g_bast (hx : p.tables.exec = Jvm.exec) (hb : c.code = cc) (hK : va_K D cl tys s) (hP : va_P D cl ws H) (hD : va_D A ws) (hS : va_S A H0 H locs) (q0 t0 : Nat) {ar : Nat} {cA : ClassId} {n : Nat} {f : Nat → Int} (ha : ws[q0]? = some (ar, .inl (cA, n, .inl (fun j => iI (f j))))) (ht : tys[t0]? = some (cA, .byte)) {a v : Int} (h0 : 0 ≤ a) (h1 : a < n) (hn : n < 2147483648) (hv : -128 ≤ v ∧ v ≤ 127) (hdg : decode cc pc = .ok (.bastore, 1))
    (k : ∀ (H1 : Heap) (locs1 : List Loc) (g : Nat → Int), g = uI f a.toNat v → va_P D cl (ws.set q0 (ar, .inl (cA, n, .inl (fun j => iI (g j))))) H1 → va_D A (ws.set q0 (ar, .inl (cA, n, .inl (fun j => iI (g j))))) → va_S A H0 H1 locs1 → W p l e R s m args below meth c H1 locs1 cells slots Q (F0 m (pc + 1) ls rest)) : W p l e R s m args below meth c H locs cells slots Q (F0 m pc ls (.int (iI v) :: .int (iI a) :: .ref ar :: rest)) :=
  va_bast hx hb hK hP hD hS q0 t0 ha ht (iI_in h0 h1 hn) hdg (fun H1 locs1 hP hD hS => k H1 locs1 _ rfl (by rw [iI_updb ⟨by omega, by omega⟩ hv] at hP; exact hP) (by rw [iI_updb ⟨by omega, by omega⟩ hv] at hD; exact hD) hS)
theorem g_zast (hx : p.tables.exec = Jvm.exec) (hb : c.code = cc) (hK : va_K D cl tys s) (hP : va_P D cl ws H) (hD : va_D A ws) (hS : va_S A H0 H locs) (q0 t0 : Nat) {ar : Nat} {cA : ClassId} {n : Nat} {f : Nat → Int} (ha : ws[q0]? = some (ar, .inl (cA, n, .inl (fun j => iI (f j))))) (ht : tys[t0]? = some (cA, .boolean)) {a v : Int} (h0 : 0 ≤ a) (h1 : a < n) (hn : n < 2147483648) (hv : 0 ≤ v ∧ v ≤ 1) (hdg : decode cc pc = .ok (.bastore, 1))
    (k : ∀ (H1 : Heap) (locs1 : List Loc) (g : Nat → Int), g = uI f a.toNat v → va_P D cl (ws.set q0 (ar, .inl (cA, n, .inl (fun j => iI (g j))))) H1 → va_D A (ws.set q0 (ar, .inl (cA, n, .inl (fun j => iI (g j))))) → va_S A H0 H1 locs1 → W p l e R s m args below meth c H1 locs1 cells slots Q (F0 m (pc + 1) ls rest)) : W p l e R s m args below meth c H locs cells slots Q (F0 m pc ls (.int (iI v) :: .int (iI a) :: .ref ar :: rest)) :=
  va_zast hx hb hK hP hD hS q0 t0 ha ht (iI_in h0 h1 hn) hdg (fun H1 locs1 hP hD hS => k H1 locs1 _ rfl (by rw [iI_updz ⟨by omega, by omega⟩ hv] at hP; exact hP) (by rw [iI_updz ⟨by omega, by omega⟩ hv] at hD; exact hD) hS)
theorem g_last (hx : p.tables.exec = Jvm.exec) (hb : c.code = cc) (hK : va_K D cl tys s) (hP : va_P D cl ws H) (hD : va_D A ws) (hS : va_S A H0 H locs) (q0 t0 : Nat) {ar : Nat} {cA : ClassId} {n : Nat} {f : Nat → Int} (ha : ws[q0]? = some (ar, .inl (cA, n, .inr (.inl (fun j => lI (f j)))))) (ht : tys[t0]? = some (cA, .long)) {a v : Int} (h0 : 0 ≤ a) (h1 : a < n) (hn : n < 2147483648) (hdg : decode cc pc = .ok (.lastore, 1))
    (k : ∀ (H1 : Heap) (locs1 : List Loc) (g : Nat → Int), g = uI f a.toNat v → va_P D cl (ws.set q0 (ar, .inl (cA, n, .inr (.inl (fun j => lI (g j)))))) H1 → va_D A (ws.set q0 (ar, .inl (cA, n, .inr (.inl (fun j => lI (g j)))))) → va_S A H0 H1 locs1 → W p l e R s m args below meth c H1 locs1 cells slots Q (F0 m (pc + 1) ls rest)) : W p l e R s m args below meth c H locs cells slots Q (F0 m pc ls (.long (lI v) :: .int (iI a) :: .ref ar :: rest)) :=
  va_last hx hb hK hP hD hS q0 t0 ha ht (iI_in h0 h1 hn) hdg (fun H1 locs1 hP hD hS => k H1 locs1 _ rfl (by rw [lI_upd ⟨by omega, by omega⟩] at hP; exact hP) (by rw [lI_upd ⟨by omega, by omega⟩] at hD; exact hD) hS)
theorem iI_nn {a : Int} (h0 : 0 ≤ a) (h1 : a < 2147483648) : ¬ iI a < 0 := by
  rw [← iI_0, iI_lt ⟨by omega, by omega⟩ (by decide)]; omega
theorem g_cpy (hx : p.tables.exec = Jvm.exec) (hb : c.code = cc) (hml : c.maxLocals = ls.size) {own : String} {index : Nat} (hown : s.vm.findClass own = some m.cls) (hlink : (Cond.methodLink own index arraycopyName).before args s = true) (hnat : (Cond.native arraycopyName).before args s = true) (hstat : (Cond.static arraycopyName).before args s = true) (hini : (Cond.initialized "java/lang/System").before args s = true)
    (hK : va_K D cl tys s) (hP : va_P D cl ws H) (hD : va_D A ws) (hS : va_S A H0 H locs) (q0 q1 t0 t1 : Nat) {a0 a : Nat} {c0 c1 : ClassId} {n0 n1 : Nat} {f g : Nat → Int} (ha0 : ws[q0]? = some (a0, .inl (c0, n0, .inl (fun j => iI (f j))))) (ha1 : ws[q1]? = some (a, .inl (c1, n1, .inl (fun j => iI (g j))))) (ht0 : tys[t0]? = some (c0, .int)) (ht1 : tys[t1]? = some (c1, .int))
    {sp dp n : Int} (h1 : 0 ≤ sp ∧ sp + n ≤ n0 ∧ (n0 : Int) < 2147483648) (h2 : 0 ≤ dp ∧ dp + n ≤ n1 ∧ (n1 : Int) < 2147483648) (h3 : 0 ≤ n)
    (hframes : 1 ≤ R.frames) (hlocals : (rest.map fun v => v.category).sum + (nativeFrameWords "java/lang/System" "arraycopy" 5 + 11) ≤ R.locals) (hdg : decode cc pc = .ok (.invokestatic index, 3))
    (kk : ∀ (H1 : Heap) (locs1 : List Loc) (z : Nat → Int), z = cI f g sp.toNat dp.toNat n.toNat → va_P D cl (ws.set q1 (a, .inl (c1, n1, .inl (fun j => iI (z j))))) H1 → va_D A (ws.set q1 (a, .inl (c1, n1, .inl (fun j => iI (z j))))) → va_S A H0 H1 locs1 → W p l e R s m args below meth c H1 locs1 cells slots Q (F0 m (pc + 3) ls rest)) : W p l e R s m args below meth c H locs cells slots Q (F0 m pc ls (.int (iI n) :: .int (iI dp) :: .ref a :: .int (iI sp) :: .ref a0 :: rest)) :=
  va_copyi (ty := .int) hx hb hml hown hlink hnat hstat hini hK hP hD hS q0 q1 t0 t1 ha0 ha1 ht0 ht1 rfl (iI_nn h1.1 (by omega)) (iI_nn h2.1 (by omega)) (iI_nn h3 (by omega)) (by rw [iI_cl ⟨by omega, by omega⟩, iI_cl ⟨by omega, by omega⟩]; omega) (by rw [iI_cl ⟨by omega, by omega⟩, iI_cl ⟨by omega, by omega⟩]; omega) (fun _ _ => rfl) hframes hlocals hdg
    (fun H1 locs1 hP hD hS => kk H1 locs1 _ rfl (by rw [iI_cpy, iI_cl (a := sp) ⟨by omega, by omega⟩, iI_cl (a := dp) ⟨by omega, by omega⟩, iI_cl (a := n) ⟨by omega, by omega⟩] at hP; exact hP) (by rw [iI_cpy, iI_cl (a := sp) ⟨by omega, by omega⟩, iI_cl (a := dp) ⟨by omega, by omega⟩, iI_cl (a := n) ⟨by omega, by omega⟩] at hD; exact hD) hS)
theorem g_cpyl (hx : p.tables.exec = Jvm.exec) (hb : c.code = cc) (hml : c.maxLocals = ls.size) {own : String} {index : Nat} (hown : s.vm.findClass own = some m.cls) (hlink : (Cond.methodLink own index arraycopyName).before args s = true) (hnat : (Cond.native arraycopyName).before args s = true) (hstat : (Cond.static arraycopyName).before args s = true) (hini : (Cond.initialized "java/lang/System").before args s = true)
    (hK : va_K D cl tys s) (hP : va_P D cl ws H) (hD : va_D A ws) (hS : va_S A H0 H locs) (q0 q1 t0 t1 : Nat) {a0 a : Nat} {c0 c1 : ClassId} {n0 n1 : Nat} {f g : Nat → Int} (ha0 : ws[q0]? = some (a0, .inl (c0, n0, .inr (.inl (fun j => lI (f j)))))) (ha1 : ws[q1]? = some (a, .inl (c1, n1, .inr (.inl (fun j => lI (g j)))))) (ht0 : tys[t0]? = some (c0, .long)) (ht1 : tys[t1]? = some (c1, .long))
    {sp dp n : Int} (h1 : 0 ≤ sp ∧ sp + n ≤ n0 ∧ (n0 : Int) < 2147483648) (h2 : 0 ≤ dp ∧ dp + n ≤ n1 ∧ (n1 : Int) < 2147483648) (h3 : 0 ≤ n)
    (hframes : 1 ≤ R.frames) (hlocals : (rest.map fun v => v.category).sum + (nativeFrameWords "java/lang/System" "arraycopy" 5 + 11) ≤ R.locals) (hdg : decode cc pc = .ok (.invokestatic index, 3))
    (kk : ∀ (H1 : Heap) (locs1 : List Loc) (z : Nat → Int), z = cI f g sp.toNat dp.toNat n.toNat → va_P D cl (ws.set q1 (a, .inl (c1, n1, .inr (.inl (fun j => lI (z j)))))) H1 → va_D A (ws.set q1 (a, .inl (c1, n1, .inr (.inl (fun j => lI (z j)))))) → va_S A H0 H1 locs1 → W p l e R s m args below meth c H1 locs1 cells slots Q (F0 m (pc + 3) ls rest)) : W p l e R s m args below meth c H locs cells slots Q (F0 m pc ls (.int (iI n) :: .int (iI dp) :: .ref a :: .int (iI sp) :: .ref a0 :: rest)) :=
  va_copyl (ty := .long) hx hb hml hown hlink hnat hstat hini hK hP hD hS q0 q1 t0 t1 ha0 ha1 ht0 ht1 rfl (iI_nn h1.1 (by omega)) (iI_nn h2.1 (by omega)) (iI_nn h3 (by omega)) (by rw [iI_cl ⟨by omega, by omega⟩, iI_cl ⟨by omega, by omega⟩]; omega) (by rw [iI_cl ⟨by omega, by omega⟩, iI_cl ⟨by omega, by omega⟩]; omega) (fun _ _ => rfl) hframes hlocals hdg
    (fun H1 locs1 hP hD hS => kk H1 locs1 _ rfl (by rw [lI_cpy, iI_cl (a := sp) ⟨by omega, by omega⟩, iI_cl (a := dp) ⟨by omega, by omega⟩, iI_cl (a := n) ⟨by omega, by omega⟩] at hP; exact hP) (by rw [lI_cpy, iI_cl (a := sp) ⟨by omega, by omega⟩, iI_cl (a := dp) ⟨by omega, by omega⟩, iI_cl (a := n) ⟨by omega, by omega⟩] at hD; exact hD) hS)
theorem g_mmin (hx : p.tables.exec = Jvm.exec) (hb : c.code = cc) (hml : c.maxLocals = ls.size) {own : String} {index : Nat} (hown : s.vm.findClass own = some m.cls) (hlink : (Cond.methodLink own index Lib.Math.min.name).before args s = true) (hstat : (Cond.static Lib.Math.min.name).before args s = true) (hini : (Cond.initialized "java/lang/Math").before args s = true) (hcode : (Cond.code Lib.Math.min.name Lib.Math.min.code 2 (some .int)).before args s = true) {x y : Int} (hx1 : iR x) (hy1 : iR y)
    (hframes : 1 ≤ R.frames) (hlocals : (rest.map fun v => v.category).sum + 13 ≤ R.locals) (hc : cells ≤ R.cells) (hs : slots ≤ R.slots) (hdg : decode cc pc = .ok (.invokestatic index, 3))
    (kk : ∀ w : Int, ((w = x ∧ x ≤ y) ∨ (w = y ∧ y ≤ x)) → W p l e R s m args below meth c H locs cells slots Q (F0 m (pc + 3) ls (.int (iI w) :: rest))) : W p l e R s m args below meth c H locs cells slots Q (F0 m pc ls (.int (iI y) :: .int (iI x) :: rest)) := by
  refine va_mmin hx hb hml hown hlink hstat hini hcode hframes hlocals hc hs hdg ?_
  by_cases h : y < x
  · rw [if_pos ((iI_lt hy1 hx1).mpr h)]; exact kk y (Or.inr ⟨rfl, by omega⟩)
  · rw [if_neg (fun q => h ((iI_lt hy1 hx1).mp q))]; exact kk x (Or.inl ⟨rfl, by omega⟩)
theorem g_mmax (hx : p.tables.exec = Jvm.exec) (hb : c.code = cc) (hml : c.maxLocals = ls.size) {own : String} {index : Nat} (hown : s.vm.findClass own = some m.cls) (hlink : (Cond.methodLink own index Lib.Math.max.name).before args s = true) (hstat : (Cond.static Lib.Math.max.name).before args s = true) (hini : (Cond.initialized "java/lang/Math").before args s = true) (hcode : (Cond.code Lib.Math.max.name Lib.Math.max.code 2 (some .int)).before args s = true) {x y : Int} (hx1 : iR x) (hy1 : iR y)
    (hframes : 1 ≤ R.frames) (hlocals : (rest.map fun v => v.category).sum + 13 ≤ R.locals) (hc : cells ≤ R.cells) (hs : slots ≤ R.slots) (hdg : decode cc pc = .ok (.invokestatic index, 3))
    (kk : ∀ w : Int, ((w = x ∧ y ≤ x) ∨ (w = y ∧ x ≤ y)) → W p l e R s m args below meth c H locs cells slots Q (F0 m (pc + 3) ls (.int (iI w) :: rest))) : W p l e R s m args below meth c H locs cells slots Q (F0 m pc ls (.int (iI y) :: .int (iI x) :: rest)) := by
  refine va_mmax hx hb hml hown hlink hstat hini hcode hframes hlocals hc hs hdg ?_
  by_cases h : x < y
  · rw [if_pos ((iI_lt hx1 hy1).mpr h)]; exact kk y (Or.inr ⟨rfl, by omega⟩)
  · rw [if_neg (fun q => h ((iI_lt hx1 hy1).mp q))]; exact kk x (Or.inl ⟨rfl, by omega⟩)
end G3
/-- a contract with a long answer -/
abbrev fn_CL {S : Type} (l : Launch) (D : va_G) (K : Nat → ClassId) (y : MethodName) (ws : List Cond) (rm : Room) (av : List Value) (wc : va_W) (post : Int64 → S → Prop) (w1 : S → va_W) (mc ms : Nat) : Prop :=
  ∀ sz : Nat, Met l y ws rm (va_Pc av (fn_Pre D K wc sz)) (va_Ql post (fun u t => va_P D vwCl (w1 u) t.heap ∧ va_D (va_A wc sz) (w1 u)) (va_A wc sz)) mc ms (va_A wc sz)
section G3In
variable {l : Launch} {D : va_G} {K : Nat → ClassId} {y : MethodName} {ws ws' : List Cond} {rm : Room} {av : List Value} {wc : va_W} {mc ms maxL : Nat} {cc : ByteArray} {ret : Option FieldType} {S : Type} {w1 : S → va_W}
theorem g_inL {post : Int64 → S → Prop} (hy : plainName y.cls = true) (hw : ws = Cond.code y cc maxL ret :: ws') (hav : (lg_sl av).length ≤ maxL)
    (body : ∀ (p : Program) (e : Env) (s : State) (m : MethodId) (below : List Frame) (meth : Method) (c : Code) (A : Nat → Prop) (ls : Array Slot) (ag : Array Value) (Q : State → Prop), g_B D K y ws cc maxL ret ag p s m meth c → (∀ q, s.heap.size ≤ q → A q) → va_P D vwCl wc s.heap → va_D A wc → va_S A s.heap s.heap [] → lv_has ls maxL (lv_args 0 av) → Q = MQ below (va_Ql post (fun u t => va_P D vwCl (w1 u) t.heap ∧ va_D A (w1 u)) A) ag s mc ms A →
      W p l e rm s m ag below meth c s.heap [] 0 0 Q (F0 m 0 ls [])) :
    fn_CL l D K y ws rm av wc post w1 mc ms := by
  intro sz
  refine Met.ofW (cc := cc) (maxL := maxL) (ret := ret) hy hw ?_
  intro p e s m args below meth c s₁ B hml hv
  obtain ⟨rfl, hsz, hP, hK, hD0⟩ := hv
  subst hsz
  rw [lg_entry_eq]
  exact body p e s m below meth c _ _ _ _ ⟨B.exec, B.bytes, B.returns, hml, atoms_spec (ws := ws) B.pre, findClass_of_methodNamed B.named, B.notSynchronized, (name_of_methodNamed B.named B.method).1, hK⟩ (fun q h => Or.inr h) hP (hD0.self (sz := s.heap.size)) va_S.rf (lv_entry av hav) rfl
end G3In
section G3Go
variable {p : Program} {l : Launch} {e : Env} {R : Room} {s : State} {m : MethodId} {args : Array Value} {below : List Frame} {meth : Method} {c : Code} {H H0 : Heap} {locs : List Loc} {cells slots mc ms pc : Nat} {Q : State → Prop} {D : va_G} {K : Nat → ClassId} {A : Nat → Prop} {ws wc wr : va_W} {ls : Array Slot} {st0 rest : List Value} {S : Type} {w1 : S → va_W} {av : List Value} {a : Array Value} {cc : ByteArray}
theorem fn_gol {post : Int64 → S → Prop} (hK : fn_KK D K s) (hP : va_P D vwCl ws H) (hD : va_D A ws) (hS : va_S A H0 H locs) (hA : ∀ q, H0.size ≤ q → A q) (isC isR : List Nat) (hC : isC.map (fun i => ws[i]?) = wc.map some) (hR : isR.map (fun i => ws[i]?) = wr.map some) (hnd : va_nd (isR ++ isC) = true)
    (hr : (∀ U : State, U.heap = H → s.WarmedH U.vm → va_Pc av (fn_Pre D K wc H.size) av.toArray U) → va_Run p l e R s m args below meth c H locs cells slots mc ms (F0 m pc ls st0) rest (va_Ql post (fun u t => va_P D vwCl (w1 u) t.heap ∧ va_D (va_A wc H.size) (w1 u)) (va_A wc H.size) a) (va_A wc H.size))
    (kk : ∀ (r : Int64) (u : S) (H1 : Heap) (locs1 : List Loc), post r u → va_P D vwCl (wr ++ w1 u) H1 → va_D A (wr ++ w1 u) → va_S A H0 H1 locs1 → W p l e R s m args below meth c H1 locs1 (cells + mc) (slots + ms) Q (F0 m (pc + 3) ls (.long r :: rest))) :
    W p l e R s m args below meth c H locs cells slots Q (F0 m pc ls st0) := by
  obtain ⟨hnR, hnC, hdis⟩ := fn_nd hnd
  have hF := va_free hD hS hA isC hC
  refine va_calll (hr (fn_pre hK hP hD isC hnC hC)) hS (fun q _ h => hF q h) hF (fun r u t H1 locs1 ht hvm hw hB hz hk hS1 => ?_)
  obtain ⟨hP1, hD1⟩ := hB
  rw [ht] at hP1
  obtain ⟨h1, h2⟩ := va_join hP hD isC isR hC hR hnR hdis hk hF hP1 hD1
  exact kk r u H1 locs1 hw h1 h2 hS1
theorem fn_lret {post : Int64 → S → Prop} {v : Int64} (hx : p.tables.exec = Jvm.exec) (hb : c.code = cc) (hr : meth.sig.returnType = some .long) (hlocks : meth.locks = false) (hP : va_P D vwCl ws H) (hD : va_D A ws) (hS : va_S A s.heap H locs) (u : S) (hp : post v u) (is : List Nat) (hnd : va_nd is = true) (hs : is.map (fun i => ws[i]?) = (w1 u).map some) (hdg : decode cc pc = .ok (.lreturn, 1)) :
    W p l e R s m args below meth c H locs cells slots (MQ below (va_Ql post (fun u t => va_P D vwCl (w1 u) t.heap ∧ va_D A (w1 u)) A) args s cells slots A) (F0 m pc ls [.long v]) :=
  W.lret hx hb hr (fun t ht hW => ⟨⟨v, u, rfl, hp, by rw [ht]; exact hP.sub is (fn_fm hs), hD.sub is hnd hs⟩, hS.F ht⟩) hS.2.2 hdg hlocks
end G3Go
/-! facts of rows -/
theorem uI_inc {c : Nat → Int} {k : Nat} (j : Nat) : c j ≤ uI c k (c k + 1) j := by
  unfold uI
  split
  · next h => subst h; omega
  · exact Int.le_refl _
theorem uI_dec {c : Nat → Int} {k : Nat} (j : Nat) : c j - 1 ≤ uI c k (c k - 1) j := by
  unfold uI
  split
  · next h => subst h; omega
  · omega
theorem uI_lay {c d : Nat → Int} {k : Nat} {v : Int} (h : ∀ j : Nat, -12 ≤ c j ∨ d j ≤ c j) (hv : -12 ≤ v) (j : Nat) : -12 ≤ uI c k v j ∨ d j ≤ uI c k v j := by
  unfold uI
  split
  · exact Or.inl hv
  · exact h j
theorem all_step {P : Nat → Prop} {x : Int} (hx : 0 ≤ x) (h : ∀ j : Nat, (j : Int) < x → P j) (hn : P x.toNat) : ∀ j : Nat, (j : Int) < x + 1 → P j := by
  intro j hj
  rcases (show (j : Int) < x ∨ j = x.toNat by omega) with q | q
  · exact h j q
  · rw [q]; exact hn
/-- the acts' rows: a misprint's was is a leaf, another's book is one -/
def AR (ck co cw : Nat → Int) : Prop := ∀ j : Nat, (ck j = 2 ∧ 0 ≤ cw j) ∨ (ck j ≠ 2 ∧ co j ≤ 4 ∧ cw j ≤ 11)
theorem AR_set {ck co cw : Nat → Int} {k : Nat} {a b d : Int} (h : AR ck co cw) (hv : (a = 2 ∧ 0 ≤ d) ∨ (a ≠ 2 ∧ b ≤ 4 ∧ d ≤ 11)) : AR (uI ck k a) (uI co k b) (uI cw k d) := by
  intro j
  unfold uI
  by_cases e : j = k
  · rw [if_pos e, if_pos e, if_pos e]; exact hv
  · rw [if_neg e, if_neg e, if_neg e]; exact h j
theorem AR_cpy {a b d a' b' d' : Nat → Int} {p q n : Nat} (h : AR a b d) (h' : AR a' b' d') : AR (cI a a' p q n) (cI b b' p q n) (cI d d' p q n) := by
  intro j
  unfold cI va_cpy
  by_cases e : q ≤ j ∧ j < q + n
  · rw [if_pos e, if_pos e, if_pos e]; exact h _
  · rw [if_neg e, if_neg e, if_neg e]; exact h' _
