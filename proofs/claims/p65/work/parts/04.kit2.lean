/-! ints by their values: every int is iI k for an Int k; all that is said of it is said of k, for omega -/
def iI (k : Int) : Int32 := Int32.ofInt k
def lI (k : Int) : Int64 := Int64.ofInt k
abbrev iR (k : Int) : Prop := -2147483648 ≤ k ∧ k < 2147483648
abbrev lR (k : Int) : Prop := -9223372036854775808 ≤ k ∧ k < 9223372036854775808
theorem iI_toInt {k : Int} (h : iR k) : (iI k).toInt = k := Int32.toInt_ofInt_of_le (by have := h.1; omega) (by have := h.2; omega)
theorem lI_toInt {k : Int} (h : lR k) : (lI k).toInt = k := Int64.toInt_ofInt_of_le (by have := h.1; omega) (by have := h.2; omega)
theorem iI_of (x : Int32) : ∃ k : Int, iR k ∧ x = iI k := ⟨x.toInt, ⟨x.le_toInt, x.toInt_lt⟩, (Int32.ofInt_toInt x).symm⟩
theorem lI_of (x : Int64) : ∃ k : Int, lR k ∧ x = lI k := ⟨x.toInt, ⟨x.le_toInt, x.toInt_lt⟩, (Int64.ofInt_toInt x).symm⟩
theorem iI_add (a b : Int) : iI a + iI b = iI (a + b) := (Int32.ofInt_add a b).symm
theorem iI_sub (a b : Int) : iI a - iI b = iI (a - b) := (Int32.ofInt_sub a b).symm
theorem iI_mul (a b : Int) : iI a * iI b = iI (a * b) := (Int32.ofInt_mul a b).symm
theorem iI_neg (a : Int) : -iI a = iI (-a) := (Int32.ofInt_neg a).symm
theorem lI_add (a b : Int) : lI a + lI b = lI (a + b) := (Int64.ofInt_add a b).symm
theorem lI_sub (a b : Int) : lI a - lI b = lI (a - b) := (Int64.ofInt_sub a b).symm
theorem lI_mul (a b : Int) : lI a * lI b = lI (a * b) := (Int64.ofInt_mul a b).symm
theorem iI_lt {a b : Int} (ha : iR a) (hb : iR b) : iI a < iI b ↔ a < b := by rw [Int32.lt_iff_toInt_lt, iI_toInt ha, iI_toInt hb]
theorem iI_le {a b : Int} (ha : iR a) (hb : iR b) : iI a ≤ iI b ↔ a ≤ b := by rw [Int32.le_iff_toInt_le, iI_toInt ha, iI_toInt hb]
theorem iI_eq {a b : Int} (ha : iR a) (hb : iR b) : iI a = iI b ↔ a = b := by rw [← Int32.toInt_inj, iI_toInt ha, iI_toInt hb]
theorem lI_lt {a b : Int} (ha : lR a) (hb : lR b) : lI a < lI b ↔ a < b := by rw [Int64.lt_iff_toInt_lt, lI_toInt ha, lI_toInt hb]
theorem lI_le {a b : Int} (ha : lR a) (hb : lR b) : lI a ≤ lI b ↔ a ≤ b := by rw [Int64.le_iff_toInt_le, lI_toInt ha, lI_toInt hb]
theorem iI_0 : iI 0 = 0 := by decide
theorem iI_cl {a : Int} (h : iR a) : (iI a).toNatClampNeg = a.toNat := by rw [← Int32.toNat_toInt, iI_toInt h]
theorem iI_in {a : Int} {n : Nat} (h0 : 0 ≤ a) (h1 : a < n) (hn : n < 2147483648) : vp_in (iI a) n := by
  rw [vp_in_iff, iI_toInt ⟨by omega, by omega⟩]
  exact ⟨h0, h1⟩
theorem iI_2l {a : Int} (h : iR a) : (iI a).toInt64 = lI a := by
  apply Int64.toInt_inj.mp
  rw [Int32.toInt_toInt64, iI_toInt h, lI_toInt ⟨by have := h.1; omega, by have := h.2; omega⟩]
theorem lI_2i {a : Int} (h : lR a) : (lI a).toInt32 = iI a := by
  show (lI a).toInt32 = Int32.ofInt a
  rw [← Int32.ofInt_int64ToInt, lI_toInt h]
/-- division of what isn't negative -/
theorem iI_div {a b : Int} (ha : 0 ≤ a) (ha2 : a < 2147483648) (hb : 0 < b) (hb2 : b < 2147483648) : iI a / iI b = iI (a / b) := by
  have h := Int32.ofInt_tdiv (a := a) (b := b) (by have : Int32.minValue.toInt = -2147483648 := by decide
                                                   omega) (by have : Int32.maxValue.toInt = 2147483647 := by decide
                                                              omega) (by have : Int32.minValue.toInt = -2147483648 := by decide
                                                                         omega) (by have : Int32.maxValue.toInt = 2147483647 := by decide
                                                                                    omega)
  rw [Int.tdiv_eq_ediv_of_nonneg ha] at h
  exact h.symm
theorem iI_rem {a b : Int} (ha : 0 ≤ a) (ha2 : a < 2147483648) (hb : 0 < b) (hb2 : b < 2147483648) : iI a - iI a / iI b * iI b = iI (a % b) := by
  rw [iI_div ha ha2 hb hb2, iI_mul, iI_sub]
  congr 1
  rw [Int.emod_def, Int.mul_comm]
/-- contents by values -/
def uI (c : Nat → Int) (k : Nat) (v : Int) : Nat → Int := fun j => if j = k then v else c j
theorem uI_s {c : Nat → Int} {k : Nat} {v : Int} : uI c k v k = v := if_pos rfl
theorem uI_n {c : Nat → Int} {k j : Nat} {v : Int} (h : j ≠ k) : uI c k v j = c j := if_neg h
theorem uI_all {c : Nat → Int} {k : Nat} {v lo hi : Int} (h : ∀ j, lo ≤ c j ∧ c j ≤ hi) (hv : lo ≤ v ∧ v ≤ hi) : ∀ j, lo ≤ uI c k v j ∧ uI c k v j ≤ hi := by
  intro j
  unfold uI
  split
  · exact hv
  · exact h j
theorem uI_alln {c : Nat → Int} {k n : Nat} {v lo hi : Int} (h : ∀ j, j < n → lo ≤ c j ∧ c j ≤ hi) (hv : lo ≤ v ∧ v ≤ hi) : ∀ j, j < n → lo ≤ uI c k v j ∧ uI c k v j ≤ hi := by
  intro j hj
  unfold uI
  split
  · exact hv
  · exact h j hj
theorem iI_upd {c : Nat → Int} {a v : Int} (ha : iR a) : upd (fun j => iI (c j)) (iI a).toNatClampNeg (iI v) = fun j => iI (uI c a.toNat v j) := by
  funext j
  rw [iI_cl ha]
  unfold upd uI
  split <;> rfl
theorem lI_upd {c : Nat → Int} {a v : Int} (ha : iR a) : vp_updL (fun j => lI (c j)) (iI a).toNatClampNeg (lI v) = fun j => lI (uI c a.toNat v j) := by
  funext j
  rw [iI_cl ha]
  unfold vp_updL uI
  split <;> rfl
section G2
variable {p : Program} {l : Launch} {e : Env} {R : Room} {s : State} {m : MethodId} {args : Array Value} {below : List Frame} {meth : Method} {c : Code} {H H0 : Heap} {locs : List Loc} {cells slots pc : Nat} {Q : State → Prop} {D : va_G} {K : Nat → ClassId} {A : Nat → Prop} {ws : va_W} {ls : Array Slot} {rest : List Value} {cc : ByteArray} {tys : List (ClassId × FieldType)} {cl : List vw_C}
theorem g_iadd (hx : p.tables.exec = Jvm.exec) (hb : c.code = cc) {a b : Int} (hdg : decode cc pc = .ok (.iadd, 1)) (k : W p l e R s m args below meth c H locs cells slots Q (F0 m (pc + 1) ls (.int (iI (a + b)) :: rest))) : W p l e R s m args below meth c H locs cells slots Q (F0 m pc ls (.int (iI b) :: .int (iI a) :: rest)) := lv_iadd hx hb hdg (by rw [iI_add]; exact k)
theorem g_isub (hx : p.tables.exec = Jvm.exec) (hb : c.code = cc) {a b : Int} (hdg : decode cc pc = .ok (.isub, 1)) (k : W p l e R s m args below meth c H locs cells slots Q (F0 m (pc + 1) ls (.int (iI (a - b)) :: rest))) : W p l e R s m args below meth c H locs cells slots Q (F0 m pc ls (.int (iI b) :: .int (iI a) :: rest)) := lv_isub hx hb hdg (by rw [iI_sub]; exact k)
theorem g_imul (hx : p.tables.exec = Jvm.exec) (hb : c.code = cc) {a b : Int} (hdg : decode cc pc = .ok (.imul, 1)) (k : W p l e R s m args below meth c H locs cells slots Q (F0 m (pc + 1) ls (.int (iI (a * b)) :: rest))) : W p l e R s m args below meth c H locs cells slots Q (F0 m pc ls (.int (iI b) :: .int (iI a) :: rest)) := lv_imul hx hb hdg (by rw [iI_mul]; exact k)
theorem g_ineg (hx : p.tables.exec = Jvm.exec) (hb : c.code = cc) {a : Int} (hdg : decode cc pc = .ok (.ineg, 1)) (k : W p l e R s m args below meth c H locs cells slots Q (F0 m (pc + 1) ls (.int (iI (-a)) :: rest))) : W p l e R s m args below meth c H locs cells slots Q (F0 m pc ls (.int (iI a) :: rest)) := lv_ineg hx hb hdg (by rw [iI_neg]; exact k)
theorem g_idiv (hx : p.tables.exec = Jvm.exec) (hb : c.code = cc) {a b : Int} (ha : 0 ≤ a ∧ a < 2147483648) (hb0 : 0 < b ∧ b < 2147483648) (hdg : decode cc pc = .ok (.idiv, 1)) (k : W p l e R s m args below meth c H locs cells slots Q (F0 m (pc + 1) ls (.int (iI (a / b)) :: rest))) : W p l e R s m args below meth c H locs cells slots Q (F0 m pc ls (.int (iI b) :: .int (iI a) :: rest)) :=
  lv_idiv hx hb hdg (by rw [← iI_0, iI_eq ⟨by omega, by omega⟩ (by decide)]; omega) (by rw [iI_div ha.1 ha.2 hb0.1 hb0.2]; exact k)
theorem g_irem (hx : p.tables.exec = Jvm.exec) (hb : c.code = cc) {a b : Int} (ha : 0 ≤ a ∧ a < 2147483648) (hb0 : 0 < b ∧ b < 2147483648) (hdg : decode cc pc = .ok (.irem, 1)) (k : W p l e R s m args below meth c H locs cells slots Q (F0 m (pc + 1) ls (.int (iI (a % b)) :: rest))) : W p l e R s m args below meth c H locs cells slots Q (F0 m pc ls (.int (iI b) :: .int (iI a) :: rest)) :=
  lv_irem hx hb hdg (by rw [← iI_0, iI_eq ⟨by omega, by omega⟩ (by decide)]; omega) (by rw [iI_rem ha.1 ha.2 hb0.1 hb0.2]; exact k)
/-- a number of which nothing but its range is known -/
theorem g_any {x : Int32} (k : ∀ a : Int, iR a → x = iI a → W p l e R s m args below meth c H locs cells slots Q (F0 m pc ls (.int (iI a) :: rest))) : W p l e R s m args below meth c H locs cells slots Q (F0 m pc ls (.int x :: rest)) := by
  obtain ⟨a, ha, e⟩ := iI_of x
  rw [e]
  exact k a ha e
theorem g_anyl {x : Int64} (k : ∀ a : Int, lR a → x = lI a → W p l e R s m args below meth c H locs cells slots Q (F0 m pc ls (.long (lI a) :: rest))) : W p l e R s m args below meth c H locs cells slots Q (F0 m pc ls (.long x :: rest)) := by
  obtain ⟨a, ha, e⟩ := lI_of x
  rw [e]
  exact k a ha e
theorem g_if_eq (hx : p.tables.exec = Jvm.exec) (hb : c.code = cc) {a : Int} {off : Int} {tgt : Nat} (ha : iR a) (hdg : decode cc pc = .ok (.ifCond .eq off, 3)) (ht : (pc : Int) + off = (tgt : Int)) (kt : a = 0 → W p l e R s m args below meth c H locs cells slots Q (F0 m tgt ls rest)) (kf : a ≠ 0 → W p l e R s m args below meth c H locs cells slots Q (F0 m (pc + 3) ls rest)) : W p l e R s m args below meth c H locs cells slots Q (F0 m pc ls (.int (iI a) :: rest)) :=
  lv_if_eq hx hb hdg ht (fun h => kt ((iI_eq ha (by decide)).mp (h.trans iI_0.symm))) (fun h => kf (fun q => h (by rw [q]; exact iI_0)))
theorem g_if_ne (hx : p.tables.exec = Jvm.exec) (hb : c.code = cc) {a : Int} {off : Int} {tgt : Nat} (ha : iR a) (hdg : decode cc pc = .ok (.ifCond .ne off, 3)) (ht : (pc : Int) + off = (tgt : Int)) (kt : a ≠ 0 → W p l e R s m args below meth c H locs cells slots Q (F0 m tgt ls rest)) (kf : a = 0 → W p l e R s m args below meth c H locs cells slots Q (F0 m (pc + 3) ls rest)) : W p l e R s m args below meth c H locs cells slots Q (F0 m pc ls (.int (iI a) :: rest)) :=
  lv_if_ne hx hb hdg ht (fun h => kt (fun q => h (by rw [q]; exact iI_0))) (fun h => kf ((iI_eq ha (by decide)).mp (h.trans iI_0.symm)))
theorem g_if_lt (hx : p.tables.exec = Jvm.exec) (hb : c.code = cc) {a : Int} {off : Int} {tgt : Nat} (ha : iR a) (hdg : decode cc pc = .ok (.ifCond .lt off, 3)) (ht : (pc : Int) + off = (tgt : Int)) (kt : a < 0 → W p l e R s m args below meth c H locs cells slots Q (F0 m tgt ls rest)) (kf : 0 ≤ a → W p l e R s m args below meth c H locs cells slots Q (F0 m (pc + 3) ls rest)) : W p l e R s m args below meth c H locs cells slots Q (F0 m pc ls (.int (iI a) :: rest)) :=
  lv_if_lt hx hb hdg ht (fun h => kt ((iI_lt ha (by decide)).mp (by rw [iI_0]; exact h))) (fun h => kf (Int.not_lt.mp fun q => h (by rw [← iI_0]; exact (iI_lt ha (by decide)).mpr q)))
theorem g_if_ge (hx : p.tables.exec = Jvm.exec) (hb : c.code = cc) {a : Int} {off : Int} {tgt : Nat} (ha : iR a) (hdg : decode cc pc = .ok (.ifCond .ge off, 3)) (ht : (pc : Int) + off = (tgt : Int)) (kt : 0 ≤ a → W p l e R s m args below meth c H locs cells slots Q (F0 m tgt ls rest)) (kf : a < 0 → W p l e R s m args below meth c H locs cells slots Q (F0 m (pc + 3) ls rest)) : W p l e R s m args below meth c H locs cells slots Q (F0 m pc ls (.int (iI a) :: rest)) :=
  lv_if_ge hx hb hdg ht (fun h => kt ((iI_le (by decide) ha).mp (by rw [iI_0]; exact h))) (fun h => kf (Int.not_le.mp fun q => h (by rw [← iI_0]; exact (iI_le (by decide) ha).mpr q)))
theorem g_if_gt (hx : p.tables.exec = Jvm.exec) (hb : c.code = cc) {a : Int} {off : Int} {tgt : Nat} (ha : iR a) (hdg : decode cc pc = .ok (.ifCond .gt off, 3)) (ht : (pc : Int) + off = (tgt : Int)) (kt : 0 < a → W p l e R s m args below meth c H locs cells slots Q (F0 m tgt ls rest)) (kf : a ≤ 0 → W p l e R s m args below meth c H locs cells slots Q (F0 m (pc + 3) ls rest)) : W p l e R s m args below meth c H locs cells slots Q (F0 m pc ls (.int (iI a) :: rest)) :=
  lv_if_gt hx hb hdg ht (fun h => kt ((iI_lt (by decide) ha).mp (by rw [iI_0]; exact h))) (fun h => kf (Int.not_lt.mp fun q => h (by rw [← iI_0]; exact (iI_lt (by decide) ha).mpr q)))
theorem g_if_le (hx : p.tables.exec = Jvm.exec) (hb : c.code = cc) {a : Int} {off : Int} {tgt : Nat} (ha : iR a) (hdg : decode cc pc = .ok (.ifCond .le off, 3)) (ht : (pc : Int) + off = (tgt : Int)) (kt : a ≤ 0 → W p l e R s m args below meth c H locs cells slots Q (F0 m tgt ls rest)) (kf : 0 < a → W p l e R s m args below meth c H locs cells slots Q (F0 m (pc + 3) ls rest)) : W p l e R s m args below meth c H locs cells slots Q (F0 m pc ls (.int (iI a) :: rest)) :=
  lv_if_le hx hb hdg ht (fun h => kt ((iI_le ha (by decide)).mp (by rw [iI_0]; exact h))) (fun h => kf (Int.not_le.mp fun q => h (by rw [← iI_0]; exact (iI_le ha (by decide)).mpr q)))
theorem g_icmp_eq (hx : p.tables.exec = Jvm.exec) (hb : c.code = cc) {a b : Int} {off : Int} {tgt : Nat} (ha : iR a) (hb1 : iR b) (hdg : decode cc pc = .ok (.if_icmp .eq off, 3)) (ht : (pc : Int) + off = (tgt : Int)) (kt : a = b → W p l e R s m args below meth c H locs cells slots Q (F0 m tgt ls rest)) (kf : a ≠ b → W p l e R s m args below meth c H locs cells slots Q (F0 m (pc + 3) ls rest)) : W p l e R s m args below meth c H locs cells slots Q (F0 m pc ls (.int (iI b) :: .int (iI a) :: rest)) :=
  lv_icmp_eq hx hb hdg ht (fun h => kt ((iI_eq ha hb1).mp h)) (fun h => kf (fun q => h ((iI_eq ha hb1).mpr q)))
theorem g_icmp_ne (hx : p.tables.exec = Jvm.exec) (hb : c.code = cc) {a b : Int} {off : Int} {tgt : Nat} (ha : iR a) (hb1 : iR b) (hdg : decode cc pc = .ok (.if_icmp .ne off, 3)) (ht : (pc : Int) + off = (tgt : Int)) (kt : a ≠ b → W p l e R s m args below meth c H locs cells slots Q (F0 m tgt ls rest)) (kf : a = b → W p l e R s m args below meth c H locs cells slots Q (F0 m (pc + 3) ls rest)) : W p l e R s m args below meth c H locs cells slots Q (F0 m pc ls (.int (iI b) :: .int (iI a) :: rest)) :=
  lv_icmp_ne hx hb hdg ht (fun h => kt (fun q => h ((iI_eq ha hb1).mpr q))) (fun h => kf ((iI_eq ha hb1).mp h))
theorem g_icmp_lt (hx : p.tables.exec = Jvm.exec) (hb : c.code = cc) {a b : Int} {off : Int} {tgt : Nat} (ha : iR a) (hb1 : iR b) (hdg : decode cc pc = .ok (.if_icmp .lt off, 3)) (ht : (pc : Int) + off = (tgt : Int)) (kt : a < b → W p l e R s m args below meth c H locs cells slots Q (F0 m tgt ls rest)) (kf : b ≤ a → W p l e R s m args below meth c H locs cells slots Q (F0 m (pc + 3) ls rest)) : W p l e R s m args below meth c H locs cells slots Q (F0 m pc ls (.int (iI b) :: .int (iI a) :: rest)) :=
  lv_icmp_lt hx hb hdg ht (fun h => kt ((iI_lt ha hb1).mp h)) (fun h => kf (Int.not_lt.mp fun q => h ((iI_lt ha hb1).mpr q)))
theorem g_icmp_ge (hx : p.tables.exec = Jvm.exec) (hb : c.code = cc) {a b : Int} {off : Int} {tgt : Nat} (ha : iR a) (hb1 : iR b) (hdg : decode cc pc = .ok (.if_icmp .ge off, 3)) (ht : (pc : Int) + off = (tgt : Int)) (kt : b ≤ a → W p l e R s m args below meth c H locs cells slots Q (F0 m tgt ls rest)) (kf : a < b → W p l e R s m args below meth c H locs cells slots Q (F0 m (pc + 3) ls rest)) : W p l e R s m args below meth c H locs cells slots Q (F0 m pc ls (.int (iI b) :: .int (iI a) :: rest)) :=
  lv_icmp_ge hx hb hdg ht (fun h => kt ((iI_le hb1 ha).mp h)) (fun h => kf (Int.not_le.mp fun q => h ((iI_le hb1 ha).mpr q)))
theorem g_icmp_gt (hx : p.tables.exec = Jvm.exec) (hb : c.code = cc) {a b : Int} {off : Int} {tgt : Nat} (ha : iR a) (hb1 : iR b) (hdg : decode cc pc = .ok (.if_icmp .gt off, 3)) (ht : (pc : Int) + off = (tgt : Int)) (kt : b < a → W p l e R s m args below meth c H locs cells slots Q (F0 m tgt ls rest)) (kf : a ≤ b → W p l e R s m args below meth c H locs cells slots Q (F0 m (pc + 3) ls rest)) : W p l e R s m args below meth c H locs cells slots Q (F0 m pc ls (.int (iI b) :: .int (iI a) :: rest)) :=
  lv_icmp_gt hx hb hdg ht (fun h => kt ((iI_lt hb1 ha).mp h)) (fun h => kf (Int.not_lt.mp fun q => h ((iI_lt hb1 ha).mpr q)))
theorem g_icmp_le (hx : p.tables.exec = Jvm.exec) (hb : c.code = cc) {a b : Int} {off : Int} {tgt : Nat} (ha : iR a) (hb1 : iR b) (hdg : decode cc pc = .ok (.if_icmp .le off, 3)) (ht : (pc : Int) + off = (tgt : Int)) (kt : a ≤ b → W p l e R s m args below meth c H locs cells slots Q (F0 m tgt ls rest)) (kf : b < a → W p l e R s m args below meth c H locs cells slots Q (F0 m (pc + 3) ls rest)) : W p l e R s m args below meth c H locs cells slots Q (F0 m pc ls (.int (iI b) :: .int (iI a) :: rest)) :=
  lv_icmp_le hx hb hdg ht (fun h => kt ((iI_le ha hb1).mp h)) (fun h => kf (Int.not_le.mp fun q => h ((iI_le ha hb1).mpr q)))
theorem g_iald (hx : p.tables.exec = Jvm.exec) (hb : c.code = cc) (hK : va_K D cl tys s) (hP : va_P D cl ws H) (q0 t0 : Nat) {ar : Nat} {cA : ClassId} {n : Nat} {f : Nat → Int} (ha : ws[q0]? = some (ar, .inl (cA, n, .inl (fun j => iI (f j))))) (ht : tys[t0]? = some (cA, .int)) {a : Int} (h0 : 0 ≤ a) (h1 : a < n) (hn : n < 2147483648) (hdg : decode cc pc = .ok (.iaload, 1)) (k : W p l e R s m args below meth c H locs cells slots Q (F0 m (pc + 1) ls (.int (iI (f a.toNat)) :: rest))) : W p l e R s m args below meth c H locs cells slots Q (F0 m pc ls (.int (iI a) :: .ref ar :: rest)) :=
  va_iald hx hb hK hP q0 t0 ha ht (iI_in h0 h1 hn) hdg (by rw [iI_cl ⟨by omega, by omega⟩]; exact k)
theorem g_iast (hx : p.tables.exec = Jvm.exec) (hb : c.code = cc) (hK : va_K D cl tys s) (hP : va_P D cl ws H) (hD : va_D A ws) (hS : va_S A H0 H locs) (q0 t0 : Nat) {ar : Nat} {cA : ClassId} {n : Nat} {f : Nat → Int} (ha : ws[q0]? = some (ar, .inl (cA, n, .inl (fun j => iI (f j))))) (ht : tys[t0]? = some (cA, .int)) {a v : Int} (h0 : 0 ≤ a) (h1 : a < n) (hn : n < 2147483648) (hdg : decode cc pc = .ok (.iastore, 1))
    (k : ∀ (H1 : Heap) (locs1 : List Loc) (g : Nat → Int), g = uI f a.toNat v → va_P D cl (ws.set q0 (ar, .inl (cA, n, .inl (fun j => iI (g j))))) H1 → va_D A (ws.set q0 (ar, .inl (cA, n, .inl (fun j => iI (g j))))) → va_S A H0 H1 locs1 → W p l e R s m args below meth c H1 locs1 cells slots Q (F0 m (pc + 1) ls rest)) : W p l e R s m args below meth c H locs cells slots Q (F0 m pc ls (.int (iI v) :: .int (iI a) :: .ref ar :: rest)) :=
  va_iast hx hb hK hP hD hS q0 t0 ha ht (iI_in h0 h1 hn) hdg (fun H1 locs1 hP hD hS => k H1 locs1 _ rfl (by rw [iI_upd ⟨by omega, by omega⟩] at hP; exact hP) (by rw [iI_upd ⟨by omega, by omega⟩] at hD; exact hD) hS)
end G2
section G2In
variable {l : Launch} {D : va_G} {K : Nat → ClassId} {y : MethodName} {ws ws' : List Cond} {rm : Room} {av : List Value} {wc : va_W} {mc ms maxL : Nat} {cc : ByteArray} {ret : Option FieldType} {S : Type} {w1 : S → va_W}
/-- what holds in a body -/
abbrev g_B (D : va_G) (K : Nat → ClassId) (y : MethodName) (ws : List Cond) (cc : ByteArray) (maxL : Nat) (ret : Option FieldType) (ag : Array Value) (p : Program) (s : State) (m : MethodId) (meth : Method) (c : Code) : Prop :=
  p.tables.exec = Jvm.exec ∧ c.code = cc ∧ meth.sig.returnType = ret ∧ c.maxLocals = maxL ∧ (∀ w ∈ ws, w.before ag s = true) ∧ s.vm.findClass y.cls = some m.cls ∧ meth.locks = false ∧ meth.name = y.name ∧ fn_KK D K s
theorem g_inI {post : Int32 → S → Prop} (hy : plainName y.cls = true) (hw : ws = Cond.code y cc maxL ret :: ws') (hav : (lg_sl av).length ≤ maxL)
    (body : ∀ (p : Program) (e : Env) (s : State) (m : MethodId) (below : List Frame) (meth : Method) (c : Code) (A : Nat → Prop) (ls : Array Slot) (ag : Array Value) (Q : State → Prop), g_B D K y ws cc maxL ret ag p s m meth c → (∀ q, s.heap.size ≤ q → A q) → va_P D vwCl wc s.heap → va_D A wc → va_S A s.heap s.heap [] → lv_has ls maxL (lv_args 0 av) → Q = MQ below (va_Qi post (fun u t => va_P D vwCl (w1 u) t.heap ∧ va_D A (w1 u)) A) ag s mc ms A →
      W p l e rm s m ag below meth c s.heap [] 0 0 Q (F0 m 0 ls [])) :
    fn_CI l D K y ws rm av wc post w1 mc ms := by
  intro sz
  refine Met.ofW (cc := cc) (maxL := maxL) (ret := ret) hy hw ?_
  intro p e s m args below meth c s₁ B hml hv
  obtain ⟨rfl, hsz, hP, hK, hD0⟩ := hv
  subst hsz
  rw [lg_entry_eq]
  exact body p e s m below meth c _ _ _ _ ⟨B.exec, B.bytes, B.returns, hml, atoms_spec (ws := ws) B.pre, findClass_of_methodNamed B.named, B.notSynchronized, (name_of_methodNamed B.named B.method).1, hK⟩ (fun q h => Or.inr h) hP (hD0.self (sz := s.heap.size)) va_S.rf (lv_entry av hav) rfl
theorem g_inV {post : S → Prop} (hy : plainName y.cls = true) (hw : ws = Cond.code y cc maxL ret :: ws') (hav : (lg_sl av).length ≤ maxL)
    (body : ∀ (p : Program) (e : Env) (s : State) (m : MethodId) (below : List Frame) (meth : Method) (c : Code) (A : Nat → Prop) (ls : Array Slot) (ag : Array Value) (Q : State → Prop), g_B D K y ws cc maxL ret ag p s m meth c → (∀ q, s.heap.size ≤ q → A q) → va_P D vwCl wc s.heap → va_D A wc → va_S A s.heap s.heap [] → lv_has ls maxL (lv_args 0 av) → Q = MQ below (va_Qv post (fun u t => va_P D vwCl (w1 u) t.heap ∧ va_D A (w1 u)) A) ag s mc ms A →
      W p l e rm s m ag below meth c s.heap [] 0 0 Q (F0 m 0 ls [])) :
    fn_CV l D K y ws rm av wc post w1 mc ms := by
  intro sz
  refine Met.ofW (cc := cc) (maxL := maxL) (ret := ret) hy hw ?_
  intro p e s m args below meth c s₁ B hml hv
  obtain ⟨rfl, hsz, hP, hK, hD0⟩ := hv
  subst hsz
  rw [lg_entry_eq]
  exact body p e s m below meth c _ _ _ _ ⟨B.exec, B.bytes, B.returns, hml, atoms_spec (ws := ws) B.pre, findClass_of_methodNamed B.named, B.notSynchronized, (name_of_methodNamed B.named B.method).1, hK⟩ (fun q h => Or.inr h) hP (hD0.self (sz := s.heap.size)) va_S.rf (lv_entry av hav) rfl
end G2In
/-! more rows: bits, longs, bytes, booleans, copies -/
theorem iI_n0 {a : Int} (h : iR a) (h0 : a ≠ 0) : ¬ iI a = 0 := fun q => h0 ((iI_eq h (by decide)).mp (q.trans iI_0.symm))
theorem lI_n0 {a : Int} (h : lR a) (h0 : a ≠ 0) : ¬ lI a = 0 := fun q => h0 (by
  have e := congrArg Int64.toInt q
  rw [lI_toInt h] at e
  exact e)
theorem iI_z {v : Int} (h : 0 ≤ v ∧ v ≤ 1) : v = 0 ∨ v = 1 := by omega
theorem iI_nz {v : Int} (h : 0 ≤ v ∧ v ≤ 1) : narrow .boolean (.int (iI v)) = .int (iI v) := by
  rcases iI_z h with rfl | rfl <;> decide
theorem iI_fz {v : Int} (h : 0 ≤ v ∧ v ≤ 1) : fits .boolean (.int (iI v)) = true := by
  rcases iI_z h with rfl | rfl <;> decide
theorem iI_nat {n : Nat} (h : n < 2147483648) : nI n = iI n := by
  apply Int32.toInt_inj.mp
  rw [nI_toInt (by omega), iI_toInt ⟨by omega, by omega⟩]
theorem iI_bv {a : Int} (h0 : 0 ≤ a) (h1 : a < 2147483648) : (iI a).toBitVec.toNat = a.toNat := by
  have e : iI a = nI a.toNat := by rw [iI_nat (by omega)]; congr 1; omega
  rw [e, pk_tn (by omega)]
theorem iI_back {x : Int32} {n : Nat} (h : x.toBitVec.toNat = n) (hn : n < 2147483648) : x = iI n := by
  rw [← iI_nat hn]
  apply Int32.toBitVec.inj
  apply BitVec.eq_of_toNat_eq
  rw [h, pk_tn (by omega)]
/-- and with what isn't negative -/
theorem iI_and (a b : Int) (hb : 0 ≤ b ∧ b < 2147483648) : ∃ w : Int, iI a &&& iI b = iI w ∧ (0 ≤ w ∧ w ≤ b) := by
  have e : (iI a &&& iI b).toBitVec.toNat = (iI a).toBitVec.toNat &&& b.toNat := by
    rw [← iI_bv hb.1 hb.2]; rfl
  have hle : (iI a).toBitVec.toNat &&& b.toNat ≤ b.toNat := Nat.and_le_right
  exact ⟨_, iI_back e (by omega), by omega, by omega⟩
theorem iI_and2 (a b : Int) (ha : 0 ≤ a ∧ a < 2147483648) : ∃ w : Int, iI a &&& iI b = iI w ∧ (0 ≤ w ∧ w ≤ a) := by
  have e : (iI a &&& iI b).toBitVec.toNat = a.toNat &&& (iI b).toBitVec.toNat := by
    rw [← iI_bv ha.1 ha.2]; rfl
  have hle : a.toNat &&& (iI b).toBitVec.toNat ≤ a.toNat := Nat.and_le_left
  exact ⟨_, iI_back e (by omega), by omega, by omega⟩
theorem iI_or (k : Nat) (a b : Int) (ha : 0 ≤ a ∧ a < 2 ^ k) (hb : 0 ≤ b ∧ b < 2 ^ k) (hk : k ≤ 30) : ∃ w : Int, iI a ||| iI b = iI w ∧ (0 ≤ w ∧ w < 2 ^ k ∧ a ≤ w ∧ b ≤ w) := by
  have hp : (2 : Nat) ^ k ≤ 2 ^ 30 := Nat.pow_le_pow_right (by decide) hk
  have hc : ((2 ^ k : Nat) : Int) = (2 : Int) ^ k := by simp
  have h30 : (2 : Nat) ^ 30 = 1073741824 := by decide
  have e : (iI a ||| iI b).toBitVec.toNat = a.toNat ||| b.toNat := by
    rw [← iI_bv ha.1 (by omega), ← iI_bv hb.1 (by omega)]; rfl
  have h1 : a.toNat ||| b.toNat < 2 ^ k := Nat.or_lt_two_pow (by omega) (by omega)
  have h2 : a.toNat ≤ a.toNat ||| b.toNat := Nat.left_le_or
  have h3 : b.toNat ≤ a.toNat ||| b.toNat := Nat.right_le_or
  exact ⟨_, iI_back e (by omega), by omega, by omega, by omega, by omega⟩
/-- contents copied -/
def cI (f g : Nat → Int) (a b n : Nat) : Nat → Int := va_cpy f g a b n
theorem cI_all {f g : Nat → Int} {a b n : Nat} {lo hi : Int} (h : ∀ j, lo ≤ f j ∧ f j ≤ hi) (h2 : ∀ j, lo ≤ g j ∧ g j ≤ hi) : ∀ j, lo ≤ cI f g a b n j ∧ cI f g a b n j ≤ hi := by
  intro j
  unfold cI va_cpy
  split
  · exact h _
  · exact h2 _
theorem iI_cpy {f g : Nat → Int} {a b n : Nat} : va_cpy (fun j => iI (f j)) (fun j => iI (g j)) a b n = fun j => iI (cI f g a b n j) := by
  funext j
  unfold cI va_cpy
  split <;> rfl
