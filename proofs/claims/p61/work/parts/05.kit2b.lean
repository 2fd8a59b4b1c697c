/-! more rows: bits, longs, bytes, booleans, copies -/
theorem iI_n0 {a : Int} (h : iR a) (h0 : a ≠ 0) : ¬ iI a = 0 := fun q => h0 ((iI_eq h (by decide)).mp (q.trans iI_0.symm))
theorem lI_n0 {a : Int} (h : lR a) (h0 : a ≠ 0) : ¬ lI a = 0 := fun q => h0 (by
  have e := congrArg Int64.toInt q
  rw [lI_toInt h] at e
  exact e)
theorem iI_z {v : Int} (h : 0 ≤ v ∧ v ≤ 1) : v = 0 ∨ v = 1 := by omega
theorem iI_nz {v : Int} (h : 0 ≤ v ∧ v ≤ 1) : narrow .boolean (.int (iI v)) = .int (iI v) := by
  rcases iI_z h with rfl | rfl <;> decide
theorem iI_fz {v : Int} (h : 0 ≤ v ∧ v ≤ 1) : fits .boolean (.int (iI v)) = true := by
  rcases iI_z h with rfl | rfl <;> decide
theorem iI_nat {n : Nat} (h : n < 2147483648) : nI n = iI n := by
  apply Int32.toInt_inj.mp
  rw [nI_toInt (by omega), iI_toInt ⟨by omega, by omega⟩]
theorem iI_bv {a : Int} (h0 : 0 ≤ a) (h1 : a < 2147483648) : (iI a).toBitVec.toNat = a.toNat := by
  have e : iI a = nI a.toNat := by rw [iI_nat (by omega)]; congr 1; omega
  rw [e, pk_tn (by omega)]
theorem iI_back {x : Int32} {n : Nat} (h : x.toBitVec.toNat = n) (hn : n < 2147483648) : x = iI n := by
  rw [← iI_nat hn]
  apply Int32.toBitVec.inj
  apply BitVec.eq_of_toNat_eq
  rw [h, pk_tn (by omega)]
/-- and with what isn't negative -/
theorem iI_and (a b : Int) (hb : 0 ≤ b ∧ b < 2147483648) : ∃ w : Int, iI a &&& iI b = iI w ∧ (0 ≤ w ∧ w ≤ b) := by
  have e : (iI a &&& iI b).toBitVec.toNat = (iI a).toBitVec.toNat &&& b.toNat := by
    rw [← iI_bv hb.1 hb.2]; rfl
  have hle : (iI a).toBitVec.toNat &&& b.toNat ≤ b.toNat := Nat.and_le_right
  exact ⟨_, iI_back e (by omega), by omega, by omega⟩
theorem iI_and2 (a b : Int) (ha : 0 ≤ a ∧ a < 2147483648) : ∃ w : Int, iI a &&& iI b = iI w ∧ (0 ≤ w ∧ w ≤ a) := by
  have e : (iI a &&& iI b).toBitVec.toNat = a.toNat &&& (iI b).toBitVec.toNat := by
    rw [← iI_bv ha.1 ha.2]; rfl
  have hle : a.toNat &&& (iI b).toBitVec.toNat ≤ a.toNat := Nat.and_le_left
  exact ⟨_, iI_back e (by omega), by omega, by omega⟩
theorem iI_or (k : Nat) (a b : Int) (ha : 0 ≤ a ∧ a < 2 ^ k) (hb : 0 ≤ b ∧ b < 2 ^ k) (hk : k ≤ 30) : ∃ w : Int, iI a ||| iI b = iI w ∧ (0 ≤ w ∧ w < 2 ^ k ∧ a ≤ w ∧ b ≤ w) := by
  have hp : (2 : Nat) ^ k ≤ 2 ^ 30 := Nat.pow_le_pow_right (by decide) hk
  have hc : ((2 ^ k : Nat) : Int) = (2 : Int) ^ k := by simp
  have h30 : (2 : Nat) ^ 30 = 1073741824 := by decide
  have e : (iI a ||| iI b).toBitVec.toNat = a.toNat ||| b.toNat := by
    rw [← iI_bv ha.1 (by omega), ← iI_bv hb.1 (by omega)]; rfl
  have h1 : a.toNat ||| b.toNat < 2 ^ k := Nat.or_lt_two_pow (by omega) (by omega)
  have h2 : a.toNat ≤ a.toNat ||| b.toNat := Nat.left_le_or
  have h3 : b.toNat ≤ a.toNat ||| b.toNat := Nat.right_le_or
  exact ⟨_, iI_back e (by omega), by omega, by omega, by omega, by omega⟩
/-- contents copied -/
def cI (f g : Nat → Int) (a b n : Nat) : Nat → Int := va_cpy f g a b n
theorem cI_all {f g : Nat → Int} {a b n : Nat} {lo hi : Int} (h : ∀ j, lo ≤ f j ∧ f j ≤ hi) (h2 : ∀ j, lo ≤ g j ∧ g j ≤ hi) : ∀ j, lo ≤ cI f g a b n j ∧ cI f g a b n j ≤ hi := by
  intro j
  unfold cI va_cpy
  split
  · exact h _
  · exact h2 _
theorem iI_cpy {f g : Nat → Int} {a b n : Nat} : va_cpy (fun j => iI (f j)) (fun j => iI (g j)) a b n = fun j => iI (cI f g a b n j) := by
  funext j
  unfold cI va_cpy
  split <;> rfl
