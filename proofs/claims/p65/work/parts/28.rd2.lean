def MT (met N : Int) : Prop := 0 ≤ met ∧ met < 2 ^ N.toNat
theorem MT_0 {N : Int} : MT 0 N := by
  refine ⟨Int.le_refl _, ?_⟩
  have hc : ((2 ^ N.toNat : Nat) : Int) = (2 : Int) ^ N.toNat := by simp
  have hp : 1 ≤ 2 ^ N.toNat := Nat.one_le_two_pow
  omega
theorem MT_add {met N b w y : Int} (H : MT met N) (hb0 : 0 ≤ b) (hb : b < N) (hy : y = 2 ^ b.toNat) (hw : ∀ j : Nat, w.toNat.testBit j = (met.toNat.testBit j || y.toNat.testBit j)) (hw0 : 0 ≤ w) : MT w N := by
  have ey : y.toNat = 2 ^ b.toNat := by
    have hc : ((2 ^ b.toNat : Nat) : Int) = (2 : Int) ^ b.toNat := by simp
    rw [hy, ← hc]; exact Int.toNat_natCast _
  have ew : w.toNat = met.toNat ||| 2 ^ b.toNat := by
    apply Nat.eq_of_testBit_eq
    intro j
    rw [hw j, ey, Nat.testBit_or]
  have hc : ((2 ^ N.toNat : Nat) : Int) = (2 : Int) ^ N.toNat := by simp
  have h1 := H.1
  have h2 := H.2
  have h3 : 2 ^ b.toNat < 2 ^ N.toNat := Nat.pow_lt_pow_right (by decide) (by omega)
  have h4 : met.toNat ||| 2 ^ b.toNat < 2 ^ N.toNat := Nat.or_lt_two_pow (by omega) h3
  rw [← ew] at h4
  exact ⟨hw0, by omega⟩
