/-! bits cleared and counted; what is read by sets of places -/
theorem bt_isBit {p k w2 w4 r : Int} (h2 : 0 ≤ w2 ∧ w2 ≤ p ∧ w2 = ((p.toNat / 2 ^ k.toNat : Nat) : Int)) (h4 : 0 ≤ w4 ∧ w4 ≤ 1 ∧ w4 = w2 % 2) (hr : (r = 1 ∧ w4 = 1) ∨ (r = 0 ∧ w4 ≠ 1)) : r = 1 ↔ p.toNat.testBit k.toNat = true := by
  rw [Nat.testBit_eq_decide_div_mod_eq, decide_eq_true_iff]
  have e := h2.2.2
  have e4 := h4.2.2
  generalize p.toNat / 2 ^ k.toNat = z at e ⊢
  omega
def clr (s k : Int) : Int := (iI s &&& iI (-1 - (2 : Int) ^ k.toNat)).toInt
theorem clr_of {s k w x y : Int} (e : iI s &&& iI x = iI w) (hw : 0 ≤ w ∧ w ≤ s) (hs : s < 2147483648) (hx : x = -1 - y) (hy : y = (2 : Int) ^ k.toNat) : w = clr s k := by
  unfold clr
  rw [← hy, ← hx, e, iI_toInt ⟨by omega, by omega⟩]
/-- how many of eight -/
def pc8 (s : Int) : Int := (if s.toNat.testBit 0 then 1 else 0) + (if s.toNat.testBit 1 then 1 else 0) + (if s.toNat.testBit 2 then 1 else 0) + (if s.toNat.testBit 3 then 1 else 0) + (if s.toNat.testBit 4 then 1 else 0) + (if s.toNat.testBit 5 then 1 else 0) + (if s.toNat.testBit 6 then 1 else 0) + (if s.toNat.testBit 7 then 1 else 0)
theorem clr_all : ∀ s : Nat, s < 256 → ∀ k : Nat, k < 8 → s.testBit k = true → 0 ≤ clr (s : Int) (k : Int) ∧ clr (s : Int) (k : Int) < (s : Int) ∧ pc8 (clr (s : Int) (k : Int)) + 1 = pc8 (s : Int) := by decide +kernel
theorem clr_lt {s k : Int} (h0 : 0 ≤ s) (hs : s < 256) (k0 : 0 ≤ k) (hk : k < 8) (hb : s.toNat.testBit k.toNat = true) : 0 ≤ clr s k ∧ clr s k < s ∧ pc8 (clr s k) + 1 = pc8 s := by
  have h := clr_all s.toNat (by omega) k.toNat (by omega) hb
  have e1 : ((s.toNat : Nat) : Int) = s := by omega
  have e2 : ((k.toNat : Nat) : Int) = k := by omega
  rw [e1, e2] at h
  exact h
theorem pc8_full : ∀ n : Nat, n ≤ 8 → pc8 ((2 : Int) ^ n - 1) = (n : Int) := by decide +kernel
theorem pc8_nz : ∀ s : Nat, s < 256 → pc8 ((s : Nat) : Int) ≠ 0 → s ≠ 0 := by decide +kernel
theorem no_bit : ∀ n : Nat, n ≤ 8 → ∀ s : Nat, s < 2 ^ n → s ≠ 0 → ∃ k, k < n ∧ s.testBit k = true := by
  intro n hn s hs h0
  obtain ⟨k, hk⟩ := Nat.exists_testBit_of_ne_zero h0
  refine ⟨k, ?_, hk⟩
  rcases Nat.lt_or_ge k n with q | q
  · exact q
  · have h1 : s < 2 ^ k := Nat.lt_of_lt_of_le hs (Nat.pow_le_pow_right (by decide) q)
    rw [Nat.testBit_lt_two_pow h1] at hk
    exact absurd hk (by decide)
theorem all_stepI {P : Int → Prop} {x : Int} (h : ∀ j : Int, 0 ≤ j → j < x → P j) (hn : P x) : ∀ j : Int, 0 ≤ j → j < x + 1 → P j := by
  intro j h0 hj
  rcases (show j < x ∨ j = x by omega) with q | q
  · exact h j h0 q
  · subst q; exact hn
/-- by set s, from place i: what is read is the least over the next place -/
def RDI (bw rd : Nat → Int) (n s i : Int) : Prop := rd (9 * s + i).toNat ≤ 49 * s ∧ (s ≠ 0 → ∃ k : Int, 0 ≤ k ∧ k < n ∧ s.toNat.testBit k.toNat = true ∧ rd (9 * s + i).toNat = bw (9 * i + k).toNat + rd (9 * clr s k + k).toNat)
def RDS (bw rd : Nat → Int) (n s : Int) : Prop := ∀ x i : Int, 0 ≤ x → x < s → (0 ≤ i ∧ i < n ∨ i = 8) → RDI bw rd n x i
def RDP (bw rd : Nat → Int) (n s j : Int) : Prop := ∀ i : Int, 0 ≤ i → i < j → (i < n ∨ i = 8) → RDI bw rd n s i
theorem RDI_set {bw rd : Nat → Int} {n x i s j v : Int} (H : RDI bw rd n x i) (hn : n ≤ 8) (hx : 0 ≤ x ∧ x < 256) (hi : 0 ≤ i ∧ i ≤ 8) (hj : 0 ≤ j ∧ j ≤ 8) (hs : x < s ∨ (x = s ∧ i < j)) : RDI bw (uI rd (9 * s + j).toNat v) n x i := by
  have e : ∀ y k : Int, 0 ≤ y → y < s ∨ (y = s ∧ k < j) → 0 ≤ k → k ≤ 8 → uI rd (9 * s + j).toNat v (9 * y + k).toNat = rd (9 * y + k).toNat := fun y k h0 h1 h2 h3 => uI_n (by omega)
  obtain ⟨h1, h2⟩ := H
  refine ⟨by rw [e x i hx.1 hs hi.1 hi.2]; exact h1, fun h0 => ?_⟩
  obtain ⟨k, k0, kn, kb, ke⟩ := h2 h0
  clear h2
  have hc := clr_lt hx.1 hx.2 k0 (by omega) kb
  have hc2 : clr x k < s := by omega
  exact ⟨k, k0, kn, kb, by rw [e x i hx.1 hs hi.1 hi.2, e (clr x k) k hc.1 (Or.inl hc2) k0 (by omega)]; exact ke⟩
theorem RDS_set {bw rd : Nat → Int} {n s j v : Int} (H : RDS bw rd n s) (hn : n ≤ 8) (hs : s < 256) (hj : 0 ≤ j ∧ j ≤ 8) : RDS bw (uI rd (9 * s + j).toNat v) n s := fun x i h0 hx hi => RDI_set (H x i h0 hx hi) hn (by omega) (by omega) hj (by omega)
theorem RDP_set {bw rd : Nat → Int} {n s j v : Int} (H : RDP bw rd n s j) (hn : n ≤ 8) (h0 : 0 ≤ s) (hs : s < 256) (hj : 0 ≤ j ∧ j ≤ 8) : RDP bw (uI rd (9 * s + j).toNat v) n s j := fun i hi h1 h2 => RDI_set (H i hi h1 h2) hn (by omega) (by omega) hj (by omega)
/-- while the next places are gone through -/
def RDC (bw rd : Nat → Int) (n s i q : Int) : Prop := (s = 0 ∧ rd (9 * s + i).toNat = 0) ∨ (s ≠ 0 ∧ ((rd (9 * s + i).toNat = 100000 ∧ ∀ k : Int, 0 ≤ k → k < q → s.toNat.testBit k.toNat = false) ∨ (rd (9 * s + i).toNat ≤ 49 * s ∧ ∃ k : Int, 0 ≤ k ∧ k < n ∧ s.toNat.testBit k.toNat = true ∧ rd (9 * s + i).toNat = bw (9 * i + k).toNat + rd (9 * clr s k + k).toNat)))
theorem RDC_0 {bw rd : Nat → Int} {n s i v : Int} (hv : (s = 0 ∧ v = 0) ∨ (s ≠ 0 ∧ v = 100000)) : RDC bw (uI rd (9 * s + i).toNat v) n s i 0 := by
  rcases hv with ⟨h, hv⟩ | ⟨h, hv⟩
  · exact Or.inl ⟨h, by rw [uI_s]; exact hv⟩
  · exact Or.inr ⟨h, Or.inl ⟨by rw [uI_s]; exact hv, fun k h0 hk => by omega⟩⟩
theorem RDC_no {bw rd : Nat → Int} {n s i q : Int} (H : RDC bw rd n s i q) (hb : s.toNat.testBit q.toNat = false) : RDC bw rd n s i (q + 1) := by
  rcases H with h | ⟨h, h2⟩
  · exact Or.inl h
  · refine Or.inr ⟨h, ?_⟩
    rcases h2 with ⟨h3, h4⟩ | h3
    · exact Or.inl ⟨h3, all_stepI h4 hb⟩
    · exact Or.inr h3
theorem RDC_ge {bw rd : Nat → Int} {n s i q : Int} (H : RDC bw rd n s i q) (hs : 0 ≤ s ∧ s < 256) (h9 : rd (9 * s + i).toNat ≤ 49 * s) : RDC bw rd n s i (q + 1) := by
  rcases H with h | ⟨h, h2⟩
  · exact Or.inl h
  · refine Or.inr ⟨h, ?_⟩
    rcases h2 with ⟨h3, h4⟩ | h3
    · omega
    · exact Or.inr h3
theorem RDC_put {bw rd : Nat → Int} {n s i q v : Int} (hn : n ≤ 8) (hs : 0 ≤ s ∧ s < 256) (hi : 0 ≤ i ∧ i ≤ 8) (hq : 0 ≤ q ∧ q < n) (hb : s.toNat.testBit q.toNat = true) (hv : v = bw (9 * i + q).toNat + rd (9 * clr s q + q).toNat) (h9 : v ≤ 49 * s) : RDC bw (uI rd (9 * s + i).toNat v) n s i (q + 1) := by
  have hc := clr_lt hs.1 hs.2 hq.1 (by omega) hb
  have h0 : s ≠ 0 := by
    intro e; subst e; exact absurd hb (by simp)
  refine Or.inr ⟨h0, Or.inr ⟨by rw [uI_s]; exact h9, q, hq.1, hq.2, hb, ?_⟩⟩
  rw [uI_s, uI_n (by omega)]
  exact hv
theorem RDC_end {bw rd : Nat → Int} {n s i q : Int} (H : RDC bw rd n s i q) (hn : 0 ≤ n ∧ n ≤ 8) (hq : n ≤ q) (h0 : 0 ≤ s) (hs : s < 2 ^ n.toNat) : RDI bw rd n s i := by
  rcases H with ⟨h, h2⟩ | ⟨h, ⟨h3, h4⟩ | ⟨h3, h4⟩⟩
  · subst h; exact ⟨by rw [h2]; decide, fun h => absurd rfl h⟩
  · have hc : ((2 ^ n.toNat : Nat) : Int) = (2 : Int) ^ n.toNat := by simp
    obtain ⟨k, hk, hb⟩ := no_bit n.toNat (by omega) s.toNat (by omega) (by omega)
    have := h4 k (by omega) (by omega)
    have e : ((k : Nat) : Int).toNat = k := by omega
    rw [e, hb] at this
    exact absurd this (by decide)
  · exact ⟨h3, fun _ => h4⟩
theorem RDP_next {bw rd : Nat → Int} {n s j : Int} (H : RDP bw rd n s j) (h : j < n ∨ j = 8 → RDI bw rd n s j) : RDP bw rd n s (j + 1) := by
  intro i h0 hi h2
  rcases (show i < j ∨ i = j by omega) with q | q
  · exact H i h0 q h2
  · subst q; exact h h2
theorem RDS_next {bw rd : Nat → Int} {n s j : Int} (H : RDS bw rd n s) (h : RDP bw rd n s j) (hn : n ≤ 8) (hj : 9 ≤ j) : RDS bw rd n (s + 1) := by
  intro x i h0 hx hi
  rcases (show x < s ∨ x = s by omega) with q | q
  · exact H x i h0 q hi
  · subst q; exact h i (by omega) (by omega) (by omega)
theorem RDS_le {bw rd : Nat → Int} {n s t : Int} (H : RDS bw rd n s) (h : t ≤ s) : RDS bw rd n t := fun x i h0 hx => H x i h0 (by omega)
theorem two_pow_le {n : Int} (h0 : 0 ≤ n) (hn : n ≤ 8) : (1 : Int) ≤ 2 ^ n.toNat ∧ (2 : Int) ^ n.toNat ≤ 256 := by
  have h : ∀ k, k ≤ 8 → (1 : Int) ≤ 2 ^ k ∧ (2 : Int) ^ k ≤ 256 := by decide
  exact h n.toNat (by omega)
/-- the order's next place -/
theorem RD_ex {bw rd : Nat → Int} {n s i : Int} (H : RDI bw rd n s i) (h0 : 0 ≤ s) (hs : s < 256) (hp : 1 ≤ pc8 s) : ∃ q : Nat, (0 : Int) ≤ q ∧ (q : Int) < n ∧ s.toNat.testBit q = true ∧ rd (9 * s + i).toNat = bw (9 * i + q).toNat + rd (9 * clr s q + q).toNat := by
  have hz : s ≠ 0 := by
    intro e; subst e; exact absurd hp (by decide)
  obtain ⟨k, k0, kn, kb, ke⟩ := H.2 hz
  refine ⟨k.toNat, by omega, by omega, kb, ?_⟩
  have e : ((k.toNat : Nat) : Int) = k := by omega
  rw [e]; exact ke
/-! orders of books -/
theorem pc8_all : ∀ N : Nat, N ≤ 5 → ∀ m : Nat, m < 2 ^ N → pc8 ((m : Nat) : Int) = (N : Int) → ∀ b : Nat, b < N → m.testBit b = true := by decide +kernel
theorem pc8_add : ∀ m : Nat, m < 32 → ∀ b : Nat, b < 5 → m.testBit b = false → pc8 (((m ||| 2 ^ b : Nat)) : Int) = pc8 ((m : Nat) : Int) + 1 := by decide +kernel
def OM (od : Nat → Int) (met n : Int) : Prop := pc8 met = n ∧ ∀ b : Nat, b < 5 → met.toNat.testBit b = true → ∃ x : Nat, (x : Int) < n ∧ od x = b
theorem OM_0 {od : Nat → Int} : OM od 0 0 := ⟨by decide, fun b _ h => by simp at h⟩
theorem OM_keep {od od' : Nat → Int} {met n : Int} (H : OM od met n) (h : ∀ x : Nat, (x : Int) < n → od' x = od x) : OM od' met n := by
  refine ⟨H.1, fun b hb hm => ?_⟩
  obtain ⟨x, hx, e⟩ := H.2 b hb hm
  exact ⟨x, hx, by rw [h x hx]; exact e⟩
theorem OM_add {od : Nat → Int} {met n b w y : Int} (H : OM od met n) (hn : 0 ≤ n) (hm : 0 ≤ met ∧ met < 32) (hb0 : 0 ≤ b) (hb : b < 5) (hf : ¬ met.toNat.testBit b.toNat = true) (hy : y = 2 ^ b.toNat) (hw : ∀ j : Nat, w.toNat.testBit j = (met.toNat.testBit j || y.toNat.testBit j)) (hw0 : 0 ≤ w) : OM (uI od n.toNat b) w (n + 1) := by
  have ey : y.toNat = 2 ^ b.toNat := by
    have hc : ((2 ^ b.toNat : Nat) : Int) = (2 : Int) ^ b.toNat := by simp
    rw [hy, ← hc]; exact Int.toNat_natCast _
  have ew : w.toNat = met.toNat ||| 2 ^ b.toNat := by
    apply Nat.eq_of_testBit_eq
    intro j
    rw [hw j, ey, Nat.testBit_or]
  constructor
  · have h1 := pc8_add met.toNat (by omega) b.toNat (by omega) (by simpa using hf)
    have e1 : ((met.toNat : Nat) : Int) = met := by omega
    have e2 : (((met.toNat ||| 2 ^ b.toNat : Nat)) : Int) = w := by rw [← ew]; omega
    rw [e1, e2] at h1
    rw [h1, H.1]
  · intro c hc hcb
    rw [hw c, ey] at hcb
    rcases Bool.or_eq_true _ _ ▸ hcb with q | q
    · obtain ⟨x, hx, e⟩ := H.2 c hc q
      exact ⟨x, by omega, by rw [uI_n (by omega)]; exact e⟩
    · rw [Nat.testBit_two_pow] at q
      have e3 : b.toNat = c := of_decide_eq_true q
      exact ⟨n.toNat, by omega, by rw [uI_s]; omega⟩
theorem OM_at {od : Nat → Int} {met n N b : Int} (H : OM od met n) (hN : N = n) (h5 : 0 ≤ N ∧ N ≤ 5) (hm : 0 ≤ met) (hm2 : met < 2 ^ N.toNat) (hb0 : 0 ≤ b) (hb : b < N) : ∃ x : Nat, x < 5 ∧ od x = b := by
  have hc : ((2 ^ N.toNat : Nat) : Int) = (2 : Int) ^ N.toNat := by simp
  have e1 : ((met.toNat : Nat) : Int) = met := by omega
  have h1 := pc8_all N.toNat (by omega) met.toNat (by omega) (by rw [e1, H.1]; omega) b.toNat (by omega)
  obtain ⟨x, hx, e⟩ := H.2 b.toNat (by omega) h1
  exact ⟨x, by omega, by rw [e]; omega⟩
