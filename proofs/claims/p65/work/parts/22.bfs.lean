/-! pages reached: each is queued once, far is the fewest notes -/
abbrev bt (x : Int) (k : Nat) : Prop := x.toNat.testBit k = true
def cn (f : Nat → Int) : Nat → Nat
  | 0 => 0
  | m + 1 => cn f m + (if f m = 100000 then 0 else 1)
theorem cn_le {f : Nat → Int} : ∀ m, cn f m ≤ m
  | 0 => Nat.le_refl _
  | m + 1 => by
    have h := cn_le (f := f) m
    show cn f m + _ ≤ m + 1
    split <;> omega
theorem cn_lt {f : Nat → Int} {k : Nat} (hf : f k = 100000) : ∀ m, k < m → cn f m < m
  | 0, h => absurd h (Nat.not_lt_zero _)
  | m + 1, h => by
    show cn f m + _ < m + 1
    have h1 := cn_le (f := f) m
    by_cases e : k = m
    · subst e; rw [if_pos hf]; omega
    · have h2 := cn_lt hf m (by omega)
      split <;> omega
theorem cn_set {f : Nat → Int} {k : Nat} {v : Int} (hf : f k = 100000) (hv : v ≠ 100000) : ∀ m, cn (uI f k v) m = cn f m + (if k < m then 1 else 0)
  | 0 => rfl
  | m + 1 => by
    have h := cn_set hf hv m
    show cn (uI f k v) m + _ = cn f m + _ + _
    rw [h]
    by_cases e : m = k
    · subst e
      rw [uI_s, if_neg hv, hf, if_pos rfl, if_neg (by omega), if_pos (by omega)]
    · rw [uI_n e]
      by_cases q : k < m
      · rw [if_pos q, if_pos (show k < m + 1 by omega)]; omega
      · rw [if_neg q, if_neg (show ¬ k < m + 1 by omega)]; omega
theorem cn_all {f : Nat → Int} : ∀ m, (∀ j : Nat, j < m → f j = 100000) → cn f m = 0
  | 0, _ => rfl
  | m + 1, h => by
    show cn f m + _ = 0
    rw [cn_all m (fun j hj => h j (by omega)), h m (by omega), if_pos rfl]
def BI (N : Int) (outs far qu : Nat → Int) (p : Nat) (n i k : Int) : Prop :=
  (∀ x : Nat, (x : Int) < n → 0 ≤ qu x ∧ qu x ≤ 11 ∧ 0 ≤ far (qu x).toNat ∧ far (qu x).toNat ≤ x) ∧
  (∀ c : Nat, c < 12 → far c = 100000 ∨ ∃ x : Nat, (x : Int) < n ∧ qu x = c) ∧
  (∀ x y : Nat, x ≤ y → (y : Int) < n → far (qu x).toNat ≤ far (qu y).toNat) ∧
  (i < n → ∀ y : Nat, (y : Int) < n → far (qu y).toNat ≤ far (qu i.toNat).toNat + 1) ∧
  (∀ c : Nat, c < 12 → far c ≠ 100000 → c = p ∨ ∃ j : Nat, j < 12 ∧ far j ≠ 100000 ∧ far c = far j + 1 ∧ bt (outs j) c) ∧
  (∀ x c : Nat, (x : Int) < i → (c : Int) < N → bt (outs (qu x).toNat) c → far c ≠ 100000 ∧ far c ≤ far (qu x).toNat + 1) ∧
  (∀ c : Nat, (c : Int) < k → bt (outs (qu i.toNat).toNat) c → far c ≠ 100000 ∧ far c ≤ far (qu i.toNat).toNat + 1) ∧
  far p = 0 ∧ n = cn far 12 ∧ i ≤ n
def BF (N : Int) (outs far : Nat → Int) (p : Nat) : Prop :=
  far p = 0 ∧
  (∀ c : Nat, c < 12 → far c = 100000 ∨ (0 ≤ far c ∧ far c ≤ 11)) ∧
  (∀ c : Nat, c < 12 → far c ≠ 100000 → c = p ∨ ∃ j : Nat, j < 12 ∧ far j ≠ 100000 ∧ far c = far j + 1 ∧ bt (outs j) c) ∧
  (∀ j c : Nat, j < 12 → (c : Int) < N → far j ≠ 100000 → bt (outs j) c → far c ≠ 100000 ∧ far c ≤ far j + 1)
theorem BI_n {N : Int} {outs far qu : Nat → Int} {p : Nat} {n i k : Int} (h : BI N outs far qu p n i k) : 0 ≤ n ∧ n ≤ 12 := by
  have h1 := h.2.2.2.2.2.2.2.2.1
  have h2 := cn_le (f := far) 12
  omega
theorem BI_lt {N : Int} {outs far qu : Nat → Int} {p : Nat} {n i k : Int} (h : BI N outs far qu p n i k) {c : Nat} (hc : c < 12) (hf : far c = 100000) : n < 12 := by
  have h1 := h.2.2.2.2.2.2.2.2.1
  have h2 := cn_lt hf 12 hc
  omega
theorem BI_init {N : Int} {outs f qu : Nat → Int} {p : Nat} (hp : p < 12) (hf : ∀ j : Nat, j < 12 → f j = 100000) : BI N outs (uI f p 0) (uI qu 0 p) p 1 0 0 := by
  have q0 : uI qu 0 (p : Int) 0 = p := uI_s
  have ep : ((p : Int)).toNat = p := by omega
  have f0 : uI f p 0 p = 0 := uI_s
  have x0 : ∀ x : Nat, (x : Int) < 1 → x = 0 := fun x h => by omega
  refine ⟨?_, ?_, ?_, ?_, ?_, ?_, ?_, f0, ?_, by omega⟩
  · intro x hx
    rw [x0 x hx, q0, ep, f0]
    omega
  · intro c hc
    by_cases e : c = p
    · right; exact ⟨0, by omega, by rw [q0, e]⟩
    · left; rw [uI_n e]; exact hf c hc
  · intro x y hxy hy
    have hy0 := x0 y hy
    have hx0 : x = 0 := by omega
    rw [hy0, hx0]; exact Int.le_refl _
  · intro _ y hy
    rw [x0 y hy]
    show uI f p 0 (uI qu 0 (p : Int) 0).toNat ≤ uI f p 0 (uI qu 0 (p : Int) (0 : Int).toNat).toNat + 1
    have e : (0 : Int).toNat = 0 := rfl
    rw [e]; omega
  · intro c hc hne
    by_cases e : c = p
    · exact Or.inl e
    · rw [uI_n e] at hne; exact absurd (hf c hc) hne
  · intro x c hx; omega
  · intro c hc; omega
  · rw [cn_set (hf p hp) (by decide) 12, cn_all 12 hf, if_pos hp]
    rfl
theorem BI_skip {N : Int} {outs far qu : Nat → Int} {p : Nat} {n i k : Int} (h : BI N outs far qu p n i k) (hk : 0 ≤ k ∧ k < 12) (hi : i < n) (hs : ¬ bt (outs (qu i.toNat).toNat) k.toNat ∨ far k.toNat ≠ 100000) : BI N outs far qu p n i (k + 1) := by
  obtain ⟨hA, hB, hD, hE, hF, hG, hG', hp, hn, hin⟩ := h
  refine ⟨hA, hB, hD, hE, hF, hG, ?_, hp, hn, hin⟩
  intro c hc hb
  rcases (show (c : Int) < k ∨ c = k.toNat by omega) with q | q
  · exact hG' c q hb
  · subst q
    rcases hs with hs | hs
    · exact absurd hb hs
    · refine ⟨hs, ?_⟩
      rcases hB k.toNat (by omega) with r | ⟨y, hy, ey⟩
      · exact absurd r hs
      · have h1 := hE hi y hy
        rw [ey] at h1
        have e : ((k.toNat : Nat) : Int).toNat = k.toNat := by omega
        rw [e] at h1
        exact h1
theorem BI_add {N : Int} {outs far qu : Nat → Int} {p : Nat} {n i k : Int} (h : BI N outs far qu p n i k) (h0 : 0 ≤ i) (hk : 0 ≤ k ∧ k < 12) (hi : i < n) (hkN : k < N) (hb : bt (outs (qu i.toNat).toNat) k.toNat) (hf : far k.toNat = 100000) : BI N outs (uI far k.toNat (far (qu i.toNat).toNat + 1)) (uI qu n.toNat k) p (n + 1) i (k + 1) := by
  have hn12 := BI_lt h (show k.toNat < 12 by omega) hf
  obtain ⟨hA, hB, hD, hE, hF, hG, hG', hp, hn, hin⟩ := h
  have hn0 : 0 ≤ n := by omega
  have ei : (i.toNat : Int) = i := by omega
  have hAi := hA i.toNat (by omega)
  have nek : ∀ x : Nat, (x : Int) < n → (qu x).toNat ≠ k.toNat := by
    intro x hx e
    have h1 := hA x hx
    rw [e, hf] at h1
    omega
  have fq : ∀ x : Nat, (x : Int) < n → uI far k.toNat (far (qu i.toNat).toNat + 1) (qu x).toNat = far (qu x).toNat := fun x hx => uI_n (nek x hx)
  have qx : ∀ x : Nat, (x : Int) < n → uI qu n.toNat k x = qu x := fun x hx => uI_n (by omega)
  have qn : uI qu n.toNat k n.toNat = k := uI_s
  have fk : uI far k.toNat (far (qu i.toNat).toNat + 1) k.toNat = far (qu i.toNat).toNat + 1 := uI_s
  have fo : ∀ c : Nat, far c ≠ 100000 → uI far k.toNat (far (qu i.toNat).toNat + 1) c = far c := fun c hc => uI_n (fun e => hc (by rw [e]; exact hf))
  have fo2 : ∀ c : Nat, c ≠ k.toNat → uI far k.toNat (far (qu i.toNat).toNat + 1) c = far c := fun c hc => uI_n hc
  refine ⟨?_, ?_, ?_, ?_, ?_, ?_, ?_, ?_, ?_, by omega⟩
  · intro x hx
    rcases (show (x : Int) < n ∨ x = n.toNat by omega) with q | q
    · rw [qx x q, fq x q]; exact hA x q
    · subst q; rw [qn, fk]; omega
  · intro c hc
    by_cases e : c = k.toNat
    · right; exact ⟨n.toNat, by omega, by rw [qn, e]; omega⟩
    · rcases hB c hc with r | ⟨x, hx, ex⟩
      · left; rw [fo2 c e]; exact r
      · right; exact ⟨x, by omega, by rw [qx x hx]; exact ex⟩
  · intro x y hxy hy
    rcases (show (y : Int) < n ∨ y = n.toNat by omega) with q | q
    · rw [qx x (by omega), qx y q, fq x (by omega), fq y q]; exact hD x y hxy q
    · rcases (show (x : Int) < n ∨ x = n.toNat by omega) with r | r
      · rw [q, qn, fk, qx x r, fq x r]; exact hE hi x r
      · rw [q, r]; exact Int.le_refl _
  · intro _ y hy
    rw [qx i.toNat (by omega), fq i.toNat (by omega)]
    rcases (show (y : Int) < n ∨ y = n.toNat by omega) with q | q
    · rw [qx y q, fq y q]; exact hE hi y q
    · rw [q, qn, fk]; exact Int.le_refl _
  · intro c hc hne
    by_cases e : c = k.toNat
    · right
      refine ⟨(qu i.toNat).toNat, by omega, ?_, ?_, ?_⟩
      · rw [fq i.toNat (by omega)]; omega
      · rw [e, fk, fq i.toNat (by omega)]
      · rw [e]; exact hb
    · rw [fo2 c e] at hne ⊢
      rcases hF c hc hne with r | ⟨j, hj, hj1, hj2, hj3⟩
      · exact Or.inl r
      · right; exact ⟨j, hj, by rw [fo j hj1]; exact hj1, by rw [fo j hj1]; exact hj2, hj3⟩
  · intro x c hx hc hbt
    rw [qx x (by omega)] at hbt ⊢
    obtain ⟨h1, h2⟩ := hG x c hx hc hbt
    rw [fo c h1, fq x (by omega)]
    exact ⟨h1, h2⟩
  · intro c hc hbt
    rw [qx i.toNat (by omega)] at hbt ⊢
    rw [fq i.toNat (by omega)]
    rcases (show (c : Int) < k ∨ c = k.toNat by omega) with q | q
    · obtain ⟨h1, h2⟩ := hG' c q hbt
      rw [fo c h1]; exact ⟨h1, h2⟩
    · rw [q, fk]; omega
  · rw [fo p (by rw [hp]; decide)]; exact hp
  · rw [cn_set hf (by omega) 12, if_pos (show k.toNat < 12 by omega)]; omega
theorem BI_next {N : Int} {outs far qu : Nat → Int} {p : Nat} {n i k : Int} (h : BI N outs far qu p n i k) (h0 : 0 ≤ i) (hi : i < n) (hk : N ≤ k) : BI N outs far qu p n (i + 1) 0 := by
  obtain ⟨hA, hB, hD, hE, hF, hG, hG', hp, hn, hin⟩ := h
  refine ⟨hA, hB, hD, ?_, hF, ?_, ?_, hp, hn, by omega⟩
  · intro hi2 y hy
    have h1 := hE hi y hy
    have h2 := hD i.toNat (i + 1).toNat (by omega) (by omega)
    omega
  · intro x c hx hc hb
    rcases (show (x : Int) < i ∨ x = i.toNat by omega) with q | q
    · exact hG x c q hc hb
    · subst q; exact hG' c (by omega) hb
  · intro c hc; omega
theorem BI_end {N : Int} {outs far qu : Nat → Int} {p : Nat} {n i k : Int} (h : BI N outs far qu p n i k) (hi : n ≤ i) : BF N outs far p := by
  have hn12 := BI_n h
  obtain ⟨hA, hB, hD, hE, hF, hG, hG', hp, hn, hin⟩ := h
  refine ⟨hp, ?_, hF, ?_⟩
  · intro c hc
    rcases hB c hc with r | ⟨x, hx, ex⟩
    · exact Or.inl r
    · right
      have h1 := hA x hx
      rw [ex] at h1
      have e : ((c : Nat) : Int).toNat = c := by omega
      rw [e] at h1
      omega
  · intro j c hj hc hne hb
    rcases hB j hj with r | ⟨x, hx, ex⟩
    · exact absurd r hne
    · have e : (qu x).toNat = j := by omega
      have h1 := hG x c (by omega) hc (by rw [e]; exact hb)
      rw [e] at h1
      exact h1
/-- a way from a page: the least far of a fact -/
def WO (h outs lo : Nat → Int) (p : Nat) (r : Int) : Prop :=
  (lo p = -1 ∧ r = 100000) ∨ (lo p ≠ -1 ∧ ∃ far : Nat → Int, BF (h 3) outs far p ∧ (∀ c : Nat, (c : Int) < h 3 → bt (h 5) c → r ≤ far c) ∧ (r = 100000 ∨ ∃ c : Nat, (c : Int) < h 3 ∧ bt (h 5) c ∧ far c = r ∧ r ≠ 100000))
/-- distances add up: along a note one comes no farther -/
theorem BF_tri {N : Int} {outs f g : Nat → Int} {p q : Nat} (hN : N ≤ 12) (hp : p < 12) (hq : q < 12) (hf : BF N outs f p) (hg : BF N outs g q) (hqp : g p ≠ 100000) (ho : ∀ j c : Nat, j < 12 → bt (outs j) c → g j ≠ 100000 → (c : Int) < N) : ∀ (m c : Nat), c < 12 → f c = m → f c ≠ 100000 → g c ≠ 100000 ∧ g c ≤ g p + m := by
  intro m
  induction m using Nat.strongRecOn with
  | ind m ih =>
    intro c hc hm hne
    rcases hf.2.2.1 c hc hne with r | ⟨j, hj, hj1, hj2, hj3⟩
    · subst r
      refine ⟨hqp, ?_⟩
      omega
    · have hjb := hf.2.1 j hj
      have h1 := ih (f j).toNat (by omega) j hj (by omega) hj1
      have h2 := hg.2.2.2 j c hj (ho j c hj hj3 h1.1) h1.1 hj3
      refine ⟨h2.1, ?_⟩
      omega
