/-! turns: what spreads ends, and reaches every leaf -/
def smN (f : Nat → Int) : Nat → Int
  | 0 => 0
  | n + 1 => smN f n + f n
theorem smN_set {f : Nat → Int} {k : Nat} {v : Int} : ∀ n, smN (uI f k v) n = smN f n + (if k < n then v - f k else 0)
  | 0 => rfl
  | n + 1 => by
    have h := smN_set (f := f) (k := k) (v := v) n
    show smN (uI f k v) n + uI f k v n = smN f n + f n + _
    rw [h]
    by_cases e : n = k
    · subst e; rw [uI_s, if_neg (by omega), if_pos (by omega)]; omega
    · rw [uI_n e]
      by_cases q : k < n
      · rw [if_pos q, if_pos (show k < n + 1 by omega)]; omega
      · rw [if_neg q, if_neg (show ¬ k < n + 1 by omega)]; omega
theorem smN_nn {f : Nat → Int} (h : ∀ j : Nat, 0 ≤ f j) : ∀ n, 0 ≤ smN f n
  | 0 => Int.le_refl _
  | n + 1 => by
    have h1 := smN_nn h n
    have h2 := h n
    show 0 ≤ smN f n + f n
    omega
theorem smN_dec {f : Nat → Int} {k v : Int} (h0 : 0 ≤ k) (hk : k < 150) (hv : v < f k.toNat) : smN (uI f k.toNat v) 150 + 1 ≤ smN f 150 := by
  rw [smN_set, if_pos (show k.toNat < 150 by omega)]; omega
theorem uI_mo {f : Nat → Int} {k : Nat} {v : Int} (hv : v < f k) (j : Nat) : uI f k v j ≤ f j := by
  unfold uI
  split
  · next e => subst e; omega
  · exact Int.le_refl _
/-- from leaf i of book b nothing is to be bettered: the doors, the next leaf -/
def RXD (h mn tu : Nat → Int) (b i : Nat) : Prop := (∀ o : Nat, (o : Int) < h 2 → tu (30 * o) ≤ tu (30 * b + i) + h 0) ∧ ((i : Int) + 1 < mn b → tu (30 * b + i + 1) ≤ tu (30 * b + i) + 1)
def RXA (h mn tu : Nat → Int) (b : Int) : Prop := ∀ c i : Nat, (c : Int) < b → (i : Int) < mn c → tu (30 * c + i) < 100000 → RXD h mn tu c i
def RXB (h mn tu : Nat → Int) (b i : Int) : Prop := ∀ j : Nat, (j : Int) < i → tu (30 * b.toNat + j) < 100000 → RXD h mn tu b.toNat j
theorem RXA_0 {h mn tu : Nat → Int} : RXA h mn tu 0 := fun c i hc => by omega
theorem RXB_0 {h mn tu : Nat → Int} {b : Int} : RXB h mn tu b 0 := fun j hj => by omega
theorem RXA_next {h mn tu : Nat → Int} {b i : Int} (H : RXA h mn tu b) (G : RXB h mn tu b i) (hb : 0 ≤ b) (hi : mn b.toNat ≤ i) : RXA h mn tu (b + 1) := by
  intro c j hc hj ht
  rcases (show (c : Int) < b ∨ c = b.toNat by omega) with q | q
  · exact H c j q hj ht
  · subst q; exact G j (by omega) ht
theorem RXB_skip {h mn tu : Nat → Int} {b i : Int} (G : RXB h mn tu b i) (hb : 0 ≤ b) (hi : 0 ≤ i) (ht : 100000 ≤ tu (30 * b + i).toNat) : RXB h mn tu b (i + 1) := by
  intro j hj hq
  rcases (show (j : Int) < i ∨ j = i.toNat by omega) with q | q
  · exact G j q hq
  · have e : 30 * b.toNat + j = (30 * b + i).toNat := by omega
    rw [e] at hq; omega
theorem RXB_step {h mn tu : Nat → Int} {b i : Int} (G : RXB h mn tu b i) (hb : 0 ≤ b) (hi : 0 ≤ i) (hd : ∀ o : Nat, (o : Int) < h 2 → tu (30 * o) ≤ tu (30 * b + i).toNat + h 0) (hn : i + 1 < mn b.toNat → tu (30 * b + i + 1).toNat ≤ tu (30 * b + i).toNat + 1) : RXB h mn tu b (i + 1) := by
  intro j hj hq
  rcases (show (j : Int) < i ∨ j = i.toNat by omega) with q | q
  · exact G j q hq
  · have e : 30 * b.toNat + j = (30 * b + i).toNat := by omega
    have e1 : 30 * b.toNat + j + 1 = (30 * b + i + 1).toNat := by omega
    constructor
    · intro o ho; rw [e]; exact hd o ho
    · intro hj1; rw [e1, e]; exact hn (by omega)
theorem TB_bound {h mn tu : Nat → Int} {b0 i0 : Int} (hb : 0 ≤ b0) (hi : 0 ≤ i0) (hb0 : b0 < h 2) (hi0 : i0 < mn b0.toNat) (h0 : tu (30 * b0 + i0).toNat = 0) (ho : h 0 ≤ 20) (hm : ∀ j, mn j ≤ 30) (H : RXA h mn tu (h 2)) : ∀ b i : Nat, (b : Int) < h 2 → (i : Int) < mn b → tu (30 * b + i) ≤ 49 := by
  have e : 30 * b0.toNat + i0.toNat = (30 * b0 + i0).toNat := by omega
  have hs := H b0.toNat i0.toNat (by omega) (by omega) (by rw [e, h0]; decide)
  have go : ∀ (i b : Nat), (b : Int) < h 2 → (i : Int) < mn b → tu (30 * b + i) ≤ 20 + i := by
    intro i
    induction i with
    | zero =>
      intro b hb1 _
      have h1 := hs.1 b hb1
      rw [e, h0] at h1
      show tu (30 * b) ≤ 20 + ((0 : Nat) : Int)
      omega
    | succ i ih =>
      intro b hb1 hi1
      have h1 := ih b hb1 (by omega)
      have h2 := hm b
      have h3 := (H b i hb1 (by omega) (by omega)).2 (by omega)
      show tu (30 * b + i + 1) ≤ 20 + ((i + 1 : Nat) : Int)
      omega
  intro b i hb1 hi1
  have h1 := go i b hb1 hi1
  have h2 := hm b
  omega
/-- the turns to a page that stands -/
theorem TB_page {h bo mn tu lo : Nat → Int} {p : Int} (hp : 0 ≤ p) (hb : 0 ≤ bo p.toNat ∧ bo p.toNat < h 2) (hl : 0 ≤ lo p.toNat ∧ lo p.toNat < mn (bo p.toNat).toNat) (tb : ∀ b i : Nat, (b : Int) < h 2 → (i : Int) < mn b → tu (30 * b + i) ≤ 49) : tu (30 * bo p.toNat + lo p.toNat).toNat ≤ 49 := by
  have e : (30 * bo p.toNat + lo p.toNat).toNat = 30 * (bo p.toNat).toNat + (lo p.toNat).toNat := by omega
  rw [e]
  exact tb _ _ (by omega) (by omega)
theorem TI_pg {h bk bo nt ac : Nat → Int} (hB : HB h bk nt ac) (H : TI 0 h bk bo nt ac) {p : Int} (h0 : 0 ≤ p) (hp : p < h 3) : 0 ≤ bo p.toNat ∧ bo p.toNat < h 2 := by
  have q := TI_page (t := 0) (p := p.toNat) (fun j => by have := hB.2.1 j; rw [show 10 * 0 + 2 * j = 2 * j by omega]; exact this) H (hB.1 0).1.1 (show ((p.toNat : Nat) : Int) < h 3 by omega)
  have e : 12 * 0 + p.toNat = p.toNat := by omega
  rw [e] at q
  exact q
