/-! how a town is laid out by the reference -/
theorem bsum_s {bk : Nat → Int} {x : Int} (hx : 0 ≤ x) : bsum bk 0 (x + 1).toNat = bsum bk 0 x.toNat + bk (2 * x).toNat := by
  have e : (x + 1).toNat = x.toNat + 1 := by omega
  rw [e]
  show bsum bk 0 x.toNat + bk (0 + 2 * x.toNat) = _
  congr 2
  omega
theorem edc_s {ac : Nat → Int} {b x : Int} (hx : 0 ≤ x) : edc ac 0 b (x + 1).toNat = edc ac 0 b x.toNat + (if ac (3 * x).toNat ≠ 1 ∧ ac (3 * x).toNat ≠ 2 ∧ ac (3 * x + 1).toNat = b then 1 else 0) := by
  have e : (x + 1).toNat = x.toNat + 1 := by omega
  have e1 : (3 * x).toNat = 0 + 3 * x.toNat := by omega
  have e2 : (3 * x + 1).toNat = 0 + 3 * x.toNat + 1 := by omega
  rw [e, e1, e2]
  rfl
theorem TI_lt {h bk bo nt ac : Nat → Int} (hb0 : ∀ j : Nat, 0 ≤ bk (2 * j)) (H : TI 0 h bk bo nt ac) {b i : Int} (h0 : 0 ≤ b) (hb : b < h 2) (hi : i < bk (2 * b).toNat) : bsum bk 0 b.toNat + i < h 3 ∧ 0 ≤ bsum bk 0 b.toNat := by
  have hb0' : ∀ j : Nat, 0 ≤ bk (0 + 2 * j) := fun j => by rw [Nat.zero_add]; exact hb0 j
  have m1 : bsum bk 0 (b + 1).toNat ≤ bsum bk 0 (h 2).toNat := bsum_mono hb0' (by omega)
  have m2 := bsum_s (bk := bk) h0
  have m3 : bsum bk 0 0 ≤ bsum bk 0 b.toNat := bsum_mono hb0' (Nat.zero_le _)
  have m4 : bsum bk 0 0 = 0 := rfl
  have H1 : bsum bk 0 (h 2).toNat = h 3 := H.1
  omega
theorem TI_bo {h bk bo nt ac : Nat → Int} (H : TI 0 h bk bo nt ac) {b i : Int} (h0 : 0 ≤ b) (hb : b < h 2) (hi0 : 0 ≤ i) (hi : i < bk (2 * b).toNat) (hs : 0 ≤ bsum bk 0 b.toNat) : bo (bsum bk 0 b.toNat + i).toNat = b := by
  have e1 : bk (10 * 0 + 2 * b.toNat) = bk (2 * b).toNat := by congr 1; omega
  have q := H.2.1 b.toNat i.toNat (show ((b.toNat : Nat) : Int) < h 2 by omega) (by rw [e1]; omega)
  have e2 : 12 * 0 + (bsum bk (10 * 0) b.toNat).toNat + i.toNat = (bsum bk 0 b.toNat + i).toNat := by
    show 0 + (bsum bk 0 b.toNat).toNat + i.toNat = _
    omega
  rw [e2] at q
  rw [q]
  omega
/-- the leaves of book b up to i -/
def LB (P : Int) (lf bo : Nat → Int) (b i : Int) : Prop := ∀ j : Nat, (j : Int) < i → 0 ≤ lf (30 * b.toNat + j) → lf (30 * b.toNat + j) < P ∧ bo (lf (30 * b.toNat + j)).toNat = b
theorem LB_0 {P : Int} {lf bo : Nat → Int} {b : Int} : LB P lf bo b 0 := fun j hj => by omega
theorem LB_set {P : Int} {lf bo : Nat → Int} {b i v : Int} (h : LB P lf bo b i) (hb : 0 ≤ b) (hi : 0 ≤ i) (hv : v < P) (hbo : bo v.toNat = b) : LB P (uI lf (30 * b + i).toNat v) bo b (i + 1) := by
  intro j hj h0
  rcases (show (j : Int) < i ∨ j = i.toNat by omega) with q | q
  · rw [uI_n (by omega)] at h0 ⊢; exact h j q h0
  · rw [uI_e (show 30 * b.toNat + j = (30 * b + i).toNat by omega)]; exact ⟨hv, hbo⟩
theorem LA_0 {P : Int} {lf mn bo : Nat → Int} : LA 0 P lf mn bo := fun b i hb => by omega
theorem LA_leaf {N P : Int} {lf mn bo : Nat → Int} {b i v : Int} (h : LA b P lf mn bo) (hb : 0 ≤ b) (hi : 0 ≤ i ∧ i < 30) (hN : N = b) (hmn : ∀ j, mn j ≤ 30) : LA N P (uI lf (30 * b + i).toNat v) mn bo := by
  subst hN
  intro c j hc hj h0
  have h30 := hmn c
  rw [uI_n (by omega)] at h0 ⊢
  exact h c j hc hj h0
theorem LA_mn {P : Int} {lf mn bo : Nat → Int} {b v : Int} (h : LA b P lf mn bo) (hb : 0 ≤ b) : LA b P lf (uI mn b.toNat v) bo := by
  intro c j hc hj h0
  rw [uI_n (by omega)] at hj
  exact h c j hc hj h0
theorem LA_next {P : Int} {lf mn bo : Nat → Int} {b i : Int} (h : LA b P lf mn bo) (h2 : LB P lf bo b i) (hb : 0 ≤ b) (hi : mn b.toNat ≤ i) : LA (b + 1) P lf mn bo := by
  intro c j hc hj h0
  rcases (show (c : Int) < b ∨ c = b.toNat by omega) with q | q
  · exact h c j q hj h0
  · subst q
    have h9 := h2 j (by omega) h0
    exact ⟨h9.1, by rw [h9.2]; omega⟩
theorem LA_le {N M P : Int} {lf mn bo : Nat → Int} (h : LA N P lf mn bo) (hM : M ≤ N) : LA M P lf mn bo := fun b i hb => h b i (by omega)
/-- by ints -/
theorem LA_at {N P : Int} {lf mn bo : Nat → Int} (h : LA N P lf mn bo) {b i : Int} (hb0 : 0 ≤ b) (hb : b < N) (hi0 : 0 ≤ i) (hi : i < mn b.toNat) (h0 : 0 ≤ lf (30 * b + i).toNat) : lf (30 * b + i).toNat < P ∧ bo (lf (30 * b + i).toNat).toNat = b := by
  have e : (30 * b + i).toNat = 30 * b.toNat + i.toNat := by omega
  rw [e] at h0 ⊢
  have q := h b.toNat i.toNat (by omega) (by omega) h0
  exact ⟨q.1, by rw [q.2]; omega⟩
theorem shl_0 {lf : Nat → Int} {o m : Nat} : lf = shl_ lf o m m := by
  funext j
  unfold shl_
  rw [if_neg (by omega)]
theorem shl_step {lf : Nat → Int} {p x : Int} {m : Nat} (hp : 0 ≤ p) (hx : 1 ≤ x) (hm : x ≤ m) : uI (shl_ lf (30 * p.toNat) x.toNat m) (30 * p + x).toNat (shl_ lf (30 * p.toNat) x.toNat m (30 * p + x - 1).toNat) = shl_ lf (30 * p.toNat) (x + (-1)).toNat m := by
  have e : shl_ lf (30 * p.toNat) x.toNat m (30 * p + x - 1).toNat = lf (30 * p + x - 1).toNat := by
    unfold shl_
    rw [if_neg (by omega)]
  rw [e]
  funext j
  by_cases h : j = (30 * p + x).toNat
  · rw [uI_e h]
    unfold shl_
    rw [if_pos (by omega)]
    congr 1
    omega
  · rw [uI_n h]
    unfold shl_
    by_cases q : 30 * p.toNat + x.toNat < j ∧ j ≤ 30 * p.toNat + m
    · rw [if_pos q, if_pos (by omega)]
    · rw [if_neg q, if_neg (by omega)]
theorem LA_putI {N P : Int} {lf mn bo : Nat → Int} {o a m : Int} (h : LA N P lf mn bo) (ho : 0 ≤ o) (ha : 0 ≤ a) (hm : m = mn o.toNat) (h0 : 0 ≤ m) (hm2 : m ≤ 29) (hma : a ≤ m) (hmn : ∀ j, mn j ≤ 30) : LA N P (uI (shl_ lf (30 * o.toNat) a.toNat m.toNat) (30 * o + a).toNat (-1)) (uI mn o.toNat (m + 1)) bo := by
  have e : (30 * o + a).toNat = 30 * o.toNat + a.toNat := by omega
  rw [e]
  exact LA_put h hm h0 hm2 (by omega) hmn
theorem mn_put {mn : Nat → Int} {o w : Int} (ho : 0 ≤ o) (h1 : w ≠ 1) (h2 : w ≠ 2) (b : Nat) : uI mn o.toNat (mn o.toNat + 1) b = mn b + (if w ≠ 1 ∧ w ≠ 2 ∧ o = (b : Int) then 1 else 0) := by
  by_cases e : b = o.toNat
  · rw [uI_e e, if_pos ⟨h1, h2, by omega⟩, e]
  · rw [uI_n e, if_neg (fun q => e (by omega))]; omega
theorem mn_no {mn : Nat → Int} {o w : Int} (h : w = 1 ∨ w = 2) (b : Nat) : mn b = mn b + (if w ≠ 1 ∧ w ≠ 2 ∧ o = (b : Int) then 1 else 0) := by
  rw [if_neg (fun q => by omega)]; omega
/-- what an act finds -/
theorem TI_act {h bk bo nt ac mn : Nat → Int} {k : Int} (H : TI 0 h bk bo nt ac) (h0 : 0 ≤ k) (hk : k < h 7) (h5 : h 2 ≤ 5) (ha : 0 ≤ ac (3 * k + 1).toNat) (hm : ∀ b : Nat, (b : Int) < h 2 → mn b = bk (2 * b) + edc ac 0 b k.toNat) : ac (3 * k).toNat = 2 ∨ (ac (3 * k + 1).toNat ≤ 4 ∧ (ac (3 * k).toNat = 1 ∨ (mn (ac (3 * k + 1).toNat).toNat ≤ 29 ∧ ac (3 * k + 2).toNat ≤ mn (ac (3 * k + 1).toNat).toNat))) := by
  have e0 : (3 * k).toNat = 120 * 0 + 3 * k.toNat := by omega
  have e1 : (3 * k + 1).toNat = 120 * 0 + 3 * k.toNat + 1 := by omega
  have e2 : (3 * k + 2).toNat = 120 * 0 + 3 * k.toNat + 2 := by omega
  have q := H.2.2.2.1 k.toNat (show ((k.toNat : Nat) : Int) < h 7 by omega)
  rw [← e2, ← e1, ← e0] at q
  rcases q with q | ⟨q1, q2⟩
  · exact Or.inl q
  have q1 : ac (3 * k + 1).toNat < h 2 := q1
  by_cases w2 : ac (3 * k).toNat = 2
  · exact Or.inl w2
  right
  refine ⟨by omega, ?_⟩
  by_cases w1 : ac (3 * k).toNat = 1
  · exact Or.inl w1
  right
  rcases q2 with q2 | q2
  · exact absurd q2 w1
  have eb : ((ac (3 * k + 1).toNat).toNat : Int) = ac (3 * k + 1).toNat := by omega
  have m1 := hm (ac (3 * k + 1).toNat).toNat (by omega)
  rw [eb] at m1
  have q2 : ac (3 * k + 2).toNat ≤ bk (10 * 0 + 2 * (ac (3 * k + 1).toNat).toNat) + edc ac 0 (ac (3 * k + 1).toNat) k.toNat := q2
  have ez : 10 * 0 + 2 * (ac (3 * k + 1).toNat).toNat = 2 * (ac (3 * k + 1).toNat).toNat := by omega
  rw [ez] at q2
  have q5 := H.2.2.2.2 (ac (3 * k + 1).toNat).toNat (show (((ac (3 * k + 1).toNat).toNat : Nat) : Int) < h 2 by omega)
  rw [eb, ez] at q5
  have q5 : bk (2 * (ac (3 * k + 1).toNat).toNat) + edc ac 0 (ac (3 * k + 1).toNat) (h 7).toNat ≤ 30 := q5
  have m2 : edc ac 0 (ac (3 * k + 1).toNat) (k + 1).toNat ≤ edc ac 0 (ac (3 * k + 1).toNat) (h 7).toNat := edc_mono (by omega)
  rw [edc_s h0, if_pos ⟨w1, w2, rfl⟩] at m2
  omega
/-- pages and their leaves -/
theorem r1_set {lo mn bo : Nat → Int} {P b i : Int} {k : Nat} (h : ∀ p : Nat, (p : Int) < P → lo p = -1 ∨ (0 ≤ lo p ∧ lo p < mn (bo p).toNat)) (hi : 0 ≤ i) (hb : bo k = b) (him : i < mn b.toNat) : ∀ p : Nat, (p : Int) < P → uI lo k i p = -1 ∨ (0 ≤ uI lo k i p ∧ uI lo k i p < mn (bo p).toNat) := by
  intro p hp
  by_cases e : p = k
  · rw [uI_e e, e, hb]; exact Or.inr ⟨hi, him⟩
  · rw [uI_n e]; exact h p hp
theorem nn_set {lo : Nat → Int} {k j : Nat} {v : Int} (hv : 0 ≤ v) (h : 0 ≤ lo j) : 0 ≤ uI lo k v j := by
  unfold uI
  split
  · exact hv
  · exact h
def VW (lf mn lo : Nat → Int) (b : Int) : Prop := ∀ c i : Nat, (c : Int) < b → (i : Int) < mn c → 0 ≤ lf (30 * c + i) → 0 ≤ lo (lf (30 * c + i)).toNat
def VI (lf lo : Nat → Int) (b i : Int) : Prop := ∀ j : Nat, (j : Int) < i → 0 ≤ lf (30 * b.toNat + j) → 0 ≤ lo (lf (30 * b.toNat + j)).toNat
theorem VW_0 {lf mn lo : Nat → Int} : VW lf mn lo 0 := fun c i hc => by omega
theorem VI_0 {lf lo : Nat → Int} {b : Int} : VI lf lo b 0 := fun j hj => by omega
theorem VW_set {lf mn lo : Nat → Int} {b v : Int} {k : Nat} (h : VW lf mn lo b) (hv : 0 ≤ v) : VW lf mn (uI lo k v) b := fun c i hc hi h0 => nn_set hv (h c i hc hi h0)
theorem VI_set {lf lo : Nat → Int} {b i v : Int} (h : VI lf lo b i) (hb : 0 ≤ b) (hi : 0 ≤ i) (hv : 0 ≤ v) : VI lf (uI lo (lf (30 * b + i).toNat).toNat v) b (i + 1) := by
  intro j hj h0
  rcases (show (j : Int) < i ∨ j = i.toNat by omega) with q | q
  · exact nn_set hv (h j q h0)
  · have e : 30 * b.toNat + j = (30 * b + i).toNat := by omega
    rw [e, uI_s]; exact hv
theorem VI_skip {lf lo : Nat → Int} {b i : Int} (h : VI lf lo b i) (hb : 0 ≤ b) (hi : 0 ≤ i) (hn : lf (30 * b + i).toNat < 0) : VI lf lo b (i + 1) := by
  intro j hj h0
  rcases (show (j : Int) < i ∨ j = i.toNat by omega) with q | q
  · exact h j q h0
  · have e : 30 * b.toNat + j = (30 * b + i).toNat := by omega
    rw [e] at h0; omega
theorem VW_next {lf mn lo : Nat → Int} {b i : Int} (h : VW lf mn lo b) (h2 : VI lf lo b i) (hb : 0 ≤ b) (hi : mn b.toNat ≤ i) : VW lf mn lo (b + 1) := by
  intro c j hc hj h0
  rcases (show (c : Int) < b ∨ c = b.toNat by omega) with q | q
  · exact h c j q hj h0
  · subst q; exact h2 j (by omega) h0
theorem VW_at {lf mn lo : Nat → Int} {N b i : Int} (h : VW lf mn lo N) (hb0 : 0 ≤ b) (hb : b < N) (hi0 : 0 ≤ i) (hi : i < mn b.toNat) (h0 : 0 ≤ lf (30 * b + i).toNat) : 0 ≤ lo (lf (30 * b + i).toNat).toNat := by
  have e : (30 * b + i).toNat = 30 * b.toNat + i.toNat := by omega
  rw [e] at h0 ⊢
  exact h b.toNat i.toNat (by omega) (by omega) h0
def LD (P n : Int) (ld lo : Nat → Int) : Prop := ∀ j : Nat, (j : Int) < n → ld j = -1 ∨ (0 ≤ ld j ∧ ld j < P ∧ 0 ≤ lo (ld j).toNat)
theorem LD_0 {P : Int} {ld lo : Nat → Int} : LD P 0 ld lo := fun j hj => by omega
theorem LD_set {P n v : Int} {ld lo : Nat → Int} (h : LD P n ld lo) (hn : 0 ≤ n) (hv : v = -1 ∨ (0 ≤ v ∧ v < P ∧ 0 ≤ lo v.toNat)) : LD P (n + 1) (uI ld n.toNat v) lo := by
  intro j hj
  rcases (show (j : Int) < n ∨ j = n.toNat by omega) with q | q
  · rw [uI_n (by omega)]; exact h j q
  · rw [uI_e q]; exact hv
/-- what the notes of a page lead to -/
def OU (P : Int) (ou lo : Nat → Int) : Prop := ∀ p k : Nat, (p : Int) < P → bt (ou p) k → (k : Int) < P ∧ 0 ≤ lo k
theorem OU_0 {P : Int} {ou lo : Nat → Int} (h : ∀ p : Nat, (p : Int) < P → ou p = 0) : OU P ou lo := by
  intro p k hp hb
  rw [h p hp] at hb
  simp [bt] at hb
theorem OU_set {P v w x : Int} {ou lo : Nat → Int} {q : Nat} (h : OU P ou lo) (hq : (q : Int) < P) (hv : 0 ≤ v ∧ v < P ∧ 0 ≤ lo v.toNat) (hw : w = 2 ^ v.toNat) (hx : ∀ j : Nat, x.toNat.testBit j = ((ou q).toNat.testBit j || w.toNat.testBit j)) : OU P (uI ou q x) lo := by
  intro p k hp hb
  by_cases e : p = q
  · rw [uI_e e] at hb
    have hb : x.toNat.testBit k = true := hb
    rw [hx k] at hb
    rcases Bool.or_eq_true _ _ ▸ hb with h1 | h1
    · exact h q k hq h1
    · have e2 : w.toNat = 2 ^ v.toNat := by
        rw [hw]
        have : ((2 ^ v.toNat : Nat) : Int) = (2 : Int) ^ v.toNat := by simp
        rw [← this]; exact Int.toNat_natCast _
      rw [e2, Nat.testBit_two_pow] at h1
      have e3 : v.toNat = k := of_decide_eq_true h1
      subst e3
      exact ⟨by omega, hv.2.2⟩
  · rw [uI_n e] at hb; exact h p k hp hb
/-- all together -/
def LI (h bo lf mn ld lo ou : Nat → Int) : Prop := LA (h 2) (h 3) lf mn bo ∧ (∀ p : Nat, (p : Int) < h 3 → lo p = -1 ∨ (0 ≤ lo p ∧ lo p < mn (bo p).toNat)) ∧ LD (h 3) (h 4) ld lo ∧ OU (h 3) ou lo
