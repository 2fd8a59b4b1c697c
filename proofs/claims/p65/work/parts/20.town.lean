/-! what a town of the reference keeps: sizes and pages, notes, acts -/
/-- the sizes of the first n books together -/
def bsum (bk : Nat → Int) (o : Nat) : Nat → Int
  | 0 => 0
  | n + 1 => bsum bk o n + bk (o + 2 * n)
/-- how many of the first n acts are editions of book b -/
def edc (ac : Nat → Int) (o : Nat) (b : Int) : Nat → Int
  | 0 => 0
  | n + 1 => edc ac o b n + (if ac (o + 3 * n) ≠ 1 ∧ ac (o + 3 * n) ≠ 2 ∧ ac (o + 3 * n + 1) = b then 1 else 0)
theorem edc_nn {ac : Nat → Int} {o : Nat} {b : Int} : ∀ n, 0 ≤ edc ac o b n
  | 0 => Int.le_refl _
  | n + 1 => by
    have h := edc_nn (ac := ac) (o := o) (b := b) n
    show 0 ≤ edc ac o b n + _
    split <;> omega
theorem edc_mono {ac : Nat → Int} {o : Nat} {b : Int} {n m : Nat} (h : n ≤ m) : edc ac o b n ≤ edc ac o b m := by
  induction m with
  | zero => have e : n = 0 := by omega
            subst e; exact Int.le_refl _
  | succ m ih =>
    rcases (show n ≤ m ∨ n = m + 1 by omega) with q | q
    · have h1 := ih q
      have h2 : edc ac o b m ≤ edc ac o b (m + 1) := by
        show edc ac o b m ≤ edc ac o b m + _
        split <;> omega
      omega
    · subst q; exact Int.le_refl _
theorem bsum_mono {bk : Nat → Int} {o : Nat} (hb : ∀ j : Nat, 0 ≤ bk (o + 2 * j)) {n m : Nat} (h : n ≤ m) : bsum bk o n ≤ bsum bk o m := by
  induction m with
  | zero => have e : n = 0 := by omega
            subst e; exact Int.le_refl _
  | succ m ih =>
    rcases (show n ≤ m ∨ n = m + 1 by omega) with q | q
    · have h1 := ih q
      have h2 := hb m
      show bsum bk o n ≤ bsum bk o m + bk (o + 2 * m)
      omega
    · subst q; exact Int.le_refl _
theorem bsum_cg {bk bk' : Nat → Int} {o o' : Nat} : ∀ n, (∀ j : Nat, j < n → bk (o + 2 * j) = bk' (o' + 2 * j)) → bsum bk o n = bsum bk' o' n
  | 0, _ => rfl
  | n + 1, h => by
    show bsum bk o n + bk (o + 2 * n) = bsum bk' o' n + bk' (o' + 2 * n)
    rw [bsum_cg n (fun j hj => h j (by omega)), h n (by omega)]
theorem edc_cg {ac ac' : Nat → Int} {o o' : Nat} {b : Int} : ∀ n, (∀ j : Nat, j < 3 * n → ac (o + j) = ac' (o' + j)) → edc ac o b n = edc ac' o' b n
  | 0, _ => rfl
  | n + 1, h => by
    have e1 : ac (o + 3 * n) = ac' (o' + 3 * n) := h (3 * n) (by omega)
    have e2 : ac (o + 3 * n + 1) = ac' (o' + 3 * n + 1) := by
      have := h (3 * n + 1) (by omega)
      rw [← Nat.add_assoc, ← Nat.add_assoc] at this
      exact this
    show edc ac o b n + _ = edc ac' o' b n + _
    rw [edc_cg n (fun j hj => h j (by omega)), e1, e2]
/-- town t (0 the one that stands, 1 to 3 the images, 4 the one that is read) -/
def TI (t : Nat) (h bk bo nt ac : Nat → Int) : Prop :=
  bsum bk (10 * t) (h (8 * t + 2)).toNat = h (8 * t + 3) ∧
  (∀ b i : Nat, (b : Int) < h (8 * t + 2) → (i : Int) < bk (10 * t + 2 * b) → bo (12 * t + (bsum bk (10 * t) b).toNat + i) = b) ∧
  (∀ n : Nat, (n : Int) < h (8 * t + 4) → nt (96 * t + 4 * n) < h (8 * t + 3) ∧ nt (96 * t + 4 * n + 1) < h (8 * t + 2)) ∧
  (∀ k : Nat, (k : Int) < h (8 * t + 7) → ac (120 * t + 3 * k) = 2 ∨ (ac (120 * t + 3 * k + 1) < h (8 * t + 2) ∧ (ac (120 * t + 3 * k) = 1 ∨ ac (120 * t + 3 * k + 2) ≤ bk (10 * t + 2 * (ac (120 * t + 3 * k + 1)).toNat) + edc ac (120 * t) (ac (120 * t + 3 * k + 1)) k))) ∧
  (∀ b : Nat, (b : Int) < h (8 * t + 2) → bk (10 * t + 2 * b) + edc ac (120 * t) b (h (8 * t + 7)).toNat ≤ 30)
/-- the four towns that stand -/
def MI (h bk bo nt ac : Nat → Int) : Prop := ∀ t : Nat, t < 4 → TI t h bk bo nt ac
/-- a town is what its rows tell, whichever it is -/
theorem TI_cg {t t' : Nat} {h bk bo nt ac h' bk' bo' nt' ac' : Nat → Int} (hh : ∀ j, j < 8 → h' (8 * t' + j) = h (8 * t + j)) (hb0 : ∀ j : Nat, 0 ≤ bk (10 * t + 2 * j)) (hB : h (8 * t + 2) ≤ 5) (hP : h (8 * t + 3) ≤ 12) (hN : h (8 * t + 4) ≤ 24) (hA : h (8 * t + 7) ≤ 40) (ha0 : ∀ j : Nat, 0 ≤ ac (120 * t + 3 * j + 1))
    (hbk : ∀ j, j < 10 → bk' (10 * t' + j) = bk (10 * t + j)) (hbo : ∀ j, j < 12 → bo' (12 * t' + j) = bo (12 * t + j)) (hnt : ∀ j, j < 96 → nt' (96 * t' + j) = nt (96 * t + j)) (hac : ∀ j, j < 120 → ac' (120 * t' + j) = ac (120 * t + j)) (H : TI t h bk bo nt ac) : TI t' h' bk' bo' nt' ac' := by
  obtain ⟨H1, H2, H3, H4, H5⟩ := H
  have e2 := hh 2 (by omega)
  have e3 := hh 3 (by omega)
  have e4 := hh 4 (by omega)
  have e7 := hh 7 (by omega)
  have es : ∀ n : Nat, n ≤ 5 → bsum bk' (10 * t') n = bsum bk (10 * t) n := fun n hn => bsum_cg n (fun j hj => hbk (2 * j) (by omega))
  have ee : ∀ (b : Int) (n : Nat), n ≤ 40 → edc ac' (120 * t') b n = edc ac (120 * t) b n := fun b n hn => edc_cg n (fun j hj => hac j (by omega))
  refine ⟨?_, ?_, ?_, ?_, ?_⟩
  · rw [e2, e3, es _ (by omega)]; exact H1
  · intro b i hb hi
    rw [e2] at hb
    rw [hbk (2 * b) (by omega)] at hi
    rw [es b (by omega), Nat.add_assoc, hbo]
    · rw [← Nat.add_assoc]; exact H2 b i hb hi
    · have h1 : bsum bk (10 * t) (b + 1) ≤ bsum bk (10 * t) (h (8 * t + 2)).toNat := bsum_mono hb0 (by omega)
      have h2 : bsum bk (10 * t) (b + 1) = bsum bk (10 * t) b + bk (10 * t + 2 * b) := rfl
      have h3 : bsum bk (10 * t) 0 ≤ bsum bk (10 * t) b := bsum_mono hb0 (Nat.zero_le _)
      have h4 : bsum bk (10 * t) 0 = 0 := rfl
      omega
  · intro n hn
    rw [e4] at hn
    rw [e3, e2, hnt (4 * n) (by omega), Nat.add_assoc, hnt (4 * n + 1) (by omega), ← Nat.add_assoc]
    exact H3 n hn
  · intro k hk
    rw [e7] at hk
    have a1 : ac' (120 * t' + 3 * k) = ac (120 * t + 3 * k) := hac (3 * k) (by omega)
    have a2 : ac' (120 * t' + 3 * k + 1) = ac (120 * t + 3 * k + 1) := by
      rw [Nat.add_assoc, hac (3 * k + 1) (by omega), ← Nat.add_assoc]
    have a3 : ac' (120 * t' + 3 * k + 2) = ac (120 * t + 3 * k + 2) := by
      rw [Nat.add_assoc, hac (3 * k + 2) (by omega), ← Nat.add_assoc]
    have hq := ha0 k
    rw [a1, a2, a3, e2, ee _ k (by omega)]
    rcases H4 k hk with q | ⟨q1, q2⟩
    · exact Or.inl q
    · right
      refine ⟨q1, ?_⟩
      rw [hbk (2 * (ac (120 * t + 3 * k + 1)).toNat) (by omega)]
      exact q2
  · intro b hb
    rw [e2] at hb
    rw [hbk (2 * b) (by omega), e7, ee _ _ (by omega)]
    exact H5 b hb
/-- a page that is there is of a book that is there -/
theorem TI_page {t : Nat} {h bk bo nt ac : Nat → Int} (hb0 : ∀ j : Nat, 0 ≤ bk (10 * t + 2 * j)) (H : TI t h bk bo nt ac) (h2 : 0 ≤ h (8 * t + 2)) {p : Nat} (hp : (p : Int) < h (8 * t + 3)) : 0 ≤ bo (12 * t + p) ∧ bo (12 * t + p) < h (8 * t + 2) := by
  have go : ∀ n : Nat, (n : Int) ≤ h (8 * t + 2) → (p : Int) < bsum bk (10 * t) n → 0 ≤ bo (12 * t + p) ∧ bo (12 * t + p) < h (8 * t + 2) := by
    intro n
    induction n with
    | zero => intro _ q; exact absurd q (by show ¬ (p : Int) < 0; omega)
    | succ n ih =>
      intro hn q
      have h3 : bsum bk (10 * t) 0 ≤ bsum bk (10 * t) n := bsum_mono hb0 (Nat.zero_le _)
      have h4 : bsum bk (10 * t) 0 = 0 := rfl
      rcases (show (p : Int) < bsum bk (10 * t) n ∨ bsum bk (10 * t) n ≤ p by omega) with r | r
      · exact ih (by omega) r
      · have q2 : (p : Int) < bsum bk (10 * t) n + bk (10 * t + 2 * n) := q
        have e := H.2.1 n (p - (bsum bk (10 * t) n).toNat) (by omega) (by omega)
        have e2 : 12 * t + (bsum bk (10 * t) n).toNat + (p - (bsum bk (10 * t) n).toNat) = 12 * t + p := by omega
        rw [e2] at e
        omega
  exact go (h (8 * t + 2)).toNat (by omega) (by rw [H.1]; exact hp)
/-- the leaves as they are laid: a page on a leaf is one of the book's -/
def LA (N P : Int) (lf mn bo : Nat → Int) : Prop := ∀ b i : Nat, (b : Int) < N → (i : Int) < mn b → 0 ≤ lf (30 * b + i) → lf (30 * b + i) < P ∧ bo (lf (30 * b + i)).toNat = b
theorem LA_tear {N P : Int} {lf mn bo : Nat → Int} {k : Nat} (h : LA N P lf mn bo) : LA N P (uI lf k (-2)) mn bo := by
  intro b i hb hi h0
  unfold uI at h0 ⊢
  by_cases e : 30 * b + i = k
  · rw [if_pos e] at h0; omega
  · rw [if_neg e] at h0 ⊢; exact h b i hb hi h0
/-- a leaf is put in: those behind move -/
def shl_ (lf : Nat → Int) (o a m : Nat) : Nat → Int := fun j => if o + a < j ∧ j ≤ o + m then lf (j - 1) else lf j
theorem LA_put {N P : Int} {lf mn bo : Nat → Int} {o a : Nat} {m : Int} (h : LA N P lf mn bo) (hm : m = mn o) (h0 : 0 ≤ m) (hm2 : m ≤ 29) (ha : (a : Int) ≤ m) (hmn : ∀ j, mn j ≤ 30) : LA N P (uI (shl_ lf (30 * o) a m.toNat) (30 * o + a) (-1)) (uI mn o (m + 1)) bo := by
  intro b i hb hi q
  by_cases eo : b = o
  · subst eo
    have hi2 : (i : Int) < m + 1 := by
      unfold uI at hi; rw [if_pos rfl] at hi; exact hi
    by_cases ea : i = a
    · subst ea
      unfold uI at q; rw [if_pos rfl] at q; omega
    · have e1 : uI (shl_ lf (30 * b) a m.toNat) (30 * b + a) (-1) (30 * b + i) = shl_ lf (30 * b) a m.toNat (30 * b + i) := uI_n (by omega)
      rw [e1] at q ⊢
      unfold shl_ at q ⊢
      by_cases el : 30 * b + a < 30 * b + i ∧ 30 * b + i ≤ 30 * b + m.toNat
      · rw [if_pos el] at q ⊢
        have e2 : 30 * b + i - 1 = 30 * b + (i - 1) := by omega
        rw [e2] at q ⊢
        exact h b (i - 1) hb (by omega) q
      · rw [if_neg el] at q ⊢
        exact h b i hb (by omega) q
  · have hi2 : (i : Int) < mn b := by
      unfold uI at hi; rw [if_neg eo] at hi; exact hi
    have h30 := hmn b
    have ne : 30 * b + i ≠ 30 * o + a := by omega
    have e1 : uI (shl_ lf (30 * o) a m.toNat) (30 * o + a) (-1) (30 * b + i) = shl_ lf (30 * o) a m.toNat (30 * b + i) := uI_n ne
    rw [e1] at q ⊢
    unfold shl_ at q ⊢
    rw [if_neg (by omega)] at q ⊢
    exact h b i hb hi2 q
