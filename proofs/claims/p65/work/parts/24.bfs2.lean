/-! ways, the first step of one; the rest of what laying out needs -/
theorem TI_note {h bk bo nt ac : Nat → Int} (H : TI 0 h bk bo nt ac) {n : Int} (h0 : 0 ≤ n) (hn : n < h 4) : nt (4 * n).toNat < h 3 ∧ nt (4 * n + 1).toNat < h 2 := by
  have e0 : (4 * n).toNat = 96 * 0 + 4 * n.toNat := by omega
  have e1 : (4 * n + 1).toNat = 96 * 0 + 4 * n.toNat + 1 := by omega
  rw [e0, e1]
  exact H.2.2.1 n.toNat (show ((n.toNat : Nat) : Int) < h 4 by omega)
theorem sy_set {f : Nat → Int} {n v : Int} (h : ∀ j : Nat, (j : Int) < n → f j ≤ 29) (hn : 0 ≤ n) (hv : v ≤ 29) : ∀ j : Nat, (j : Int) < n + 1 → uI f n.toNat v j ≤ 29 := by
  intro j hj
  rcases (show (j : Int) < n ∨ j = n.toNat by omega) with q | q
  · rw [uI_n (by omega)]; exact h j q
  · rw [uI_e q]; exact hv
theorem all_set {f : Nat → Int} {n v : Int} (h : ∀ j : Nat, (j : Int) < n → f j = v) (hn : 0 ≤ n) : ∀ j : Nat, (j : Int) < n + 1 → uI f n.toNat v j = v := by
  intro j hj
  rcases (show (j : Int) < n ∨ j = n.toNat by omega) with q | q
  · rw [uI_n (by omega)]; exact h j q
  · exact uI_e q
theorem VW_le {lf mn lo : Nat → Int} {N M : Int} (h : VW lf mn lo N) (hM : M ≤ N) : VW lf mn lo M := fun c i hc => h c i (by omega)
theorem LD_le {P n m : Int} {ld lo : Nat → Int} (h : LD P n ld lo) (hm : m ≤ n) : LD P m ld lo := fun j hj => h j (by omega)
theorem BI_initI {N : Int} {outs f qu : Nat → Int} {p : Int} (h0 : 0 ≤ p) (hp : p < 12) (hf : ∀ j : Nat, j < 12 → f j = 100000) : BI N outs (uI f p.toNat 0) (uI qu 0 p) p.toNat 1 0 0 := by
  have e : ((p.toNat : Nat) : Int) = p := by omega
  have h := BI_init (N := N) (outs := outs) (f := f) (qu := qu) (p := p.toNat) (by omega) hf
  rw [e] at h
  exact h
/-- the same for what is without some pages: the queue has room -/
def BN (far : Nat → Int) (n : Int) : Prop := n = cn far 12 ∧ ∀ j : Nat, j < 12 → far j < n ∨ (100000 ≤ far j ∧ far j < 100000 + n)
theorem BN_n {far : Nat → Int} {n : Int} (h : BN far n) : 0 ≤ n ∧ n ≤ 12 := by
  have h1 := h.1
  have h2 := cn_le (f := far) 12
  omega
theorem BN_lt {far : Nat → Int} {n : Int} (h : BN far n) {c : Nat} (hc : c < 12) (hf : far c = 100000) : n < 12 := by
  have h1 := h.1
  have h2 := cn_lt hf 12 hc
  omega
theorem BN_init {f : Nat → Int} {p : Int} (h0 : 0 ≤ p) (hp : p < 12) (hf : ∀ j : Nat, j < 12 → f j = 100000) : BN (uI f p.toNat 0) 1 := by
  constructor
  · rw [cn_set (hf p.toNat (by omega)) (by decide) 12, cn_all 12 hf, if_pos (show p.toNat < 12 by omega)]; rfl
  · intro j hj
    by_cases e : j = p.toNat
    · rw [uI_e e]; omega
    · rw [uI_n e, hf j hj]; omega
theorem BN_add {far : Nat → Int} {n k : Int} {q : Nat} (h : BN far n) (hq : q < 12) (hk : 0 ≤ k ∧ k < 12) (hf : far k.toNat = 100000) (h0 : 0 ≤ far q) : BN (uI far k.toNat (far q + 1)) (n + 1) := by
  have hn := BN_lt h (show k.toNat < 12 by omega) hf
  have hb := h.2 q hq
  have hn0 := BN_n h
  constructor
  · rw [cn_set hf (by omega) 12, if_pos (show k.toNat < 12 by omega)]; have := h.1; omega
  · intro j hj
    by_cases e : j = k.toNat
    · rw [uI_e e]; omega
    · rw [uI_n e]; have := h.2 j hj; omega
theorem BF_in {N : Int} {outs f lo : Nat → Int} {p : Nat} (hp : (p : Int) < N) (ho : OU N outs lo) (hf : BF N outs f p) : ∀ (m c : Nat), c < 12 → f c = m → f c ≠ 100000 → (c : Int) < N := by
  intro m
  induction m using Nat.strongRecOn with
  | ind m ih =>
    intro c hc hm hne
    rcases hf.2.2.1 c hc hne with r | ⟨j, hj, hj1, hj2, hj3⟩
    · subst r; exact hp
    · have hjb := hf.2.1 j hj
      have h1 := ih (f j).toNat (by omega) j hj (by omega) hj1
      exact (ho j c h1 hj3).1
theorem BF_ins {N : Int} {outs f lo : Nat → Int} {p : Nat} (hp : (p : Int) < N) (ho : OU N outs lo) (hf : BF N outs f p) {c : Nat} (hc : c < 12) (hne : f c ≠ 100000) : (c : Int) < N := by
  have hb := hf.2.1 c hc
  exact BF_in hp ho hf (f c).toNat c hc (by omega) hne
/-- the first note of a shortest row of notes -/
theorem BF_first {N : Int} {outs f lo : Nat → Int} {p : Nat} (hp : (p : Int) < N) (hp12 : p < 12) (ho : OU N outs lo) (hf : BF N outs f p) : ∀ (m c : Nat), c < 12 → f c = m → f c ≠ 100000 → 1 ≤ m → ∃ q : Nat, bt (outs p) q ∧ ∀ g : Nat → Int, BF N outs g q → g c ≠ 100000 ∧ g c ≤ (m : Int) - 1 := by
  intro m
  induction m using Nat.strongRecOn with
  | ind m ih =>
    intro c hc hm hne h1
    rcases hf.2.2.1 c hc hne with r | ⟨j, hj, hj1, hj2, hj3⟩
    · subst r
      have := hf.1
      omega
    · have hjb := hf.2.1 j hj
      have hjN := BF_ins hp ho hf hj hj1
      by_cases e : f j = 0
      · have ejp : j = p := by
          rcases hf.2.2.1 j hj hj1 with r | ⟨i, hi, hi1, hi2, hi3⟩
          · exact r
          · have := hf.2.1 i hi; omega
        subst ejp
        refine ⟨c, hj3, fun g hg => ?_⟩
        have := hg.1
        omega
      · obtain ⟨q, hq, hg⟩ := ih (f j).toNat (by omega) j hj (by omega) hj1 (by omega)
        refine ⟨q, hq, fun g hgb => ?_⟩
        have h2 := hg g hgb
        have h3 := hgb.2.2.2 j c hj (ho j c hjN hj3).1 h2.1 hj3
        exact ⟨h3.1, by omega⟩
theorem WO_next {h outs lo : Nat → Int} (h3 : h 3 ≤ 12) (ho : OU (h 3) outs lo) {p : Nat} (hp : (p : Int) < h 3) {n : Int} (hw : WO h outs lo p n) (hn : 1 ≤ n) (hf : n ≠ 100000) : ∃ q : Nat, (q : Int) < h 3 ∧ bt (outs p) q ∧ ∀ r : Int, WO h outs lo q r → r = n - 1 := by
  have hp12 : p < 12 := by omega
  rcases hw with ⟨_, e⟩ | ⟨_, f, hb, hmin, hex⟩
  · exact absurd e hf
  rcases hex with e | ⟨c0, hc0, hcb, hcf, _⟩
  · exact absurd e hf
  have hc12 : c0 < 12 := by omega
  obtain ⟨q, hq, hg⟩ := BF_first hp hp12 ho hb n.toNat c0 hc12 (by omega) (by omega) (by omega)
  obtain ⟨hqN, hql⟩ := ho p q hp hq
  have hq12 : q < 12 := by omega
  refine ⟨q, hqN, hq, fun r hr => ?_⟩
  rcases hr with ⟨e, _⟩ | ⟨_, g, hgb, gmin, gex⟩
  · omega
  have h1 := hg g hgb
  have h2 := gmin c0 hc0 hcb
  have hb0 := hb.2.1 c0 hc12
  rcases gex with e | ⟨c1, hc1, hc1b, hc1g, hr9⟩
  · omega
  have hc1_12 : c1 < 12 := by omega
  have hg1 := hgb.2.1 c1 hc1_12
  have hfq := hb.2.2.2 p q hp12 hqN (by rw [hb.1]; decide) hq
  rw [hb.1] at hfq
  have h5 := BF_tri h3 hq12 hp12 hgb hb hfq.1 (fun j c hj hbt hne => (ho j c (BF_ins hp ho hb hj hne) hbt).1) r.toNat c1 hc1_12 (by omega) (by omega)
  have h6 := hmin c1 hc1 hc1b
  omega
theorem ex_step {P : Nat → Prop} {x : Int} {q : Nat} (hx : x ≤ q) (h0 : 0 ≤ x) (hP : P q) (hn : ¬ P x.toNat) : x + 1 ≤ q := by
  rcases (show x = q ∨ x + 1 ≤ q by omega) with e | e
  · subst e
    exact absurd hP hn
  · exact e
