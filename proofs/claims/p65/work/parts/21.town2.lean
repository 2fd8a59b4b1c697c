/-! the town that is read (rows 4), and towns copied -/
def RI (h bk bo nt ac : Nat → Int) : Prop := TI 4 h bk bo nt ac ∧ h 39 = 0
theorem RI_zero {h bk bo nt ac : Nat → Int} (h2 : h 34 = 0) (h3 : h 35 = 0) (h4 : h 36 = 0) (h7 : h 39 = 0) : RI h bk bo nt ac := by
  refine ⟨⟨?_, ?_, ?_, ?_, ?_⟩, h7⟩
  · show bsum bk 40 (h 34).toNat = h 35
    rw [h2, h3]; rfl
  · intro b i hb
    have hb : (b : Int) < h 34 := hb
    omega
  · intro n hn
    have hn : (n : Int) < h 36 := hn
    omega
  · intro k hk
    have hk : (k : Int) < h 39 := hk
    omega
  · intro b hb
    have hb : (b : Int) < h 34 := hb
    omega
theorem RI_has {h bk bo nt ac : Nat → Int} {k : Nat} {v : Int} (H : RI h bk bo nt ac) (hk : k ≠ 34 ∧ k ≠ 35 ∧ k ≠ 36 ∧ k ≠ 39) : RI (uI h k v) bk bo nt ac := by
  obtain ⟨⟨H1, H2, H3, H4, H5⟩, H7⟩ := H
  have e2 : uI h k v 34 = h 34 := uI_n (fun e => hk.1 e.symm)
  have e3 : uI h k v 35 = h 35 := uI_n (fun e => hk.2.1 e.symm)
  have e4 : uI h k v 36 = h 36 := uI_n (fun e => hk.2.2.1 e.symm)
  have e7 : uI h k v 39 = h 39 := uI_n (fun e => hk.2.2.2 e.symm)
  refine ⟨⟨?_, ?_, ?_, ?_, ?_⟩, by rw [e7]; exact H7⟩
  · show bsum bk 40 (uI h k v 34).toNat = uI h k v 35
    rw [e2, e3]; exact H1
  · intro b i hb
    have hb : (b : Int) < uI h k v 34 := hb
    rw [e2] at hb
    exact H2 b i hb
  · intro n hn
    have hn : (n : Int) < uI h k v 36 := hn
    show nt (96 * 4 + 4 * n) < uI h k v 35 ∧ nt (96 * 4 + 4 * n + 1) < uI h k v 34
    rw [e4] at hn
    rw [e3, e2]
    exact H3 n hn
  · intro j hj
    have hj : (j : Int) < uI h k v 39 := hj
    rw [e7, H7] at hj
    omega
  · intro b hb
    have hb : (b : Int) < uI h k v 34 := hb
    show bk (10 * 4 + 2 * b) + edc ac (120 * 4) b (uI h k v 39).toNat ≤ 30
    rw [e2] at hb
    rw [e7]
    exact H5 b hb
theorem RI_bk {h bk bo nt ac : Nat → Int} {k : Nat} {v : Int} (H : RI h bk bo nt ac) (hk : 40 + 2 * h 34 ≤ k) : RI h (uI bk k v) bo nt ac := by
  obtain ⟨⟨H1, H2, H3, H4, H5⟩, H7⟩ := H
  have eb : ∀ b : Nat, (b : Int) < h 34 → uI bk k v (40 + 2 * b) = bk (40 + 2 * b) := fun b hb => uI_n (by omega)
  have es : ∀ n : Nat, (n : Int) ≤ h 34 → bsum (uI bk k v) 40 n = bsum bk 40 n := fun n hn => bsum_cg n (fun j hj => eb j (by omega))
  refine ⟨⟨?_, ?_, H3, ?_, ?_⟩, H7⟩
  · show bsum (uI bk k v) 40 (h 34).toNat = h 35
    rcases (show 0 ≤ h 34 ∨ h 34 < 0 by omega) with q | q
    · rw [es _ (by omega)]; exact H1
    · have e0 : (h 34).toNat = 0 := by omega
      have H1 : bsum bk 40 (h 34).toNat = h 35 := H1
      rw [e0] at H1 ⊢
      exact H1
  · intro b i hb hi
    have hb : (b : Int) < h 34 := hb
    have hi : (i : Int) < uI bk k v (40 + 2 * b) := hi
    rw [eb b hb] at hi
    show bo (48 + (bsum (uI bk k v) 40 b).toNat + i) = b
    rw [es b (by omega)]
    exact H2 b i hb hi
  · intro j hj
    have hj : (j : Int) < h 39 := hj
    omega
  · intro b hb
    have hb : (b : Int) < h 34 := hb
    show uI bk k v (40 + 2 * b) + _ ≤ 30
    rw [eb b hb]
    exact H5 b hb
theorem RI_bo {h bk bo nt ac : Nat → Int} {k : Nat} {v : Int} (hb0 : ∀ j : Nat, 0 ≤ bk (40 + 2 * j)) (H : RI h bk bo nt ac) (hk : 48 + h 35 ≤ k) : RI h bk (uI bo k v) nt ac := by
  obtain ⟨⟨H1, H2, H3, H4, H5⟩, H7⟩ := H
  refine ⟨⟨H1, ?_, H3, H4, H5⟩, H7⟩
  intro b i hb hi
  have hb : (b : Int) < h 34 := hb
  have hi : (i : Int) < bk (40 + 2 * b) := hi
  have H1 : bsum bk 40 (h 34).toNat = h 35 := H1
  have m1 : bsum bk 40 (b + 1) ≤ bsum bk 40 (h 34).toNat := bsum_mono hb0 (by omega)
  have m2 : bsum bk 40 (b + 1) = bsum bk 40 b + bk (40 + 2 * b) := rfl
  have m3 : bsum bk 40 0 ≤ bsum bk 40 b := bsum_mono hb0 (Nat.zero_le _)
  have m4 : bsum bk 40 0 = 0 := rfl
  show uI bo k v (48 + (bsum bk 40 b).toNat + i) = b
  rw [uI_n (by omega)]
  exact H2 b i hb hi
theorem RI_nt {h bk bo nt ac : Nat → Int} {k : Nat} {v : Int} (H : RI h bk bo nt ac) (hk : 384 + 4 * h 36 ≤ k) : RI h bk bo (uI nt k v) ac := by
  obtain ⟨⟨H1, H2, H3, H4, H5⟩, H7⟩ := H
  refine ⟨⟨H1, H2, ?_, H4, H5⟩, H7⟩
  intro n hn
  have hn : (n : Int) < h 36 := hn
  show uI nt k v (384 + 4 * n) < h 35 ∧ uI nt k v (384 + 4 * n + 1) < h 34
  rw [uI_n (by omega), uI_n (by omega)]
  exact H3 n hn
theorem RI_note {h bk bo nt ac : Nat → Int} {v : Int} (H : RI h bk bo nt ac) (hv : v = h 36 + 1) (h0 : 0 ≤ h 36) (h1 : nt (384 + 4 * (h 36).toNat) < h 35) (h2 : nt (384 + 4 * (h 36).toNat + 1) < h 34) : RI (uI h 36 v) bk bo nt ac := by
  obtain ⟨⟨H1, H2, H3, H4, H5⟩, H7⟩ := H
  have e2 : uI h 36 v 34 = h 34 := uI_n (by decide)
  have e3 : uI h 36 v 35 = h 35 := uI_n (by decide)
  have e7 : uI h 36 v 39 = h 39 := uI_n (by decide)
  have e4 : uI h 36 v 36 = v := uI_s
  refine ⟨⟨?_, ?_, ?_, ?_, ?_⟩, by rw [e7]; exact H7⟩
  · show bsum bk 40 (uI h 36 v 34).toNat = uI h 36 v 35
    rw [e2, e3]; exact H1
  · intro b i hb
    have hb : (b : Int) < uI h 36 v 34 := hb
    rw [e2] at hb
    exact H2 b i hb
  · intro n hn
    have hn : (n : Int) < uI h 36 v 36 := hn
    show nt (384 + 4 * n) < uI h 36 v 35 ∧ nt (384 + 4 * n + 1) < uI h 36 v 34
    rw [e4] at hn
    rw [e3, e2]
    rcases (show (n : Int) < h 36 ∨ n = (h 36).toNat by omega) with q | q
    · exact H3 n q
    · rw [q]; exact ⟨h1, h2⟩
  · intro j hj
    have hj : (j : Int) < uI h 36 v 39 := hj
    rw [e7, H7] at hj
    omega
  · intro b hb
    have hb : (b : Int) < uI h 36 v 34 := hb
    show bk (10 * 4 + 2 * b) + edc ac (120 * 4) b (uI h 36 v 39).toNat ≤ 30
    rw [e2] at hb
    rw [e7]
    exact H5 b hb
theorem RI_book {h bk bo nt ac : Nat → Int} {v w : Int} (H : RI h bk bo nt ac) (h0 : 0 ≤ h 34) (h3 : 0 ≤ h 35) (hs : 0 ≤ bk (40 + 2 * (h 34).toNat) ∧ bk (40 + 2 * (h 34).toNat) ≤ 9) (hv : v = h 35 + bk (40 + 2 * (h 34).toNat)) (hw : w = h 34 + 1) (hb : ∀ i : Nat, (i : Int) < bk (40 + 2 * (h 34).toNat) → bo (48 + (h 35).toNat + i) = h 34) : RI (uI (uI h 35 v) 34 w) bk bo nt ac := by
  obtain ⟨⟨H1, H2, H3, H4, H5⟩, H7⟩ := H
  have e2 : uI (uI h 35 v) 34 w 34 = w := uI_s
  have e3 : uI (uI h 35 v) 34 w 35 = v := by rw [uI_n (by decide), uI_s]
  have e4 : uI (uI h 35 v) 34 w 36 = h 36 := by rw [uI_n (by decide), uI_n (by decide)]
  have e7 : uI (uI h 35 v) 34 w 39 = h 39 := by rw [uI_n (by decide), uI_n (by decide)]
  have H1 : bsum bk 40 (h 34).toNat = h 35 := H1
  refine ⟨⟨?_, ?_, ?_, ?_, ?_⟩, by rw [e7]; exact H7⟩
  · show bsum bk 40 (uI (uI h 35 v) 34 w 34).toNat = uI (uI h 35 v) 34 w 35
    rw [e2, e3]
    have e : w.toNat = (h 34).toNat + 1 := by omega
    rw [e]
    show bsum bk 40 (h 34).toNat + bk (40 + 2 * (h 34).toNat) = v
    omega
  · intro b i hb2 hi
    have hb2 : (b : Int) < uI (uI h 35 v) 34 w 34 := hb2
    rw [e2] at hb2
    rcases (show (b : Int) < h 34 ∨ b = (h 34).toNat by omega) with q | q
    · exact H2 b i q hi
    · subst q
      show bo (48 + (bsum bk 40 (h 34).toNat).toNat + i) = ((h 34).toNat : Int)
      rw [H1]
      have := hb i hi
      omega
  · intro n hn
    have hn : (n : Int) < uI (uI h 35 v) 34 w 36 := hn
    show nt (384 + 4 * n) < uI (uI h 35 v) 34 w 35 ∧ nt (384 + 4 * n + 1) < uI (uI h 35 v) 34 w 34
    rw [e4] at hn
    rw [e3, e2]
    have q : nt (384 + 4 * n) < h 35 ∧ nt (384 + 4 * n + 1) < h 34 := H3 n hn
    omega
  · intro j hj
    have hj : (j : Int) < uI (uI h 35 v) 34 w 39 := hj
    rw [e7, H7] at hj
    omega
  · intro b hb2
    have hb2 : (b : Int) < uI (uI h 35 v) 34 w 34 := hb2
    show bk (40 + 2 * b) + edc ac 480 b (uI (uI h 35 v) 34 w 39).toNat ≤ 30
    rw [e2] at hb2
    rw [e7, H7]
    show bk (40 + 2 * b) + 0 ≤ 30
    rcases (show (b : Int) < h 34 ∨ b = (h 34).toNat by omega) with q | q
    · have h5 : bk (40 + 2 * b) + edc ac 480 b (h 39).toNat ≤ 30 := H5 b q
      rw [H7] at h5
      have h5 : bk (40 + 2 * b) + 0 ≤ 30 := h5
      exact h5
    · rw [q]; omega
theorem uI_e {c : Nat → Int} {k j : Nat} {v : Int} (h : j = k) : uI c k v j = v := by subst h; exact uI_s
theorem bo_step {f : Nat → Int} {o k : Nat} {b x : Int} (h : ∀ i : Nat, (i : Int) < x → f (o + i) = b) (hx : 0 ≤ x) (hk : k = o + x.toNat) : ∀ i : Nat, (i : Int) < x + 1 → uI f k b (o + i) = b := by
  intro i hi
  rcases (show (i : Int) < x ∨ i = x.toNat by omega) with q | q
  · rw [uI_n (by omega)]; exact h i q
  · exact uI_e (by omega)
/-- a row's m places from s on, put to o on, the first k of them -/
def cpR (f : Nat → Int) (o s k : Int) : Nat → Int := fun j => if o ≤ (j : Int) ∧ (j : Int) < o + k then f (j - o.toNat + s.toNat) else f j
theorem cpR_0 {f : Nat → Int} {o s : Int} : f = cpR f o s 0 := by
  funext j
  unfold cpR
  rw [if_neg (by omega)]
theorem cpR_step {f : Nat → Int} {o s k m : Int} (ho : 0 ≤ o) (hs : 0 ≤ s) (hk : 0 ≤ k ∧ k < m) (hd : o + m ≤ s ∨ s + m ≤ o) : uI (cpR f o s k) (o + k).toNat (cpR f o s k (s + k).toNat) = cpR f o s (k + 1) := by
  funext j
  have e : cpR f o s k (s + k).toNat = f (s + k).toNat := by
    unfold cpR
    rw [if_neg (by omega)]
  rw [e]
  by_cases h : j = (o + k).toNat
  · rw [h, uI_s]
    unfold cpR
    rw [if_pos (by omega)]
    congr 1
    omega
  · rw [uI_n h]
    unfold cpR
    by_cases q : o ≤ (j : Int) ∧ (j : Int) < o + k
    · rw [if_pos q, if_pos (by omega)]
    · rw [if_neg q, if_neg (by omega)]
theorem cpR_in {f : Nat → Int} {w a b j : Nat} (hj : j < w) : cpR f ((w : Int) * b) ((w : Int) * a) w (w * b + j) = f (w * a + j) := by
  have e1 : ((w : Int) * b) = ((w * b : Nat) : Int) := by simp
  have e2 : ((w : Int) * a) = ((w * a : Nat) : Int) := by simp
  unfold cpR
  rw [e1, e2, if_pos (by omega)]
  congr 1
  omega
theorem cpR_out {f : Nat → Int} {w a b t j : Nat} (hj : j < w) (ht : t ≠ b) : cpR f ((w : Int) * b) ((w : Int) * a) w (w * t + j) = f (w * t + j) := by
  have e1 : ((w : Int) * b) = ((w * b : Nat) : Int) := by simp
  unfold cpR
  rw [e1, if_neg]
  intro h
  rcases (show t < b ∨ b < t by omega) with q | q
  · have h1 : w * (t + 1) ≤ w * b := Nat.mul_le_mul_left w q
    rw [Nat.mul_add] at h1
    omega
  · have h1 : w * (b + 1) ≤ w * t := Nat.mul_le_mul_left w q
    rw [Nat.mul_add] at h1
    omega
/-- the bounds of the rows -/
def HB (h bk nt ac : Nat → Int) : Prop := (∀ t : Nat, (0 ≤ h (8 * t + 2) ∧ h (8 * t + 2) ≤ 5) ∧ (0 ≤ h (8 * t + 3) ∧ h (8 * t + 3) ≤ 12) ∧ (0 ≤ h (8 * t + 4) ∧ h (8 * t + 4) ≤ 24) ∧ (0 ≤ h (8 * t + 7) ∧ h (8 * t + 7) ≤ 40)) ∧ (∀ j : Nat, 0 ≤ bk (2 * j)) ∧ (∀ j : Nat, 0 ≤ ac (3 * j + 1))
theorem TI_copy {a b t : Nat} {h bk bo nt ac : Nat → Int} (hB : HB h bk nt ac) (ht : t = b) (H : TI a h bk bo nt ac) : TI t (cpR h ((8 : Nat) * (b : Int)) ((8 : Nat) * (a : Int)) (8 : Nat)) (cpR bk ((10 : Nat) * (b : Int)) ((10 : Nat) * (a : Int)) (10 : Nat)) (cpR bo ((12 : Nat) * (b : Int)) ((12 : Nat) * (a : Int)) (12 : Nat)) (cpR nt ((96 : Nat) * (b : Int)) ((96 : Nat) * (a : Int)) (96 : Nat)) (cpR ac ((120 : Nat) * (b : Int)) ((120 : Nat) * (a : Int)) (120 : Nat)) := by
  subst ht
  have q := hB.1 a
  refine TI_cg (fun j hj => cpR_in hj) ?_ q.1.2 q.2.1.2 q.2.2.1.2 q.2.2.2.2 ?_ (fun j hj => cpR_in hj) (fun j hj => cpR_in hj) (fun j hj => cpR_in hj) (fun j hj => cpR_in hj) H
  · intro j
    have e : 10 * a + 2 * j = 2 * (5 * a + j) := by omega
    rw [e]; exact hB.2.1 _
  · intro j
    have e : 120 * a + 3 * j + 1 = 3 * (40 * a + j) + 1 := by omega
    rw [e]; exact hB.2.2 _
theorem TI_keep {a b t : Nat} {h bk bo nt ac : Nat → Int} (hB : HB h bk nt ac) (ht : t ≠ b) (H : TI t h bk bo nt ac) : TI t (cpR h ((8 : Nat) * (b : Int)) ((8 : Nat) * (a : Int)) (8 : Nat)) (cpR bk ((10 : Nat) * (b : Int)) ((10 : Nat) * (a : Int)) (10 : Nat)) (cpR bo ((12 : Nat) * (b : Int)) ((12 : Nat) * (a : Int)) (12 : Nat)) (cpR nt ((96 : Nat) * (b : Int)) ((96 : Nat) * (a : Int)) (96 : Nat)) (cpR ac ((120 : Nat) * (b : Int)) ((120 : Nat) * (a : Int)) (120 : Nat)) := by
  have q := hB.1 t
  refine TI_cg (fun j hj => cpR_out hj ht) ?_ q.1.2 q.2.1.2 q.2.2.1.2 q.2.2.2.2 ?_ (fun j hj => cpR_out hj ht) (fun j hj => cpR_out hj ht) (fun j hj => cpR_out hj ht) (fun j hj => cpR_out hj ht) H
  · intro j
    have e : 10 * t + 2 * j = 2 * (5 * t + j) := by omega
    rw [e]; exact hB.2.1 _
  · intro j
    have e : 120 * t + 3 * j + 1 = 3 * (40 * t + j) + 1 := by omega
    rw [e]; exact hB.2.2 _
theorem MI_copy {a b : Nat} {h bk bo nt ac : Nat → Int} (hB : HB h bk nt ac) (H : TI a h bk bo nt ac) (hM : MI h bk bo nt ac) : MI (cpR h ((8 : Nat) * (b : Int)) ((8 : Nat) * (a : Int)) (8 : Nat)) (cpR bk ((10 : Nat) * (b : Int)) ((10 : Nat) * (a : Int)) (10 : Nat)) (cpR bo ((12 : Nat) * (b : Int)) ((12 : Nat) * (a : Int)) (12 : Nat)) (cpR nt ((96 : Nat) * (b : Int)) ((96 : Nat) * (a : Int)) (96 : Nat)) (cpR ac ((120 : Nat) * (b : Int)) ((120 : Nat) * (a : Int)) (120 : Nat)) := by
  intro t ht
  by_cases e : t = b
  · exact TI_copy hB e H
  · exact TI_keep hB e (hM t ht)
/-- what lies below the rows of the town that is read -/
def LOW (h bk bo nt h' bk' bo' nt' : Nat → Int) : Prop := (∀ j : Nat, j < 32 → h' j = h j) ∧ (∀ j : Nat, j < 40 → bk' j = bk j) ∧ (∀ j : Nat, j < 48 → bo' j = bo j) ∧ (∀ j : Nat, j < 384 → nt' j = nt j)
theorem LOW_rf {h bk bo nt : Nat → Int} : LOW h bk bo nt h bk bo nt := ⟨fun _ _ => rfl, fun _ _ => rfl, fun _ _ => rfl, fun _ _ => rfl⟩
theorem LOW_tr {h bk bo nt h' bk' bo' nt' h2 bk2 bo2 nt2 : Nat → Int} (H : LOW h bk bo nt h' bk' bo' nt') (G : LOW h' bk' bo' nt' h2 bk2 bo2 nt2) : LOW h bk bo nt h2 bk2 bo2 nt2 :=
  ⟨fun j hj => (G.1 j hj).trans (H.1 j hj), fun j hj => (G.2.1 j hj).trans (H.2.1 j hj), fun j hj => (G.2.2.1 j hj).trans (H.2.2.1 j hj), fun j hj => (G.2.2.2 j hj).trans (H.2.2.2 j hj)⟩
theorem LOW_h {h bk bo nt h' bk' bo' nt' : Nat → Int} {k : Nat} {v : Int} (H : LOW h bk bo nt h' bk' bo' nt') (hk : 32 ≤ k) : LOW h bk bo nt (uI h' k v) bk' bo' nt' :=
  ⟨fun j hj => (uI_n (by omega)).trans (H.1 j hj), H.2.1, H.2.2.1, H.2.2.2⟩
theorem LOW_bk {h bk bo nt h' bk' bo' nt' : Nat → Int} {k : Nat} {v : Int} (H : LOW h bk bo nt h' bk' bo' nt') (hk : 40 ≤ k) : LOW h bk bo nt h' (uI bk' k v) bo' nt' :=
  ⟨H.1, fun j hj => (uI_n (by omega)).trans (H.2.1 j hj), H.2.2.1, H.2.2.2⟩
theorem LOW_bo {h bk bo nt h' bk' bo' nt' : Nat → Int} {k : Nat} {v : Int} (H : LOW h bk bo nt h' bk' bo' nt') (hk : 48 ≤ k) : LOW h bk bo nt h' bk' (uI bo' k v) nt' :=
  ⟨H.1, H.2.1, fun j hj => (uI_n (by omega)).trans (H.2.2.1 j hj), H.2.2.2⟩
theorem LOW_nt {h bk bo nt h' bk' bo' nt' : Nat → Int} {k : Nat} {v : Int} (H : LOW h bk bo nt h' bk' bo' nt') (hk : 384 ≤ k) : LOW h bk bo nt h' bk' bo' (uI nt' k v) :=
  ⟨H.1, H.2.1, H.2.2.1, fun j hj => (uI_n (by omega)).trans (H.2.2.2 j hj)⟩
theorem MI_low {h bk bo nt ac h' bk' bo' nt' : Nat → Int} (hB : HB h bk nt ac) (H : LOW h bk bo nt h' bk' bo' nt') (hM : MI h bk bo nt ac) : MI h' bk' bo' nt' ac := by
  intro t ht
  have q := hB.1 t
  refine TI_cg (fun j hj => H.1 _ (by omega)) ?_ q.1.2 q.2.1.2 q.2.2.1.2 q.2.2.2.2 ?_ (fun j hj => H.2.1 _ (by omega)) (fun j hj => H.2.2.1 _ (by omega)) (fun j hj => H.2.2.2 _ (by omega)) (fun j hj => rfl) (hM t ht)
  · intro j
    have e : 10 * t + 2 * j = 2 * (5 * t + j) := by omega
    rw [e]; exact hB.2.1 _
  · intro j
    have e : 120 * t + 3 * j + 1 = 3 * (40 * t + j) + 1 := by omega
    rw [e]; exact hB.2.2 _
/-- an act more -/
theorem MI_act {h bk bo nt ac : Nat → Int} {w o a v : Int} {k : Nat} (hB : HB h bk nt ac) (hM : MI h bk bo nt ac) (hk : k = 3 * (h 7).toNat) (h39 : h 7 ≤ 39) (hv : v = h 7 + 1) (ho : 0 ≤ o)
    (hw : w = 2 ∨ (o < h 2 ∧ (w = 1 ∨ (a ≤ bk (2 * o.toNat) + edc ac 0 o (h 7).toNat ∧ bk (2 * o.toNat) + edc ac 0 o (h 7).toNat ≤ 29)))) : MI (uI h 7 v) bk bo nt (uI (uI (uI ac k w) (k + 1) o) (k + 2) a) := by
  intro t ht
  by_cases e : t = 0
  · subst e
    obtain ⟨H1, H2, H3, H4, H5⟩ := hM 0 ht
    have q := hB.1 0
    have q7 : 0 ≤ h 7 := q.2.2.2.1
    have e2 : uI h 7 v 2 = h 2 := uI_n (by decide)
    have e3 : uI h 7 v 3 = h 3 := uI_n (by decide)
    have e4 : uI h 7 v 4 = h 4 := uI_n (by decide)
    have e7 : uI h 7 v 7 = v := uI_s
    have lo : ∀ j : Nat, j < k → uI (uI (uI ac k w) (k + 1) o) (k + 2) a j = ac j := fun j hj => by rw [uI_n (by omega), uI_n (by omega), uI_n (by omega)]
    have a0 : uI (uI (uI ac k w) (k + 1) o) (k + 2) a k = w := by rw [uI_n (by omega), uI_n (by omega), uI_s]
    have a1 : uI (uI (uI ac k w) (k + 1) o) (k + 2) a (k + 1) = o := by rw [uI_n (by omega), uI_s]
    have a2 : uI (uI (uI ac k w) (k + 1) o) (k + 2) a (k + 2) = a := uI_s
    have ee : ∀ (b : Int) (n : Nat), 3 * n ≤ k → edc (uI (uI (uI ac k w) (k + 1) o) (k + 2) a) 0 b n = edc ac 0 b n := fun b n hn => edc_cg n (fun j hj => lo _ (by omega))
    refine ⟨?_, ?_, ?_, ?_, ?_⟩
    · show bsum bk 0 (uI h 7 v 2).toNat = uI h 7 v 3
      rw [e2, e3]; exact H1
    · intro b i hb
      have hb : (b : Int) < uI h 7 v 2 := hb
      rw [e2] at hb
      exact H2 b i hb
    · intro n hn
      have hn : (n : Int) < uI h 7 v 4 := hn
      show nt (96 * 0 + 4 * n) < uI h 7 v 3 ∧ nt (96 * 0 + 4 * n + 1) < uI h 7 v 2
      rw [e4] at hn
      rw [e3, e2]
      exact H3 n hn
    · intro j hj
      have hj : (j : Int) < uI h 7 v 7 := hj
      rw [e7] at hj
      show uI (uI (uI ac k w) (k + 1) o) (k + 2) a (0 + 3 * j) = 2 ∨ (uI (uI (uI ac k w) (k + 1) o) (k + 2) a (0 + 3 * j + 1) < uI h 7 v 2 ∧ (uI (uI (uI ac k w) (k + 1) o) (k + 2) a (0 + 3 * j) = 1 ∨ uI (uI (uI ac k w) (k + 1) o) (k + 2) a (0 + 3 * j + 2) ≤ bk (0 + 2 * (uI (uI (uI ac k w) (k + 1) o) (k + 2) a (0 + 3 * j + 1)).toNat) + edc (uI (uI (uI ac k w) (k + 1) o) (k + 2) a) 0 (uI (uI (uI ac k w) (k + 1) o) (k + 2) a (0 + 3 * j + 1)) j))
      rw [e2]
      rcases (show (j : Int) < h 7 ∨ j = (h 7).toNat by omega) with r | r
      · rw [lo (0 + 3 * j) (by omega), lo (0 + 3 * j + 1) (by omega), lo (0 + 3 * j + 2) (by omega), ee _ j (by omega)]
        exact H4 j r
      · have ek : 0 + 3 * j = k := by omega
        rw [ek, a0, a1, a2, ee _ j (by omega), r]
        rcases hw with hw | ⟨hw1, hw2⟩
        · exact Or.inl hw
        · right
          refine ⟨hw1, ?_⟩
          rcases hw2 with hw2 | hw2
          · exact Or.inl hw2
          · right
            rw [Nat.zero_add]; exact hw2.1
    · intro b hb
      have hb : (b : Int) < uI h 7 v 2 := hb
      rw [e2] at hb
      show bk (0 + 2 * b) + edc (uI (uI (uI ac k w) (k + 1) o) (k + 2) a) 0 b (uI h 7 v 7).toNat ≤ 30
      have en : (uI h 7 v 7).toNat = (h 7).toNat + 1 := by rw [e7]; omega
      rw [en]
      show bk (0 + 2 * b) + (edc (uI (uI (uI ac k w) (k + 1) o) (k + 2) a) 0 b (h 7).toNat + _) ≤ 30
      have ek : 0 + 3 * (h 7).toNat = k := by omega
      rw [ee _ _ (by omega), ek, a0, a1]
      have h5 : bk (0 + 2 * b) + edc ac 0 b (h 7).toNat ≤ 30 := H5 b hb
      split
      · next hc =>
        rcases hw with hw | ⟨hw1, hw2 | hw2⟩
        · omega
        · omega
        · have eb : o.toNat = b := by omega
          have eo : o = (b : Int) := hc.2.2
          rw [eb, eo] at hw2
          rw [Nat.zero_add]
          omega
      · omega
  · have q := hB.1 t
    refine TI_cg (fun j hj => uI_n (by omega)) ?_ q.1.2 q.2.1.2 q.2.2.1.2 q.2.2.2.2 ?_ (fun j hj => rfl) (fun j hj => rfl) (fun j hj => rfl) (fun j hj => by rw [uI_n (by omega), uI_n (by omega), uI_n (by omega)]) (hM t ht)
    · intro j
      have e : 10 * t + 2 * j = 2 * (5 * t + j) := by omega
      rw [e]; exact hB.2.1 _
    · intro j
      have e : 120 * t + 3 * j + 1 = 3 * (40 * t + j) + 1 := by omega
      rw [e]; exact hB.2.2 _
/-- acts taken back -/
theorem MI_undo {h bk bo nt ac : Nat → Int} {v : Int} (hB : HB h bk nt ac) (hM : MI h bk bo nt ac) (h0 : 0 ≤ v) (hv : v ≤ h 7) : MI (uI h 7 v) bk bo nt ac := by
  intro t ht
  by_cases e : t = 0
  · subst e
    obtain ⟨H1, H2, H3, H4, H5⟩ := hM 0 ht
    have e2 : uI h 7 v 2 = h 2 := uI_n (by decide)
    have e3 : uI h 7 v 3 = h 3 := uI_n (by decide)
    have e4 : uI h 7 v 4 = h 4 := uI_n (by decide)
    have e7 : uI h 7 v 7 = v := uI_s
    refine ⟨?_, ?_, ?_, ?_, ?_⟩
    · show bsum bk 0 (uI h 7 v 2).toNat = uI h 7 v 3
      rw [e2, e3]; exact H1
    · intro b i hb
      have hb : (b : Int) < uI h 7 v 2 := hb
      rw [e2] at hb
      exact H2 b i hb
    · intro n hn
      have hn : (n : Int) < uI h 7 v 4 := hn
      show nt (96 * 0 + 4 * n) < uI h 7 v 3 ∧ nt (96 * 0 + 4 * n + 1) < uI h 7 v 2
      rw [e4] at hn
      rw [e3, e2]
      exact H3 n hn
    · intro j hj
      have hj : (j : Int) < uI h 7 v 7 := hj
      rw [e7] at hj
      have e2' : uI h 7 v (8 * 0 + 2) = h 2 := e2
      rw [e2']
      exact H4 j (show (j : Int) < h 7 by omega)
    · intro b hb
      have hb : (b : Int) < uI h 7 v 2 := hb
      rw [e2] at hb
      show bk (0 + 2 * b) + edc ac 0 b (uI h 7 v 7).toNat ≤ 30
      rw [e7]
      have h5 : bk (0 + 2 * b) + edc ac 0 b (h 7).toNat ≤ 30 := H5 b hb
      have m : edc ac 0 b v.toNat ≤ edc ac 0 b (h 7).toNat := edc_mono (by omega)
      omega
  · have q := hB.1 t
    refine TI_cg (fun j hj => uI_n (by omega)) ?_ q.1.2 q.2.1.2 q.2.2.1.2 q.2.2.2.2 ?_ (fun j hj => rfl) (fun j hj => rfl) (fun j hj => rfl) (fun j hj => rfl) (hM t ht)
    · intro j
      have e : 10 * t + 2 * j = 2 * (5 * t + j) := by omega
      rw [e]; exact hB.2.1 _
    · intro j
      have e : 120 * t + 3 * j + 1 = 3 * (40 * t + j) + 1 := by omega
      rw [e]; exact hB.2.2 _
