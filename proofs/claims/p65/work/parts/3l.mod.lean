theorem dX12_quotes_98 : decode cX12_quotes 98 = .ok (.iadd, 1) := by decide +kernel
theorem dX12_quotes_99 : decode cX12_quotes 99 = .ok (.istore_n 3, 1) := by decide +kernel
theorem dX12_quotes_100 : decode cX12_quotes 100 = .ok (.iinc 4 1, 3) := by decide +kernel
theorem dX12_quotes_103 : decode cX12_quotes 103 = .ok (.goto (-65), 3) := by decide +kernel
theorem dX12_quotes_97 : decode cX12_quotes 97 = .ok (.iconst 0, 1) := by decide +kernel
theorem dX12_quotes_38 : decode cX12_quotes 38 = .ok (.iload 4, 2) := by decide +kernel
theorem dX12_quotes_40 : decode cX12_quotes 40 = .ok (.aload_n 0, 1) := by decide +kernel
theorem dX12_quotes_41 : decode cX12_quotes 41 = .ok (.getfield 34, 3) := by decide +kernel
theorem dX12_quotes_44 : decode cX12_quotes 44 = .ok (.iconst 4, 1) := by decide +kernel
theorem dX12_quotes_45 : decode cX12_quotes 45 = .ok (.iaload, 1) := by decide +kernel
theorem dX12_quotes_46 : decode cX12_quotes 46 = .ok (.if_icmp .ge 60, 3) := by decide +kernel
theorem dX12_quotes_106 : decode cX12_quotes 106 = .ok (.iload_n 3, 1) := by decide +kernel
theorem dX12_quotes_107 : decode cX12_quotes 107 = .ok (.ireturn, 1) := by decide +kernel
theorem dX12_quotes_49 : decode cX12_quotes 49 = .ok (.iload_n 3, 1) := by decide +kernel
theorem dX12_quotes_50 : decode cX12_quotes 50 = .ok (.aload_n 0, 1) := by decide +kernel
theorem dX12_quotes_51 : decode cX12_quotes 51 = .ok (.getfield 62, 3) := by decide +kernel
theorem dX12_quotes_54 : decode cX12_quotes 54 = .ok (.iload 4, 2) := by decide +kernel
theorem dX12_quotes_56 : decode cX12_quotes 56 = .ok (.iaload, 1) := by decide +kernel
theorem dX12_quotes_57 : decode cX12_quotes 57 = .ok (.iconst (-1), 1) := by decide +kernel
theorem dX12_quotes_58 : decode cX12_quotes 58 = .ok (.if_icmp .eq 39, 3) := by decide +kernel
theorem dX12_quotes_61 : decode cX12_quotes 61 = .ok (.aload_n 0, 1) := by decide +kernel
theorem dX12_quotes_62 : decode cX12_quotes 62 = .ok (.aload_n 0, 1) := by decide +kernel
theorem dX12_quotes_63 : decode cX12_quotes 63 = .ok (.getfield 43, 3) := by decide +kernel
theorem dX12_quotes_66 : decode cX12_quotes 66 = .ok (.iconst 4, 1) := by decide +kernel
theorem dX12_quotes_67 : decode cX12_quotes 67 = .ok (.iload 4, 2) := by decide +kernel
theorem dX12_quotes_69 : decode cX12_quotes 69 = .ok (.imul, 1) := by decide +kernel
theorem dX12_quotes_70 : decode cX12_quotes 70 = .ok (.iaload, 1) := by decide +kernel
theorem dX12_quotes_71 : decode cX12_quotes 71 = .ok (.invokevirtual 423, 3) := by decide +kernel
theorem dX12_quotes_74 : decode cX12_quotes 74 = .ok (.iload_n 1, 1) := by decide +kernel
theorem dX12_quotes_75 : decode cX12_quotes 75 = .ok (.if_icmp .ne 22, 3) := by decide +kernel
theorem dX12_quotes_78 : decode cX12_quotes 78 = .ok (.aload_n 0, 1) := by decide +kernel
theorem dX12_quotes_79 : decode cX12_quotes 79 = .ok (.aload_n 0, 1) := by decide +kernel
theorem dX12_quotes_80 : decode cX12_quotes 80 = .ok (.getfield 62, 3) := by decide +kernel
theorem dX12_quotes_83 : decode cX12_quotes 83 = .ok (.iload 4, 2) := by decide +kernel
theorem dX12_quotes_85 : decode cX12_quotes 85 = .ok (.iaload, 1) := by decide +kernel
theorem dX12_quotes_86 : decode cX12_quotes 86 = .ok (.invokevirtual 423, 3) := by decide +kernel
theorem dX12_quotes_89 : decode cX12_quotes 89 = .ok (.iload_n 2, 1) := by decide +kernel
theorem dX12_quotes_90 : decode cX12_quotes 90 = .ok (.if_icmp .ne 7, 3) := by decide +kernel
theorem dX12_quotes_93 : decode cX12_quotes 93 = .ok (.iconst 1, 1) := by decide +kernel
theorem dX12_quotes_94 : decode cX12_quotes 94 = .ok (.goto 4, 3) := by decide +kernel
theorem dX12_quotes_0 : decode cX12_quotes 0 = .ok (.aload_n 0, 1) := by decide +kernel
theorem dX12_quotes_1 : decode cX12_quotes 1 = .ok (.iconst 0, 1) := by decide +kernel
theorem dX12_quotes_2 : decode cX12_quotes 2 = .ok (.putfield 104, 3) := by decide +kernel
theorem dX12_quotes_5 : decode cX12_quotes 5 = .ok (.aload_n 0, 1) := by decide +kernel
theorem dX12_quotes_6 : decode cX12_quotes 6 = .ok (.invokevirtual 267, 3) := by decide +kernel
theorem dX12_quotes_9 : decode cX12_quotes 9 = .ok (.ifCond .eq 17, 3) := by decide +kernel
theorem dX12_quotes_26 : decode cX12_quotes 26 = .ok (.bipush (-2), 2) := by decide +kernel
theorem dX12_quotes_28 : decode cX12_quotes 28 = .ok (.ireturn, 1) := by decide +kernel
theorem dX12_quotes_12 : decode cX12_quotes 12 = .ok (.iload_n 1, 1) := by decide +kernel
theorem dX12_quotes_13 : decode cX12_quotes 13 = .ok (.invokestatic 426, 3) := by decide +kernel
theorem dX12_quotes_16 : decode cX12_quotes 16 = .ok (.ifCond .eq 10, 3) := by decide +kernel
theorem dX12_quotes_19 : decode cX12_quotes 19 = .ok (.iload_n 2, 1) := by decide +kernel
theorem dX12_quotes_20 : decode cX12_quotes 20 = .ok (.invokestatic 426, 3) := by decide +kernel
theorem dX12_quotes_23 : decode cX12_quotes 23 = .ok (.ifCond .ne 6, 3) := by decide +kernel
theorem dX12_quotes_29 : decode cX12_quotes 29 = .ok (.aload_n 0, 1) := by decide +kernel
theorem dX12_quotes_30 : decode cX12_quotes 30 = .ok (.invokevirtual 286, 3) := by decide +kernel
theorem dX12_quotes_33 : decode cX12_quotes 33 = .ok (.iconst 0, 1) := by decide +kernel
theorem dX12_quotes_34 : decode cX12_quotes 34 = .ok (.istore_n 3, 1) := by decide +kernel
theorem dX12_quotes_35 : decode cX12_quotes 35 = .ok (.iconst 0, 1) := by decide +kernel
theorem dX12_quotes_36 : decode cX12_quotes 36 = .ok (.istore 4, 2) := by decide +kernel
set_option maxHeartbeats 4000000 in
set_option maxRecDepth 100000 in
theorem k_X12_quotes (l : Launch) (D : va_G) (K : Nat → ClassId) (t : Nat) (t_q : Nat → Nat) (p1 p2 t_x0 t_x6 t_x7 t_x8 t_x9 t_x10 t_x11 t_x12 t_x13 t_x14 t_x15 t_x32 t_x33 t_x34 t_x35 t_x39 t_x40 t_x43 t_x44 t_x48 t_x49 t_x50 : Int) (t_16_c : Nat → Int) (t_17_c : Nat → Int) (t_18_c : Nat → Int) (t_19_c : Nat → Int) (t_20_c : Nat → Int) (t_21_c : Nat → Int) (t_23_c : Nat → Int) (t_24_c : Nat → Int) (t_25_c : Nat → Int) (t_26_c : Nat → Int) (t_27_c : Nat → Int) (t_28_c : Nat → Int) (hp1 : (-2147483648) ≤ p1 ∧ p1 ≤ 2147483647) (hp2 : (-2147483648) ≤ p2 ∧ p2 ≤ 2147483647) (hi_t : bM12 t_x0 t_x6 t_x7 t_x8 t_x9 t_x10 t_x11 t_x12 t_x13 t_x14 t_x15 t_x32 t_x33 t_x34 t_x35 t_x39 t_x40 t_x43 t_x44 t_x48 t_x49 t_x50) (hc_t_16 : ∀ j : Nat, (-2147483648) ≤ t_16_c j ∧ t_16_c j ≤ 2147483647) (hc_t_17 : ∀ j : Nat, (j % 8 = 0 → 0 ≤ t_17_c j ∧ t_17_c j ≤ 20) ∧ (j % 8 = 1 → 0 ≤ t_17_c j ∧ t_17_c j ≤ 100) ∧ (j % 8 = 2 → 0 ≤ t_17_c j ∧ t_17_c j ≤ 5) ∧ (j % 8 = 3 → 0 ≤ t_17_c j ∧ t_17_c j ≤ 12) ∧ (j % 8 = 4 → 0 ≤ t_17_c j ∧ t_17_c j ≤ 24) ∧ (j % 8 = 5 → 0 ≤ t_17_c j ∧ t_17_c j ≤ 4095) ∧ (j % 8 = 6 → 0 ≤ t_17_c j ∧ t_17_c j ≤ 31) ∧ (j % 8 = 7 → 0 ≤ t_17_c j ∧ t_17_c j ≤ 40)) (hc_t_18 : ∀ j : Nat, (j % 2 = 0 → 0 ≤ t_18_c j ∧ t_18_c j ≤ 9) ∧ (j % 2 = 1 → 0 ≤ t_18_c j ∧ t_18_c j ≤ 4)) (hc_t_19 : ∀ j : Nat, 0 ≤ t_19_c j ∧ t_19_c j ≤ 4) (hc_t_20 : ∀ j : Nat, (j % 4 = 0 → 0 ≤ t_20_c j ∧ t_20_c j ≤ 11) ∧ (j % 4 = 1 → 0 ≤ t_20_c j ∧ t_20_c j ≤ 4) ∧ (j % 4 = 2 → 0 ≤ t_20_c j ∧ t_20_c j ≤ 29) ∧ (j % 4 = 3 → 0 ≤ t_20_c j ∧ t_20_c j ≤ 1)) (hc_t_21 : ∀ j : Nat, (j % 3 = 0 → 0 ≤ t_21_c j ∧ t_21_c j ≤ 2) ∧ (j % 3 = 1 → 0 ≤ t_21_c j ∧ t_21_c j ≤ 23) ∧ (j % 3 = 2 → 0 ≤ t_21_c j ∧ t_21_c j ≤ 29)) (hc_t_23 : ∀ j : Nat, (-2) ≤ t_23_c j ∧ t_23_c j ≤ 11) (hc_t_24 : ∀ j : Nat, 0 ≤ t_24_c j ∧ t_24_c j ≤ 30) (hc_t_25 : ∀ j : Nat, 0 ≤ t_25_c j ∧ t_25_c j ≤ 30) (hc_t_26 : ∀ j : Nat, (-1) ≤ t_26_c j ∧ t_26_c j ≤ 11) (hc_t_27 : ∀ j : Nat, (-1) ≤ t_27_c j ∧ t_27_c j ≤ 29) (hc_t_28 : ∀ j : Nat, 0 ≤ t_28_c j ∧ t_28_c j ≤ 4095) (ti : TI 0 t_17_c t_18_c t_19_c t_20_c t_21_c) : fn_CI (S := (Nat → Int) × (Nat → Nat → Int)) l D K yX12_quotes (fn_ws yX12_quotes cX12_quotes 5 (some .int)) ({ frames := 20, cells := 0, slots := 0, locals := 500 } : Room) [.ref t, .int (iI p1), .int (iI p2)] [(t, .inr (12, oX12 t_q t_x0 t_x6 t_x7 t_x8 t_x9 t_x10 t_x11 t_x12 t_x13 t_x14 t_x15 t_x32 t_x33 t_x34 t_x35 t_x39 t_x40 t_x43 t_x44 t_x48 t_x49 t_x50)), ((t_q 16), .inl (K 0, 5, .inl (fun j => iI (t_16_c j)))), ((t_q 17), .inl (K 0, 40, .inl (fun j => iI (t_17_c j)))), ((t_q 18), .inl (K 0, 50, .inl (fun j => iI (t_18_c j)))), ((t_q 19), .inl (K 0, 60, .inl (fun j => iI (t_19_c j)))), ((t_q 20), .inl (K 0, 480, .inl (fun j => iI (t_20_c j)))), ((t_q 21), .inl (K 0, 600, .inl (fun j => iI (t_21_c j)))), ((t_q 23), .inl (K 0, 150, .inl (fun j => iI (t_23_c j)))), ((t_q 24), .inl (K 0, 5, .inl (fun j => iI (t_24_c j)))), ((t_q 25), .inl (K 0, 24, .inl (fun j => iI (t_25_c j)))), ((t_q 26), .inl (K 0, 24, .inl (fun j => iI (t_26_c j)))), ((t_q 27), .inl (K 0, 12, .inl (fun j => iI (t_27_c j)))), ((t_q 28), .inl (K 0, 12, .inl (fun j => iI (t_28_c j))))] (fun r u => ∃ k : Int, r = iI k ∧ ((-2147483648) ≤ k ∧ k ≤ 2147483647) ∧ ((-2147483648) ≤ (u.1 0) ∧ (u.1 0) ≤ 2147483647) ∧ (∀ j : Nat, (-2) ≤ (u.2 0) j ∧ (u.2 0) j ≤ 11) ∧ (∀ j : Nat, 0 ≤ (u.2 1) j ∧ (u.2 1) j ≤ 30) ∧ (∀ j : Nat, 0 ≤ (u.2 2) j ∧ (u.2 2) j ≤ 30) ∧ (∀ j : Nat, (-1) ≤ (u.2 3) j ∧ (u.2 3) j ≤ 11) ∧ (∀ j : Nat, (-1) ≤ (u.2 4) j ∧ (u.2 4) j ≤ 29) ∧ (∀ j : Nat, 0 ≤ (u.2 5) j ∧ (u.2 5) j ≤ 4095) ∧ True) (fun u => [(t, .inr (12, oX12 t_q (u.1 0) t_x6 t_x7 t_x8 t_x9 t_x10 t_x11 t_x12 t_x13 t_x14 t_x15 t_x32 t_x33 t_x34 t_x35 t_x39 t_x40 t_x43 t_x44 t_x48 t_x49 t_x50)), ((t_q 16), .inl (K 0, 5, .inl (fun j => iI (t_16_c j)))), ((t_q 17), .inl (K 0, 40, .inl (fun j => iI (t_17_c j)))), ((t_q 18), .inl (K 0, 50, .inl (fun j => iI (t_18_c j)))), ((t_q 19), .inl (K 0, 60, .inl (fun j => iI (t_19_c j)))), ((t_q 20), .inl (K 0, 480, .inl (fun j => iI (t_20_c j)))), ((t_q 21), .inl (K 0, 600, .inl (fun j => iI (t_21_c j)))), ((t_q 23), .inl (K 0, 150, .inl (fun j => iI ((u.2 0) j)))), ((t_q 24), .inl (K 0, 5, .inl (fun j => iI ((u.2 1) j)))), ((t_q 25), .inl (K 0, 24, .inl (fun j => iI ((u.2 2) j)))), ((t_q 26), .inl (K 0, 24, .inl (fun j => iI ((u.2 3) j)))), ((t_q 27), .inl (K 0, 12, .inl (fun j => iI ((u.2 4) j)))), ((t_q 28), .inl (K 0, 12, .inl (fun j => iI ((u.2 5) j))))]) 0 0 := by
  refine g_inI (cc := cX12_quotes) (maxL := 5) (ret := (some .int)) (by decide) rfl (Nat.le_of_ble_eq_true rfl) ?_
  intro p e s m below meth c A ls ag Q B hA hP hD hS hl hQ
  obtain ⟨hx, hb, hr, hml, hts, hown, hlocks, hin, hK⟩ := B
  have hown : s.vm.findClass RX12 = some m.cls := hown
  have hts := fun w h => hts w (List.mem_cons_of_mem _ h)
  have J38 : ∀ (n : Nat) (x38_3 : Int) (x38_4 : Int) (c38_t_23 : Nat → Int) (c38_t_24 : Nat → Int) (c38_t_25 : Nat → Int) (c38_t_26 : Nat → Int) (c38_t_27 : Nat → Int) (c38_t_28 : Nat → Int) (H : Heap) (locs : List Loc) (ls : Array Slot), (24 - x38_4).toNat < n → (0 ≤ p1 ∧ p1 ≤ 4 ∧ 0 ≤ p2 ∧ p2 ≤ 4 ∧ (-2147483648) ≤ x38_3 ∧ x38_3 ≤ 2147483647 ∧ 0 ≤ x38_4 ∧ x38_4 ≤ 24) → (∀ j : Nat, (-2) ≤ c38_t_23 j ∧ c38_t_23 j ≤ 11) → (∀ j : Nat, 0 ≤ c38_t_24 j ∧ c38_t_24 j ≤ 30) → (∀ j : Nat, 0 ≤ c38_t_25 j ∧ c38_t_25 j ≤ 30) → (∀ j : Nat, (-1) ≤ c38_t_26 j ∧ c38_t_26 j ≤ 11) → (∀ j : Nat, (-1) ≤ c38_t_27 j ∧ c38_t_27 j ≤ 29) → (∀ j : Nat, 0 ≤ c38_t_28 j ∧ c38_t_28 j ≤ 4095) → va_P D vwCl [(t, .inr (12, oX12 t_q 0 t_x6 t_x7 t_x8 t_x9 t_x10 t_x11 t_x12 t_x13 t_x14 t_x15 t_x32 t_x33 t_x34 t_x35 t_x39 t_x40 t_x43 t_x44 t_x48 t_x49 t_x50)), ((t_q 16), .inl (K 0, 5, .inl (fun j => iI (t_16_c j)))), ((t_q 17), .inl (K 0, 40, .inl (fun j => iI (t_17_c j)))), ((t_q 18), .inl (K 0, 50, .inl (fun j => iI (t_18_c j)))), ((t_q 19), .inl (K 0, 60, .inl (fun j => iI (t_19_c j)))), ((t_q 20), .inl (K 0, 480, .inl (fun j => iI (t_20_c j)))), ((t_q 21), .inl (K 0, 600, .inl (fun j => iI (t_21_c j)))), ((t_q 23), .inl (K 0, 150, .inl (fun j => iI (c38_t_23 j)))), ((t_q 24), .inl (K 0, 5, .inl (fun j => iI (c38_t_24 j)))), ((t_q 25), .inl (K 0, 24, .inl (fun j => iI (c38_t_25 j)))), ((t_q 26), .inl (K 0, 24, .inl (fun j => iI (c38_t_26 j)))), ((t_q 27), .inl (K 0, 12, .inl (fun j => iI (c38_t_27 j)))), ((t_q 28), .inl (K 0, 12, .inl (fun j => iI (c38_t_28 j))))] H → va_D A [(t, .inr (12, oX12 t_q 0 t_x6 t_x7 t_x8 t_x9 t_x10 t_x11 t_x12 t_x13 t_x14 t_x15 t_x32 t_x33 t_x34 t_x35 t_x39 t_x40 t_x43 t_x44 t_x48 t_x49 t_x50)), ((t_q 16), .inl (K 0, 5, .inl (fun j => iI (t_16_c j)))), ((t_q 17), .inl (K 0, 40, .inl (fun j => iI (t_17_c j)))), ((t_q 18), .inl (K 0, 50, .inl (fun j => iI (t_18_c j)))), ((t_q 19), .inl (K 0, 60, .inl (fun j => iI (t_19_c j)))), ((t_q 20), .inl (K 0, 480, .inl (fun j => iI (t_20_c j)))), ((t_q 21), .inl (K 0, 600, .inl (fun j => iI (t_21_c j)))), ((t_q 23), .inl (K 0, 150, .inl (fun j => iI (c38_t_23 j)))), ((t_q 24), .inl (K 0, 5, .inl (fun j => iI (c38_t_24 j)))), ((t_q 25), .inl (K 0, 24, .inl (fun j => iI (c38_t_25 j)))), ((t_q 26), .inl (K 0, 24, .inl (fun j => iI (c38_t_26 j)))), ((t_q 27), .inl (K 0, 12, .inl (fun j => iI (c38_t_27 j)))), ((t_q 28), .inl (K 0, 12, .inl (fun j => iI (c38_t_28 j))))] → va_S A s.heap H locs → lv_has ls 5 [(0, .ref t), (1, .int (iI p1)), (2, .int (iI p2)), (3, .int (iI x38_3)), (4, .int (iI x38_4))] → W p l e ({ frames := 20, cells := 0, slots := 0, locals := 500 } : Room) s m ag below meth c H locs 0 0 Q (F0 m 38 ls []) := by
    intro n
    induction n with
    | zero =>
      intro x38_3 x38_4 c38_t_23 c38_t_24 c38_t_25 c38_t_26 c38_t_27 c38_t_28 H locs ls hm38 hf38 hc38_t_23 hc38_t_24 hc38_t_25 hc38_t_26 hc38_t_27 hc38_t_28 hP hD hS hl
      exact absurd hm38 (Nat.not_lt_zero _)
    | succ n ih38 =>
      intro x38_3 x38_4 c38_t_23 c38_t_24 c38_t_25 c38_t_26 c38_t_27 c38_t_28 H locs ls hm38 hf38 hc38_t_23 hc38_t_24 hc38_t_25 hc38_t_26 hc38_t_27 hc38_t_28 hP hD hS hl
      have J98 : ∀ (z98_1 : Int) (H : Heap) (locs : List Loc) (ls : Array Slot), (0 ≤ p1 ∧ p1 ≤ 4 ∧ 0 ≤ p2 ∧ p2 ≤ 4 ∧ 0 ≤ x38_4 ∧ x38_4 ≤ 23 ∧ 0 ≤ z98_1 ∧ z98_1 ≤ 1) → va_P D vwCl [(t, .inr (12, oX12 t_q 0 t_x6 t_x7 t_x8 t_x9 t_x10 t_x11 t_x12 t_x13 t_x14 t_x15 t_x32 t_x33 t_x34 t_x35 t_x39 t_x40 t_x43 t_x44 t_x48 t_x49 t_x50)), ((t_q 16), .inl (K 0, 5, .inl (fun j => iI (t_16_c j)))), ((t_q 17), .inl (K 0, 40, .inl (fun j => iI (t_17_c j)))), ((t_q 18), .inl (K 0, 50, .inl (fun j => iI (t_18_c j)))), ((t_q 19), .inl (K 0, 60, .inl (fun j => iI (t_19_c j)))), ((t_q 20), .inl (K 0, 480, .inl (fun j => iI (t_20_c j)))), ((t_q 21), .inl (K 0, 600, .inl (fun j => iI (t_21_c j)))), ((t_q 23), .inl (K 0, 150, .inl (fun j => iI (c38_t_23 j)))), ((t_q 24), .inl (K 0, 5, .inl (fun j => iI (c38_t_24 j)))), ((t_q 25), .inl (K 0, 24, .inl (fun j => iI (c38_t_25 j)))), ((t_q 26), .inl (K 0, 24, .inl (fun j => iI (c38_t_26 j)))), ((t_q 27), .inl (K 0, 12, .inl (fun j => iI (c38_t_27 j)))), ((t_q 28), .inl (K 0, 12, .inl (fun j => iI (c38_t_28 j))))] H → va_D A [(t, .inr (12, oX12 t_q 0 t_x6 t_x7 t_x8 t_x9 t_x10 t_x11 t_x12 t_x13 t_x14 t_x15 t_x32 t_x33 t_x34 t_x35 t_x39 t_x40 t_x43 t_x44 t_x48 t_x49 t_x50)), ((t_q 16), .inl (K 0, 5, .inl (fun j => iI (t_16_c j)))), ((t_q 17), .inl (K 0, 40, .inl (fun j => iI (t_17_c j)))), ((t_q 18), .inl (K 0, 50, .inl (fun j => iI (t_18_c j)))), ((t_q 19), .inl (K 0, 60, .inl (fun j => iI (t_19_c j)))), ((t_q 20), .inl (K 0, 480, .inl (fun j => iI (t_20_c j)))), ((t_q 21), .inl (K 0, 600, .inl (fun j => iI (t_21_c j)))), ((t_q 23), .inl (K 0, 150, .inl (fun j => iI (c38_t_23 j)))), ((t_q 24), .inl (K 0, 5, .inl (fun j => iI (c38_t_24 j)))), ((t_q 25), .inl (K 0, 24, .inl (fun j => iI (c38_t_25 j)))), ((t_q 26), .inl (K 0, 24, .inl (fun j => iI (c38_t_26 j)))), ((t_q 27), .inl (K 0, 12, .inl (fun j => iI (c38_t_27 j)))), ((t_q 28), .inl (K 0, 12, .inl (fun j => iI (c38_t_28 j))))] → va_S A s.heap H locs → lv_has ls 5 [(0, .ref t), (1, .int (iI p1)), (2, .int (iI p2)), (3, .int (iI x38_3)), (4, .int (iI x38_4))] → W p l e ({ frames := 20, cells := 0, slots := 0, locals := 500 } : Room) s m ag below meth c H locs 0 0 Q (F0 m 98 ls [.int (iI z98_1), .int (iI x38_3)]) := by
        intro z98_1 H locs ls hf98 hP hD hS hl
        refine g_iadd hx hb dX12_quotes_98 ?_
        refine g_any (fun w98 hw98 ew98 => ?_)
        refine lv_istore_n (lv' := [(3, .int (iI w98)), (0, .ref t), (1, .int (iI p1)), (2, .int (iI p2)), (4, .int (iI x38_4))]) hx hb dX12_quotes_99 rfl hl (by decide) rfl (fun ls hl => ?_)
        refine lv_iinc (v := iI (x38_4 + 1)) (lv' := [(4, .int (iI (x38_4 + 1))), (3, .int (iI w98)), (0, .ref t), (1, .int (iI p1)), (2, .int (iI p2))]) hx hb dX12_quotes_100 hl (k := 4) rfl (iI_add _ _) (by decide) rfl (fun ls hl => ?_)
        refine lv_goto (tgt := 38) hx hb dX12_quotes_103 (by decide) ?_
        exact ih38 w98 (x38_4 + 1) c38_t_23 c38_t_24 c38_t_25 c38_t_26 c38_t_27 c38_t_28 _ _ ls (by omega) (by omega) hc38_t_23 hc38_t_24 hc38_t_25 hc38_t_26 hc38_t_27 hc38_t_28 (hP.sub [0, 1, 2, 3, 4, 5, 6, 7, 8, 9, 10, 11, 12] rfl) (hD.sub [0, 1, 2, 3, 4, 5, 6, 7, 8, 9, 10, 11, 12] (by decide) rfl) hS (lv_sub hl [2, 3, 4, 1, 0] rfl)
      have J97 : ∀  (H : Heap) (locs : List Loc) (ls : Array Slot), (0 ≤ p1 ∧ p1 ≤ 4 ∧ 0 ≤ p2 ∧ p2 ≤ 4 ∧ 0 ≤ x38_4 ∧ x38_4 ≤ 23) → va_P D vwCl [(t, .inr (12, oX12 t_q 0 t_x6 t_x7 t_x8 t_x9 t_x10 t_x11 t_x12 t_x13 t_x14 t_x15 t_x32 t_x33 t_x34 t_x35 t_x39 t_x40 t_x43 t_x44 t_x48 t_x49 t_x50)), ((t_q 16), .inl (K 0, 5, .inl (fun j => iI (t_16_c j)))), ((t_q 17), .inl (K 0, 40, .inl (fun j => iI (t_17_c j)))), ((t_q 18), .inl (K 0, 50, .inl (fun j => iI (t_18_c j)))), ((t_q 19), .inl (K 0, 60, .inl (fun j => iI (t_19_c j)))), ((t_q 20), .inl (K 0, 480, .inl (fun j => iI (t_20_c j)))), ((t_q 21), .inl (K 0, 600, .inl (fun j => iI (t_21_c j)))), ((t_q 23), .inl (K 0, 150, .inl (fun j => iI (c38_t_23 j)))), ((t_q 24), .inl (K 0, 5, .inl (fun j => iI (c38_t_24 j)))), ((t_q 25), .inl (K 0, 24, .inl (fun j => iI (c38_t_25 j)))), ((t_q 26), .inl (K 0, 24, .inl (fun j => iI (c38_t_26 j)))), ((t_q 27), .inl (K 0, 12, .inl (fun j => iI (c38_t_27 j)))), ((t_q 28), .inl (K 0, 12, .inl (fun j => iI (c38_t_28 j))))] H → va_D A [(t, .inr (12, oX12 t_q 0 t_x6 t_x7 t_x8 t_x9 t_x10 t_x11 t_x12 t_x13 t_x14 t_x15 t_x32 t_x33 t_x34 t_x35 t_x39 t_x40 t_x43 t_x44 t_x48 t_x49 t_x50)), ((t_q 16), .inl (K 0, 5, .inl (fun j => iI (t_16_c j)))), ((t_q 17), .inl (K 0, 40, .inl (fun j => iI (t_17_c j)))), ((t_q 18), .inl (K 0, 50, .inl (fun j => iI (t_18_c j)))), ((t_q 19), .inl (K 0, 60, .inl (fun j => iI (t_19_c j)))), ((t_q 20), .inl (K 0, 480, .inl (fun j => iI (t_20_c j)))), ((t_q 21), .inl (K 0, 600, .inl (fun j => iI (t_21_c j)))), ((t_q 23), .inl (K 0, 150, .inl (fun j => iI (c38_t_23 j)))), ((t_q 24), .inl (K 0, 5, .inl (fun j => iI (c38_t_24 j)))), ((t_q 25), .inl (K 0, 24, .inl (fun j => iI (c38_t_25 j)))), ((t_q 26), .inl (K 0, 24, .inl (fun j => iI (c38_t_26 j)))), ((t_q 27), .inl (K 0, 12, .inl (fun j => iI (c38_t_27 j)))), ((t_q 28), .inl (K 0, 12, .inl (fun j => iI (c38_t_28 j))))] → va_S A s.heap H locs → lv_has ls 5 [(0, .ref t), (1, .int (iI p1)), (2, .int (iI p2)), (3, .int (iI x38_3)), (4, .int (iI x38_4))] → W p l e ({ frames := 20, cells := 0, slots := 0, locals := 500 } : Room) s m ag below meth c H locs 0 0 Q (F0 m 97 ls [.int (iI x38_3)]) := by
        intro  H locs ls hf97 hP hD hS hl
        refine lv_iconst (v := iI 0) hx hb dX12_quotes_97 rfl ?_
        exact J98 0 _ _ ls (by omega) (hP.sub [0, 1, 2, 3, 4, 5, 6, 7, 8, 9, 10, 11, 12] rfl) (hD.sub [0, 1, 2, 3, 4, 5, 6, 7, 8, 9, 10, 11, 12] (by decide) rfl) hS (lv_sub hl [0, 1, 2, 3, 4] rfl)
      refine lv_iload hx hb dX12_quotes_38 (lv_at hl 4 rfl) ?_
      refine lv_aload_n hx hb dX12_quotes_40 rfl (lv_at hl 0 rfl) ?_
      refine va_get (D := D) (own := RX12) (ci := 12) (v := .ref (t_q 17)) (C := RX12) (T := TX12) (N := 51) hx hb hts inb_X12 hown hK.1 hP 0 rfl rfl 17 (by decide) (hts _ wd_1251) (fun _ h9 => h9) rfl dX12_quotes_41 ?_
      refine lv_iconst (v := iI 4) hx hb dX12_quotes_44 rfl ?_
      refine g_iald hx hb hK.1 hP 2 0 rfl rfl (by omega) (by omega) (by decide) dX12_quotes_45 ?_
      refine fn_top (iI (t_17_c 4)) rfl ?_
      have y45 : 0 ≤ (t_17_c 4) ∧ (t_17_c 4) ≤ 24 := (hc_t_17 4).2.2.2.2.1 (by omega)
      refine g_icmp_ge (tgt := 106) hx hb (by omega) (by omega) dX12_quotes_46 (by decide) (fun c46 => ?_) (fun c46 => ?_)
      · refine lv_iload_n hx hb dX12_quotes_106 rfl (lv_at hl 3 rfl) ?_
        rw [hQ]; exact fn_iret hx hb hr hlocks rfl hP hD hS ((fun k => ([0] : List Int).getD k 0), (fun k => ([c38_t_23, c38_t_24, c38_t_25, c38_t_26, c38_t_27, c38_t_28] : List (Nat → Int)).getD k (fun _ => 0))) ⟨x38_3, rfl, by omega, (by show (-2147483648) ≤ 0 ∧ 0 ≤ 2147483647; omega), (hc38_t_23), (hc38_t_24), (hc38_t_25), (hc38_t_26), (hc38_t_27), (hc38_t_28), trivial⟩ [0, 1, 2, 3, 4, 5, 6, 7, 8, 9, 10, 11, 12] (by decide) rfl dX12_quotes_107
      · refine lv_iload_n hx hb dX12_quotes_49 rfl (lv_at hl 3 rfl) ?_
        refine lv_aload_n hx hb dX12_quotes_50 rfl (lv_at hl 0 rfl) ?_
        refine va_get (D := D) (own := RX12) (ci := 12) (v := .ref (t_q 26)) (C := RX12) (T := TX12) (N := 51) hx hb hts inb_X12 hown hK.1 hP 0 rfl rfl 26 (by decide) (hts _ wd_1260) (fun _ h9 => h9) rfl dX12_quotes_51 ?_
        refine lv_iload hx hb dX12_quotes_54 (lv_at hl 4 rfl) ?_
        refine g_iald hx hb hK.1 hP 10 0 rfl rfl (by omega) (by omega) (by decide) dX12_quotes_56 ?_
        have y56 : (-1) ≤ (c38_t_26 x38_4.toNat) ∧ (c38_t_26 x38_4.toNat) ≤ 11 := hc38_t_26 x38_4.toNat
        refine lv_iconst (v := iI (-1)) hx hb dX12_quotes_57 rfl ?_
        refine g_icmp_eq (tgt := 97) hx hb (by omega) (by omega) dX12_quotes_58 (by decide) (fun c58 => ?_) (fun c58 => ?_)
        · exact J97  _ _ ls (by omega) (hP.sub [0, 1, 2, 3, 4, 5, 6, 7, 8, 9, 10, 11, 12] rfl) (hD.sub [0, 1, 2, 3, 4, 5, 6, 7, 8, 9, 10, 11, 12] (by decide) rfl) hS (lv_sub hl [0, 1, 2, 3, 4] rfl)
        · refine lv_aload_n hx hb dX12_quotes_61 rfl (lv_at hl 0 rfl) ?_
          refine lv_aload_n hx hb dX12_quotes_62 rfl (lv_at hl 0 rfl) ?_
          refine va_get (D := D) (own := RX12) (ci := 12) (v := .ref (t_q 20)) (C := RX12) (T := TX12) (N := 51) hx hb hts inb_X12 hown hK.1 hP 0 rfl rfl 20 (by decide) (hts _ wd_1254) (fun _ h9 => h9) rfl dX12_quotes_63 ?_
          refine lv_iconst (v := iI 4) hx hb dX12_quotes_66 rfl ?_
          refine lv_iload hx hb dX12_quotes_67 (lv_at hl 4 rfl) ?_
          refine g_imul hx hb dX12_quotes_69 ?_
          refine fn_at 70 rfl ?_
          refine g_iald hx hb hK.1 hP 5 0 rfl rfl (by omega) (by omega) (by decide) dX12_quotes_70 ?_
          have y70 : 0 ≤ (t_20_c ((4 * x38_4).toNat)) ∧ (t_20_c ((4 * x38_4).toNat)) ≤ 11 := (hc_t_20 ((4 * x38_4).toNat)).1 (by omega)
          refine fn_goi (wc := [(t, .inr (12, oX12 t_q 0 t_x6 t_x7 t_x8 t_x9 t_x10 t_x11 t_x12 t_x13 t_x14 t_x15 t_x32 t_x33 t_x34 t_x35 t_x39 t_x40 t_x43 t_x44 t_x48 t_x49 t_x50)), ((t_q 19), .inl (K 0, 60, .inl (fun j => iI (t_19_c j)))), ((t_q 18), .inl (K 0, 50, .inl (fun j => iI (t_18_c j))))]) (wr := [((t_q 16), .inl (K 0, 5, .inl (fun j => iI (t_16_c j)))), ((t_q 17), .inl (K 0, 40, .inl (fun j => iI (t_17_c j)))), ((t_q 20), .inl (K 0, 480, .inl (fun j => iI (t_20_c j)))), ((t_q 21), .inl (K 0, 600, .inl (fun j => iI (t_21_c j)))), ((t_q 23), .inl (K 0, 150, .inl (fun j => iI (c38_t_23 j)))), ((t_q 24), .inl (K 0, 5, .inl (fun j => iI (c38_t_24 j)))), ((t_q 25), .inl (K 0, 24, .inl (fun j => iI (c38_t_25 j)))), ((t_q 26), .inl (K 0, 24, .inl (fun j => iI (c38_t_26 j)))), ((t_q 27), .inl (K 0, 12, .inl (fun j => iI (c38_t_27 j)))), ((t_q 28), .inl (K 0, 12, .inl (fun j => iI (c38_t_28 j))))]) hK hP hD hS hA [0, 4, 3] [1, 2, 5, 6, 7, 8, 9, 10, 11, 12] rfl rfl (by decide) (fun hp => va_runV (C := RX12) (As := [.int (iI (t_20_c ((4 * x38_4).toNat)))]) (rest := [.int (iI x38_3)]) ⟨hx, hb, hml, hown, hts⟩ (k_X12_scholarOf (l := l) (D := D) (K := K) (t := t) (p1 := (t_20_c ((4 * x38_4).toNat))) (t_q := t_q) (t_x0 := 0) (t_x6 := t_x6) (t_x7 := t_x7) (t_x8 := t_x8) (t_x9 := t_x9) (t_x10 := t_x10) (t_x11 := t_x11) (t_x12 := t_x12) (t_x13 := t_x13) (t_x14 := t_x14) (t_x15 := t_x15) (t_x32 := t_x32) (t_x33 := t_x33) (t_x34 := t_x34) (t_x35 := t_x35) (t_x39 := t_x39) (t_x40 := t_x40) (t_x43 := t_x43) (t_x44 := t_x44) (t_x48 := t_x48) (t_x49 := t_x49) (t_x50 := t_x50) (t_19_c := t_19_c) (t_18_c := t_18_c) (hp1 := (by omega)) (hi_t := ⟨(by omega), hi_t.2.1, hi_t.2.2.1, hi_t.2.2.2.1, hi_t.2.2.2.2.1, hi_t.2.2.2.2.2.1, hi_t.2.2.2.2.2.2.1, hi_t.2.2.2.2.2.2.2.1, hi_t.2.2.2.2.2.2.2.2.1, hi_t.2.2.2.2.2.2.2.2.2.1, hi_t.2.2.2.2.2.2.2.2.2.2.1, hi_t.2.2.2.2.2.2.2.2.2.2.2.1, hi_t.2.2.2.2.2.2.2.2.2.2.2.2.1, hi_t.2.2.2.2.2.2.2.2.2.2.2.2.2.1, hi_t.2.2.2.2.2.2.2.2.2.2.2.2.2.2.1, hi_t.2.2.2.2.2.2.2.2.2.2.2.2.2.2.2.1, hi_t.2.2.2.2.2.2.2.2.2.2.2.2.2.2.2.2.1, hi_t.2.2.2.2.2.2.2.2.2.2.2.2.2.2.2.2.2.1, hi_t.2.2.2.2.2.2.2.2.2.2.2.2.2.2.2.2.2.2.1, hi_t.2.2.2.2.2.2.2.2.2.2.2.2.2.2.2.2.2.2.2.1, hi_t.2.2.2.2.2.2.2.2.2.2.2.2.2.2.2.2.2.2.2.2.1, hi_t.2.2.2.2.2.2.2.2.2.2.2.2.2.2.2.2.2.2.2.2.2⟩) (hc_t_19 := hc_t_19) (hc_t_18 := hc_t_18) _) (cwV 1 hts (fn_ginV (fn_gin wd_1904) wd_1901 wd_1903 wp_156 wd_13) rfl rfl rfl (by decide +kernel) ⟨Nat.le_of_ble_eq_true rfl, Nat.le_of_ble_eq_true rfl⟩) ⟨fn_blind, va_recv hK.1 hP (ci := 12) (q0 := 0) rfl rfl, hp⟩ rfl rfl hl.1 rfl (lv_room (Nat.le_of_ble_eq_true rfl)) dX12_quotes_71 ⟨Nat.le_of_ble_eq_true rfl, Nat.le_of_ble_eq_true rfl⟩) (fun r71 u71 H locs hwu71 hP hD hS => ?_)
          obtain ⟨u71a, u71b⟩ := u71
          obtain ⟨kr71, rfl, hkr71, -⟩ := hwu71
          have hP : va_P D vwCl [((t_q 16), .inl (K 0, 5, .inl (fun j => iI (t_16_c j)))), ((t_q 17), .inl (K 0, 40, .inl (fun j => iI (t_17_c j)))), ((t_q 20), .inl (K 0, 480, .inl (fun j => iI (t_20_c j)))), ((t_q 21), .inl (K 0, 600, .inl (fun j => iI (t_21_c j)))), ((t_q 23), .inl (K 0, 150, .inl (fun j => iI (c38_t_23 j)))), ((t_q 24), .inl (K 0, 5, .inl (fun j => iI (c38_t_24 j)))), ((t_q 25), .inl (K 0, 24, .inl (fun j => iI (c38_t_25 j)))), ((t_q 26), .inl (K 0, 24, .inl (fun j => iI (c38_t_26 j)))), ((t_q 27), .inl (K 0, 12, .inl (fun j => iI (c38_t_27 j)))), ((t_q 28), .inl (K 0, 12, .inl (fun j => iI (c38_t_28 j)))), (t, .inr (12, oX12 t_q 0 t_x6 t_x7 t_x8 t_x9 t_x10 t_x11 t_x12 t_x13 t_x14 t_x15 t_x32 t_x33 t_x34 t_x35 t_x39 t_x40 t_x43 t_x44 t_x48 t_x49 t_x50)), ((t_q 19), .inl (K 0, 60, .inl (fun j => iI (t_19_c j)))), ((t_q 18), .inl (K 0, 50, .inl (fun j => iI (t_18_c j))))] H := hP
          have hD : va_D A [((t_q 16), .inl (K 0, 5, .inl (fun j => iI (t_16_c j)))), ((t_q 17), .inl (K 0, 40, .inl (fun j => iI (t_17_c j)))), ((t_q 20), .inl (K 0, 480, .inl (fun j => iI (t_20_c j)))), ((t_q 21), .inl (K 0, 600, .inl (fun j => iI (t_21_c j)))), ((t_q 23), .inl (K 0, 150, .inl (fun j => iI (c38_t_23 j)))), ((t_q 24), .inl (K 0, 5, .inl (fun j => iI (c38_t_24 j)))), ((t_q 25), .inl (K 0, 24, .inl (fun j => iI (c38_t_25 j)))), ((t_q 26), .inl (K 0, 24, .inl (fun j => iI (c38_t_26 j)))), ((t_q 27), .inl (K 0, 12, .inl (fun j => iI (c38_t_27 j)))), ((t_q 28), .inl (K 0, 12, .inl (fun j => iI (c38_t_28 j)))), (t, .inr (12, oX12 t_q 0 t_x6 t_x7 t_x8 t_x9 t_x10 t_x11 t_x12 t_x13 t_x14 t_x15 t_x32 t_x33 t_x34 t_x35 t_x39 t_x40 t_x43 t_x44 t_x48 t_x49 t_x50)), ((t_q 19), .inl (K 0, 60, .inl (fun j => iI (t_19_c j)))), ((t_q 18), .inl (K 0, 50, .inl (fun j => iI (t_18_c j))))] := hD
          refine lv_iload_n hx hb dX12_quotes_74 rfl (lv_at hl 1 rfl) ?_
          refine g_icmp_ne (tgt := 97) hx hb (by omega) (by omega) dX12_quotes_75 (by decide) (fun c75 => ?_) (fun c75 => ?_)
          · exact J97  _ _ ls (by omega) (hP.sub [10, 0, 1, 12, 11, 2, 3, 4, 5, 6, 7, 8, 9] rfl) (hD.sub [10, 0, 1, 12, 11, 2, 3, 4, 5, 6, 7, 8, 9] (by decide) rfl) hS (lv_sub hl [0, 1, 2, 3, 4] rfl)
          · refine lv_aload_n hx hb dX12_quotes_78 rfl (lv_at hl 0 rfl) ?_
            refine lv_aload_n hx hb dX12_quotes_79 rfl (lv_at hl 0 rfl) ?_
            refine va_get (D := D) (own := RX12) (ci := 12) (v := .ref (t_q 26)) (C := RX12) (T := TX12) (N := 51) hx hb hts inb_X12 hown hK.1 hP 10 rfl rfl 26 (by decide) (hts _ wd_1260) (fun _ h9 => h9) rfl dX12_quotes_80 ?_
            refine lv_iload hx hb dX12_quotes_83 (lv_at hl 4 rfl) ?_
            refine g_iald hx hb hK.1 hP 7 0 rfl rfl (by omega) (by omega) (by decide) dX12_quotes_85 ?_
            refine fn_goi (wc := [(t, .inr (12, oX12 t_q 0 t_x6 t_x7 t_x8 t_x9 t_x10 t_x11 t_x12 t_x13 t_x14 t_x15 t_x32 t_x33 t_x34 t_x35 t_x39 t_x40 t_x43 t_x44 t_x48 t_x49 t_x50)), ((t_q 19), .inl (K 0, 60, .inl (fun j => iI (t_19_c j)))), ((t_q 18), .inl (K 0, 50, .inl (fun j => iI (t_18_c j))))]) (wr := [((t_q 16), .inl (K 0, 5, .inl (fun j => iI (t_16_c j)))), ((t_q 17), .inl (K 0, 40, .inl (fun j => iI (t_17_c j)))), ((t_q 20), .inl (K 0, 480, .inl (fun j => iI (t_20_c j)))), ((t_q 21), .inl (K 0, 600, .inl (fun j => iI (t_21_c j)))), ((t_q 23), .inl (K 0, 150, .inl (fun j => iI (c38_t_23 j)))), ((t_q 24), .inl (K 0, 5, .inl (fun j => iI (c38_t_24 j)))), ((t_q 25), .inl (K 0, 24, .inl (fun j => iI (c38_t_25 j)))), ((t_q 26), .inl (K 0, 24, .inl (fun j => iI (c38_t_26 j)))), ((t_q 27), .inl (K 0, 12, .inl (fun j => iI (c38_t_27 j)))), ((t_q 28), .inl (K 0, 12, .inl (fun j => iI (c38_t_28 j))))]) hK hP hD hS hA [10, 11, 12] [0, 1, 2, 3, 4, 5, 6, 7, 8, 9] rfl rfl (by decide) (fun hp => va_runV (C := RX12) (As := [.int (iI (c38_t_26 x38_4.toNat))]) (rest := [.int (iI x38_3)]) ⟨hx, hb, hml, hown, hts⟩ (k_X12_scholarOf (l := l) (D := D) (K := K) (t := t) (p1 := (c38_t_26 x38_4.toNat)) (t_q := t_q) (t_x0 := 0) (t_x6 := t_x6) (t_x7 := t_x7) (t_x8 := t_x8) (t_x9 := t_x9) (t_x10 := t_x10) (t_x11 := t_x11) (t_x12 := t_x12) (t_x13 := t_x13) (t_x14 := t_x14) (t_x15 := t_x15) (t_x32 := t_x32) (t_x33 := t_x33) (t_x34 := t_x34) (t_x35 := t_x35) (t_x39 := t_x39) (t_x40 := t_x40) (t_x43 := t_x43) (t_x44 := t_x44) (t_x48 := t_x48) (t_x49 := t_x49) (t_x50 := t_x50) (t_19_c := t_19_c) (t_18_c := t_18_c) (hp1 := (by omega)) (hi_t := ⟨(by omega), hi_t.2.1, hi_t.2.2.1, hi_t.2.2.2.1, hi_t.2.2.2.2.1, hi_t.2.2.2.2.2.1, hi_t.2.2.2.2.2.2.1, hi_t.2.2.2.2.2.2.2.1, hi_t.2.2.2.2.2.2.2.2.1, hi_t.2.2.2.2.2.2.2.2.2.1, hi_t.2.2.2.2.2.2.2.2.2.2.1, hi_t.2.2.2.2.2.2.2.2.2.2.2.1, hi_t.2.2.2.2.2.2.2.2.2.2.2.2.1, hi_t.2.2.2.2.2.2.2.2.2.2.2.2.2.1, hi_t.2.2.2.2.2.2.2.2.2.2.2.2.2.2.1, hi_t.2.2.2.2.2.2.2.2.2.2.2.2.2.2.2.1, hi_t.2.2.2.2.2.2.2.2.2.2.2.2.2.2.2.2.1, hi_t.2.2.2.2.2.2.2.2.2.2.2.2.2.2.2.2.2.1, hi_t.2.2.2.2.2.2.2.2.2.2.2.2.2.2.2.2.2.2.1, hi_t.2.2.2.2.2.2.2.2.2.2.2.2.2.2.2.2.2.2.2.1, hi_t.2.2.2.2.2.2.2.2.2.2.2.2.2.2.2.2.2.2.2.2.1, hi_t.2.2.2.2.2.2.2.2.2.2.2.2.2.2.2.2.2.2.2.2.2⟩) (hc_t_19 := hc_t_19) (hc_t_18 := hc_t_18) _) (cwV 1 hts (fn_ginV (fn_gin wd_1904) wd_1901 wd_1903 wp_156 wd_13) rfl rfl rfl (by decide +kernel) ⟨Nat.le_of_ble_eq_true rfl, Nat.le_of_ble_eq_true rfl⟩) ⟨fn_blind, va_recv hK.1 hP (ci := 12) (q0 := 10) rfl rfl, hp⟩ rfl rfl hl.1 rfl (lv_room (Nat.le_of_ble_eq_true rfl)) dX12_quotes_86 ⟨Nat.le_of_ble_eq_true rfl, Nat.le_of_ble_eq_true rfl⟩) (fun r86 u86 H locs hwu86 hP hD hS => ?_)
            obtain ⟨u86a, u86b⟩ := u86
            obtain ⟨kr86, rfl, hkr86, -⟩ := hwu86
            have hP : va_P D vwCl [((t_q 16), .inl (K 0, 5, .inl (fun j => iI (t_16_c j)))), ((t_q 17), .inl (K 0, 40, .inl (fun j => iI (t_17_c j)))), ((t_q 20), .inl (K 0, 480, .inl (fun j => iI (t_20_c j)))), ((t_q 21), .inl (K 0, 600, .inl (fun j => iI (t_21_c j)))), ((t_q 23), .inl (K 0, 150, .inl (fun j => iI (c38_t_23 j)))), ((t_q 24), .inl (K 0, 5, .inl (fun j => iI (c38_t_24 j)))), ((t_q 25), .inl (K 0, 24, .inl (fun j => iI (c38_t_25 j)))), ((t_q 26), .inl (K 0, 24, .inl (fun j => iI (c38_t_26 j)))), ((t_q 27), .inl (K 0, 12, .inl (fun j => iI (c38_t_27 j)))), ((t_q 28), .inl (K 0, 12, .inl (fun j => iI (c38_t_28 j)))), (t, .inr (12, oX12 t_q 0 t_x6 t_x7 t_x8 t_x9 t_x10 t_x11 t_x12 t_x13 t_x14 t_x15 t_x32 t_x33 t_x34 t_x35 t_x39 t_x40 t_x43 t_x44 t_x48 t_x49 t_x50)), ((t_q 19), .inl (K 0, 60, .inl (fun j => iI (t_19_c j)))), ((t_q 18), .inl (K 0, 50, .inl (fun j => iI (t_18_c j))))] H := hP
            have hD : va_D A [((t_q 16), .inl (K 0, 5, .inl (fun j => iI (t_16_c j)))), ((t_q 17), .inl (K 0, 40, .inl (fun j => iI (t_17_c j)))), ((t_q 20), .inl (K 0, 480, .inl (fun j => iI (t_20_c j)))), ((t_q 21), .inl (K 0, 600, .inl (fun j => iI (t_21_c j)))), ((t_q 23), .inl (K 0, 150, .inl (fun j => iI (c38_t_23 j)))), ((t_q 24), .inl (K 0, 5, .inl (fun j => iI (c38_t_24 j)))), ((t_q 25), .inl (K 0, 24, .inl (fun j => iI (c38_t_25 j)))), ((t_q 26), .inl (K 0, 24, .inl (fun j => iI (c38_t_26 j)))), ((t_q 27), .inl (K 0, 12, .inl (fun j => iI (c38_t_27 j)))), ((t_q 28), .inl (K 0, 12, .inl (fun j => iI (c38_t_28 j)))), (t, .inr (12, oX12 t_q 0 t_x6 t_x7 t_x8 t_x9 t_x10 t_x11 t_x12 t_x13 t_x14 t_x15 t_x32 t_x33 t_x34 t_x35 t_x39 t_x40 t_x43 t_x44 t_x48 t_x49 t_x50)), ((t_q 19), .inl (K 0, 60, .inl (fun j => iI (t_19_c j)))), ((t_q 18), .inl (K 0, 50, .inl (fun j => iI (t_18_c j))))] := hD
            refine lv_iload_n hx hb dX12_quotes_89 rfl (lv_at hl 2 rfl) ?_
            refine g_icmp_ne (tgt := 97) hx hb (by omega) (by omega) dX12_quotes_90 (by decide) (fun c90 => ?_) (fun c90 => ?_)
            · exact J97  _ _ ls (by omega) (hP.sub [10, 0, 1, 12, 11, 2, 3, 4, 5, 6, 7, 8, 9] rfl) (hD.sub [10, 0, 1, 12, 11, 2, 3, 4, 5, 6, 7, 8, 9] (by decide) rfl) hS (lv_sub hl [0, 1, 2, 3, 4] rfl)
            · refine lv_iconst (v := iI 1) hx hb dX12_quotes_93 rfl ?_
              refine lv_goto (tgt := 98) hx hb dX12_quotes_94 (by decide) ?_
              exact J98 1 _ _ ls (by omega) (hP.sub [10, 0, 1, 12, 11, 2, 3, 4, 5, 6, 7, 8, 9] rfl) (hD.sub [10, 0, 1, 12, 11, 2, 3, 4, 5, 6, 7, 8, 9] (by decide) rfl) hS (lv_sub hl [0, 1, 2, 3, 4] rfl)
  have hl : lv_has ls 5 [(0, .ref t), (1, .int (iI p1)), (2, .int (iI p2))] := hl
  refine lv_aload_n hx hb dX12_quotes_0 rfl (lv_at hl 0 rfl) ?_
  refine lv_iconst (v := iI 0) hx hb dX12_quotes_1 rfl ?_
  refine va_put (D := D) (own := RX12) (ci := 12) (v := .int (iI 0)) (ty := .int) (C := RX12) (T := TX12) (N := 51) hx hb hts inb_X12 tyX12 tyX12_ok nmX12 hown hK.1 hP hD hS 0 rfl rfl 0 (by decide) (hts _ wd_1234) (fun _ h9 => h9) rfl (by decide +kernel) rfl rfl (Nat.le_of_ble_eq_true rfl) dX12_quotes_2 (fun H locs hP hD hS => ?_)
  have hP : va_P D vwCl [(t, .inr (12, oX12 t_q 0 t_x6 t_x7 t_x8 t_x9 t_x10 t_x11 t_x12 t_x13 t_x14 t_x15 t_x32 t_x33 t_x34 t_x35 t_x39 t_x40 t_x43 t_x44 t_x48 t_x49 t_x50)), ((t_q 16), .inl (K 0, 5, .inl (fun j => iI (t_16_c j)))), ((t_q 17), .inl (K 0, 40, .inl (fun j => iI (t_17_c j)))), ((t_q 18), .inl (K 0, 50, .inl (fun j => iI (t_18_c j)))), ((t_q 19), .inl (K 0, 60, .inl (fun j => iI (t_19_c j)))), ((t_q 20), .inl (K 0, 480, .inl (fun j => iI (t_20_c j)))), ((t_q 21), .inl (K 0, 600, .inl (fun j => iI (t_21_c j)))), ((t_q 23), .inl (K 0, 150, .inl (fun j => iI (t_23_c j)))), ((t_q 24), .inl (K 0, 5, .inl (fun j => iI (t_24_c j)))), ((t_q 25), .inl (K 0, 24, .inl (fun j => iI (t_25_c j)))), ((t_q 26), .inl (K 0, 24, .inl (fun j => iI (t_26_c j)))), ((t_q 27), .inl (K 0, 12, .inl (fun j => iI (t_27_c j)))), ((t_q 28), .inl (K 0, 12, .inl (fun j => iI (t_28_c j))))] H := hP
  have hD : va_D A [(t, .inr (12, oX12 t_q 0 t_x6 t_x7 t_x8 t_x9 t_x10 t_x11 t_x12 t_x13 t_x14 t_x15 t_x32 t_x33 t_x34 t_x35 t_x39 t_x40 t_x43 t_x44 t_x48 t_x49 t_x50)), ((t_q 16), .inl (K 0, 5, .inl (fun j => iI (t_16_c j)))), ((t_q 17), .inl (K 0, 40, .inl (fun j => iI (t_17_c j)))), ((t_q 18), .inl (K 0, 50, .inl (fun j => iI (t_18_c j)))), ((t_q 19), .inl (K 0, 60, .inl (fun j => iI (t_19_c j)))), ((t_q 20), .inl (K 0, 480, .inl (fun j => iI (t_20_c j)))), ((t_q 21), .inl (K 0, 600, .inl (fun j => iI (t_21_c j)))), ((t_q 23), .inl (K 0, 150, .inl (fun j => iI (t_23_c j)))), ((t_q 24), .inl (K 0, 5, .inl (fun j => iI (t_24_c j)))), ((t_q 25), .inl (K 0, 24, .inl (fun j => iI (t_25_c j)))), ((t_q 26), .inl (K 0, 24, .inl (fun j => iI (t_26_c j)))), ((t_q 27), .inl (K 0, 12, .inl (fun j => iI (t_27_c j)))), ((t_q 28), .inl (K 0, 12, .inl (fun j => iI (t_28_c j))))] := hD
  refine lv_aload_n hx hb dX12_quotes_5 rfl (lv_at hl 0 rfl) ?_
  refine fn_goi (wc := [(t, .inr (12, oX12 t_q 0 t_x6 t_x7 t_x8 t_x9 t_x10 t_x11 t_x12 t_x13 t_x14 t_x15 t_x32 t_x33 t_x34 t_x35 t_x39 t_x40 t_x43 t_x44 t_x48 t_x49 t_x50)), ((t_q 16), .inl (K 0, 5, .inl (fun j => iI (t_16_c j))))]) (wr := [((t_q 17), .inl (K 0, 40, .inl (fun j => iI (t_17_c j)))), ((t_q 18), .inl (K 0, 50, .inl (fun j => iI (t_18_c j)))), ((t_q 19), .inl (K 0, 60, .inl (fun j => iI (t_19_c j)))), ((t_q 20), .inl (K 0, 480, .inl (fun j => iI (t_20_c j)))), ((t_q 21), .inl (K 0, 600, .inl (fun j => iI (t_21_c j)))), ((t_q 23), .inl (K 0, 150, .inl (fun j => iI (t_23_c j)))), ((t_q 24), .inl (K 0, 5, .inl (fun j => iI (t_24_c j)))), ((t_q 25), .inl (K 0, 24, .inl (fun j => iI (t_25_c j)))), ((t_q 26), .inl (K 0, 24, .inl (fun j => iI (t_26_c j)))), ((t_q 27), .inl (K 0, 12, .inl (fun j => iI (t_27_c j)))), ((t_q 28), .inl (K 0, 12, .inl (fun j => iI (t_28_c j))))]) hK hP hD hS hA [0, 1] [2, 3, 4, 5, 6, 7, 8, 9, 10, 11, 12] rfl rfl (by decide) (fun hp => va_runV (C := RX12) (As := []) (rest := []) ⟨hx, hb, hml, hown, hts⟩ (k_X12_isTown (l := l) (D := D) (K := K) (t := t) (t_q := t_q) (t_x0 := 0) (t_x6 := t_x6) (t_x7 := t_x7) (t_x8 := t_x8) (t_x9 := t_x9) (t_x10 := t_x10) (t_x11 := t_x11) (t_x12 := t_x12) (t_x13 := t_x13) (t_x14 := t_x14) (t_x15 := t_x15) (t_x32 := t_x32) (t_x33 := t_x33) (t_x34 := t_x34) (t_x35 := t_x35) (t_x39 := t_x39) (t_x40 := t_x40) (t_x43 := t_x43) (t_x44 := t_x44) (t_x48 := t_x48) (t_x49 := t_x49) (t_x50 := t_x50) (t_16_c := t_16_c) (hi_t := ⟨(by omega), hi_t.2.1, hi_t.2.2.1, hi_t.2.2.2.1, hi_t.2.2.2.2.1, hi_t.2.2.2.2.2.1, hi_t.2.2.2.2.2.2.1, hi_t.2.2.2.2.2.2.2.1, hi_t.2.2.2.2.2.2.2.2.1, hi_t.2.2.2.2.2.2.2.2.2.1, hi_t.2.2.2.2.2.2.2.2.2.2.1, hi_t.2.2.2.2.2.2.2.2.2.2.2.1, hi_t.2.2.2.2.2.2.2.2.2.2.2.2.1, hi_t.2.2.2.2.2.2.2.2.2.2.2.2.2.1, hi_t.2.2.2.2.2.2.2.2.2.2.2.2.2.2.1, hi_t.2.2.2.2.2.2.2.2.2.2.2.2.2.2.2.1, hi_t.2.2.2.2.2.2.2.2.2.2.2.2.2.2.2.2.1, hi_t.2.2.2.2.2.2.2.2.2.2.2.2.2.2.2.2.2.1, hi_t.2.2.2.2.2.2.2.2.2.2.2.2.2.2.2.2.2.2.1, hi_t.2.2.2.2.2.2.2.2.2.2.2.2.2.2.2.2.2.2.2.1, hi_t.2.2.2.2.2.2.2.2.2.2.2.2.2.2.2.2.2.2.2.2.1, hi_t.2.2.2.2.2.2.2.2.2.2.2.2.2.2.2.2.2.2.2.2.2⟩) (hc_t_16 := hc_t_16) _) (cwV 0 hts (fn_ginV (fn_gin wd_1599) wd_1596 wd_1598 wp_124 wd_13) rfl rfl rfl (by decide +kernel) ⟨Nat.le_of_ble_eq_true rfl, Nat.le_of_ble_eq_true rfl⟩) ⟨fn_blind, va_recv hK.1 hP (ci := 12) (q0 := 0) rfl rfl, hp⟩ rfl rfl hl.1 rfl (lv_room (Nat.le_of_ble_eq_true rfl)) dX12_quotes_6 ⟨Nat.le_of_ble_eq_true rfl, Nat.le_of_ble_eq_true rfl⟩) (fun r6 u6 H locs hwu6 hP hD hS => ?_)
  obtain ⟨u6a, u6b⟩ := u6
  obtain ⟨kr6, rfl, hkr6, -⟩ := hwu6
  have hP : va_P D vwCl [((t_q 17), .inl (K 0, 40, .inl (fun j => iI (t_17_c j)))), ((t_q 18), .inl (K 0, 50, .inl (fun j => iI (t_18_c j)))), ((t_q 19), .inl (K 0, 60, .inl (fun j => iI (t_19_c j)))), ((t_q 20), .inl (K 0, 480, .inl (fun j => iI (t_20_c j)))), ((t_q 21), .inl (K 0, 600, .inl (fun j => iI (t_21_c j)))), ((t_q 23), .inl (K 0, 150, .inl (fun j => iI (t_23_c j)))), ((t_q 24), .inl (K 0, 5, .inl (fun j => iI (t_24_c j)))), ((t_q 25), .inl (K 0, 24, .inl (fun j => iI (t_25_c j)))), ((t_q 26), .inl (K 0, 24, .inl (fun j => iI (t_26_c j)))), ((t_q 27), .inl (K 0, 12, .inl (fun j => iI (t_27_c j)))), ((t_q 28), .inl (K 0, 12, .inl (fun j => iI (t_28_c j)))), (t, .inr (12, oX12 t_q 0 t_x6 t_x7 t_x8 t_x9 t_x10 t_x11 t_x12 t_x13 t_x14 t_x15 t_x32 t_x33 t_x34 t_x35 t_x39 t_x40 t_x43 t_x44 t_x48 t_x49 t_x50)), ((t_q 16), .inl (K 0, 5, .inl (fun j => iI (t_16_c j))))] H := hP
  have hD : va_D A [((t_q 17), .inl (K 0, 40, .inl (fun j => iI (t_17_c j)))), ((t_q 18), .inl (K 0, 50, .inl (fun j => iI (t_18_c j)))), ((t_q 19), .inl (K 0, 60, .inl (fun j => iI (t_19_c j)))), ((t_q 20), .inl (K 0, 480, .inl (fun j => iI (t_20_c j)))), ((t_q 21), .inl (K 0, 600, .inl (fun j => iI (t_21_c j)))), ((t_q 23), .inl (K 0, 150, .inl (fun j => iI (t_23_c j)))), ((t_q 24), .inl (K 0, 5, .inl (fun j => iI (t_24_c j)))), ((t_q 25), .inl (K 0, 24, .inl (fun j => iI (t_25_c j)))), ((t_q 26), .inl (K 0, 24, .inl (fun j => iI (t_26_c j)))), ((t_q 27), .inl (K 0, 12, .inl (fun j => iI (t_27_c j)))), ((t_q 28), .inl (K 0, 12, .inl (fun j => iI (t_28_c j)))), (t, .inr (12, oX12 t_q 0 t_x6 t_x7 t_x8 t_x9 t_x10 t_x11 t_x12 t_x13 t_x14 t_x15 t_x32 t_x33 t_x34 t_x35 t_x39 t_x40 t_x43 t_x44 t_x48 t_x49 t_x50)), ((t_q 16), .inl (K 0, 5, .inl (fun j => iI (t_16_c j))))] := hD
  refine g_if_eq (tgt := 26) hx hb (by omega) dX12_quotes_9 (by decide) (fun c9 => ?_) (fun c9 => ?_)
  · refine lv_bipush (v := iI (-2)) hx hb dX12_quotes_26 (by decide) ?_
    rw [hQ]; exact fn_iret hx hb hr hlocks rfl hP hD hS ((fun k => ([0] : List Int).getD k 0), (fun k => ([t_23_c, t_24_c, t_25_c, t_26_c, t_27_c, t_28_c] : List (Nat → Int)).getD k (fun _ => 0))) ⟨(-2), rfl, by omega, (by show (-2147483648) ≤ 0 ∧ 0 ≤ 2147483647; omega), (hc_t_23), (hc_t_24), (hc_t_25), (hc_t_26), (hc_t_27), (hc_t_28), trivial⟩ [11, 12, 0, 1, 2, 3, 4, 5, 6, 7, 8, 9, 10] (by decide) rfl dX12_quotes_28
  · refine lv_iload_n hx hb dX12_quotes_12 rfl (lv_at hl 1 rfl) ?_
    refine fn_goi (wc := []) (wr := [((t_q 17), .inl (K 0, 40, .inl (fun j => iI (t_17_c j)))), ((t_q 18), .inl (K 0, 50, .inl (fun j => iI (t_18_c j)))), ((t_q 19), .inl (K 0, 60, .inl (fun j => iI (t_19_c j)))), ((t_q 20), .inl (K 0, 480, .inl (fun j => iI (t_20_c j)))), ((t_q 21), .inl (K 0, 600, .inl (fun j => iI (t_21_c j)))), ((t_q 23), .inl (K 0, 150, .inl (fun j => iI (t_23_c j)))), ((t_q 24), .inl (K 0, 5, .inl (fun j => iI (t_24_c j)))), ((t_q 25), .inl (K 0, 24, .inl (fun j => iI (t_25_c j)))), ((t_q 26), .inl (K 0, 24, .inl (fun j => iI (t_26_c j)))), ((t_q 27), .inl (K 0, 12, .inl (fun j => iI (t_27_c j)))), ((t_q 28), .inl (K 0, 12, .inl (fun j => iI (t_28_c j)))), (t, .inr (12, oX12 t_q 0 t_x6 t_x7 t_x8 t_x9 t_x10 t_x11 t_x12 t_x13 t_x14 t_x15 t_x32 t_x33 t_x34 t_x35 t_x39 t_x40 t_x43 t_x44 t_x48 t_x49 t_x50)), ((t_q 16), .inl (K 0, 5, .inl (fun j => iI (t_16_c j))))]) hK hP hD hS hA [] [0, 1, 2, 3, 4, 5, 6, 7, 8, 9, 10, 11, 12] rfl rfl (by decide) (fun hp => va_runS (As := [.int (iI p1)]) (rest := []) ⟨hx, hb, hml, hown, hts⟩ (k_X12_isScholar (l := l) (D := D) (K := K) (p1 := p1) (hp1 := (by omega)) _) (va_cwS 1 hts (fn_ginS (fn_gin wd_1895) wd_1893 wd_1894 wd_13) rfl rfl rfl (by decide +kernel) ⟨Nat.le_of_ble_eq_true rfl, Nat.le_of_ble_eq_true rfl⟩) ⟨fn_blind, hp⟩ rfl rfl hl.1 rfl (lv_room (Nat.le_of_ble_eq_true rfl)) dX12_quotes_13 ⟨Nat.le_of_ble_eq_true rfl, Nat.le_of_ble_eq_true rfl⟩) (fun r13 u13 H locs hwu13 hP hD hS => ?_)
    obtain ⟨u13a, u13b⟩ := u13
    obtain ⟨kr13, rfl, hkr13, hqu130, -⟩ := hwu13
    have hqu13 : (kr13 = 1 → 0 ≤ p1 ∧ p1 ≤ 4) := hqu130
    clear hqu130
    have hP : va_P D vwCl [((t_q 17), .inl (K 0, 40, .inl (fun j => iI (t_17_c j)))), ((t_q 18), .inl (K 0, 50, .inl (fun j => iI (t_18_c j)))), ((t_q 19), .inl (K 0, 60, .inl (fun j => iI (t_19_c j)))), ((t_q 20), .inl (K 0, 480, .inl (fun j => iI (t_20_c j)))), ((t_q 21), .inl (K 0, 600, .inl (fun j => iI (t_21_c j)))), ((t_q 23), .inl (K 0, 150, .inl (fun j => iI (t_23_c j)))), ((t_q 24), .inl (K 0, 5, .inl (fun j => iI (t_24_c j)))), ((t_q 25), .inl (K 0, 24, .inl (fun j => iI (t_25_c j)))), ((t_q 26), .inl (K 0, 24, .inl (fun j => iI (t_26_c j)))), ((t_q 27), .inl (K 0, 12, .inl (fun j => iI (t_27_c j)))), ((t_q 28), .inl (K 0, 12, .inl (fun j => iI (t_28_c j)))), (t, .inr (12, oX12 t_q 0 t_x6 t_x7 t_x8 t_x9 t_x10 t_x11 t_x12 t_x13 t_x14 t_x15 t_x32 t_x33 t_x34 t_x35 t_x39 t_x40 t_x43 t_x44 t_x48 t_x49 t_x50)), ((t_q 16), .inl (K 0, 5, .inl (fun j => iI (t_16_c j))))] H := hP
    have hD : va_D A [((t_q 17), .inl (K 0, 40, .inl (fun j => iI (t_17_c j)))), ((t_q 18), .inl (K 0, 50, .inl (fun j => iI (t_18_c j)))), ((t_q 19), .inl (K 0, 60, .inl (fun j => iI (t_19_c j)))), ((t_q 20), .inl (K 0, 480, .inl (fun j => iI (t_20_c j)))), ((t_q 21), .inl (K 0, 600, .inl (fun j => iI (t_21_c j)))), ((t_q 23), .inl (K 0, 150, .inl (fun j => iI (t_23_c j)))), ((t_q 24), .inl (K 0, 5, .inl (fun j => iI (t_24_c j)))), ((t_q 25), .inl (K 0, 24, .inl (fun j => iI (t_25_c j)))), ((t_q 26), .inl (K 0, 24, .inl (fun j => iI (t_26_c j)))), ((t_q 27), .inl (K 0, 12, .inl (fun j => iI (t_27_c j)))), ((t_q 28), .inl (K 0, 12, .inl (fun j => iI (t_28_c j)))), (t, .inr (12, oX12 t_q 0 t_x6 t_x7 t_x8 t_x9 t_x10 t_x11 t_x12 t_x13 t_x14 t_x15 t_x32 t_x33 t_x34 t_x35 t_x39 t_x40 t_x43 t_x44 t_x48 t_x49 t_x50)), ((t_q 16), .inl (K 0, 5, .inl (fun j => iI (t_16_c j))))] := hD
    refine g_if_eq (tgt := 26) hx hb (by omega) dX12_quotes_16 (by decide) (fun c16 => ?_) (fun c16 => ?_)
    · refine lv_bipush (v := iI (-2)) hx hb dX12_quotes_26 (by decide) ?_
      rw [hQ]; exact fn_iret hx hb hr hlocks rfl hP hD hS ((fun k => ([0] : List Int).getD k 0), (fun k => ([t_23_c, t_24_c, t_25_c, t_26_c, t_27_c, t_28_c] : List (Nat → Int)).getD k (fun _ => 0))) ⟨(-2), rfl, by omega, (by show (-2147483648) ≤ 0 ∧ 0 ≤ 2147483647; omega), (hc_t_23), (hc_t_24), (hc_t_25), (hc_t_26), (hc_t_27), (hc_t_28), trivial⟩ [11, 12, 0, 1, 2, 3, 4, 5, 6, 7, 8, 9, 10] (by decide) rfl dX12_quotes_28
    · refine lv_iload_n hx hb dX12_quotes_19 rfl (lv_at hl 2 rfl) ?_
      refine fn_goi (wc := []) (wr := [((t_q 17), .inl (K 0, 40, .inl (fun j => iI (t_17_c j)))), ((t_q 18), .inl (K 0, 50, .inl (fun j => iI (t_18_c j)))), ((t_q 19), .inl (K 0, 60, .inl (fun j => iI (t_19_c j)))), ((t_q 20), .inl (K 0, 480, .inl (fun j => iI (t_20_c j)))), ((t_q 21), .inl (K 0, 600, .inl (fun j => iI (t_21_c j)))), ((t_q 23), .inl (K 0, 150, .inl (fun j => iI (t_23_c j)))), ((t_q 24), .inl (K 0, 5, .inl (fun j => iI (t_24_c j)))), ((t_q 25), .inl (K 0, 24, .inl (fun j => iI (t_25_c j)))), ((t_q 26), .inl (K 0, 24, .inl (fun j => iI (t_26_c j)))), ((t_q 27), .inl (K 0, 12, .inl (fun j => iI (t_27_c j)))), ((t_q 28), .inl (K 0, 12, .inl (fun j => iI (t_28_c j)))), (t, .inr (12, oX12 t_q 0 t_x6 t_x7 t_x8 t_x9 t_x10 t_x11 t_x12 t_x13 t_x14 t_x15 t_x32 t_x33 t_x34 t_x35 t_x39 t_x40 t_x43 t_x44 t_x48 t_x49 t_x50)), ((t_q 16), .inl (K 0, 5, .inl (fun j => iI (t_16_c j))))]) hK hP hD hS hA [] [0, 1, 2, 3, 4, 5, 6, 7, 8, 9, 10, 11, 12] rfl rfl (by decide) (fun hp => va_runS (As := [.int (iI p2)]) (rest := []) ⟨hx, hb, hml, hown, hts⟩ (k_X12_isScholar (l := l) (D := D) (K := K) (p1 := p2) (hp1 := (by omega)) _) (va_cwS 1 hts (fn_ginS (fn_gin wd_1895) wd_1893 wd_1894 wd_13) rfl rfl rfl (by decide +kernel) ⟨Nat.le_of_ble_eq_true rfl, Nat.le_of_ble_eq_true rfl⟩) ⟨fn_blind, hp⟩ rfl rfl hl.1 rfl (lv_room (Nat.le_of_ble_eq_true rfl)) dX12_quotes_20 ⟨Nat.le_of_ble_eq_true rfl, Nat.le_of_ble_eq_true rfl⟩) (fun r20 u20 H locs hwu20 hP hD hS => ?_)
      obtain ⟨u20a, u20b⟩ := u20
      obtain ⟨kr20, rfl, hkr20, hqu200, -⟩ := hwu20
      have hqu20 : (kr20 = 1 → 0 ≤ p2 ∧ p2 ≤ 4) := hqu200
      clear hqu200
      have hP : va_P D vwCl [((t_q 17), .inl (K 0, 40, .inl (fun j => iI (t_17_c j)))), ((t_q 18), .inl (K 0, 50, .inl (fun j => iI (t_18_c j)))), ((t_q 19), .inl (K 0, 60, .inl (fun j => iI (t_19_c j)))), ((t_q 20), .inl (K 0, 480, .inl (fun j => iI (t_20_c j)))), ((t_q 21), .inl (K 0, 600, .inl (fun j => iI (t_21_c j)))), ((t_q 23), .inl (K 0, 150, .inl (fun j => iI (t_23_c j)))), ((t_q 24), .inl (K 0, 5, .inl (fun j => iI (t_24_c j)))), ((t_q 25), .inl (K 0, 24, .inl (fun j => iI (t_25_c j)))), ((t_q 26), .inl (K 0, 24, .inl (fun j => iI (t_26_c j)))), ((t_q 27), .inl (K 0, 12, .inl (fun j => iI (t_27_c j)))), ((t_q 28), .inl (K 0, 12, .inl (fun j => iI (t_28_c j)))), (t, .inr (12, oX12 t_q 0 t_x6 t_x7 t_x8 t_x9 t_x10 t_x11 t_x12 t_x13 t_x14 t_x15 t_x32 t_x33 t_x34 t_x35 t_x39 t_x40 t_x43 t_x44 t_x48 t_x49 t_x50)), ((t_q 16), .inl (K 0, 5, .inl (fun j => iI (t_16_c j))))] H := hP
      have hD : va_D A [((t_q 17), .inl (K 0, 40, .inl (fun j => iI (t_17_c j)))), ((t_q 18), .inl (K 0, 50, .inl (fun j => iI (t_18_c j)))), ((t_q 19), .inl (K 0, 60, .inl (fun j => iI (t_19_c j)))), ((t_q 20), .inl (K 0, 480, .inl (fun j => iI (t_20_c j)))), ((t_q 21), .inl (K 0, 600, .inl (fun j => iI (t_21_c j)))), ((t_q 23), .inl (K 0, 150, .inl (fun j => iI (t_23_c j)))), ((t_q 24), .inl (K 0, 5, .inl (fun j => iI (t_24_c j)))), ((t_q 25), .inl (K 0, 24, .inl (fun j => iI (t_25_c j)))), ((t_q 26), .inl (K 0, 24, .inl (fun j => iI (t_26_c j)))), ((t_q 27), .inl (K 0, 12, .inl (fun j => iI (t_27_c j)))), ((t_q 28), .inl (K 0, 12, .inl (fun j => iI (t_28_c j)))), (t, .inr (12, oX12 t_q 0 t_x6 t_x7 t_x8 t_x9 t_x10 t_x11 t_x12 t_x13 t_x14 t_x15 t_x32 t_x33 t_x34 t_x35 t_x39 t_x40 t_x43 t_x44 t_x48 t_x49 t_x50)), ((t_q 16), .inl (K 0, 5, .inl (fun j => iI (t_16_c j))))] := hD
      refine g_if_ne (tgt := 29) hx hb (by omega) dX12_quotes_23 (by decide) (fun c23 => ?_) (fun c23 => ?_)
      · refine lv_aload_n hx hb dX12_quotes_29 rfl (lv_at hl 0 rfl) ?_
        refine fn_gov (wc := [(t, .inr (12, oX12 t_q 0 t_x6 t_x7 t_x8 t_x9 t_x10 t_x11 t_x12 t_x13 t_x14 t_x15 t_x32 t_x33 t_x34 t_x35 t_x39 t_x40 t_x43 t_x44 t_x48 t_x49 t_x50)), ((t_q 17), .inl (K 0, 40, .inl (fun j => iI (t_17_c j)))), ((t_q 18), .inl (K 0, 50, .inl (fun j => iI (t_18_c j)))), ((t_q 19), .inl (K 0, 60, .inl (fun j => iI (t_19_c j)))), ((t_q 20), .inl (K 0, 480, .inl (fun j => iI (t_20_c j)))), ((t_q 21), .inl (K 0, 600, .inl (fun j => iI (t_21_c j)))), ((t_q 23), .inl (K 0, 150, .inl (fun j => iI (t_23_c j)))), ((t_q 24), .inl (K 0, 5, .inl (fun j => iI (t_24_c j)))), ((t_q 25), .inl (K 0, 24, .inl (fun j => iI (t_25_c j)))), ((t_q 26), .inl (K 0, 24, .inl (fun j => iI (t_26_c j)))), ((t_q 27), .inl (K 0, 12, .inl (fun j => iI (t_27_c j)))), ((t_q 28), .inl (K 0, 12, .inl (fun j => iI (t_28_c j))))]) (wr := [((t_q 16), .inl (K 0, 5, .inl (fun j => iI (t_16_c j))))]) hK hP hD hS hA [11, 0, 1, 2, 3, 4, 5, 6, 7, 8, 9, 10] [12] rfl rfl (by decide) (fun hp => va_runV (C := RX12) (As := []) (rest := []) ⟨hx, hb, hml, hown, hts⟩ (k_X12_laysNow (l := l) (D := D) (K := K) (t := t) (t_q := t_q) (t_x0 := 0) (t_x6 := t_x6) (t_x7 := t_x7) (t_x8 := t_x8) (t_x9 := t_x9) (t_x10 := t_x10) (t_x11 := t_x11) (t_x12 := t_x12) (t_x13 := t_x13) (t_x14 := t_x14) (t_x15 := t_x15) (t_x32 := t_x32) (t_x33 := t_x33) (t_x34 := t_x34) (t_x35 := t_x35) (t_x39 := t_x39) (t_x40 := t_x40) (t_x43 := t_x43) (t_x44 := t_x44) (t_x48 := t_x48) (t_x49 := t_x49) (t_x50 := t_x50) (t_17_c := t_17_c) (t_18_c := t_18_c) (t_19_c := t_19_c) (t_20_c := t_20_c) (t_21_c := t_21_c) (t_23_c := t_23_c) (t_24_c := t_24_c) (t_25_c := t_25_c) (t_26_c := t_26_c) (t_27_c := t_27_c) (t_28_c := t_28_c) (hi_t := ⟨(by omega), hi_t.2.1, hi_t.2.2.1, hi_t.2.2.2.1, hi_t.2.2.2.2.1, hi_t.2.2.2.2.2.1, hi_t.2.2.2.2.2.2.1, hi_t.2.2.2.2.2.2.2.1, hi_t.2.2.2.2.2.2.2.2.1, hi_t.2.2.2.2.2.2.2.2.2.1, hi_t.2.2.2.2.2.2.2.2.2.2.1, hi_t.2.2.2.2.2.2.2.2.2.2.2.1, hi_t.2.2.2.2.2.2.2.2.2.2.2.2.1, hi_t.2.2.2.2.2.2.2.2.2.2.2.2.2.1, hi_t.2.2.2.2.2.2.2.2.2.2.2.2.2.2.1, hi_t.2.2.2.2.2.2.2.2.2.2.2.2.2.2.2.1, hi_t.2.2.2.2.2.2.2.2.2.2.2.2.2.2.2.2.1, hi_t.2.2.2.2.2.2.2.2.2.2.2.2.2.2.2.2.2.1, hi_t.2.2.2.2.2.2.2.2.2.2.2.2.2.2.2.2.2.2.1, hi_t.2.2.2.2.2.2.2.2.2.2.2.2.2.2.2.2.2.2.2.1, hi_t.2.2.2.2.2.2.2.2.2.2.2.2.2.2.2.2.2.2.2.2.1, hi_t.2.2.2.2.2.2.2.2.2.2.2.2.2.2.2.2.2.2.2.2.2⟩) (hc_t_17 := hc_t_17) (hc_t_18 := hc_t_18) (hc_t_19 := hc_t_19) (hc_t_20 := hc_t_20) (hc_t_21 := hc_t_21) (hc_t_23 := hc_t_23) (hc_t_24 := hc_t_24) (hc_t_25 := hc_t_25) (hc_t_26 := hc_t_26) (hc_t_27 := hc_t_27) (hc_t_28 := hc_t_28) (ti := (show TI 0 t_17_c t_18_c t_19_c t_20_c t_21_c from by assumption)) _) (cwV 0 hts (fn_ginV (fn_gin wd_1547) wd_1544 wd_1546 wp_117 wd_13) rfl rfl rfl (by decide +kernel) ⟨Nat.le_of_ble_eq_true rfl, Nat.le_of_ble_eq_true rfl⟩) ⟨fn_blind, va_recv hK.1 hP (ci := 12) (q0 := 11) rfl rfl, hp⟩ rfl rfl hl.1 rfl (lv_room (Nat.le_of_ble_eq_true rfl)) dX12_quotes_30 ⟨Nat.le_of_ble_eq_true rfl, Nat.le_of_ble_eq_true rfl⟩) (fun u30 H locs hwu30 hP hD hS => ?_)
        obtain ⟨u30a, u30b⟩ := u30
        obtain ⟨hqu30_li0, hqu30_mn0, hqu30_sy0, hu30_00, hu30_10, hu30_20, hu30_30, hu30_40, hu30_50, -⟩ := hwu30
        have hqu30_li : LI t_17_c t_19_c (u30b 0) (u30b 1) (u30b 3) (u30b 4) (u30b 5) := hqu30_li0
        have hqu30_mn : ∀ b : Nat, (b : Int) < t_17_c 2 → (u30b 1) b = t_18_c (2 * b) + edc t_21_c 0 b (Int.toNat (t_17_c 7)) := hqu30_mn0
        have hqu30_sy : ∀ j : Nat, (j : Int) < t_17_c 4 → (u30b 2) j ≤ 29 := hqu30_sy0
        have hu30_0 : ∀ j : Nat, (-2) ≤ (u30b 0) j ∧ (u30b 0) j ≤ 11 := hu30_00
        have hu30_1 : ∀ j : Nat, 0 ≤ (u30b 1) j ∧ (u30b 1) j ≤ 30 := hu30_10
        have hu30_2 : ∀ j : Nat, 0 ≤ (u30b 2) j ∧ (u30b 2) j ≤ 30 := hu30_20
        have hu30_3 : ∀ j : Nat, (-1) ≤ (u30b 3) j ∧ (u30b 3) j ≤ 11 := hu30_30
        have hu30_4 : ∀ j : Nat, (-1) ≤ (u30b 4) j ∧ (u30b 4) j ≤ 29 := hu30_40
        have hu30_5 : ∀ j : Nat, 0 ≤ (u30b 5) j ∧ (u30b 5) j ≤ 4095 := hu30_50
        clear hqu30_li0 hqu30_mn0 hqu30_sy0 hu30_00 hu30_10 hu30_20 hu30_30 hu30_40 hu30_50
        have hP : va_P D vwCl [((t_q 16), .inl (K 0, 5, .inl (fun j => iI (t_16_c j)))), (t, .inr (12, oX12 t_q 0 t_x6 t_x7 t_x8 t_x9 t_x10 t_x11 t_x12 t_x13 t_x14 t_x15 t_x32 t_x33 t_x34 t_x35 t_x39 t_x40 t_x43 t_x44 t_x48 t_x49 t_x50)), ((t_q 17), .inl (K 0, 40, .inl (fun j => iI (t_17_c j)))), ((t_q 18), .inl (K 0, 50, .inl (fun j => iI (t_18_c j)))), ((t_q 19), .inl (K 0, 60, .inl (fun j => iI (t_19_c j)))), ((t_q 20), .inl (K 0, 480, .inl (fun j => iI (t_20_c j)))), ((t_q 21), .inl (K 0, 600, .inl (fun j => iI (t_21_c j)))), ((t_q 23), .inl (K 0, 150, .inl (fun j => iI ((u30b 0) j)))), ((t_q 24), .inl (K 0, 5, .inl (fun j => iI ((u30b 1) j)))), ((t_q 25), .inl (K 0, 24, .inl (fun j => iI ((u30b 2) j)))), ((t_q 26), .inl (K 0, 24, .inl (fun j => iI ((u30b 3) j)))), ((t_q 27), .inl (K 0, 12, .inl (fun j => iI ((u30b 4) j)))), ((t_q 28), .inl (K 0, 12, .inl (fun j => iI ((u30b 5) j))))] H := hP
        have hD : va_D A [((t_q 16), .inl (K 0, 5, .inl (fun j => iI (t_16_c j)))), (t, .inr (12, oX12 t_q 0 t_x6 t_x7 t_x8 t_x9 t_x10 t_x11 t_x12 t_x13 t_x14 t_x15 t_x32 t_x33 t_x34 t_x35 t_x39 t_x40 t_x43 t_x44 t_x48 t_x49 t_x50)), ((t_q 17), .inl (K 0, 40, .inl (fun j => iI (t_17_c j)))), ((t_q 18), .inl (K 0, 50, .inl (fun j => iI (t_18_c j)))), ((t_q 19), .inl (K 0, 60, .inl (fun j => iI (t_19_c j)))), ((t_q 20), .inl (K 0, 480, .inl (fun j => iI (t_20_c j)))), ((t_q 21), .inl (K 0, 600, .inl (fun j => iI (t_21_c j)))), ((t_q 23), .inl (K 0, 150, .inl (fun j => iI ((u30b 0) j)))), ((t_q 24), .inl (K 0, 5, .inl (fun j => iI ((u30b 1) j)))), ((t_q 25), .inl (K 0, 24, .inl (fun j => iI ((u30b 2) j)))), ((t_q 26), .inl (K 0, 24, .inl (fun j => iI ((u30b 3) j)))), ((t_q 27), .inl (K 0, 12, .inl (fun j => iI ((u30b 4) j)))), ((t_q 28), .inl (K 0, 12, .inl (fun j => iI ((u30b 5) j))))] := hD
        refine lv_iconst (v := iI 0) hx hb dX12_quotes_33 rfl ?_
        refine lv_istore_n (lv' := [(3, .int (iI 0)), (0, .ref t), (1, .int (iI p1)), (2, .int (iI p2))]) hx hb dX12_quotes_34 rfl hl (by decide) rfl (fun ls hl => ?_)
        refine lv_iconst (v := iI 0) hx hb dX12_quotes_35 rfl ?_
        refine lv_istore (lv' := [(4, .int (iI 0)), (3, .int (iI 0)), (0, .ref t), (1, .int (iI p1)), (2, .int (iI p2))]) hx hb dX12_quotes_36 hl (by decide) rfl (fun ls hl => ?_)
        exact J38 _ 0 0 (u30b 0) (u30b 1) (u30b 2) (u30b 3) (u30b 4) (u30b 5) _ _ ls (Nat.lt_succ_self _) (by omega) hu30_0 hu30_1 hu30_2 hu30_3 hu30_4 hu30_5 (hP.sub [1, 0, 2, 3, 4, 5, 6, 7, 8, 9, 10, 11, 12] rfl) (hD.sub [1, 0, 2, 3, 4, 5, 6, 7, 8, 9, 10, 11, 12] (by decide) rfl) hS (lv_sub hl [2, 3, 4, 1, 0] rfl)
      · refine lv_bipush (v := iI (-2)) hx hb dX12_quotes_26 (by decide) ?_
        rw [hQ]; exact fn_iret hx hb hr hlocks rfl hP hD hS ((fun k => ([0] : List Int).getD k 0), (fun k => ([t_23_c, t_24_c, t_25_c, t_26_c, t_27_c, t_28_c] : List (Nat → Int)).getD k (fun _ => 0))) ⟨(-2), rfl, by omega, (by show (-2147483648) ≤ 0 ∧ 0 ≤ 2147483647; omega), (hc_t_23), (hc_t_24), (hc_t_25), (hc_t_26), (hc_t_27), (hc_t_28), trivial⟩ [11, 12, 0, 1, 2, 3, 4, 5, 6, 7, 8, 9, 10] (by decide) rfl dX12_quotes_28
theorem wd_1921 : Cond.constantLong "FootNotesModel" 442 (2000000000 : Int64) ∈ fn_big := fn_tb (fn_l9 (List.mem_of_getElem? (i := 1) (by decide +kernel))) (by decide +kernel)
theorem dX12_isSeed_0 : decode cX12_isSeed 0 = .ok (.aload_n 0, 1) := by decide +kernel
theorem dX12_isSeed_1 : decode cX12_isSeed 1 = .ok (.invokevirtual 267, 3) := by decide +kernel
theorem dX12_isSeed_4 : decode cX12_isSeed 4 = .ok (.ifCond .eq 19, 3) := by decide +kernel
theorem dX12_isSeed_23 : decode cX12_isSeed 23 = .ok (.iconst 0, 1) := by decide +kernel
theorem dX12_isSeed_24 : decode cX12_isSeed 24 = .ok (.ireturn, 1) := by decide +kernel
theorem dX12_isSeed_7 : decode cX12_isSeed 7 = .ok (.iload_n 1, 1) := by decide +kernel
theorem dX12_isSeed_8 : decode cX12_isSeed 8 = .ok (.i2l, 1) := by decide +kernel
theorem dX12_isSeed_9 : decode cX12_isSeed 9 = .ok (.lconst 0, 1) := by decide +kernel
theorem dX12_isSeed_10 : decode cX12_isSeed 10 = .ok (.ldc2_w 442, 3) := by decide +kernel
theorem dX12_isSeed_13 : decode cX12_isSeed 13 = .ok (.invokestatic 109, 3) := by decide +kernel
theorem dX12_isSeed_16 : decode cX12_isSeed 16 = .ok (.ifCond .eq 7, 3) := by decide +kernel
theorem dX12_isSeed_19 : decode cX12_isSeed 19 = .ok (.iconst 1, 1) := by decide +kernel
theorem dX12_isSeed_20 : decode cX12_isSeed 20 = .ok (.goto 4, 3) := by decide +kernel
set_option maxHeartbeats 4000000 in
set_option maxRecDepth 100000 in
theorem k_X12_isSeed (l : Launch) (D : va_G) (K : Nat → ClassId) (t : Nat) (t_q : Nat → Nat) (p1 t_x0 t_x6 t_x7 t_x8 t_x9 t_x10 t_x11 t_x12 t_x13 t_x14 t_x15 t_x32 t_x33 t_x34 t_x35 t_x39 t_x40 t_x43 t_x44 t_x48 t_x49 t_x50 : Int) (t_16_c : Nat → Int) (hp1 : (-2147483648) ≤ p1 ∧ p1 ≤ 2147483647) (hi_t : bM12 t_x0 t_x6 t_x7 t_x8 t_x9 t_x10 t_x11 t_x12 t_x13 t_x14 t_x15 t_x32 t_x33 t_x34 t_x35 t_x39 t_x40 t_x43 t_x44 t_x48 t_x49 t_x50) (hc_t_16 : ∀ j : Nat, (-2147483648) ≤ t_16_c j ∧ t_16_c j ≤ 2147483647) : fn_CI (S := (Nat → Int) × (Nat → Nat → Int)) l D K yX12_isSeed (fn_ws yX12_isSeed cX12_isSeed 2 (some .boolean)) ({ frames := 8, cells := 0, slots := 0, locals := 200 } : Room) [.ref t, .int (iI p1)] [(t, .inr (12, oX12 t_q t_x0 t_x6 t_x7 t_x8 t_x9 t_x10 t_x11 t_x12 t_x13 t_x14 t_x15 t_x32 t_x33 t_x34 t_x35 t_x39 t_x40 t_x43 t_x44 t_x48 t_x49 t_x50)), ((t_q 16), .inl (K 0, 5, .inl (fun j => iI (t_16_c j))))] (fun r u => ∃ k : Int, r = iI k ∧ (0 ≤ k ∧ k ≤ 1) ∧ True) (fun u => [(t, .inr (12, oX12 t_q t_x0 t_x6 t_x7 t_x8 t_x9 t_x10 t_x11 t_x12 t_x13 t_x14 t_x15 t_x32 t_x33 t_x34 t_x35 t_x39 t_x40 t_x43 t_x44 t_x48 t_x49 t_x50)), ((t_q 16), .inl (K 0, 5, .inl (fun j => iI (t_16_c j))))]) 0 0 := by
  refine g_inI (cc := cX12_isSeed) (maxL := 2) (ret := (some .boolean)) (by decide) rfl (Nat.le_of_ble_eq_true rfl) ?_
  intro p e s m below meth c A ls ag Q B hA hP hD hS hl hQ
  obtain ⟨hx, hb, hr, hml, hts, hown, hlocks, hin, hK⟩ := B
  have hown : s.vm.findClass RX12 = some m.cls := hown
  have hts := fun w h => hts w (List.mem_cons_of_mem _ h)
  have hl : lv_has ls 2 [(0, .ref t), (1, .int (iI p1))] := hl
  refine lv_aload_n hx hb dX12_isSeed_0 rfl (lv_at hl 0 rfl) ?_
  refine fn_goi (wc := [(t, .inr (12, oX12 t_q t_x0 t_x6 t_x7 t_x8 t_x9 t_x10 t_x11 t_x12 t_x13 t_x14 t_x15 t_x32 t_x33 t_x34 t_x35 t_x39 t_x40 t_x43 t_x44 t_x48 t_x49 t_x50)), ((t_q 16), .inl (K 0, 5, .inl (fun j => iI (t_16_c j))))]) (wr := []) hK hP hD hS hA [0, 1] [] rfl rfl (by decide) (fun hp => va_runV (C := RX12) (As := []) (rest := []) ⟨hx, hb, hml, hown, hts⟩ (k_X12_isTown (l := l) (D := D) (K := K) (t := t) (t_q := t_q) (t_x0 := t_x0) (t_x6 := t_x6) (t_x7 := t_x7) (t_x8 := t_x8) (t_x9 := t_x9) (t_x10 := t_x10) (t_x11 := t_x11) (t_x12 := t_x12) (t_x13 := t_x13) (t_x14 := t_x14) (t_x15 := t_x15) (t_x32 := t_x32) (t_x33 := t_x33) (t_x34 := t_x34) (t_x35 := t_x35) (t_x39 := t_x39) (t_x40 := t_x40) (t_x43 := t_x43) (t_x44 := t_x44) (t_x48 := t_x48) (t_x49 := t_x49) (t_x50 := t_x50) (t_16_c := t_16_c) (hi_t := hi_t) (hc_t_16 := hc_t_16) _) (cwV 0 hts (fn_ginV (fn_gin wd_1599) wd_1596 wd_1598 wp_124 wd_13) rfl rfl rfl (by decide +kernel) ⟨Nat.le_of_ble_eq_true rfl, Nat.le_of_ble_eq_true rfl⟩) ⟨fn_blind, va_recv hK.1 hP (ci := 12) (q0 := 0) rfl rfl, hp⟩ rfl rfl hl.1 rfl (lv_room (Nat.le_of_ble_eq_true rfl)) dX12_isSeed_1 ⟨Nat.le_of_ble_eq_true rfl, Nat.le_of_ble_eq_true rfl⟩) (fun r1 u1 H locs hwu1 hP hD hS => ?_)
  obtain ⟨u1a, u1b⟩ := u1
  obtain ⟨kr1, rfl, hkr1, -⟩ := hwu1
  have hP : va_P D vwCl [(t, .inr (12, oX12 t_q t_x0 t_x6 t_x7 t_x8 t_x9 t_x10 t_x11 t_x12 t_x13 t_x14 t_x15 t_x32 t_x33 t_x34 t_x35 t_x39 t_x40 t_x43 t_x44 t_x48 t_x49 t_x50)), ((t_q 16), .inl (K 0, 5, .inl (fun j => iI (t_16_c j))))] H := hP
  have hD : va_D A [(t, .inr (12, oX12 t_q t_x0 t_x6 t_x7 t_x8 t_x9 t_x10 t_x11 t_x12 t_x13 t_x14 t_x15 t_x32 t_x33 t_x34 t_x35 t_x39 t_x40 t_x43 t_x44 t_x48 t_x49 t_x50)), ((t_q 16), .inl (K 0, 5, .inl (fun j => iI (t_16_c j))))] := hD
  refine g_if_eq (tgt := 23) hx hb (by omega) dX12_isSeed_4 (by decide) (fun c4 => ?_) (fun c4 => ?_)
  · refine lv_iconst (v := iI 0) hx hb dX12_isSeed_23 rfl ?_
    rw [hQ]; exact fn_iret hx hb hr hlocks (iI_nz (by omega)) hP hD hS ((fun _ => 0), (fun _ _ => 0)) ⟨0, rfl, by omega, trivial⟩ [0, 1] (by decide) rfl dX12_isSeed_24
  · refine lv_iload_n hx hb dX12_isSeed_7 rfl (lv_at hl 1 rfl) ?_
    refine lv_i2l (v := lI p1) hx hb dX12_isSeed_8 (iI_2l (by omega)) ?_
    refine lv_lconst (v := lI 0) hx hb dX12_isSeed_9 (by decide) ?_
    refine lv_ldc2 (own := RX12) (v := 2000000000) hx hb hown (hts _ wd_1921) dX12_isSeed_10 ?_
    refine fn_topl (lI 2000000000) (by decide) ?_
    refine fn_goi (wc := []) (wr := [(t, .inr (12, oX12 t_q t_x0 t_x6 t_x7 t_x8 t_x9 t_x10 t_x11 t_x12 t_x13 t_x14 t_x15 t_x32 t_x33 t_x34 t_x35 t_x39 t_x40 t_x43 t_x44 t_x48 t_x49 t_x50)), ((t_q 16), .inl (K 0, 5, .inl (fun j => iI (t_16_c j))))]) hK hP hD hS hA [] [0, 1] rfl rfl (by decide) (fun hp => va_runS (As := [.long (lI p1), .long (lI 0), .long (lI 2000000000)]) (rest := []) ⟨hx, hb, hml, hown, hts⟩ (k_X12_in (l := l) (D := D) (K := K) (p1 := p1) (p2 := 0) (p3 := 2000000000) (hp1 := (by omega)) (hp2 := (by omega)) (hp3 := (by omega)) _) (va_cwS 3 hts (fn_ginS (fn_gin wd_1398) wd_1396 wd_1397 wd_13) rfl rfl rfl (by decide +kernel) ⟨Nat.le_of_ble_eq_true rfl, Nat.le_of_ble_eq_true rfl⟩) ⟨fn_blind, hp⟩ rfl rfl hl.1 rfl (lv_room (Nat.le_of_ble_eq_true rfl)) dX12_isSeed_13 ⟨Nat.le_of_ble_eq_true rfl, Nat.le_of_ble_eq_true rfl⟩) (fun r13 u13 H locs hwu13 hP hD hS => ?_)
    obtain ⟨u13a, u13b⟩ := u13
    obtain ⟨kr13, rfl, hkr13, hqu130, -⟩ := hwu13
    have hqu13 : (kr13 = 1 → (0 : Int) ≤ p1 ∧ p1 ≤ (2000000000 : Int)) ∧ (kr13 = 0 → p1 < (0 : Int) ∨ (2000000000 : Int) < p1) := hqu130
    clear hqu130
    have hP : va_P D vwCl [(t, .inr (12, oX12 t_q t_x0 t_x6 t_x7 t_x8 t_x9 t_x10 t_x11 t_x12 t_x13 t_x14 t_x15 t_x32 t_x33 t_x34 t_x35 t_x39 t_x40 t_x43 t_x44 t_x48 t_x49 t_x50)), ((t_q 16), .inl (K 0, 5, .inl (fun j => iI (t_16_c j))))] H := hP
    have hD : va_D A [(t, .inr (12, oX12 t_q t_x0 t_x6 t_x7 t_x8 t_x9 t_x10 t_x11 t_x12 t_x13 t_x14 t_x15 t_x32 t_x33 t_x34 t_x35 t_x39 t_x40 t_x43 t_x44 t_x48 t_x49 t_x50)), ((t_q 16), .inl (K 0, 5, .inl (fun j => iI (t_16_c j))))] := hD
    refine g_if_eq (tgt := 23) hx hb (by omega) dX12_isSeed_16 (by decide) (fun c16 => ?_) (fun c16 => ?_)
    · refine lv_iconst (v := iI 0) hx hb dX12_isSeed_23 rfl ?_
      rw [hQ]; exact fn_iret hx hb hr hlocks (iI_nz (by omega)) hP hD hS ((fun _ => 0), (fun _ _ => 0)) ⟨0, rfl, by omega, trivial⟩ [0, 1] (by decide) rfl dX12_isSeed_24
    · refine lv_iconst (v := iI 1) hx hb dX12_isSeed_19 rfl ?_
      refine lv_goto (tgt := 24) hx hb dX12_isSeed_20 (by decide) ?_
      rw [hQ]; exact fn_iret hx hb hr hlocks (iI_nz (by omega)) hP hD hS ((fun _ => 0), (fun _ _ => 0)) ⟨1, rfl, by omega, trivial⟩ [0, 1] (by decide) rfl dX12_isSeed_24
theorem wd_1235 : Cond.fieldLink "FootNotesModel" 7 "FootNotesModel" "width" "[I" ∈ fn_big := fn_tb (fn_l6 (List.mem_of_getElem? (i := 35) (by decide +kernel))) (by decide +kernel)
theorem dX12_count_152 : decode cX12_count 152 = .ok (.iadd, 1) := by decide +kernel
theorem dX12_count_153 : decode cX12_count 153 = .ok (.istore_n 2, 1) := by decide +kernel
theorem dX12_count_154 : decode cX12_count 154 = .ok (.iinc 3 1, 3) := by decide +kernel
theorem dX12_count_157 : decode cX12_count 157 = .ok (.goto (-26), 3) := by decide +kernel
theorem dX12_count_131 : decode cX12_count 131 = .ok (.iload_n 3, 1) := by decide +kernel
theorem dX12_count_132 : decode cX12_count 132 = .ok (.iconst 4, 1) := by decide +kernel
theorem dX12_count_133 : decode cX12_count 133 = .ok (.if_icmp .ge 27, 3) := by decide +kernel
theorem dX12_count_160 : decode cX12_count 160 = .ok (.iload_n 2, 1) := by decide +kernel
theorem dX12_count_161 : decode cX12_count 161 = .ok (.ireturn, 1) := by decide +kernel
theorem dX12_count_136 : decode cX12_count 136 = .ok (.iload_n 2, 1) := by decide +kernel
theorem dX12_count_137 : decode cX12_count 137 = .ok (.aload_n 0, 1) := by decide +kernel
theorem dX12_count_138 : decode cX12_count 138 = .ok (.getfield 7, 3) := by decide +kernel
theorem dX12_count_141 : decode cX12_count 141 = .ok (.iload_n 3, 1) := by decide +kernel
theorem dX12_count_142 : decode cX12_count 142 = .ok (.iaload, 1) := by decide +kernel
theorem dX12_count_143 : decode cX12_count 143 = .ok (.iconst (-1), 1) := by decide +kernel
theorem dX12_count_144 : decode cX12_count 144 = .ok (.if_icmp .ne 7, 3) := by decide +kernel
theorem dX12_count_151 : decode cX12_count 151 = .ok (.iconst 1, 1) := by decide +kernel
theorem dX12_count_147 : decode cX12_count 147 = .ok (.iconst 0, 1) := by decide +kernel
theorem dX12_count_148 : decode cX12_count 148 = .ok (.goto 4, 3) := by decide +kernel
theorem dX12_count_0 : decode cX12_count 0 = .ok (.aload_n 0, 1) := by decide +kernel
theorem dX12_count_1 : decode cX12_count 1 = .ok (.iconst 0, 1) := by decide +kernel
theorem dX12_count_2 : decode cX12_count 2 = .ok (.putfield 104, 3) := by decide +kernel
theorem dX12_count_5 : decode cX12_count 5 = .ok (.iconst 0, 1) := by decide +kernel
theorem dX12_count_6 : decode cX12_count 6 = .ok (.istore_n 2, 1) := by decide +kernel
theorem dX12_count_7 : decode cX12_count 7 = .ok (.iload_n 1, 1) := by decide +kernel
theorem dX12_count_8 : decode cX12_count 8 = .ok (.tableswitch 154 0 9 #[56, 63, 70, 77, 87, 94, 101, 109, 116, 121], 56) := by decide +kernel
theorem dX12_count_162 : decode cX12_count 162 = .ok (.iconst (-1), 1) := by decide +kernel
theorem dX12_count_163 : decode cX12_count 163 = .ok (.ireturn, 1) := by decide +kernel
theorem dX12_count_64 : decode cX12_count 64 = .ok (.aload_n 0, 1) := by decide +kernel
theorem dX12_count_65 : decode cX12_count 65 = .ok (.getfield 34, 3) := by decide +kernel
theorem dX12_count_68 : decode cX12_count 68 = .ok (.iconst 2, 1) := by decide +kernel
theorem dX12_count_69 : decode cX12_count 69 = .ok (.iaload, 1) := by decide +kernel
theorem dX12_count_70 : decode cX12_count 70 = .ok (.ireturn, 1) := by decide +kernel
theorem dX12_count_71 : decode cX12_count 71 = .ok (.aload_n 0, 1) := by decide +kernel
theorem dX12_count_72 : decode cX12_count 72 = .ok (.getfield 34, 3) := by decide +kernel
theorem dX12_count_75 : decode cX12_count 75 = .ok (.iconst 3, 1) := by decide +kernel
theorem dX12_count_76 : decode cX12_count 76 = .ok (.iaload, 1) := by decide +kernel
theorem dX12_count_77 : decode cX12_count 77 = .ok (.ireturn, 1) := by decide +kernel
theorem dX12_count_78 : decode cX12_count 78 = .ok (.aload_n 0, 1) := by decide +kernel
theorem dX12_count_79 : decode cX12_count 79 = .ok (.getfield 34, 3) := by decide +kernel
theorem dX12_count_82 : decode cX12_count 82 = .ok (.iconst 4, 1) := by decide +kernel
theorem dX12_count_83 : decode cX12_count 83 = .ok (.iaload, 1) := by decide +kernel
theorem dX12_count_84 : decode cX12_count 84 = .ok (.ireturn, 1) := by decide +kernel
theorem dX12_count_85 : decode cX12_count 85 = .ok (.aload_n 0, 1) := by decide +kernel
theorem dX12_count_86 : decode cX12_count 86 = .ok (.getfield 34, 3) := by decide +kernel
theorem dX12_count_89 : decode cX12_count 89 = .ok (.iconst 5, 1) := by decide +kernel
theorem dX12_count_90 : decode cX12_count 90 = .ok (.iaload, 1) := by decide +kernel
theorem dX12_count_91 : decode cX12_count 91 = .ok (.invokestatic 318, 3) := by decide +kernel
theorem dX12_count_94 : decode cX12_count 94 = .ok (.ireturn, 1) := by decide +kernel
theorem dX12_count_95 : decode cX12_count 95 = .ok (.aload_n 0, 1) := by decide +kernel
theorem dX12_count_96 : decode cX12_count 96 = .ok (.getfield 34, 3) := by decide +kernel
theorem dX12_count_99 : decode cX12_count 99 = .ok (.iconst 0, 1) := by decide +kernel
theorem dX12_count_100 : decode cX12_count 100 = .ok (.iaload, 1) := by decide +kernel
theorem dX12_count_101 : decode cX12_count 101 = .ok (.ireturn, 1) := by decide +kernel
theorem dX12_count_102 : decode cX12_count 102 = .ok (.aload_n 0, 1) := by decide +kernel
theorem dX12_count_103 : decode cX12_count 103 = .ok (.getfield 34, 3) := by decide +kernel
theorem dX12_count_106 : decode cX12_count 106 = .ok (.iconst 1, 1) := by decide +kernel
theorem dX12_count_107 : decode cX12_count 107 = .ok (.iaload, 1) := by decide +kernel
theorem dX12_count_108 : decode cX12_count 108 = .ok (.ireturn, 1) := by decide +kernel
theorem dX12_count_109 : decode cX12_count 109 = .ok (.aload_n 0, 1) := by decide +kernel
theorem dX12_count_110 : decode cX12_count 110 = .ok (.getfield 34, 3) := by decide +kernel
theorem dX12_count_113 : decode cX12_count 113 = .ok (.bipush 7, 2) := by decide +kernel
theorem dX12_count_115 : decode cX12_count 115 = .ok (.iaload, 1) := by decide +kernel
theorem dX12_count_116 : decode cX12_count 116 = .ok (.ireturn, 1) := by decide +kernel
theorem dX12_count_117 : decode cX12_count 117 = .ok (.aload_n 0, 1) := by decide +kernel
theorem dX12_count_118 : decode cX12_count 118 = .ok (.getfield 31, 3) := by decide +kernel
theorem dX12_count_121 : decode cX12_count 121 = .ok (.iconst 0, 1) := by decide +kernel
theorem dX12_count_122 : decode cX12_count 122 = .ok (.iaload, 1) := by decide +kernel
theorem dX12_count_123 : decode cX12_count 123 = .ok (.ireturn, 1) := by decide +kernel
theorem dX12_count_124 : decode cX12_count 124 = .ok (.aload_n 0, 1) := by decide +kernel
theorem dX12_count_125 : decode cX12_count 125 = .ok (.getfield 121, 3) := by decide +kernel
theorem dX12_count_128 : decode cX12_count 128 = .ok (.ireturn, 1) := by decide +kernel
theorem dX12_count_129 : decode cX12_count 129 = .ok (.iconst 0, 1) := by decide +kernel
theorem dX12_count_130 : decode cX12_count 130 = .ok (.istore_n 3, 1) := by decide +kernel
set_option maxHeartbeats 4000000 in
set_option maxRecDepth 100000 in
theorem k_X12_count (l : Launch) (D : va_G) (K : Nat → ClassId) (t : Nat) (t_q : Nat → Nat) (p1 t_x0 t_x6 t_x7 t_x8 t_x9 t_x10 t_x11 t_x12 t_x13 t_x14 t_x15 t_x32 t_x33 t_x34 t_x35 t_x39 t_x40 t_x43 t_x44 t_x48 t_x49 t_x50 : Int) (t_17_c : Nat → Int) (t_16_c : Nat → Int) (t_1_c : Nat → Int) (hp1 : (-2147483648) ≤ p1 ∧ p1 ≤ 2147483647) (hi_t : bM12 t_x0 t_x6 t_x7 t_x8 t_x9 t_x10 t_x11 t_x12 t_x13 t_x14 t_x15 t_x32 t_x33 t_x34 t_x35 t_x39 t_x40 t_x43 t_x44 t_x48 t_x49 t_x50) (hc_t_17 : ∀ j : Nat, (j % 8 = 0 → 0 ≤ t_17_c j ∧ t_17_c j ≤ 20) ∧ (j % 8 = 1 → 0 ≤ t_17_c j ∧ t_17_c j ≤ 100) ∧ (j % 8 = 2 → 0 ≤ t_17_c j ∧ t_17_c j ≤ 5) ∧ (j % 8 = 3 → 0 ≤ t_17_c j ∧ t_17_c j ≤ 12) ∧ (j % 8 = 4 → 0 ≤ t_17_c j ∧ t_17_c j ≤ 24) ∧ (j % 8 = 5 → 0 ≤ t_17_c j ∧ t_17_c j ≤ 4095) ∧ (j % 8 = 6 → 0 ≤ t_17_c j ∧ t_17_c j ≤ 31) ∧ (j % 8 = 7 → 0 ≤ t_17_c j ∧ t_17_c j ≤ 40)) (hc_t_16 : ∀ j : Nat, (-2147483648) ≤ t_16_c j ∧ t_16_c j ≤ 2147483647) (hc_t_1 : ∀ j : Nat, (-1) ≤ t_1_c j ∧ t_1_c j ≤ 3) : fn_CI (S := (Nat → Int) × (Nat → Nat → Int)) l D K yX12_count (fn_ws yX12_count cX12_count 4 (some .int)) ({ frames := 8, cells := 0, slots := 0, locals := 200 } : Room) [.ref t, .int (iI p1)] [(t, .inr (12, oX12 t_q t_x0 t_x6 t_x7 t_x8 t_x9 t_x10 t_x11 t_x12 t_x13 t_x14 t_x15 t_x32 t_x33 t_x34 t_x35 t_x39 t_x40 t_x43 t_x44 t_x48 t_x49 t_x50)), ((t_q 17), .inl (K 0, 40, .inl (fun j => iI (t_17_c j)))), ((t_q 16), .inl (K 0, 5, .inl (fun j => iI (t_16_c j)))), ((t_q 1), .inl (K 0, 4, .inl (fun j => iI (t_1_c j))))] (fun r u => ∃ k : Int, r = iI k ∧ ((-2147483648) ≤ k ∧ k ≤ 2147483647) ∧ ((-2147483648) ≤ (u.1 0) ∧ (u.1 0) ≤ 2147483647) ∧ True) (fun u => [(t, .inr (12, oX12 t_q (u.1 0) t_x6 t_x7 t_x8 t_x9 t_x10 t_x11 t_x12 t_x13 t_x14 t_x15 t_x32 t_x33 t_x34 t_x35 t_x39 t_x40 t_x43 t_x44 t_x48 t_x49 t_x50)), ((t_q 17), .inl (K 0, 40, .inl (fun j => iI (t_17_c j)))), ((t_q 16), .inl (K 0, 5, .inl (fun j => iI (t_16_c j)))), ((t_q 1), .inl (K 0, 4, .inl (fun j => iI (t_1_c j))))]) 0 0 := by
  refine g_inI (cc := cX12_count) (maxL := 4) (ret := (some .int)) (by decide) rfl (Nat.le_of_ble_eq_true rfl) ?_
  intro p e s m below meth c A ls ag Q B hA hP hD hS hl hQ
  obtain ⟨hx, hb, hr, hml, hts, hown, hlocks, hin, hK⟩ := B
  have hown : s.vm.findClass RX12 = some m.cls := hown
  have hts := fun w h => hts w (List.mem_cons_of_mem _ h)
  have J131 : ∀ (n : Nat) (x131_2 : Int) (x131_3 : Int) (H : Heap) (locs : List Loc) (ls : Array Slot), (4 - x131_3).toNat < n → (9 ≤ p1 ∧ p1 ≤ 9 ∧ (-2147483648) ≤ x131_2 ∧ x131_2 ≤ 2147483647 ∧ 0 ≤ x131_3 ∧ x131_3 ≤ 4) → va_P D vwCl [(t, .inr (12, oX12 t_q 0 t_x6 t_x7 t_x8 t_x9 t_x10 t_x11 t_x12 t_x13 t_x14 t_x15 t_x32 t_x33 t_x34 t_x35 t_x39 t_x40 t_x43 t_x44 t_x48 t_x49 t_x50)), ((t_q 17), .inl (K 0, 40, .inl (fun j => iI (t_17_c j)))), ((t_q 16), .inl (K 0, 5, .inl (fun j => iI (t_16_c j)))), ((t_q 1), .inl (K 0, 4, .inl (fun j => iI (t_1_c j))))] H → va_D A [(t, .inr (12, oX12 t_q 0 t_x6 t_x7 t_x8 t_x9 t_x10 t_x11 t_x12 t_x13 t_x14 t_x15 t_x32 t_x33 t_x34 t_x35 t_x39 t_x40 t_x43 t_x44 t_x48 t_x49 t_x50)), ((t_q 17), .inl (K 0, 40, .inl (fun j => iI (t_17_c j)))), ((t_q 16), .inl (K 0, 5, .inl (fun j => iI (t_16_c j)))), ((t_q 1), .inl (K 0, 4, .inl (fun j => iI (t_1_c j))))] → va_S A s.heap H locs → lv_has ls 4 [(0, .ref t), (1, .int (iI p1)), (2, .int (iI x131_2)), (3, .int (iI x131_3))] → W p l e ({ frames := 8, cells := 0, slots := 0, locals := 200 } : Room) s m ag below meth c H locs 0 0 Q (F0 m 131 ls []) := by
    intro n
    induction n with
    | zero =>
      intro x131_2 x131_3 H locs ls hm131 hf131 hP hD hS hl
      exact absurd hm131 (Nat.not_lt_zero _)
    | succ n ih131 =>
      intro x131_2 x131_3 H locs ls hm131 hf131 hP hD hS hl
      have J152 : ∀ (z152_1 : Int) (H : Heap) (locs : List Loc) (ls : Array Slot), (9 ≤ p1 ∧ p1 ≤ 9 ∧ 0 ≤ x131_3 ∧ x131_3 ≤ 3 ∧ 0 ≤ z152_1 ∧ z152_1 ≤ 1) → va_P D vwCl [(t, .inr (12, oX12 t_q 0 t_x6 t_x7 t_x8 t_x9 t_x10 t_x11 t_x12 t_x13 t_x14 t_x15 t_x32 t_x33 t_x34 t_x35 t_x39 t_x40 t_x43 t_x44 t_x48 t_x49 t_x50)), ((t_q 17), .inl (K 0, 40, .inl (fun j => iI (t_17_c j)))), ((t_q 16), .inl (K 0, 5, .inl (fun j => iI (t_16_c j)))), ((t_q 1), .inl (K 0, 4, .inl (fun j => iI (t_1_c j))))] H → va_D A [(t, .inr (12, oX12 t_q 0 t_x6 t_x7 t_x8 t_x9 t_x10 t_x11 t_x12 t_x13 t_x14 t_x15 t_x32 t_x33 t_x34 t_x35 t_x39 t_x40 t_x43 t_x44 t_x48 t_x49 t_x50)), ((t_q 17), .inl (K 0, 40, .inl (fun j => iI (t_17_c j)))), ((t_q 16), .inl (K 0, 5, .inl (fun j => iI (t_16_c j)))), ((t_q 1), .inl (K 0, 4, .inl (fun j => iI (t_1_c j))))] → va_S A s.heap H locs → lv_has ls 4 [(0, .ref t), (1, .int (iI p1)), (2, .int (iI x131_2)), (3, .int (iI x131_3))] → W p l e ({ frames := 8, cells := 0, slots := 0, locals := 200 } : Room) s m ag below meth c H locs 0 0 Q (F0 m 152 ls [.int (iI z152_1), .int (iI x131_2)]) := by
        intro z152_1 H locs ls hf152 hP hD hS hl
        refine g_iadd hx hb dX12_count_152 ?_
        refine g_any (fun w152 hw152 ew152 => ?_)
        refine lv_istore_n (lv' := [(2, .int (iI w152)), (0, .ref t), (1, .int (iI p1)), (3, .int (iI x131_3))]) hx hb dX12_count_153 rfl hl (by decide) rfl (fun ls hl => ?_)
        refine lv_iinc (v := iI (x131_3 + 1)) (lv' := [(3, .int (iI (x131_3 + 1))), (2, .int (iI w152)), (0, .ref t), (1, .int (iI p1))]) hx hb dX12_count_154 hl (k := 3) rfl (iI_add _ _) (by decide) rfl (fun ls hl => ?_)
        refine lv_goto (tgt := 131) hx hb dX12_count_157 (by decide) ?_
        exact ih131 w152 (x131_3 + 1) _ _ ls (by omega) (by omega) (hP.sub [0, 1, 2, 3] rfl) (hD.sub [0, 1, 2, 3] (by decide) rfl) hS (lv_sub hl [2, 3, 1, 0] rfl)
      refine lv_iload_n hx hb dX12_count_131 rfl (lv_at hl 3 rfl) ?_
      refine lv_iconst (v := iI 4) hx hb dX12_count_132 rfl ?_
      refine g_icmp_ge (tgt := 160) hx hb (by omega) (by omega) dX12_count_133 (by decide) (fun c133 => ?_) (fun c133 => ?_)
      · refine lv_iload_n hx hb dX12_count_160 rfl (lv_at hl 2 rfl) ?_
        rw [hQ]; exact fn_iret hx hb hr hlocks rfl hP hD hS ((fun k => ([0] : List Int).getD k 0), (fun _ _ => 0)) ⟨x131_2, rfl, by omega, (by show (-2147483648) ≤ 0 ∧ 0 ≤ 2147483647; omega), trivial⟩ [0, 1, 2, 3] (by decide) rfl dX12_count_161
      · refine lv_iload_n hx hb dX12_count_136 rfl (lv_at hl 2 rfl) ?_
        refine lv_aload_n hx hb dX12_count_137 rfl (lv_at hl 0 rfl) ?_
        refine va_get (D := D) (own := RX12) (ci := 12) (v := .ref (t_q 1)) (C := RX12) (T := TX12) (N := 51) hx hb hts inb_X12 hown hK.1 hP 0 rfl rfl 1 (by decide) (hts _ wd_1235) (fun _ h9 => h9) rfl dX12_count_138 ?_
        refine lv_iload_n hx hb dX12_count_141 rfl (lv_at hl 3 rfl) ?_
        refine g_iald hx hb hK.1 hP 3 0 rfl rfl (by omega) (by omega) (by decide) dX12_count_142 ?_
        have y142 : (-1) ≤ (t_1_c x131_3.toNat) ∧ (t_1_c x131_3.toNat) ≤ 3 := hc_t_1 x131_3.toNat
        refine lv_iconst (v := iI (-1)) hx hb dX12_count_143 rfl ?_
        refine g_icmp_ne (tgt := 151) hx hb (by omega) (by omega) dX12_count_144 (by decide) (fun c144 => ?_) (fun c144 => ?_)
        · refine lv_iconst (v := iI 1) hx hb dX12_count_151 rfl ?_
          exact J152 1 _ _ ls (by omega) (hP.sub [0, 1, 2, 3] rfl) (hD.sub [0, 1, 2, 3] (by decide) rfl) hS (lv_sub hl [0, 1, 2, 3] rfl)
        · refine lv_iconst (v := iI 0) hx hb dX12_count_147 rfl ?_
          refine lv_goto (tgt := 152) hx hb dX12_count_148 (by decide) ?_
          exact J152 0 _ _ ls (by omega) (hP.sub [0, 1, 2, 3] rfl) (hD.sub [0, 1, 2, 3] (by decide) rfl) hS (lv_sub hl [0, 1, 2, 3] rfl)
  have hl : lv_has ls 4 [(0, .ref t), (1, .int (iI p1))] := hl
  refine lv_aload_n hx hb dX12_count_0 rfl (lv_at hl 0 rfl) ?_
  refine lv_iconst (v := iI 0) hx hb dX12_count_1 rfl ?_
  refine va_put (D := D) (own := RX12) (ci := 12) (v := .int (iI 0)) (ty := .int) (C := RX12) (T := TX12) (N := 51) hx hb hts inb_X12 tyX12 tyX12_ok nmX12 hown hK.1 hP hD hS 0 rfl rfl 0 (by decide) (hts _ wd_1234) (fun _ h9 => h9) rfl (by decide +kernel) rfl rfl (Nat.le_of_ble_eq_true rfl) dX12_count_2 (fun H locs hP hD hS => ?_)
  have hP : va_P D vwCl [(t, .inr (12, oX12 t_q 0 t_x6 t_x7 t_x8 t_x9 t_x10 t_x11 t_x12 t_x13 t_x14 t_x15 t_x32 t_x33 t_x34 t_x35 t_x39 t_x40 t_x43 t_x44 t_x48 t_x49 t_x50)), ((t_q 17), .inl (K 0, 40, .inl (fun j => iI (t_17_c j)))), ((t_q 16), .inl (K 0, 5, .inl (fun j => iI (t_16_c j)))), ((t_q 1), .inl (K 0, 4, .inl (fun j => iI (t_1_c j))))] H := hP
  have hD : va_D A [(t, .inr (12, oX12 t_q 0 t_x6 t_x7 t_x8 t_x9 t_x10 t_x11 t_x12 t_x13 t_x14 t_x15 t_x32 t_x33 t_x34 t_x35 t_x39 t_x40 t_x43 t_x44 t_x48 t_x49 t_x50)), ((t_q 17), .inl (K 0, 40, .inl (fun j => iI (t_17_c j)))), ((t_q 16), .inl (K 0, 5, .inl (fun j => iI (t_16_c j)))), ((t_q 1), .inl (K 0, 4, .inl (fun j => iI (t_1_c j))))] := hD
  refine lv_iconst (v := iI 0) hx hb dX12_count_5 rfl ?_
  refine lv_istore_n (lv' := [(2, .int (iI 0)), (0, .ref t), (1, .int (iI p1))]) hx hb dX12_count_6 rfl hl (by decide) rfl (fun ls hl => ?_)
  refine lv_iload_n hx hb dX12_count_7 rfl (lv_at hl 2 rfl) ?_
  rcases (show (p1 < 0 ∨ 9 < p1) ∨ p1 = 0 ∨ p1 = 1 ∨ p1 = 2 ∨ p1 = 3 ∨ p1 = 4 ∨ p1 = 5 ∨ p1 = 6 ∨ p1 = 7 ∨ p1 = 8 ∨ p1 = 9 by omega) with c8 | c8 | c8 | c8 | c8 | c8 | c8 | c8 | c8 | c8 | c8
  · refine lv_tableOut (tgt := 162) hx hb dX12_count_8 (by rw [iI_toInt (by omega)]; exact c8) (by decide) ?_
    refine lv_iconst (v := iI (-1)) hx hb dX12_count_162 rfl ?_
    rw [hQ]; exact fn_iret hx hb hr hlocks rfl hP hD hS ((fun k => ([0] : List Int).getD k 0), (fun _ _ => 0)) ⟨(-1), rfl, by omega, (by show (-2147483648) ≤ 0 ∧ 0 ≤ 2147483647; omega), trivial⟩ [0, 1, 2, 3] (by decide) rfl dX12_count_163
  · refine lv_tableIn (tgt := 64) (off := 56) hx hb dX12_count_8 (by rw [iI_toInt (by omega)]; omega) (by rw [iI_toInt (by omega)]; omega) (by rw [iI_toInt (by omega), c8]; decide) (by decide) ?_
    refine lv_aload_n hx hb dX12_count_64 rfl (lv_at hl 1 rfl) ?_
    refine va_get (D := D) (own := RX12) (ci := 12) (v := .ref (t_q 17)) (C := RX12) (T := TX12) (N := 51) hx hb hts inb_X12 hown hK.1 hP 0 rfl rfl 17 (by decide) (hts _ wd_1251) (fun _ h9 => h9) rfl dX12_count_65 ?_
    refine lv_iconst (v := iI 2) hx hb dX12_count_68 rfl ?_
    refine g_iald hx hb hK.1 hP 1 0 rfl rfl (by omega) (by omega) (by decide) dX12_count_69 ?_
    refine fn_top (iI (t_17_c 2)) rfl ?_
    have y69 : 0 ≤ (t_17_c 2) ∧ (t_17_c 2) ≤ 5 := (hc_t_17 2).2.2.1 (by omega)
    rw [hQ]; exact fn_iret hx hb hr hlocks rfl hP hD hS ((fun k => ([0] : List Int).getD k 0), (fun _ _ => 0)) ⟨t_17_c 2, rfl, by omega, (by show (-2147483648) ≤ 0 ∧ 0 ≤ 2147483647; omega), trivial⟩ [0, 1, 2, 3] (by decide) rfl dX12_count_70
  · refine lv_tableIn (tgt := 71) (off := 63) hx hb dX12_count_8 (by rw [iI_toInt (by omega)]; omega) (by rw [iI_toInt (by omega)]; omega) (by rw [iI_toInt (by omega), c8]; decide) (by decide) ?_
    refine lv_aload_n hx hb dX12_count_71 rfl (lv_at hl 1 rfl) ?_
    refine va_get (D := D) (own := RX12) (ci := 12) (v := .ref (t_q 17)) (C := RX12) (T := TX12) (N := 51) hx hb hts inb_X12 hown hK.1 hP 0 rfl rfl 17 (by decide) (hts _ wd_1251) (fun _ h9 => h9) rfl dX12_count_72 ?_
    refine lv_iconst (v := iI 3) hx hb dX12_count_75 rfl ?_
    refine g_iald hx hb hK.1 hP 1 0 rfl rfl (by omega) (by omega) (by decide) dX12_count_76 ?_
    refine fn_top (iI (t_17_c 3)) rfl ?_
    have y76 : 0 ≤ (t_17_c 3) ∧ (t_17_c 3) ≤ 12 := (hc_t_17 3).2.2.2.1 (by omega)
    rw [hQ]; exact fn_iret hx hb hr hlocks rfl hP hD hS ((fun k => ([0] : List Int).getD k 0), (fun _ _ => 0)) ⟨t_17_c 3, rfl, by omega, (by show (-2147483648) ≤ 0 ∧ 0 ≤ 2147483647; omega), trivial⟩ [0, 1, 2, 3] (by decide) rfl dX12_count_77
  · refine lv_tableIn (tgt := 78) (off := 70) hx hb dX12_count_8 (by rw [iI_toInt (by omega)]; omega) (by rw [iI_toInt (by omega)]; omega) (by rw [iI_toInt (by omega), c8]; decide) (by decide) ?_
    refine lv_aload_n hx hb dX12_count_78 rfl (lv_at hl 1 rfl) ?_
    refine va_get (D := D) (own := RX12) (ci := 12) (v := .ref (t_q 17)) (C := RX12) (T := TX12) (N := 51) hx hb hts inb_X12 hown hK.1 hP 0 rfl rfl 17 (by decide) (hts _ wd_1251) (fun _ h9 => h9) rfl dX12_count_79 ?_
    refine lv_iconst (v := iI 4) hx hb dX12_count_82 rfl ?_
    refine g_iald hx hb hK.1 hP 1 0 rfl rfl (by omega) (by omega) (by decide) dX12_count_83 ?_
    refine fn_top (iI (t_17_c 4)) rfl ?_
    have y83 : 0 ≤ (t_17_c 4) ∧ (t_17_c 4) ≤ 24 := (hc_t_17 4).2.2.2.2.1 (by omega)
    rw [hQ]; exact fn_iret hx hb hr hlocks rfl hP hD hS ((fun k => ([0] : List Int).getD k 0), (fun _ _ => 0)) ⟨t_17_c 4, rfl, by omega, (by show (-2147483648) ≤ 0 ∧ 0 ≤ 2147483647; omega), trivial⟩ [0, 1, 2, 3] (by decide) rfl dX12_count_84
  · refine lv_tableIn (tgt := 85) (off := 77) hx hb dX12_count_8 (by rw [iI_toInt (by omega)]; omega) (by rw [iI_toInt (by omega)]; omega) (by rw [iI_toInt (by omega), c8]; decide) (by decide) ?_
    refine lv_aload_n hx hb dX12_count_85 rfl (lv_at hl 1 rfl) ?_
    refine va_get (D := D) (own := RX12) (ci := 12) (v := .ref (t_q 17)) (C := RX12) (T := TX12) (N := 51) hx hb hts inb_X12 hown hK.1 hP 0 rfl rfl 17 (by decide) (hts _ wd_1251) (fun _ h9 => h9) rfl dX12_count_86 ?_
    refine lv_iconst (v := iI 5) hx hb dX12_count_89 rfl ?_
    refine g_iald hx hb hK.1 hP 1 0 rfl rfl (by omega) (by omega) (by decide) dX12_count_90 ?_
    refine fn_top (iI (t_17_c 5)) rfl ?_
    have y90 : 0 ≤ (t_17_c 5) ∧ (t_17_c 5) ≤ 4095 := (hc_t_17 5).2.2.2.2.2.1 (by omega)
    refine fn_goi (wc := []) (wr := [(t, .inr (12, oX12 t_q 0 t_x6 t_x7 t_x8 t_x9 t_x10 t_x11 t_x12 t_x13 t_x14 t_x15 t_x32 t_x33 t_x34 t_x35 t_x39 t_x40 t_x43 t_x44 t_x48 t_x49 t_x50)), ((t_q 17), .inl (K 0, 40, .inl (fun j => iI (t_17_c j)))), ((t_q 16), .inl (K 0, 5, .inl (fun j => iI (t_16_c j)))), ((t_q 1), .inl (K 0, 4, .inl (fun j => iI (t_1_c j))))]) hK hP hD hS hA [] [0, 1, 2, 3] rfl rfl (by decide) (fun hp => va_runS (As := [.int (iI (t_17_c 5))]) (rest := []) ⟨hx, hb, hml, hown, hts⟩ (k_X12_sizeOf (l := l) (D := D) (K := K) (p1 := (t_17_c 5)) (hp1 := (by omega)) _) (va_cwS 1 hts (fn_ginS (fn_gin wd_1703) wd_1701 wd_1702 wd_13) rfl rfl rfl (by decide +kernel) ⟨Nat.le_of_ble_eq_true rfl, Nat.le_of_ble_eq_true rfl⟩) ⟨fn_blind, hp⟩ rfl rfl hl.1 rfl (lv_room (Nat.le_of_ble_eq_true rfl)) dX12_count_91 ⟨Nat.le_of_ble_eq_true rfl, Nat.le_of_ble_eq_true rfl⟩) (fun r91 u91 H locs hwu91 hP hD hS => ?_)
    obtain ⟨u91a, u91b⟩ := u91
    obtain ⟨kr91, rfl, hkr91, -⟩ := hwu91
    have hP : va_P D vwCl [(t, .inr (12, oX12 t_q 0 t_x6 t_x7 t_x8 t_x9 t_x10 t_x11 t_x12 t_x13 t_x14 t_x15 t_x32 t_x33 t_x34 t_x35 t_x39 t_x40 t_x43 t_x44 t_x48 t_x49 t_x50)), ((t_q 17), .inl (K 0, 40, .inl (fun j => iI (t_17_c j)))), ((t_q 16), .inl (K 0, 5, .inl (fun j => iI (t_16_c j)))), ((t_q 1), .inl (K 0, 4, .inl (fun j => iI (t_1_c j))))] H := hP
    have hD : va_D A [(t, .inr (12, oX12 t_q 0 t_x6 t_x7 t_x8 t_x9 t_x10 t_x11 t_x12 t_x13 t_x14 t_x15 t_x32 t_x33 t_x34 t_x35 t_x39 t_x40 t_x43 t_x44 t_x48 t_x49 t_x50)), ((t_q 17), .inl (K 0, 40, .inl (fun j => iI (t_17_c j)))), ((t_q 16), .inl (K 0, 5, .inl (fun j => iI (t_16_c j)))), ((t_q 1), .inl (K 0, 4, .inl (fun j => iI (t_1_c j))))] := hD
    rw [hQ]; exact fn_iret hx hb hr hlocks rfl hP hD hS ((fun k => ([0] : List Int).getD k 0), (fun _ _ => 0)) ⟨kr91, rfl, by omega, (by show (-2147483648) ≤ 0 ∧ 0 ≤ 2147483647; omega), trivial⟩ [0, 1, 2, 3] (by decide) rfl dX12_count_94
  · refine lv_tableIn (tgt := 95) (off := 87) hx hb dX12_count_8 (by rw [iI_toInt (by omega)]; omega) (by rw [iI_toInt (by omega)]; omega) (by rw [iI_toInt (by omega), c8]; decide) (by decide) ?_
    refine lv_aload_n hx hb dX12_count_95 rfl (lv_at hl 1 rfl) ?_
    refine va_get (D := D) (own := RX12) (ci := 12) (v := .ref (t_q 17)) (C := RX12) (T := TX12) (N := 51) hx hb hts inb_X12 hown hK.1 hP 0 rfl rfl 17 (by decide) (hts _ wd_1251) (fun _ h9 => h9) rfl dX12_count_96 ?_
    refine lv_iconst (v := iI 0) hx hb dX12_count_99 rfl ?_
    refine g_iald hx hb hK.1 hP 1 0 rfl rfl (by omega) (by omega) (by decide) dX12_count_100 ?_
    refine fn_top (iI (t_17_c 0)) rfl ?_
    have y100 : 0 ≤ (t_17_c 0) ∧ (t_17_c 0) ≤ 20 := (hc_t_17 0).1 (by omega)
    rw [hQ]; exact fn_iret hx hb hr hlocks rfl hP hD hS ((fun k => ([0] : List Int).getD k 0), (fun _ _ => 0)) ⟨t_17_c 0, rfl, by omega, (by show (-2147483648) ≤ 0 ∧ 0 ≤ 2147483647; omega), trivial⟩ [0, 1, 2, 3] (by decide) rfl dX12_count_101
  · refine lv_tableIn (tgt := 102) (off := 94) hx hb dX12_count_8 (by rw [iI_toInt (by omega)]; omega) (by rw [iI_toInt (by omega)]; omega) (by rw [iI_toInt (by omega), c8]; decide) (by decide) ?_
    refine lv_aload_n hx hb dX12_count_102 rfl (lv_at hl 1 rfl) ?_
    refine va_get (D := D) (own := RX12) (ci := 12) (v := .ref (t_q 17)) (C := RX12) (T := TX12) (N := 51) hx hb hts inb_X12 hown hK.1 hP 0 rfl rfl 17 (by decide) (hts _ wd_1251) (fun _ h9 => h9) rfl dX12_count_103 ?_
    refine lv_iconst (v := iI 1) hx hb dX12_count_106 rfl ?_
    refine g_iald hx hb hK.1 hP 1 0 rfl rfl (by omega) (by omega) (by decide) dX12_count_107 ?_
    refine fn_top (iI (t_17_c 1)) rfl ?_
    have y107 : 0 ≤ (t_17_c 1) ∧ (t_17_c 1) ≤ 100 := (hc_t_17 1).2.1 (by omega)
    rw [hQ]; exact fn_iret hx hb hr hlocks rfl hP hD hS ((fun k => ([0] : List Int).getD k 0), (fun _ _ => 0)) ⟨t_17_c 1, rfl, by omega, (by show (-2147483648) ≤ 0 ∧ 0 ≤ 2147483647; omega), trivial⟩ [0, 1, 2, 3] (by decide) rfl dX12_count_108
  · refine lv_tableIn (tgt := 109) (off := 101) hx hb dX12_count_8 (by rw [iI_toInt (by omega)]; omega) (by rw [iI_toInt (by omega)]; omega) (by rw [iI_toInt (by omega), c8]; decide) (by decide) ?_
    refine lv_aload_n hx hb dX12_count_109 rfl (lv_at hl 1 rfl) ?_
    refine va_get (D := D) (own := RX12) (ci := 12) (v := .ref (t_q 17)) (C := RX12) (T := TX12) (N := 51) hx hb hts inb_X12 hown hK.1 hP 0 rfl rfl 17 (by decide) (hts _ wd_1251) (fun _ h9 => h9) rfl dX12_count_110 ?_
    refine lv_bipush (v := iI 7) hx hb dX12_count_113 (by decide) ?_
    refine g_iald hx hb hK.1 hP 1 0 rfl rfl (by omega) (by omega) (by decide) dX12_count_115 ?_
    refine fn_top (iI (t_17_c 7)) rfl ?_
    have y115 : 0 ≤ (t_17_c 7) ∧ (t_17_c 7) ≤ 40 := (hc_t_17 7).2.2.2.2.2.2.2 (by omega)
    rw [hQ]; exact fn_iret hx hb hr hlocks rfl hP hD hS ((fun k => ([0] : List Int).getD k 0), (fun _ _ => 0)) ⟨t_17_c 7, rfl, by omega, (by show (-2147483648) ≤ 0 ∧ 0 ≤ 2147483647; omega), trivial⟩ [0, 1, 2, 3] (by decide) rfl dX12_count_116
  · refine lv_tableIn (tgt := 117) (off := 109) hx hb dX12_count_8 (by rw [iI_toInt (by omega)]; omega) (by rw [iI_toInt (by omega)]; omega) (by rw [iI_toInt (by omega), c8]; decide) (by decide) ?_
    refine lv_aload_n hx hb dX12_count_117 rfl (lv_at hl 1 rfl) ?_
    refine va_get (D := D) (own := RX12) (ci := 12) (v := .ref (t_q 16)) (C := RX12) (T := TX12) (N := 51) hx hb hts inb_X12 hown hK.1 hP 0 rfl rfl 16 (by decide) (hts _ wd_1250) (fun _ h9 => h9) rfl dX12_count_118 ?_
    refine lv_iconst (v := iI 0) hx hb dX12_count_121 rfl ?_
    refine g_iald hx hb hK.1 hP 2 0 rfl rfl (by omega) (by omega) (by decide) dX12_count_122 ?_
    refine fn_top (iI (t_16_c 0)) rfl ?_
    have y122 : (-2147483648) ≤ (t_16_c 0) ∧ (t_16_c 0) ≤ 2147483647 := hc_t_16 0
    rw [hQ]; exact fn_iret hx hb hr hlocks rfl hP hD hS ((fun k => ([0] : List Int).getD k 0), (fun _ _ => 0)) ⟨t_16_c 0, rfl, by omega, (by show (-2147483648) ≤ 0 ∧ 0 ≤ 2147483647; omega), trivial⟩ [0, 1, 2, 3] (by decide) rfl dX12_count_123
  · refine lv_tableIn (tgt := 124) (off := 116) hx hb dX12_count_8 (by rw [iI_toInt (by omega)]; omega) (by rw [iI_toInt (by omega)]; omega) (by rw [iI_toInt (by omega), c8]; decide) (by decide) ?_
    refine lv_aload_n hx hb dX12_count_124 rfl (lv_at hl 1 rfl) ?_
    refine va_get (D := D) (own := RX12) (ci := 12) (v := .int (iI t_x6)) (C := RX12) (T := TX12) (N := 51) hx hb hts inb_X12 hown hK.1 hP 0 rfl rfl 6 (by decide) (hts _ wd_1240) (fun _ h9 => h9) rfl dX12_count_125 ?_
    have y125_1 : 0 ≤ t_x6 ∧ t_x6 ≤ 1400 := hi_t.2.1
    rw [hQ]; exact fn_iret hx hb hr hlocks rfl hP hD hS ((fun k => ([0] : List Int).getD k 0), (fun _ _ => 0)) ⟨t_x6, rfl, by omega, (by show (-2147483648) ≤ 0 ∧ 0 ≤ 2147483647; omega), trivial⟩ [0, 1, 2, 3] (by decide) rfl dX12_count_128
  · refine lv_tableIn (tgt := 129) (off := 121) hx hb dX12_count_8 (by rw [iI_toInt (by omega)]; omega) (by rw [iI_toInt (by omega)]; omega) (by rw [iI_toInt (by omega), c8]; decide) (by decide) ?_
    refine lv_iconst (v := iI 0) hx hb dX12_count_129 rfl ?_
    refine lv_istore_n (lv' := [(3, .int (iI 0)), (2, .int (iI 0)), (0, .ref t), (1, .int (iI p1))]) hx hb dX12_count_130 rfl hl (by decide) rfl (fun ls hl => ?_)
    exact J131 _ 0 0 _ _ ls (Nat.lt_succ_self _) (by omega) (hP.sub [0, 1, 2, 3] rfl) (hD.sub [0, 1, 2, 3] (by decide) rfl) hS (lv_sub hl [2, 3, 1, 0] rfl)
theorem wd_1948 : Cond.constantLong "FootNotesModel" 453 (2 : Int64) ∈ fn_big := fn_tb (fn_l9 (List.mem_of_getElem? (i := 28) (by decide +kernel))) (by decide +kernel)
theorem dX12_image_0 : decode cX12_image 0 = .ok (.aload_n 0, 1) := by decide +kernel
theorem dX12_image_1 : decode cX12_image 1 = .ok (.iconst 0, 1) := by decide +kernel
theorem dX12_image_2 : decode cX12_image 2 = .ok (.putfield 104, 3) := by decide +kernel
theorem dX12_image_5 : decode cX12_image 5 = .ok (.iload_n 1, 1) := by decide +kernel
theorem dX12_image_6 : decode cX12_image 6 = .ok (.i2l, 1) := by decide +kernel
theorem dX12_image_7 : decode cX12_image 7 = .ok (.lconst 0, 1) := by decide +kernel
theorem dX12_image_8 : decode cX12_image 8 = .ok (.ldc2_w 453, 3) := by decide +kernel
theorem dX12_image_11 : decode cX12_image 11 = .ok (.invokestatic 109, 3) := by decide +kernel
theorem dX12_image_14 : decode cX12_image 14 = .ok (.ifCond .ne 6, 3) := by decide +kernel
theorem dX12_image_17 : decode cX12_image 17 = .ok (.bipush (-2), 2) := by decide +kernel
theorem dX12_image_19 : decode cX12_image 19 = .ok (.ireturn, 1) := by decide +kernel
set_option maxHeartbeats 4000000 in
set_option maxRecDepth 100000 in
theorem k_X12_image_o (l : Launch) (D : va_G) (K : Nat → ClassId) (t : Nat) (t_q : Nat → Nat) (p1 t_x0 t_x6 t_x7 t_x8 t_x9 t_x10 t_x11 t_x12 t_x13 t_x14 t_x15 t_x32 t_x33 t_x34 t_x35 t_x39 t_x40 t_x43 t_x44 t_x48 t_x49 t_x50 : Int) (hp1 : (-2147483648) ≤ p1 ∧ p1 ≤ 2147483647) (hi_t : bM12 t_x0 t_x6 t_x7 t_x8 t_x9 t_x10 t_x11 t_x12 t_x13 t_x14 t_x15 t_x32 t_x33 t_x34 t_x35 t_x39 t_x40 t_x43 t_x44 t_x48 t_x49 t_x50) (po : p1 < 0 ∨ 2 < p1) : fn_CI (S := (Nat → Int) × (Nat → Nat → Int)) l D K yX12_image (fn_ws yX12_image cX12_image 2 (some .int)) ({ frames := 12, cells := 0, slots := 0, locals := 300 } : Room) [.ref t, .int (iI p1)] [(t, .inr (12, oX12 t_q t_x0 t_x6 t_x7 t_x8 t_x9 t_x10 t_x11 t_x12 t_x13 t_x14 t_x15 t_x32 t_x33 t_x34 t_x35 t_x39 t_x40 t_x43 t_x44 t_x48 t_x49 t_x50))] (fun r u => ∃ k : Int, r = iI k ∧ ((-2) ≤ k ∧ k ≤ (-2)) ∧ ((-2147483648) ≤ (u.1 0) ∧ (u.1 0) ≤ 2147483647) ∧ True) (fun u => [(t, .inr (12, oX12 t_q (u.1 0) t_x6 t_x7 t_x8 t_x9 t_x10 t_x11 t_x12 t_x13 t_x14 t_x15 t_x32 t_x33 t_x34 t_x35 t_x39 t_x40 t_x43 t_x44 t_x48 t_x49 t_x50))]) 0 0 := by
  refine g_inI (cc := cX12_image) (maxL := 2) (ret := (some .int)) (by decide) rfl (Nat.le_of_ble_eq_true rfl) ?_
  intro p e s m below meth c A ls ag Q B hA hP hD hS hl hQ
  obtain ⟨hx, hb, hr, hml, hts, hown, hlocks, hin, hK⟩ := B
  have hown : s.vm.findClass RX12 = some m.cls := hown
  have hts := fun w h => hts w (List.mem_cons_of_mem _ h)
  have hl : lv_has ls 2 [(0, .ref t), (1, .int (iI p1))] := hl
  refine lv_aload_n hx hb dX12_image_0 rfl (lv_at hl 0 rfl) ?_
  refine lv_iconst (v := iI 0) hx hb dX12_image_1 rfl ?_
  refine va_put (D := D) (own := RX12) (ci := 12) (v := .int (iI 0)) (ty := .int) (C := RX12) (T := TX12) (N := 51) hx hb hts inb_X12 tyX12 tyX12_ok nmX12 hown hK.1 hP hD hS 0 rfl rfl 0 (by decide) (hts _ wd_1234) (fun _ h9 => h9) rfl (by decide +kernel) rfl rfl (Nat.le_of_ble_eq_true rfl) dX12_image_2 (fun H locs hP hD hS => ?_)
  have hP : va_P D vwCl [(t, .inr (12, oX12 t_q 0 t_x6 t_x7 t_x8 t_x9 t_x10 t_x11 t_x12 t_x13 t_x14 t_x15 t_x32 t_x33 t_x34 t_x35 t_x39 t_x40 t_x43 t_x44 t_x48 t_x49 t_x50))] H := hP
  have hD : va_D A [(t, .inr (12, oX12 t_q 0 t_x6 t_x7 t_x8 t_x9 t_x10 t_x11 t_x12 t_x13 t_x14 t_x15 t_x32 t_x33 t_x34 t_x35 t_x39 t_x40 t_x43 t_x44 t_x48 t_x49 t_x50))] := hD
  refine lv_iload_n hx hb dX12_image_5 rfl (lv_at hl 1 rfl) ?_
  refine lv_i2l (v := lI p1) hx hb dX12_image_6 (iI_2l (by omega)) ?_
  refine lv_lconst (v := lI 0) hx hb dX12_image_7 (by decide) ?_
  refine lv_ldc2 (own := RX12) (v := 2) hx hb hown (hts _ wd_1948) dX12_image_8 ?_
  refine fn_topl (lI 2) (by decide) ?_
  refine fn_goi (wc := []) (wr := [(t, .inr (12, oX12 t_q 0 t_x6 t_x7 t_x8 t_x9 t_x10 t_x11 t_x12 t_x13 t_x14 t_x15 t_x32 t_x33 t_x34 t_x35 t_x39 t_x40 t_x43 t_x44 t_x48 t_x49 t_x50))]) hK hP hD hS hA [] [0] rfl rfl (by decide) (fun hp => va_runS (As := [.long (lI p1), .long (lI 0), .long (lI 2)]) (rest := []) ⟨hx, hb, hml, hown, hts⟩ (k_X12_in (l := l) (D := D) (K := K) (p1 := p1) (p2 := 0) (p3 := 2) (hp1 := (by omega)) (hp2 := (by omega)) (hp3 := (by omega)) _) (va_cwS 3 hts (fn_ginS (fn_gin wd_1398) wd_1396 wd_1397 wd_13) rfl rfl rfl (by decide +kernel) ⟨Nat.le_of_ble_eq_true rfl, Nat.le_of_ble_eq_true rfl⟩) ⟨fn_blind, hp⟩ rfl rfl hl.1 rfl (lv_room (Nat.le_of_ble_eq_true rfl)) dX12_image_11 ⟨Nat.le_of_ble_eq_true rfl, Nat.le_of_ble_eq_true rfl⟩) (fun r11 u11 H locs hwu11 hP hD hS => ?_)
  obtain ⟨u11a, u11b⟩ := u11
  obtain ⟨kr11, rfl, hkr11, hqu110, -⟩ := hwu11
  have hqu11 : (kr11 = 1 → (0 : Int) ≤ p1 ∧ p1 ≤ (2 : Int)) ∧ (kr11 = 0 → p1 < (0 : Int) ∨ (2 : Int) < p1) := hqu110
  clear hqu110
  have hP : va_P D vwCl [(t, .inr (12, oX12 t_q 0 t_x6 t_x7 t_x8 t_x9 t_x10 t_x11 t_x12 t_x13 t_x14 t_x15 t_x32 t_x33 t_x34 t_x35 t_x39 t_x40 t_x43 t_x44 t_x48 t_x49 t_x50))] H := hP
  have hD : va_D A [(t, .inr (12, oX12 t_q 0 t_x6 t_x7 t_x8 t_x9 t_x10 t_x11 t_x12 t_x13 t_x14 t_x15 t_x32 t_x33 t_x34 t_x35 t_x39 t_x40 t_x43 t_x44 t_x48 t_x49 t_x50))] := hD
  refine g_if_ne (tgt := 20) hx hb (by omega) dX12_image_14 (by decide) (fun c14 => ?_) (fun c14 => ?_)
  · exfalso; omega
  · refine lv_bipush (v := iI (-2)) hx hb dX12_image_17 (by decide) ?_
    rw [hQ]; exact fn_iret hx hb hr hlocks rfl hP hD hS ((fun k => ([0] : List Int).getD k 0), (fun _ _ => 0)) ⟨(-2), rfl, by omega, (by show (-2147483648) ≤ 0 ∧ 0 ≤ 2147483647; omega), trivial⟩ [0] (by decide) rfl dX12_image_19
theorem dX12_back_0 : decode cX12_back 0 = .ok (.aload_n 0, 1) := by decide +kernel
theorem dX12_back_1 : decode cX12_back 1 = .ok (.iconst 0, 1) := by decide +kernel
theorem dX12_back_2 : decode cX12_back 2 = .ok (.putfield 104, 3) := by decide +kernel
theorem dX12_back_5 : decode cX12_back 5 = .ok (.iload_n 1, 1) := by decide +kernel
theorem dX12_back_6 : decode cX12_back 6 = .ok (.i2l, 1) := by decide +kernel
theorem dX12_back_7 : decode cX12_back 7 = .ok (.lconst 0, 1) := by decide +kernel
theorem dX12_back_8 : decode cX12_back 8 = .ok (.ldc2_w 453, 3) := by decide +kernel
theorem dX12_back_11 : decode cX12_back 11 = .ok (.invokestatic 109, 3) := by decide +kernel
theorem dX12_back_14 : decode cX12_back 14 = .ok (.ifCond .ne 6, 3) := by decide +kernel
theorem dX12_back_17 : decode cX12_back 17 = .ok (.bipush (-2), 2) := by decide +kernel
theorem dX12_back_19 : decode cX12_back 19 = .ok (.ireturn, 1) := by decide +kernel
set_option maxHeartbeats 4000000 in
set_option maxRecDepth 100000 in
theorem k_X12_back_o (l : Launch) (D : va_G) (K : Nat → ClassId) (t : Nat) (t_q : Nat → Nat) (p1 t_x0 t_x6 t_x7 t_x8 t_x9 t_x10 t_x11 t_x12 t_x13 t_x14 t_x15 t_x32 t_x33 t_x34 t_x35 t_x39 t_x40 t_x43 t_x44 t_x48 t_x49 t_x50 : Int) (hp1 : (-2147483648) ≤ p1 ∧ p1 ≤ 2147483647) (hi_t : bM12 t_x0 t_x6 t_x7 t_x8 t_x9 t_x10 t_x11 t_x12 t_x13 t_x14 t_x15 t_x32 t_x33 t_x34 t_x35 t_x39 t_x40 t_x43 t_x44 t_x48 t_x49 t_x50) (po : p1 < 0 ∨ 2 < p1) : fn_CI (S := (Nat → Int) × (Nat → Nat → Int)) l D K yX12_back (fn_ws yX12_back cX12_back 2 (some .int)) ({ frames := 12, cells := 0, slots := 0, locals := 300 } : Room) [.ref t, .int (iI p1)] [(t, .inr (12, oX12 t_q t_x0 t_x6 t_x7 t_x8 t_x9 t_x10 t_x11 t_x12 t_x13 t_x14 t_x15 t_x32 t_x33 t_x34 t_x35 t_x39 t_x40 t_x43 t_x44 t_x48 t_x49 t_x50))] (fun r u => ∃ k : Int, r = iI k ∧ ((-2) ≤ k ∧ k ≤ (-2)) ∧ ((-2147483648) ≤ (u.1 0) ∧ (u.1 0) ≤ 2147483647) ∧ True) (fun u => [(t, .inr (12, oX12 t_q (u.1 0) t_x6 t_x7 t_x8 t_x9 t_x10 t_x11 t_x12 t_x13 t_x14 t_x15 t_x32 t_x33 t_x34 t_x35 t_x39 t_x40 t_x43 t_x44 t_x48 t_x49 t_x50))]) 0 0 := by
  refine g_inI (cc := cX12_back) (maxL := 2) (ret := (some .int)) (by decide) rfl (Nat.le_of_ble_eq_true rfl) ?_
  intro p e s m below meth c A ls ag Q B hA hP hD hS hl hQ
  obtain ⟨hx, hb, hr, hml, hts, hown, hlocks, hin, hK⟩ := B
  have hown : s.vm.findClass RX12 = some m.cls := hown
  have hts := fun w h => hts w (List.mem_cons_of_mem _ h)
  have hl : lv_has ls 2 [(0, .ref t), (1, .int (iI p1))] := hl
  refine lv_aload_n hx hb dX12_back_0 rfl (lv_at hl 0 rfl) ?_
  refine lv_iconst (v := iI 0) hx hb dX12_back_1 rfl ?_
  refine va_put (D := D) (own := RX12) (ci := 12) (v := .int (iI 0)) (ty := .int) (C := RX12) (T := TX12) (N := 51) hx hb hts inb_X12 tyX12 tyX12_ok nmX12 hown hK.1 hP hD hS 0 rfl rfl 0 (by decide) (hts _ wd_1234) (fun _ h9 => h9) rfl (by decide +kernel) rfl rfl (Nat.le_of_ble_eq_true rfl) dX12_back_2 (fun H locs hP hD hS => ?_)
  have hP : va_P D vwCl [(t, .inr (12, oX12 t_q 0 t_x6 t_x7 t_x8 t_x9 t_x10 t_x11 t_x12 t_x13 t_x14 t_x15 t_x32 t_x33 t_x34 t_x35 t_x39 t_x40 t_x43 t_x44 t_x48 t_x49 t_x50))] H := hP
  have hD : va_D A [(t, .inr (12, oX12 t_q 0 t_x6 t_x7 t_x8 t_x9 t_x10 t_x11 t_x12 t_x13 t_x14 t_x15 t_x32 t_x33 t_x34 t_x35 t_x39 t_x40 t_x43 t_x44 t_x48 t_x49 t_x50))] := hD
  refine lv_iload_n hx hb dX12_back_5 rfl (lv_at hl 1 rfl) ?_
  refine lv_i2l (v := lI p1) hx hb dX12_back_6 (iI_2l (by omega)) ?_
  refine lv_lconst (v := lI 0) hx hb dX12_back_7 (by decide) ?_
  refine lv_ldc2 (own := RX12) (v := 2) hx hb hown (hts _ wd_1948) dX12_back_8 ?_
  refine fn_topl (lI 2) (by decide) ?_
  refine fn_goi (wc := []) (wr := [(t, .inr (12, oX12 t_q 0 t_x6 t_x7 t_x8 t_x9 t_x10 t_x11 t_x12 t_x13 t_x14 t_x15 t_x32 t_x33 t_x34 t_x35 t_x39 t_x40 t_x43 t_x44 t_x48 t_x49 t_x50))]) hK hP hD hS hA [] [0] rfl rfl (by decide) (fun hp => va_runS (As := [.long (lI p1), .long (lI 0), .long (lI 2)]) (rest := []) ⟨hx, hb, hml, hown, hts⟩ (k_X12_in (l := l) (D := D) (K := K) (p1 := p1) (p2 := 0) (p3 := 2) (hp1 := (by omega)) (hp2 := (by omega)) (hp3 := (by omega)) _) (va_cwS 3 hts (fn_ginS (fn_gin wd_1398) wd_1396 wd_1397 wd_13) rfl rfl rfl (by decide +kernel) ⟨Nat.le_of_ble_eq_true rfl, Nat.le_of_ble_eq_true rfl⟩) ⟨fn_blind, hp⟩ rfl rfl hl.1 rfl (lv_room (Nat.le_of_ble_eq_true rfl)) dX12_back_11 ⟨Nat.le_of_ble_eq_true rfl, Nat.le_of_ble_eq_true rfl⟩) (fun r11 u11 H locs hwu11 hP hD hS => ?_)
  obtain ⟨u11a, u11b⟩ := u11
  obtain ⟨kr11, rfl, hkr11, hqu110, -⟩ := hwu11
  have hqu11 : (kr11 = 1 → (0 : Int) ≤ p1 ∧ p1 ≤ (2 : Int)) ∧ (kr11 = 0 → p1 < (0 : Int) ∨ (2 : Int) < p1) := hqu110
  clear hqu110
  have hP : va_P D vwCl [(t, .inr (12, oX12 t_q 0 t_x6 t_x7 t_x8 t_x9 t_x10 t_x11 t_x12 t_x13 t_x14 t_x15 t_x32 t_x33 t_x34 t_x35 t_x39 t_x40 t_x43 t_x44 t_x48 t_x49 t_x50))] H := hP
  have hD : va_D A [(t, .inr (12, oX12 t_q 0 t_x6 t_x7 t_x8 t_x9 t_x10 t_x11 t_x12 t_x13 t_x14 t_x15 t_x32 t_x33 t_x34 t_x35 t_x39 t_x40 t_x43 t_x44 t_x48 t_x49 t_x50))] := hD
  refine g_if_ne (tgt := 20) hx hb (by omega) dX12_back_14 (by decide) (fun c14 => ?_) (fun c14 => ?_)
  · exfalso; omega
  · refine lv_bipush (v := iI (-2)) hx hb dX12_back_17 (by decide) ?_
    rw [hQ]; exact fn_iret hx hb hr hlocks rfl hP hD hS ((fun k => ([0] : List Int).getD k 0), (fun _ _ => 0)) ⟨(-2), rfl, by omega, (by show (-2147483648) ≤ 0 ∧ 0 ≤ 2147483647; omega), trivial⟩ [0] (by decide) rfl dX12_back_19
