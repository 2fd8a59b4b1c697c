theorem wd_620 : Cond.methodLink "FootNotes$Text" 58 ⟨"java/lang/System", "arraycopy", "(Ljava/lang/Object;ILjava/lang/Object;II)V"⟩ ∈ fn_big := fn_tb (fn_l3 (List.mem_of_getElem? (i := 140) (by decide +kernel))) (by decide +kernel)
theorem dX7_copyFrom_0 : decode cX7_copyFrom 0 = .ok (.aload_n 0, 1) := by decide +kernel
theorem dX7_copyFrom_1 : decode cX7_copyFrom 1 = .ok (.aload_n 1, 1) := by decide +kernel
theorem dX7_copyFrom_2 : decode cX7_copyFrom 2 = .ok (.getfield 30, 3) := by decide +kernel
theorem dX7_copyFrom_5 : decode cX7_copyFrom 5 = .ok (.putfield 30, 3) := by decide +kernel
theorem dX7_copyFrom_8 : decode cX7_copyFrom 8 = .ok (.aload_n 0, 1) := by decide +kernel
theorem dX7_copyFrom_9 : decode cX7_copyFrom 9 = .ok (.aload_n 1, 1) := by decide +kernel
theorem dX7_copyFrom_10 : decode cX7_copyFrom 10 = .ok (.getfield 34, 3) := by decide +kernel
theorem dX7_copyFrom_13 : decode cX7_copyFrom 13 = .ok (.putfield 34, 3) := by decide +kernel
theorem dX7_copyFrom_16 : decode cX7_copyFrom 16 = .ok (.aload_n 0, 1) := by decide +kernel
theorem dX7_copyFrom_17 : decode cX7_copyFrom 17 = .ok (.aload_n 1, 1) := by decide +kernel
theorem dX7_copyFrom_18 : decode cX7_copyFrom 18 = .ok (.getfield 37, 3) := by decide +kernel
theorem dX7_copyFrom_21 : decode cX7_copyFrom 21 = .ok (.putfield 37, 3) := by decide +kernel
theorem dX7_copyFrom_24 : decode cX7_copyFrom 24 = .ok (.aload_n 0, 1) := by decide +kernel
theorem dX7_copyFrom_25 : decode cX7_copyFrom 25 = .ok (.aload_n 1, 1) := by decide +kernel
theorem dX7_copyFrom_26 : decode cX7_copyFrom 26 = .ok (.getfield 40, 3) := by decide +kernel
theorem dX7_copyFrom_29 : decode cX7_copyFrom 29 = .ok (.putfield 40, 3) := by decide +kernel
theorem dX7_copyFrom_32 : decode cX7_copyFrom 32 = .ok (.aload_n 0, 1) := by decide +kernel
theorem dX7_copyFrom_33 : decode cX7_copyFrom 33 = .ok (.aload_n 1, 1) := by decide +kernel
theorem dX7_copyFrom_34 : decode cX7_copyFrom 34 = .ok (.getfield 43, 3) := by decide +kernel
theorem dX7_copyFrom_37 : decode cX7_copyFrom 37 = .ok (.putfield 43, 3) := by decide +kernel
theorem dX7_copyFrom_40 : decode cX7_copyFrom 40 = .ok (.aload_n 0, 1) := by decide +kernel
theorem dX7_copyFrom_41 : decode cX7_copyFrom 41 = .ok (.aload_n 1, 1) := by decide +kernel
theorem dX7_copyFrom_42 : decode cX7_copyFrom 42 = .ok (.getfield 46, 3) := by decide +kernel
theorem dX7_copyFrom_45 : decode cX7_copyFrom 45 = .ok (.putfield 46, 3) := by decide +kernel
theorem dX7_copyFrom_48 : decode cX7_copyFrom 48 = .ok (.aload_n 0, 1) := by decide +kernel
theorem dX7_copyFrom_49 : decode cX7_copyFrom 49 = .ok (.aload_n 1, 1) := by decide +kernel
theorem dX7_copyFrom_50 : decode cX7_copyFrom 50 = .ok (.getfield 49, 3) := by decide +kernel
theorem dX7_copyFrom_53 : decode cX7_copyFrom 53 = .ok (.putfield 49, 3) := by decide +kernel
theorem dX7_copyFrom_56 : decode cX7_copyFrom 56 = .ok (.aload_n 0, 1) := by decide +kernel
theorem dX7_copyFrom_57 : decode cX7_copyFrom 57 = .ok (.aload_n 1, 1) := by decide +kernel
theorem dX7_copyFrom_58 : decode cX7_copyFrom 58 = .ok (.getfield 52, 3) := by decide +kernel
theorem dX7_copyFrom_61 : decode cX7_copyFrom 61 = .ok (.putfield 52, 3) := by decide +kernel
theorem dX7_copyFrom_64 : decode cX7_copyFrom 64 = .ok (.aload_n 0, 1) := by decide +kernel
theorem dX7_copyFrom_65 : decode cX7_copyFrom 65 = .ok (.aload_n 1, 1) := by decide +kernel
theorem dX7_copyFrom_66 : decode cX7_copyFrom 66 = .ok (.getfield 55, 3) := by decide +kernel
theorem dX7_copyFrom_69 : decode cX7_copyFrom 69 = .ok (.putfield 55, 3) := by decide +kernel
theorem dX7_copyFrom_72 : decode cX7_copyFrom 72 = .ok (.aload_n 1, 1) := by decide +kernel
theorem dX7_copyFrom_73 : decode cX7_copyFrom 73 = .ok (.getfield 9, 3) := by decide +kernel
theorem dX7_copyFrom_76 : decode cX7_copyFrom 76 = .ok (.iconst 0, 1) := by decide +kernel
theorem dX7_copyFrom_77 : decode cX7_copyFrom 77 = .ok (.aload_n 0, 1) := by decide +kernel
theorem dX7_copyFrom_78 : decode cX7_copyFrom 78 = .ok (.getfield 9, 3) := by decide +kernel
theorem dX7_copyFrom_81 : decode cX7_copyFrom 81 = .ok (.iconst 0, 1) := by decide +kernel
theorem dX7_copyFrom_82 : decode cX7_copyFrom 82 = .ok (.iconst 5, 1) := by decide +kernel
theorem dX7_copyFrom_83 : decode cX7_copyFrom 83 = .ok (.invokestatic 58, 3) := by decide +kernel
theorem dX7_copyFrom_86 : decode cX7_copyFrom 86 = .ok (.aload_n 1, 1) := by decide +kernel
theorem dX7_copyFrom_87 : decode cX7_copyFrom 87 = .ok (.getfield 15, 3) := by decide +kernel
theorem dX7_copyFrom_90 : decode cX7_copyFrom 90 = .ok (.iconst 0, 1) := by decide +kernel
theorem dX7_copyFrom_91 : decode cX7_copyFrom 91 = .ok (.aload_n 0, 1) := by decide +kernel
theorem dX7_copyFrom_92 : decode cX7_copyFrom 92 = .ok (.getfield 15, 3) := by decide +kernel
theorem dX7_copyFrom_95 : decode cX7_copyFrom 95 = .ok (.iconst 0, 1) := by decide +kernel
theorem dX7_copyFrom_96 : decode cX7_copyFrom 96 = .ok (.bipush 6, 2) := by decide +kernel
theorem dX7_copyFrom_98 : decode cX7_copyFrom 98 = .ok (.invokestatic 58, 3) := by decide +kernel
theorem dX7_copyFrom_101 : decode cX7_copyFrom 101 = .ok (.aload_n 1, 1) := by decide +kernel
theorem dX7_copyFrom_102 : decode cX7_copyFrom 102 = .ok (.getfield 18, 3) := by decide +kernel
theorem dX7_copyFrom_105 : decode cX7_copyFrom 105 = .ok (.iconst 0, 1) := by decide +kernel
theorem dX7_copyFrom_106 : decode cX7_copyFrom 106 = .ok (.aload_n 0, 1) := by decide +kernel
theorem dX7_copyFrom_107 : decode cX7_copyFrom 107 = .ok (.getfield 18, 3) := by decide +kernel
theorem dX7_copyFrom_110 : decode cX7_copyFrom 110 = .ok (.iconst 0, 1) := by decide +kernel
theorem dX7_copyFrom_111 : decode cX7_copyFrom 111 = .ok (.bipush 12, 2) := by decide +kernel
theorem dX7_copyFrom_113 : decode cX7_copyFrom 113 = .ok (.invokestatic 58, 3) := by decide +kernel
theorem dX7_copyFrom_116 : decode cX7_copyFrom 116 = .ok (.aload_n 1, 1) := by decide +kernel
theorem dX7_copyFrom_117 : decode cX7_copyFrom 117 = .ok (.getfield 21, 3) := by decide +kernel
theorem dX7_copyFrom_120 : decode cX7_copyFrom 120 = .ok (.iconst 0, 1) := by decide +kernel
theorem dX7_copyFrom_121 : decode cX7_copyFrom 121 = .ok (.aload_n 0, 1) := by decide +kernel
theorem dX7_copyFrom_122 : decode cX7_copyFrom 122 = .ok (.getfield 21, 3) := by decide +kernel
theorem dX7_copyFrom_125 : decode cX7_copyFrom 125 = .ok (.iconst 0, 1) := by decide +kernel
theorem dX7_copyFrom_126 : decode cX7_copyFrom 126 = .ok (.bipush 24, 2) := by decide +kernel
theorem dX7_copyFrom_128 : decode cX7_copyFrom 128 = .ok (.invokestatic 58, 3) := by decide +kernel
theorem dX7_copyFrom_131 : decode cX7_copyFrom 131 = .ok (.aload_n 1, 1) := by decide +kernel
theorem dX7_copyFrom_132 : decode cX7_copyFrom 132 = .ok (.getfield 24, 3) := by decide +kernel
theorem dX7_copyFrom_135 : decode cX7_copyFrom 135 = .ok (.iconst 0, 1) := by decide +kernel
theorem dX7_copyFrom_136 : decode cX7_copyFrom 136 = .ok (.aload_n 0, 1) := by decide +kernel
theorem dX7_copyFrom_137 : decode cX7_copyFrom 137 = .ok (.getfield 24, 3) := by decide +kernel
theorem dX7_copyFrom_140 : decode cX7_copyFrom 140 = .ok (.iconst 0, 1) := by decide +kernel
theorem dX7_copyFrom_141 : decode cX7_copyFrom 141 = .ok (.bipush 24, 2) := by decide +kernel
theorem dX7_copyFrom_143 : decode cX7_copyFrom 143 = .ok (.invokestatic 58, 3) := by decide +kernel
theorem dX7_copyFrom_146 : decode cX7_copyFrom 146 = .ok (.aload_n 1, 1) := by decide +kernel
theorem dX7_copyFrom_147 : decode cX7_copyFrom 147 = .ok (.getfield 27, 3) := by decide +kernel
theorem dX7_copyFrom_150 : decode cX7_copyFrom 150 = .ok (.iconst 0, 1) := by decide +kernel
theorem dX7_copyFrom_151 : decode cX7_copyFrom 151 = .ok (.aload_n 0, 1) := by decide +kernel
theorem dX7_copyFrom_152 : decode cX7_copyFrom 152 = .ok (.getfield 27, 3) := by decide +kernel
theorem dX7_copyFrom_155 : decode cX7_copyFrom 155 = .ok (.iconst 0, 1) := by decide +kernel
theorem dX7_copyFrom_156 : decode cX7_copyFrom 156 = .ok (.bipush 24, 2) := by decide +kernel
theorem dX7_copyFrom_158 : decode cX7_copyFrom 158 = .ok (.invokestatic 58, 3) := by decide +kernel
theorem dX7_copyFrom_161 : decode cX7_copyFrom 161 = .ok (.return_, 1) := by decide +kernel
set_option maxHeartbeats 4000000 in
set_option maxRecDepth 100000 in
theorem k_X7_copyFrom (l : Launch) (D : va_G) (K : Nat → ClassId) (t a1 : Nat) (a1_q t_q : Nat → Nat) (a1_x0 a1_x1 a1_x2 a1_x3 a1_x4 a1_x5 a1_x6 a1_x7 a1_x8 t_x0 t_x1 t_x2 t_x3 t_x4 t_x5 t_x6 t_x7 t_x8 : Int) (a1_9_c : Nat → Int) (t_9_c : Nat → Int) (a1_10_c : Nat → Int) (t_10_c : Nat → Int) (a1_11_c : Nat → Int) (t_11_c : Nat → Int) (a1_12_c : Nat → Int) (t_12_c : Nat → Int) (a1_13_c : Nat → Int) (t_13_c : Nat → Int) (a1_14_c : Nat → Int) (t_14_c : Nat → Int) (hi_a1 : bX7 a1_x0 a1_x1 a1_x2 a1_x3 a1_x4 a1_x5 a1_x6 a1_x7 a1_x8) (hi_t : bX7 t_x0 t_x1 t_x2 t_x3 t_x4 t_x5 t_x6 t_x7 t_x8) (hc_a1_9 : ∀ j : Nat, 0 ≤ a1_9_c j ∧ a1_9_c j ≤ 4) (hc_t_9 : ∀ j : Nat, 0 ≤ t_9_c j ∧ t_9_c j ≤ 4) (hc_a1_10 : ∀ j : Nat, 0 ≤ a1_10_c j ∧ a1_10_c j ≤ 12) (hc_t_10 : ∀ j : Nat, 0 ≤ t_10_c j ∧ t_10_c j ≤ 12) (hc_a1_11 : ∀ j : Nat, 0 ≤ a1_11_c j ∧ a1_11_c j ≤ 4) (hc_t_11 : ∀ j : Nat, 0 ≤ t_11_c j ∧ t_11_c j ≤ 4) (hc_a1_12 : ∀ j : Nat, 0 ≤ a1_12_c j ∧ a1_12_c j ≤ 11) (hc_t_12 : ∀ j : Nat, 0 ≤ t_12_c j ∧ t_12_c j ≤ 11) (hc_a1_13 : ∀ j : Nat, 0 ≤ a1_13_c j ∧ a1_13_c j ≤ 4) (hc_t_13 : ∀ j : Nat, 0 ≤ t_13_c j ∧ t_13_c j ≤ 4) (hc_a1_14 : ∀ j : Nat, 0 ≤ a1_14_c j ∧ a1_14_c j ≤ 29) (hc_t_14 : ∀ j : Nat, 0 ≤ t_14_c j ∧ t_14_c j ≤ 29) : fn_CV (S := (Nat → Int) × (Nat → Nat → Int)) l D K yX7_copyFrom (fn_ws yX7_copyFrom cX7_copyFrom 2 none) ({ frames := 8, cells := 0, slots := 0, locals := 200 } : Room) [.ref t, .ref a1] [(a1, .inr (7, oX7 a1_q a1_x0 a1_x1 a1_x2 a1_x3 a1_x4 a1_x5 a1_x6 a1_x7 a1_x8)), (t, .inr (7, oX7 t_q t_x0 t_x1 t_x2 t_x3 t_x4 t_x5 t_x6 t_x7 t_x8)), ((a1_q 9), .inl (K 0, 5, .inl (fun j => iI (a1_9_c j)))), ((t_q 9), .inl (K 0, 5, .inl (fun j => iI (t_9_c j)))), ((a1_q 10), .inl (K 0, 6, .inl (fun j => iI (a1_10_c j)))), ((t_q 10), .inl (K 0, 6, .inl (fun j => iI (t_10_c j)))), ((a1_q 11), .inl (K 0, 12, .inl (fun j => iI (a1_11_c j)))), ((t_q 11), .inl (K 0, 12, .inl (fun j => iI (t_11_c j)))), ((a1_q 12), .inl (K 0, 24, .inl (fun j => iI (a1_12_c j)))), ((t_q 12), .inl (K 0, 24, .inl (fun j => iI (t_12_c j)))), ((a1_q 13), .inl (K 0, 24, .inl (fun j => iI (a1_13_c j)))), ((t_q 13), .inl (K 0, 24, .inl (fun j => iI (t_13_c j)))), ((a1_q 14), .inl (K 0, 24, .inl (fun j => iI (a1_14_c j)))), ((t_q 14), .inl (K 0, 24, .inl (fun j => iI (t_14_c j))))] (fun u => (0 ≤ (u.1 0) ∧ (u.1 0) ≤ 1400 ∧ 0 ≤ (u.1 1) ∧ (u.1 1) ≤ 20 ∧ 0 ≤ (u.1 2) ∧ (u.1 2) ≤ 100 ∧ 0 ≤ (u.1 3) ∧ (u.1 3) ≤ 5 ∧ 0 ≤ (u.1 4) ∧ (u.1 4) ≤ 12 ∧ 0 ≤ (u.1 5) ∧ (u.1 5) ≤ 24 ∧ 0 ≤ (u.1 6) ∧ (u.1 6) ≤ 4095 ∧ 0 ≤ (u.1 7) ∧ (u.1 7) ≤ 31 ∧ (-2147483648) ≤ (u.1 8) ∧ (u.1 8) ≤ 2147483647) ∧ (∀ j : Nat, 0 ≤ (u.2 0) j ∧ (u.2 0) j ≤ 12) ∧ (∀ j : Nat, 0 ≤ (u.2 1) j ∧ (u.2 1) j ≤ 4) ∧ (∀ j : Nat, 0 ≤ (u.2 2) j ∧ (u.2 2) j ≤ 11) ∧ (∀ j : Nat, 0 ≤ (u.2 3) j ∧ (u.2 3) j ≤ 4) ∧ (∀ j : Nat, 0 ≤ (u.2 4) j ∧ (u.2 4) j ≤ 29) ∧ (∀ j : Nat, 0 ≤ (u.2 5) j ∧ (u.2 5) j ≤ 4) ∧ True) (fun u => [(a1, .inr (7, oX7 a1_q a1_x0 a1_x1 a1_x2 a1_x3 a1_x4 a1_x5 a1_x6 a1_x7 a1_x8)), (t, .inr (7, oX7 t_q (u.1 0) (u.1 1) (u.1 2) (u.1 3) (u.1 4) (u.1 5) (u.1 6) (u.1 7) (u.1 8))), ((a1_q 9), .inl (K 0, 5, .inl (fun j => iI (a1_9_c j)))), ((t_q 9), .inl (K 0, 5, .inl (fun j => iI ((u.2 5) j)))), ((a1_q 10), .inl (K 0, 6, .inl (fun j => iI (a1_10_c j)))), ((t_q 10), .inl (K 0, 6, .inl (fun j => iI ((u.2 0) j)))), ((a1_q 11), .inl (K 0, 12, .inl (fun j => iI (a1_11_c j)))), ((t_q 11), .inl (K 0, 12, .inl (fun j => iI ((u.2 1) j)))), ((a1_q 12), .inl (K 0, 24, .inl (fun j => iI (a1_12_c j)))), ((t_q 12), .inl (K 0, 24, .inl (fun j => iI ((u.2 2) j)))), ((a1_q 13), .inl (K 0, 24, .inl (fun j => iI (a1_13_c j)))), ((t_q 13), .inl (K 0, 24, .inl (fun j => iI ((u.2 3) j)))), ((a1_q 14), .inl (K 0, 24, .inl (fun j => iI (a1_14_c j)))), ((t_q 14), .inl (K 0, 24, .inl (fun j => iI ((u.2 4) j))))]) 0 0 := by
  refine g_inV (cc := cX7_copyFrom) (maxL := 2) (ret := none) (by decide) rfl (Nat.le_of_ble_eq_true rfl) ?_
  intro p e s m below meth c A ls ag Q B hA hP hD hS hl hQ
  obtain ⟨hx, hb, hr, hml, hts, hown, hlocks, hin, hK⟩ := B
  have hown : s.vm.findClass RX7 = some m.cls := hown
  have hts := fun w h => hts w (List.mem_cons_of_mem _ h)
  have hl : lv_has ls 2 [(0, .ref t), (1, .ref a1)] := hl
  refine lv_aload_n hx hb dX7_copyFrom_0 rfl (lv_at hl 0 rfl) ?_
  refine lv_aload_n hx hb dX7_copyFrom_1 rfl (lv_at hl 1 rfl) ?_
  refine va_get (D := D) (own := RX7) (ci := 7) (v := .int (iI a1_x0)) (C := RX7) (T := TX7) (N := 15) hx hb hts inb_X7 hown hK.1 hP 0 rfl rfl 0 (by decide) (hts _ wd_68) (fun _ h9 => h9) rfl dX7_copyFrom_2 ?_
  have y2_1 : 0 ≤ a1_x0 ∧ a1_x0 ≤ 1400 := hi_a1.1
  refine va_put (D := D) (own := RX7) (ci := 7) (v := .int (iI a1_x0)) (ty := .int) (C := RX7) (T := TX7) (N := 15) hx hb hts inb_X7 tyX7 tyX7_ok nmX7 hown hK.1 hP hD hS 1 rfl rfl 0 (by decide) (hts _ wd_68) (fun _ h9 => h9) rfl (by decide +kernel) rfl rfl (Nat.le_of_ble_eq_true rfl) dX7_copyFrom_5 (fun H locs hP hD hS => ?_)
  have hP : va_P D vwCl [(a1, .inr (7, oX7 a1_q a1_x0 a1_x1 a1_x2 a1_x3 a1_x4 a1_x5 a1_x6 a1_x7 a1_x8)), (t, .inr (7, oX7 t_q a1_x0 t_x1 t_x2 t_x3 t_x4 t_x5 t_x6 t_x7 t_x8)), ((a1_q 9), .inl (K 0, 5, .inl (fun j => iI (a1_9_c j)))), ((t_q 9), .inl (K 0, 5, .inl (fun j => iI (t_9_c j)))), ((a1_q 10), .inl (K 0, 6, .inl (fun j => iI (a1_10_c j)))), ((t_q 10), .inl (K 0, 6, .inl (fun j => iI (t_10_c j)))), ((a1_q 11), .inl (K 0, 12, .inl (fun j => iI (a1_11_c j)))), ((t_q 11), .inl (K 0, 12, .inl (fun j => iI (t_11_c j)))), ((a1_q 12), .inl (K 0, 24, .inl (fun j => iI (a1_12_c j)))), ((t_q 12), .inl (K 0, 24, .inl (fun j => iI (t_12_c j)))), ((a1_q 13), .inl (K 0, 24, .inl (fun j => iI (a1_13_c j)))), ((t_q 13), .inl (K 0, 24, .inl (fun j => iI (t_13_c j)))), ((a1_q 14), .inl (K 0, 24, .inl (fun j => iI (a1_14_c j)))), ((t_q 14), .inl (K 0, 24, .inl (fun j => iI (t_14_c j))))] H := hP
  have hD : va_D A [(a1, .inr (7, oX7 a1_q a1_x0 a1_x1 a1_x2 a1_x3 a1_x4 a1_x5 a1_x6 a1_x7 a1_x8)), (t, .inr (7, oX7 t_q a1_x0 t_x1 t_x2 t_x3 t_x4 t_x5 t_x6 t_x7 t_x8)), ((a1_q 9), .inl (K 0, 5, .inl (fun j => iI (a1_9_c j)))), ((t_q 9), .inl (K 0, 5, .inl (fun j => iI (t_9_c j)))), ((a1_q 10), .inl (K 0, 6, .inl (fun j => iI (a1_10_c j)))), ((t_q 10), .inl (K 0, 6, .inl (fun j => iI (t_10_c j)))), ((a1_q 11), .inl (K 0, 12, .inl (fun j => iI (a1_11_c j)))), ((t_q 11), .inl (K 0, 12, .inl (fun j => iI (t_11_c j)))), ((a1_q 12), .inl (K 0, 24, .inl (fun j => iI (a1_12_c j)))), ((t_q 12), .inl (K 0, 24, .inl (fun j => iI (t_12_c j)))), ((a1_q 13), .inl (K 0, 24, .inl (fun j => iI (a1_13_c j)))), ((t_q 13), .inl (K 0, 24, .inl (fun j => iI (t_13_c j)))), ((a1_q 14), .inl (K 0, 24, .inl (fun j => iI (a1_14_c j)))), ((t_q 14), .inl (K 0, 24, .inl (fun j => iI (t_14_c j))))] := hD
  refine lv_aload_n hx hb dX7_copyFrom_8 rfl (lv_at hl 0 rfl) ?_
  refine lv_aload_n hx hb dX7_copyFrom_9 rfl (lv_at hl 1 rfl) ?_
  refine va_get (D := D) (own := RX7) (ci := 7) (v := .int (iI a1_x1)) (C := RX7) (T := TX7) (N := 15) hx hb hts inb_X7 hown hK.1 hP 0 rfl rfl 1 (by decide) (hts _ wd_72) (fun _ h9 => h9) rfl dX7_copyFrom_10 ?_
  have y10_2 : 0 ≤ a1_x1 ∧ a1_x1 ≤ 20 := hi_a1.2.1
  refine va_put (D := D) (own := RX7) (ci := 7) (v := .int (iI a1_x1)) (ty := .int) (C := RX7) (T := TX7) (N := 15) hx hb hts inb_X7 tyX7 tyX7_ok nmX7 hown hK.1 hP hD hS 1 rfl rfl 1 (by decide) (hts _ wd_72) (fun _ h9 => h9) rfl (by decide +kernel) rfl rfl (Nat.le_of_ble_eq_true rfl) dX7_copyFrom_13 (fun H locs hP hD hS => ?_)
  have hP : va_P D vwCl [(a1, .inr (7, oX7 a1_q a1_x0 a1_x1 a1_x2 a1_x3 a1_x4 a1_x5 a1_x6 a1_x7 a1_x8)), (t, .inr (7, oX7 t_q a1_x0 a1_x1 t_x2 t_x3 t_x4 t_x5 t_x6 t_x7 t_x8)), ((a1_q 9), .inl (K 0, 5, .inl (fun j => iI (a1_9_c j)))), ((t_q 9), .inl (K 0, 5, .inl (fun j => iI (t_9_c j)))), ((a1_q 10), .inl (K 0, 6, .inl (fun j => iI (a1_10_c j)))), ((t_q 10), .inl (K 0, 6, .inl (fun j => iI (t_10_c j)))), ((a1_q 11), .inl (K 0, 12, .inl (fun j => iI (a1_11_c j)))), ((t_q 11), .inl (K 0, 12, .inl (fun j => iI (t_11_c j)))), ((a1_q 12), .inl (K 0, 24, .inl (fun j => iI (a1_12_c j)))), ((t_q 12), .inl (K 0, 24, .inl (fun j => iI (t_12_c j)))), ((a1_q 13), .inl (K 0, 24, .inl (fun j => iI (a1_13_c j)))), ((t_q 13), .inl (K 0, 24, .inl (fun j => iI (t_13_c j)))), ((a1_q 14), .inl (K 0, 24, .inl (fun j => iI (a1_14_c j)))), ((t_q 14), .inl (K 0, 24, .inl (fun j => iI (t_14_c j))))] H := hP
  have hD : va_D A [(a1, .inr (7, oX7 a1_q a1_x0 a1_x1 a1_x2 a1_x3 a1_x4 a1_x5 a1_x6 a1_x7 a1_x8)), (t, .inr (7, oX7 t_q a1_x0 a1_x1 t_x2 t_x3 t_x4 t_x5 t_x6 t_x7 t_x8)), ((a1_q 9), .inl (K 0, 5, .inl (fun j => iI (a1_9_c j)))), ((t_q 9), .inl (K 0, 5, .inl (fun j => iI (t_9_c j)))), ((a1_q 10), .inl (K 0, 6, .inl (fun j => iI (a1_10_c j)))), ((t_q 10), .inl (K 0, 6, .inl (fun j => iI (t_10_c j)))), ((a1_q 11), .inl (K 0, 12, .inl (fun j => iI (a1_11_c j)))), ((t_q 11), .inl (K 0, 12, .inl (fun j => iI (t_11_c j)))), ((a1_q 12), .inl (K 0, 24, .inl (fun j => iI (a1_12_c j)))), ((t_q 12), .inl (K 0, 24, .inl (fun j => iI (t_12_c j)))), ((a1_q 13), .inl (K 0, 24, .inl (fun j => iI (a1_13_c j)))), ((t_q 13), .inl (K 0, 24, .inl (fun j => iI (t_13_c j)))), ((a1_q 14), .inl (K 0, 24, .inl (fun j => iI (a1_14_c j)))), ((t_q 14), .inl (K 0, 24, .inl (fun j => iI (t_14_c j))))] := hD
  refine lv_aload_n hx hb dX7_copyFrom_16 rfl (lv_at hl 0 rfl) ?_
  refine lv_aload_n hx hb dX7_copyFrom_17 rfl (lv_at hl 1 rfl) ?_
  refine va_get (D := D) (own := RX7) (ci := 7) (v := .int (iI a1_x2)) (C := RX7) (T := TX7) (N := 15) hx hb hts inb_X7 hown hK.1 hP 0 rfl rfl 2 (by decide) (hts _ wd_75) (fun _ h9 => h9) rfl dX7_copyFrom_18 ?_
  have y18_3 : 0 ≤ a1_x2 ∧ a1_x2 ≤ 100 := hi_a1.2.2.1
  refine va_put (D := D) (own := RX7) (ci := 7) (v := .int (iI a1_x2)) (ty := .int) (C := RX7) (T := TX7) (N := 15) hx hb hts inb_X7 tyX7 tyX7_ok nmX7 hown hK.1 hP hD hS 1 rfl rfl 2 (by decide) (hts _ wd_75) (fun _ h9 => h9) rfl (by decide +kernel) rfl rfl (Nat.le_of_ble_eq_true rfl) dX7_copyFrom_21 (fun H locs hP hD hS => ?_)
  have hP : va_P D vwCl [(a1, .inr (7, oX7 a1_q a1_x0 a1_x1 a1_x2 a1_x3 a1_x4 a1_x5 a1_x6 a1_x7 a1_x8)), (t, .inr (7, oX7 t_q a1_x0 a1_x1 a1_x2 t_x3 t_x4 t_x5 t_x6 t_x7 t_x8)), ((a1_q 9), .inl (K 0, 5, .inl (fun j => iI (a1_9_c j)))), ((t_q 9), .inl (K 0, 5, .inl (fun j => iI (t_9_c j)))), ((a1_q 10), .inl (K 0, 6, .inl (fun j => iI (a1_10_c j)))), ((t_q 10), .inl (K 0, 6, .inl (fun j => iI (t_10_c j)))), ((a1_q 11), .inl (K 0, 12, .inl (fun j => iI (a1_11_c j)))), ((t_q 11), .inl (K 0, 12, .inl (fun j => iI (t_11_c j)))), ((a1_q 12), .inl (K 0, 24, .inl (fun j => iI (a1_12_c j)))), ((t_q 12), .inl (K 0, 24, .inl (fun j => iI (t_12_c j)))), ((a1_q 13), .inl (K 0, 24, .inl (fun j => iI (a1_13_c j)))), ((t_q 13), .inl (K 0, 24, .inl (fun j => iI (t_13_c j)))), ((a1_q 14), .inl (K 0, 24, .inl (fun j => iI (a1_14_c j)))), ((t_q 14), .inl (K 0, 24, .inl (fun j => iI (t_14_c j))))] H := hP
  have hD : va_D A [(a1, .inr (7, oX7 a1_q a1_x0 a1_x1 a1_x2 a1_x3 a1_x4 a1_x5 a1_x6 a1_x7 a1_x8)), (t, .inr (7, oX7 t_q a1_x0 a1_x1 a1_x2 t_x3 t_x4 t_x5 t_x6 t_x7 t_x8)), ((a1_q 9), .inl (K 0, 5, .inl (fun j => iI (a1_9_c j)))), ((t_q 9), .inl (K 0, 5, .inl (fun j => iI (t_9_c j)))), ((a1_q 10), .inl (K 0, 6, .inl (fun j => iI (a1_10_c j)))), ((t_q 10), .inl (K 0, 6, .inl (fun j => iI (t_10_c j)))), ((a1_q 11), .inl (K 0, 12, .inl (fun j => iI (a1_11_c j)))), ((t_q 11), .inl (K 0, 12, .inl (fun j => iI (t_11_c j)))), ((a1_q 12), .inl (K 0, 24, .inl (fun j => iI (a1_12_c j)))), ((t_q 12), .inl (K 0, 24, .inl (fun j => iI (t_12_c j)))), ((a1_q 13), .inl (K 0, 24, .inl (fun j => iI (a1_13_c j)))), ((t_q 13), .inl (K 0, 24, .inl (fun j => iI (t_13_c j)))), ((a1_q 14), .inl (K 0, 24, .inl (fun j => iI (a1_14_c j)))), ((t_q 14), .inl (K 0, 24, .inl (fun j => iI (t_14_c j))))] := hD
  refine lv_aload_n hx hb dX7_copyFrom_24 rfl (lv_at hl 0 rfl) ?_
  refine lv_aload_n hx hb dX7_copyFrom_25 rfl (lv_at hl 1 rfl) ?_
  refine va_get (D := D) (own := RX7) (ci := 7) (v := .int (iI a1_x3)) (C := RX7) (T := TX7) (N := 15) hx hb hts inb_X7 hown hK.1 hP 0 rfl rfl 3 (by decide) (hts _ wd_80) (fun _ h9 => h9) rfl dX7_copyFrom_26 ?_
  have y26_4 : 0 ≤ a1_x3 ∧ a1_x3 ≤ 5 := hi_a1.2.2.2.1
  refine va_put (D := D) (own := RX7) (ci := 7) (v := .int (iI a1_x3)) (ty := .int) (C := RX7) (T := TX7) (N := 15) hx hb hts inb_X7 tyX7 tyX7_ok nmX7 hown hK.1 hP hD hS 1 rfl rfl 3 (by decide) (hts _ wd_80) (fun _ h9 => h9) rfl (by decide +kernel) rfl rfl (Nat.le_of_ble_eq_true rfl) dX7_copyFrom_29 (fun H locs hP hD hS => ?_)
  have hP : va_P D vwCl [(a1, .inr (7, oX7 a1_q a1_x0 a1_x1 a1_x2 a1_x3 a1_x4 a1_x5 a1_x6 a1_x7 a1_x8)), (t, .inr (7, oX7 t_q a1_x0 a1_x1 a1_x2 a1_x3 t_x4 t_x5 t_x6 t_x7 t_x8)), ((a1_q 9), .inl (K 0, 5, .inl (fun j => iI (a1_9_c j)))), ((t_q 9), .inl (K 0, 5, .inl (fun j => iI (t_9_c j)))), ((a1_q 10), .inl (K 0, 6, .inl (fun j => iI (a1_10_c j)))), ((t_q 10), .inl (K 0, 6, .inl (fun j => iI (t_10_c j)))), ((a1_q 11), .inl (K 0, 12, .inl (fun j => iI (a1_11_c j)))), ((t_q 11), .inl (K 0, 12, .inl (fun j => iI (t_11_c j)))), ((a1_q 12), .inl (K 0, 24, .inl (fun j => iI (a1_12_c j)))), ((t_q 12), .inl (K 0, 24, .inl (fun j => iI (t_12_c j)))), ((a1_q 13), .inl (K 0, 24, .inl (fun j => iI (a1_13_c j)))), ((t_q 13), .inl (K 0, 24, .inl (fun j => iI (t_13_c j)))), ((a1_q 14), .inl (K 0, 24, .inl (fun j => iI (a1_14_c j)))), ((t_q 14), .inl (K 0, 24, .inl (fun j => iI (t_14_c j))))] H := hP
  have hD : va_D A [(a1, .inr (7, oX7 a1_q a1_x0 a1_x1 a1_x2 a1_x3 a1_x4 a1_x5 a1_x6 a1_x7 a1_x8)), (t, .inr (7, oX7 t_q a1_x0 a1_x1 a1_x2 a1_x3 t_x4 t_x5 t_x6 t_x7 t_x8)), ((a1_q 9), .inl (K 0, 5, .inl (fun j => iI (a1_9_c j)))), ((t_q 9), .inl (K 0, 5, .inl (fun j => iI (t_9_c j)))), ((a1_q 10), .inl (K 0, 6, .inl (fun j => iI (a1_10_c j)))), ((t_q 10), .inl (K 0, 6, .inl (fun j => iI (t_10_c j)))), ((a1_q 11), .inl (K 0, 12, .inl (fun j => iI (a1_11_c j)))), ((t_q 11), .inl (K 0, 12, .inl (fun j => iI (t_11_c j)))), ((a1_q 12), .inl (K 0, 24, .inl (fun j => iI (a1_12_c j)))), ((t_q 12), .inl (K 0, 24, .inl (fun j => iI (t_12_c j)))), ((a1_q 13), .inl (K 0, 24, .inl (fun j => iI (a1_13_c j)))), ((t_q 13), .inl (K 0, 24, .inl (fun j => iI (t_13_c j)))), ((a1_q 14), .inl (K 0, 24, .inl (fun j => iI (a1_14_c j)))), ((t_q 14), .inl (K 0, 24, .inl (fun j => iI (t_14_c j))))] := hD
  refine lv_aload_n hx hb dX7_copyFrom_32 rfl (lv_at hl 0 rfl) ?_
  refine lv_aload_n hx hb dX7_copyFrom_33 rfl (lv_at hl 1 rfl) ?_
  refine va_get (D := D) (own := RX7) (ci := 7) (v := .int (iI a1_x4)) (C := RX7) (T := TX7) (N := 15) hx hb hts inb_X7 hown hK.1 hP 0 rfl rfl 4 (by decide) (hts _ wd_87) (fun _ h9 => h9) rfl dX7_copyFrom_34 ?_
  have y34_5 : 0 ≤ a1_x4 ∧ a1_x4 ≤ 12 := hi_a1.2.2.2.2.1
  refine fn_at 37 rfl ?_
  refine va_put (D := D) (own := RX7) (ci := 7) (v := .int (iI a1_x4)) (ty := .int) (C := RX7) (T := TX7) (N := 15) hx hb hts inb_X7 tyX7 tyX7_ok nmX7 hown hK.1 hP hD hS 1 rfl rfl 4 (by decide) (hts _ wd_87) (fun _ h9 => h9) rfl (by decide +kernel) rfl rfl (Nat.le_of_ble_eq_true rfl) dX7_copyFrom_37 (fun H locs hP hD hS => ?_)
  have hP : va_P D vwCl [(a1, .inr (7, oX7 a1_q a1_x0 a1_x1 a1_x2 a1_x3 a1_x4 a1_x5 a1_x6 a1_x7 a1_x8)), (t, .inr (7, oX7 t_q a1_x0 a1_x1 a1_x2 a1_x3 a1_x4 t_x5 t_x6 t_x7 t_x8)), ((a1_q 9), .inl (K 0, 5, .inl (fun j => iI (a1_9_c j)))), ((t_q 9), .inl (K 0, 5, .inl (fun j => iI (t_9_c j)))), ((a1_q 10), .inl (K 0, 6, .inl (fun j => iI (a1_10_c j)))), ((t_q 10), .inl (K 0, 6, .inl (fun j => iI (t_10_c j)))), ((a1_q 11), .inl (K 0, 12, .inl (fun j => iI (a1_11_c j)))), ((t_q 11), .inl (K 0, 12, .inl (fun j => iI (t_11_c j)))), ((a1_q 12), .inl (K 0, 24, .inl (fun j => iI (a1_12_c j)))), ((t_q 12), .inl (K 0, 24, .inl (fun j => iI (t_12_c j)))), ((a1_q 13), .inl (K 0, 24, .inl (fun j => iI (a1_13_c j)))), ((t_q 13), .inl (K 0, 24, .inl (fun j => iI (t_13_c j)))), ((a1_q 14), .inl (K 0, 24, .inl (fun j => iI (a1_14_c j)))), ((t_q 14), .inl (K 0, 24, .inl (fun j => iI (t_14_c j))))] H := hP
  have hD : va_D A [(a1, .inr (7, oX7 a1_q a1_x0 a1_x1 a1_x2 a1_x3 a1_x4 a1_x5 a1_x6 a1_x7 a1_x8)), (t, .inr (7, oX7 t_q a1_x0 a1_x1 a1_x2 a1_x3 a1_x4 t_x5 t_x6 t_x7 t_x8)), ((a1_q 9), .inl (K 0, 5, .inl (fun j => iI (a1_9_c j)))), ((t_q 9), .inl (K 0, 5, .inl (fun j => iI (t_9_c j)))), ((a1_q 10), .inl (K 0, 6, .inl (fun j => iI (a1_10_c j)))), ((t_q 10), .inl (K 0, 6, .inl (fun j => iI (t_10_c j)))), ((a1_q 11), .inl (K 0, 12, .inl (fun j => iI (a1_11_c j)))), ((t_q 11), .inl (K 0, 12, .inl (fun j => iI (t_11_c j)))), ((a1_q 12), .inl (K 0, 24, .inl (fun j => iI (a1_12_c j)))), ((t_q 12), .inl (K 0, 24, .inl (fun j => iI (t_12_c j)))), ((a1_q 13), .inl (K 0, 24, .inl (fun j => iI (a1_13_c j)))), ((t_q 13), .inl (K 0, 24, .inl (fun j => iI (t_13_c j)))), ((a1_q 14), .inl (K 0, 24, .inl (fun j => iI (a1_14_c j)))), ((t_q 14), .inl (K 0, 24, .inl (fun j => iI (t_14_c j))))] := hD
  refine lv_aload_n hx hb dX7_copyFrom_40 rfl (lv_at hl 0 rfl) ?_
  refine lv_aload_n hx hb dX7_copyFrom_41 rfl (lv_at hl 1 rfl) ?_
  refine va_get (D := D) (own := RX7) (ci := 7) (v := .int (iI a1_x5)) (C := RX7) (T := TX7) (N := 15) hx hb hts inb_X7 hown hK.1 hP 0 rfl rfl 5 (by decide) (hts _ wd_92) (fun _ h9 => h9) rfl dX7_copyFrom_42 ?_
  have y42_6 : 0 ≤ a1_x5 ∧ a1_x5 ≤ 24 := hi_a1.2.2.2.2.2.1
  refine va_put (D := D) (own := RX7) (ci := 7) (v := .int (iI a1_x5)) (ty := .int) (C := RX7) (T := TX7) (N := 15) hx hb hts inb_X7 tyX7 tyX7_ok nmX7 hown hK.1 hP hD hS 1 rfl rfl 5 (by decide) (hts _ wd_92) (fun _ h9 => h9) rfl (by decide +kernel) rfl rfl (Nat.le_of_ble_eq_true rfl) dX7_copyFrom_45 (fun H locs hP hD hS => ?_)
  have hP : va_P D vwCl [(a1, .inr (7, oX7 a1_q a1_x0 a1_x1 a1_x2 a1_x3 a1_x4 a1_x5 a1_x6 a1_x7 a1_x8)), (t, .inr (7, oX7 t_q a1_x0 a1_x1 a1_x2 a1_x3 a1_x4 a1_x5 t_x6 t_x7 t_x8)), ((a1_q 9), .inl (K 0, 5, .inl (fun j => iI (a1_9_c j)))), ((t_q 9), .inl (K 0, 5, .inl (fun j => iI (t_9_c j)))), ((a1_q 10), .inl (K 0, 6, .inl (fun j => iI (a1_10_c j)))), ((t_q 10), .inl (K 0, 6, .inl (fun j => iI (t_10_c j)))), ((a1_q 11), .inl (K 0, 12, .inl (fun j => iI (a1_11_c j)))), ((t_q 11), .inl (K 0, 12, .inl (fun j => iI (t_11_c j)))), ((a1_q 12), .inl (K 0, 24, .inl (fun j => iI (a1_12_c j)))), ((t_q 12), .inl (K 0, 24, .inl (fun j => iI (t_12_c j)))), ((a1_q 13), .inl (K 0, 24, .inl (fun j => iI (a1_13_c j)))), ((t_q 13), .inl (K 0, 24, .inl (fun j => iI (t_13_c j)))), ((a1_q 14), .inl (K 0, 24, .inl (fun j => iI (a1_14_c j)))), ((t_q 14), .inl (K 0, 24, .inl (fun j => iI (t_14_c j))))] H := hP
  have hD : va_D A [(a1, .inr (7, oX7 a1_q a1_x0 a1_x1 a1_x2 a1_x3 a1_x4 a1_x5 a1_x6 a1_x7 a1_x8)), (t, .inr (7, oX7 t_q a1_x0 a1_x1 a1_x2 a1_x3 a1_x4 a1_x5 t_x6 t_x7 t_x8)), ((a1_q 9), .inl (K 0, 5, .inl (fun j => iI (a1_9_c j)))), ((t_q 9), .inl (K 0, 5, .inl (fun j => iI (t_9_c j)))), ((a1_q 10), .inl (K 0, 6, .inl (fun j => iI (a1_10_c j)))), ((t_q 10), .inl (K 0, 6, .inl (fun j => iI (t_10_c j)))), ((a1_q 11), .inl (K 0, 12, .inl (fun j => iI (a1_11_c j)))), ((t_q 11), .inl (K 0, 12, .inl (fun j => iI (t_11_c j)))), ((a1_q 12), .inl (K 0, 24, .inl (fun j => iI (a1_12_c j)))), ((t_q 12), .inl (K 0, 24, .inl (fun j => iI (t_12_c j)))), ((a1_q 13), .inl (K 0, 24, .inl (fun j => iI (a1_13_c j)))), ((t_q 13), .inl (K 0, 24, .inl (fun j => iI (t_13_c j)))), ((a1_q 14), .inl (K 0, 24, .inl (fun j => iI (a1_14_c j)))), ((t_q 14), .inl (K 0, 24, .inl (fun j => iI (t_14_c j))))] := hD
  refine lv_aload_n hx hb dX7_copyFrom_48 rfl (lv_at hl 0 rfl) ?_
  refine lv_aload_n hx hb dX7_copyFrom_49 rfl (lv_at hl 1 rfl) ?_
  refine va_get (D := D) (own := RX7) (ci := 7) (v := .int (iI a1_x6)) (C := RX7) (T := TX7) (N := 15) hx hb hts inb_X7 hown hK.1 hP 0 rfl rfl 6 (by decide) (hts _ wd_99) (fun _ h9 => h9) rfl dX7_copyFrom_50 ?_
  have y50_7 : 0 ≤ a1_x6 ∧ a1_x6 ≤ 4095 := hi_a1.2.2.2.2.2.2.1
  refine va_put (D := D) (own := RX7) (ci := 7) (v := .int (iI a1_x6)) (ty := .int) (C := RX7) (T := TX7) (N := 15) hx hb hts inb_X7 tyX7 tyX7_ok nmX7 hown hK.1 hP hD hS 1 rfl rfl 6 (by decide) (hts _ wd_99) (fun _ h9 => h9) rfl (by decide +kernel) rfl rfl (Nat.le_of_ble_eq_true rfl) dX7_copyFrom_53 (fun H locs hP hD hS => ?_)
  have hP : va_P D vwCl [(a1, .inr (7, oX7 a1_q a1_x0 a1_x1 a1_x2 a1_x3 a1_x4 a1_x5 a1_x6 a1_x7 a1_x8)), (t, .inr (7, oX7 t_q a1_x0 a1_x1 a1_x2 a1_x3 a1_x4 a1_x5 a1_x6 t_x7 t_x8)), ((a1_q 9), .inl (K 0, 5, .inl (fun j => iI (a1_9_c j)))), ((t_q 9), .inl (K 0, 5, .inl (fun j => iI (t_9_c j)))), ((a1_q 10), .inl (K 0, 6, .inl (fun j => iI (a1_10_c j)))), ((t_q 10), .inl (K 0, 6, .inl (fun j => iI (t_10_c j)))), ((a1_q 11), .inl (K 0, 12, .inl (fun j => iI (a1_11_c j)))), ((t_q 11), .inl (K 0, 12, .inl (fun j => iI (t_11_c j)))), ((a1_q 12), .inl (K 0, 24, .inl (fun j => iI (a1_12_c j)))), ((t_q 12), .inl (K 0, 24, .inl (fun j => iI (t_12_c j)))), ((a1_q 13), .inl (K 0, 24, .inl (fun j => iI (a1_13_c j)))), ((t_q 13), .inl (K 0, 24, .inl (fun j => iI (t_13_c j)))), ((a1_q 14), .inl (K 0, 24, .inl (fun j => iI (a1_14_c j)))), ((t_q 14), .inl (K 0, 24, .inl (fun j => iI (t_14_c j))))] H := hP
  have hD : va_D A [(a1, .inr (7, oX7 a1_q a1_x0 a1_x1 a1_x2 a1_x3 a1_x4 a1_x5 a1_x6 a1_x7 a1_x8)), (t, .inr (7, oX7 t_q a1_x0 a1_x1 a1_x2 a1_x3 a1_x4 a1_x5 a1_x6 t_x7 t_x8)), ((a1_q 9), .inl (K 0, 5, .inl (fun j => iI (a1_9_c j)))), ((t_q 9), .inl (K 0, 5, .inl (fun j => iI (t_9_c j)))), ((a1_q 10), .inl (K 0, 6, .inl (fun j => iI (a1_10_c j)))), ((t_q 10), .inl (K 0, 6, .inl (fun j => iI (t_10_c j)))), ((a1_q 11), .inl (K 0, 12, .inl (fun j => iI (a1_11_c j)))), ((t_q 11), .inl (K 0, 12, .inl (fun j => iI (t_11_c j)))), ((a1_q 12), .inl (K 0, 24, .inl (fun j => iI (a1_12_c j)))), ((t_q 12), .inl (K 0, 24, .inl (fun j => iI (t_12_c j)))), ((a1_q 13), .inl (K 0, 24, .inl (fun j => iI (a1_13_c j)))), ((t_q 13), .inl (K 0, 24, .inl (fun j => iI (t_13_c j)))), ((a1_q 14), .inl (K 0, 24, .inl (fun j => iI (a1_14_c j)))), ((t_q 14), .inl (K 0, 24, .inl (fun j => iI (t_14_c j))))] := hD
  refine lv_aload_n hx hb dX7_copyFrom_56 rfl (lv_at hl 0 rfl) ?_
  refine lv_aload_n hx hb dX7_copyFrom_57 rfl (lv_at hl 1 rfl) ?_
  refine va_get (D := D) (own := RX7) (ci := 7) (v := .int (iI a1_x7)) (C := RX7) (T := TX7) (N := 15) hx hb hts inb_X7 hown hK.1 hP 0 rfl rfl 7 (by decide) (hts _ wd_103) (fun _ h9 => h9) rfl dX7_copyFrom_58 ?_
  have y58_8 : 0 ≤ a1_x7 ∧ a1_x7 ≤ 31 := hi_a1.2.2.2.2.2.2.2.1
  refine va_put (D := D) (own := RX7) (ci := 7) (v := .int (iI a1_x7)) (ty := .int) (C := RX7) (T := TX7) (N := 15) hx hb hts inb_X7 tyX7 tyX7_ok nmX7 hown hK.1 hP hD hS 1 rfl rfl 7 (by decide) (hts _ wd_103) (fun _ h9 => h9) rfl (by decide +kernel) rfl rfl (Nat.le_of_ble_eq_true rfl) dX7_copyFrom_61 (fun H locs hP hD hS => ?_)
  have hP : va_P D vwCl [(a1, .inr (7, oX7 a1_q a1_x0 a1_x1 a1_x2 a1_x3 a1_x4 a1_x5 a1_x6 a1_x7 a1_x8)), (t, .inr (7, oX7 t_q a1_x0 a1_x1 a1_x2 a1_x3 a1_x4 a1_x5 a1_x6 a1_x7 t_x8)), ((a1_q 9), .inl (K 0, 5, .inl (fun j => iI (a1_9_c j)))), ((t_q 9), .inl (K 0, 5, .inl (fun j => iI (t_9_c j)))), ((a1_q 10), .inl (K 0, 6, .inl (fun j => iI (a1_10_c j)))), ((t_q 10), .inl (K 0, 6, .inl (fun j => iI (t_10_c j)))), ((a1_q 11), .inl (K 0, 12, .inl (fun j => iI (a1_11_c j)))), ((t_q 11), .inl (K 0, 12, .inl (fun j => iI (t_11_c j)))), ((a1_q 12), .inl (K 0, 24, .inl (fun j => iI (a1_12_c j)))), ((t_q 12), .inl (K 0, 24, .inl (fun j => iI (t_12_c j)))), ((a1_q 13), .inl (K 0, 24, .inl (fun j => iI (a1_13_c j)))), ((t_q 13), .inl (K 0, 24, .inl (fun j => iI (t_13_c j)))), ((a1_q 14), .inl (K 0, 24, .inl (fun j => iI (a1_14_c j)))), ((t_q 14), .inl (K 0, 24, .inl (fun j => iI (t_14_c j))))] H := hP
  have hD : va_D A [(a1, .inr (7, oX7 a1_q a1_x0 a1_x1 a1_x2 a1_x3 a1_x4 a1_x5 a1_x6 a1_x7 a1_x8)), (t, .inr (7, oX7 t_q a1_x0 a1_x1 a1_x2 a1_x3 a1_x4 a1_x5 a1_x6 a1_x7 t_x8)), ((a1_q 9), .inl (K 0, 5, .inl (fun j => iI (a1_9_c j)))), ((t_q 9), .inl (K 0, 5, .inl (fun j => iI (t_9_c j)))), ((a1_q 10), .inl (K 0, 6, .inl (fun j => iI (a1_10_c j)))), ((t_q 10), .inl (K 0, 6, .inl (fun j => iI (t_10_c j)))), ((a1_q 11), .inl (K 0, 12, .inl (fun j => iI (a1_11_c j)))), ((t_q 11), .inl (K 0, 12, .inl (fun j => iI (t_11_c j)))), ((a1_q 12), .inl (K 0, 24, .inl (fun j => iI (a1_12_c j)))), ((t_q 12), .inl (K 0, 24, .inl (fun j => iI (t_12_c j)))), ((a1_q 13), .inl (K 0, 24, .inl (fun j => iI (a1_13_c j)))), ((t_q 13), .inl (K 0, 24, .inl (fun j => iI (t_13_c j)))), ((a1_q 14), .inl (K 0, 24, .inl (fun j => iI (a1_14_c j)))), ((t_q 14), .inl (K 0, 24, .inl (fun j => iI (t_14_c j))))] := hD
  refine lv_aload_n hx hb dX7_copyFrom_64 rfl (lv_at hl 0 rfl) ?_
  refine lv_aload_n hx hb dX7_copyFrom_65 rfl (lv_at hl 1 rfl) ?_
  refine va_get (D := D) (own := RX7) (ci := 7) (v := .int (iI a1_x8)) (C := RX7) (T := TX7) (N := 15) hx hb hts inb_X7 hown hK.1 hP 0 rfl rfl 8 (by decide) (hts _ wd_106) (fun _ h9 => h9) rfl dX7_copyFrom_66 ?_
  have y66_9 : (-2147483648) ≤ a1_x8 ∧ a1_x8 ≤ 2147483647 := hi_a1.2.2.2.2.2.2.2.2
  refine va_put (D := D) (own := RX7) (ci := 7) (v := .int (iI a1_x8)) (ty := .int) (C := RX7) (T := TX7) (N := 15) hx hb hts inb_X7 tyX7 tyX7_ok nmX7 hown hK.1 hP hD hS 1 rfl rfl 8 (by decide) (hts _ wd_106) (fun _ h9 => h9) rfl (by decide +kernel) rfl rfl (Nat.le_of_ble_eq_true rfl) dX7_copyFrom_69 (fun H locs hP hD hS => ?_)
  have hP : va_P D vwCl [(a1, .inr (7, oX7 a1_q a1_x0 a1_x1 a1_x2 a1_x3 a1_x4 a1_x5 a1_x6 a1_x7 a1_x8)), (t, .inr (7, oX7 t_q a1_x0 a1_x1 a1_x2 a1_x3 a1_x4 a1_x5 a1_x6 a1_x7 a1_x8)), ((a1_q 9), .inl (K 0, 5, .inl (fun j => iI (a1_9_c j)))), ((t_q 9), .inl (K 0, 5, .inl (fun j => iI (t_9_c j)))), ((a1_q 10), .inl (K 0, 6, .inl (fun j => iI (a1_10_c j)))), ((t_q 10), .inl (K 0, 6, .inl (fun j => iI (t_10_c j)))), ((a1_q 11), .inl (K 0, 12, .inl (fun j => iI (a1_11_c j)))), ((t_q 11), .inl (K 0, 12, .inl (fun j => iI (t_11_c j)))), ((a1_q 12), .inl (K 0, 24, .inl (fun j => iI (a1_12_c j)))), ((t_q 12), .inl (K 0, 24, .inl (fun j => iI (t_12_c j)))), ((a1_q 13), .inl (K 0, 24, .inl (fun j => iI (a1_13_c j)))), ((t_q 13), .inl (K 0, 24, .inl (fun j => iI (t_13_c j)))), ((a1_q 14), .inl (K 0, 24, .inl (fun j => iI (a1_14_c j)))), ((t_q 14), .inl (K 0, 24, .inl (fun j => iI (t_14_c j))))] H := hP
  have hD : va_D A [(a1, .inr (7, oX7 a1_q a1_x0 a1_x1 a1_x2 a1_x3 a1_x4 a1_x5 a1_x6 a1_x7 a1_x8)), (t, .inr (7, oX7 t_q a1_x0 a1_x1 a1_x2 a1_x3 a1_x4 a1_x5 a1_x6 a1_x7 a1_x8)), ((a1_q 9), .inl (K 0, 5, .inl (fun j => iI (a1_9_c j)))), ((t_q 9), .inl (K 0, 5, .inl (fun j => iI (t_9_c j)))), ((a1_q 10), .inl (K 0, 6, .inl (fun j => iI (a1_10_c j)))), ((t_q 10), .inl (K 0, 6, .inl (fun j => iI (t_10_c j)))), ((a1_q 11), .inl (K 0, 12, .inl (fun j => iI (a1_11_c j)))), ((t_q 11), .inl (K 0, 12, .inl (fun j => iI (t_11_c j)))), ((a1_q 12), .inl (K 0, 24, .inl (fun j => iI (a1_12_c j)))), ((t_q 12), .inl (K 0, 24, .inl (fun j => iI (t_12_c j)))), ((a1_q 13), .inl (K 0, 24, .inl (fun j => iI (a1_13_c j)))), ((t_q 13), .inl (K 0, 24, .inl (fun j => iI (t_13_c j)))), ((a1_q 14), .inl (K 0, 24, .inl (fun j => iI (a1_14_c j)))), ((t_q 14), .inl (K 0, 24, .inl (fun j => iI (t_14_c j))))] := hD
  refine lv_aload_n hx hb dX7_copyFrom_72 rfl (lv_at hl 1 rfl) ?_
  refine va_get (D := D) (own := RX7) (ci := 7) (v := .ref (a1_q 9)) (C := RX7) (T := TX7) (N := 15) hx hb hts inb_X7 hown hK.1 hP 0 rfl rfl 9 (by decide) (hts _ wd_109) (fun _ h9 => h9) rfl dX7_copyFrom_73 ?_
  refine lv_iconst (v := iI 0) hx hb dX7_copyFrom_76 rfl ?_
  refine fn_at 77 rfl ?_
  refine lv_aload_n hx hb dX7_copyFrom_77 rfl (lv_at hl 0 rfl) ?_
  refine va_get (D := D) (own := RX7) (ci := 7) (v := .ref (t_q 9)) (C := RX7) (T := TX7) (N := 15) hx hb hts inb_X7 hown hK.1 hP 1 rfl rfl 9 (by decide) (hts _ wd_109) (fun _ h9 => h9) rfl dX7_copyFrom_78 ?_
  refine lv_iconst (v := iI 0) hx hb dX7_copyFrom_81 rfl ?_
  refine lv_iconst (v := iI 5) hx hb dX7_copyFrom_82 rfl ?_
  refine g_cpy (own := RX7) hx hb (hml.trans hl.1.symm) hown (hts _ wd_620) (hts _ wd_622) (hts _ wd_621) (hts _ wd_19) hK.1 hP hD hS 2 3 0 0 rfl rfl rfl rfl (by omega) (by omega) (by omega) (Nat.le_of_ble_eq_true rfl) (Nat.le_of_ble_eq_true rfl) dX7_copyFrom_83 (fun H locs g83 eg83 hP hD hS => ?_)
  have hg83 : ∀ j : Nat, 0 ≤ g83 j ∧ g83 j ≤ 4 := by rw [eg83]; exact cI_all hc_a1_9 hc_t_9
  have hP : va_P D vwCl [(a1, .inr (7, oX7 a1_q a1_x0 a1_x1 a1_x2 a1_x3 a1_x4 a1_x5 a1_x6 a1_x7 a1_x8)), (t, .inr (7, oX7 t_q a1_x0 a1_x1 a1_x2 a1_x3 a1_x4 a1_x5 a1_x6 a1_x7 a1_x8)), ((a1_q 9), .inl (K 0, 5, .inl (fun j => iI (a1_9_c j)))), ((t_q 9), .inl (K 0, 5, .inl (fun j => iI (g83 j)))), ((a1_q 10), .inl (K 0, 6, .inl (fun j => iI (a1_10_c j)))), ((t_q 10), .inl (K 0, 6, .inl (fun j => iI (t_10_c j)))), ((a1_q 11), .inl (K 0, 12, .inl (fun j => iI (a1_11_c j)))), ((t_q 11), .inl (K 0, 12, .inl (fun j => iI (t_11_c j)))), ((a1_q 12), .inl (K 0, 24, .inl (fun j => iI (a1_12_c j)))), ((t_q 12), .inl (K 0, 24, .inl (fun j => iI (t_12_c j)))), ((a1_q 13), .inl (K 0, 24, .inl (fun j => iI (a1_13_c j)))), ((t_q 13), .inl (K 0, 24, .inl (fun j => iI (t_13_c j)))), ((a1_q 14), .inl (K 0, 24, .inl (fun j => iI (a1_14_c j)))), ((t_q 14), .inl (K 0, 24, .inl (fun j => iI (t_14_c j))))] H := hP
  have hD : va_D A [(a1, .inr (7, oX7 a1_q a1_x0 a1_x1 a1_x2 a1_x3 a1_x4 a1_x5 a1_x6 a1_x7 a1_x8)), (t, .inr (7, oX7 t_q a1_x0 a1_x1 a1_x2 a1_x3 a1_x4 a1_x5 a1_x6 a1_x7 a1_x8)), ((a1_q 9), .inl (K 0, 5, .inl (fun j => iI (a1_9_c j)))), ((t_q 9), .inl (K 0, 5, .inl (fun j => iI (g83 j)))), ((a1_q 10), .inl (K 0, 6, .inl (fun j => iI (a1_10_c j)))), ((t_q 10), .inl (K 0, 6, .inl (fun j => iI (t_10_c j)))), ((a1_q 11), .inl (K 0, 12, .inl (fun j => iI (a1_11_c j)))), ((t_q 11), .inl (K 0, 12, .inl (fun j => iI (t_11_c j)))), ((a1_q 12), .inl (K 0, 24, .inl (fun j => iI (a1_12_c j)))), ((t_q 12), .inl (K 0, 24, .inl (fun j => iI (t_12_c j)))), ((a1_q 13), .inl (K 0, 24, .inl (fun j => iI (a1_13_c j)))), ((t_q 13), .inl (K 0, 24, .inl (fun j => iI (t_13_c j)))), ((a1_q 14), .inl (K 0, 24, .inl (fun j => iI (a1_14_c j)))), ((t_q 14), .inl (K 0, 24, .inl (fun j => iI (t_14_c j))))] := hD
  refine lv_aload_n hx hb dX7_copyFrom_86 rfl (lv_at hl 1 rfl) ?_
  refine va_get (D := D) (own := RX7) (ci := 7) (v := .ref (a1_q 10)) (C := RX7) (T := TX7) (N := 15) hx hb hts inb_X7 hown hK.1 hP 0 rfl rfl 10 (by decide) (hts _ wd_111) (fun _ h9 => h9) rfl dX7_copyFrom_87 ?_
  refine lv_iconst (v := iI 0) hx hb dX7_copyFrom_90 rfl ?_
  refine lv_aload_n hx hb dX7_copyFrom_91 rfl (lv_at hl 0 rfl) ?_
  refine va_get (D := D) (own := RX7) (ci := 7) (v := .ref (t_q 10)) (C := RX7) (T := TX7) (N := 15) hx hb hts inb_X7 hown hK.1 hP 1 rfl rfl 10 (by decide) (hts _ wd_111) (fun _ h9 => h9) rfl dX7_copyFrom_92 ?_
  refine lv_iconst (v := iI 0) hx hb dX7_copyFrom_95 rfl ?_
  refine lv_bipush (v := iI 6) hx hb dX7_copyFrom_96 (by decide) ?_
  refine g_cpy (own := RX7) hx hb (hml.trans hl.1.symm) hown (hts _ wd_620) (hts _ wd_622) (hts _ wd_621) (hts _ wd_19) hK.1 hP hD hS 4 5 0 0 rfl rfl rfl rfl (by omega) (by omega) (by omega) (Nat.le_of_ble_eq_true rfl) (Nat.le_of_ble_eq_true rfl) dX7_copyFrom_98 (fun H locs g98 eg98 hP hD hS => ?_)
  have hg98 : ∀ j : Nat, 0 ≤ g98 j ∧ g98 j ≤ 12 := by rw [eg98]; exact cI_all hc_a1_10 hc_t_10
  have hP : va_P D vwCl [(a1, .inr (7, oX7 a1_q a1_x0 a1_x1 a1_x2 a1_x3 a1_x4 a1_x5 a1_x6 a1_x7 a1_x8)), (t, .inr (7, oX7 t_q a1_x0 a1_x1 a1_x2 a1_x3 a1_x4 a1_x5 a1_x6 a1_x7 a1_x8)), ((a1_q 9), .inl (K 0, 5, .inl (fun j => iI (a1_9_c j)))), ((t_q 9), .inl (K 0, 5, .inl (fun j => iI (g83 j)))), ((a1_q 10), .inl (K 0, 6, .inl (fun j => iI (a1_10_c j)))), ((t_q 10), .inl (K 0, 6, .inl (fun j => iI (g98 j)))), ((a1_q 11), .inl (K 0, 12, .inl (fun j => iI (a1_11_c j)))), ((t_q 11), .inl (K 0, 12, .inl (fun j => iI (t_11_c j)))), ((a1_q 12), .inl (K 0, 24, .inl (fun j => iI (a1_12_c j)))), ((t_q 12), .inl (K 0, 24, .inl (fun j => iI (t_12_c j)))), ((a1_q 13), .inl (K 0, 24, .inl (fun j => iI (a1_13_c j)))), ((t_q 13), .inl (K 0, 24, .inl (fun j => iI (t_13_c j)))), ((a1_q 14), .inl (K 0, 24, .inl (fun j => iI (a1_14_c j)))), ((t_q 14), .inl (K 0, 24, .inl (fun j => iI (t_14_c j))))] H := hP
  have hD : va_D A [(a1, .inr (7, oX7 a1_q a1_x0 a1_x1 a1_x2 a1_x3 a1_x4 a1_x5 a1_x6 a1_x7 a1_x8)), (t, .inr (7, oX7 t_q a1_x0 a1_x1 a1_x2 a1_x3 a1_x4 a1_x5 a1_x6 a1_x7 a1_x8)), ((a1_q 9), .inl (K 0, 5, .inl (fun j => iI (a1_9_c j)))), ((t_q 9), .inl (K 0, 5, .inl (fun j => iI (g83 j)))), ((a1_q 10), .inl (K 0, 6, .inl (fun j => iI (a1_10_c j)))), ((t_q 10), .inl (K 0, 6, .inl (fun j => iI (g98 j)))), ((a1_q 11), .inl (K 0, 12, .inl (fun j => iI (a1_11_c j)))), ((t_q 11), .inl (K 0, 12, .inl (fun j => iI (t_11_c j)))), ((a1_q 12), .inl (K 0, 24, .inl (fun j => iI (a1_12_c j)))), ((t_q 12), .inl (K 0, 24, .inl (fun j => iI (t_12_c j)))), ((a1_q 13), .inl (K 0, 24, .inl (fun j => iI (a1_13_c j)))), ((t_q 13), .inl (K 0, 24, .inl (fun j => iI (t_13_c j)))), ((a1_q 14), .inl (K 0, 24, .inl (fun j => iI (a1_14_c j)))), ((t_q 14), .inl (K 0, 24, .inl (fun j => iI (t_14_c j))))] := hD
  refine lv_aload_n hx hb dX7_copyFrom_101 rfl (lv_at hl 1 rfl) ?_
  refine va_get (D := D) (own := RX7) (ci := 7) (v := .ref (a1_q 11)) (C := RX7) (T := TX7) (N := 15) hx hb hts inb_X7 hown hK.1 hP 0 rfl rfl 11 (by decide) (hts _ wd_113) (fun _ h9 => h9) rfl dX7_copyFrom_102 ?_
  refine lv_iconst (v := iI 0) hx hb dX7_copyFrom_105 rfl ?_
  refine lv_aload_n hx hb dX7_copyFrom_106 rfl (lv_at hl 0 rfl) ?_
  refine va_get (D := D) (own := RX7) (ci := 7) (v := .ref (t_q 11)) (C := RX7) (T := TX7) (N := 15) hx hb hts inb_X7 hown hK.1 hP 1 rfl rfl 11 (by decide) (hts _ wd_113) (fun _ h9 => h9) rfl dX7_copyFrom_107 ?_
  refine lv_iconst (v := iI 0) hx hb dX7_copyFrom_110 rfl ?_
  refine lv_bipush (v := iI 12) hx hb dX7_copyFrom_111 (by decide) ?_
  refine fn_at 113 rfl ?_
  refine g_cpy (own := RX7) hx hb (hml.trans hl.1.symm) hown (hts _ wd_620) (hts _ wd_622) (hts _ wd_621) (hts _ wd_19) hK.1 hP hD hS 6 7 0 0 rfl rfl rfl rfl (by omega) (by omega) (by omega) (Nat.le_of_ble_eq_true rfl) (Nat.le_of_ble_eq_true rfl) dX7_copyFrom_113 (fun H locs g113 eg113 hP hD hS => ?_)
  have hg113 : ∀ j : Nat, 0 ≤ g113 j ∧ g113 j ≤ 4 := by rw [eg113]; exact cI_all hc_a1_11 hc_t_11
  have hP : va_P D vwCl [(a1, .inr (7, oX7 a1_q a1_x0 a1_x1 a1_x2 a1_x3 a1_x4 a1_x5 a1_x6 a1_x7 a1_x8)), (t, .inr (7, oX7 t_q a1_x0 a1_x1 a1_x2 a1_x3 a1_x4 a1_x5 a1_x6 a1_x7 a1_x8)), ((a1_q 9), .inl (K 0, 5, .inl (fun j => iI (a1_9_c j)))), ((t_q 9), .inl (K 0, 5, .inl (fun j => iI (g83 j)))), ((a1_q 10), .inl (K 0, 6, .inl (fun j => iI (a1_10_c j)))), ((t_q 10), .inl (K 0, 6, .inl (fun j => iI (g98 j)))), ((a1_q 11), .inl (K 0, 12, .inl (fun j => iI (a1_11_c j)))), ((t_q 11), .inl (K 0, 12, .inl (fun j => iI (g113 j)))), ((a1_q 12), .inl (K 0, 24, .inl (fun j => iI (a1_12_c j)))), ((t_q 12), .inl (K 0, 24, .inl (fun j => iI (t_12_c j)))), ((a1_q 13), .inl (K 0, 24, .inl (fun j => iI (a1_13_c j)))), ((t_q 13), .inl (K 0, 24, .inl (fun j => iI (t_13_c j)))), ((a1_q 14), .inl (K 0, 24, .inl (fun j => iI (a1_14_c j)))), ((t_q 14), .inl (K 0, 24, .inl (fun j => iI (t_14_c j))))] H := hP
  have hD : va_D A [(a1, .inr (7, oX7 a1_q a1_x0 a1_x1 a1_x2 a1_x3 a1_x4 a1_x5 a1_x6 a1_x7 a1_x8)), (t, .inr (7, oX7 t_q a1_x0 a1_x1 a1_x2 a1_x3 a1_x4 a1_x5 a1_x6 a1_x7 a1_x8)), ((a1_q 9), .inl (K 0, 5, .inl (fun j => iI (a1_9_c j)))), ((t_q 9), .inl (K 0, 5, .inl (fun j => iI (g83 j)))), ((a1_q 10), .inl (K 0, 6, .inl (fun j => iI (a1_10_c j)))), ((t_q 10), .inl (K 0, 6, .inl (fun j => iI (g98 j)))), ((a1_q 11), .inl (K 0, 12, .inl (fun j => iI (a1_11_c j)))), ((t_q 11), .inl (K 0, 12, .inl (fun j => iI (g113 j)))), ((a1_q 12), .inl (K 0, 24, .inl (fun j => iI (a1_12_c j)))), ((t_q 12), .inl (K 0, 24, .inl (fun j => iI (t_12_c j)))), ((a1_q 13), .inl (K 0, 24, .inl (fun j => iI (a1_13_c j)))), ((t_q 13), .inl (K 0, 24, .inl (fun j => iI (t_13_c j)))), ((a1_q 14), .inl (K 0, 24, .inl (fun j => iI (a1_14_c j)))), ((t_q 14), .inl (K 0, 24, .inl (fun j => iI (t_14_c j))))] := hD
  refine lv_aload_n hx hb dX7_copyFrom_116 rfl (lv_at hl 1 rfl) ?_
  refine va_get (D := D) (own := RX7) (ci := 7) (v := .ref (a1_q 12)) (C := RX7) (T := TX7) (N := 15) hx hb hts inb_X7 hown hK.1 hP 0 rfl rfl 12 (by decide) (hts _ wd_116) (fun _ h9 => h9) rfl dX7_copyFrom_117 ?_
  refine lv_iconst (v := iI 0) hx hb dX7_copyFrom_120 rfl ?_
  refine lv_aload_n hx hb dX7_copyFrom_121 rfl (lv_at hl 0 rfl) ?_
  refine va_get (D := D) (own := RX7) (ci := 7) (v := .ref (t_q 12)) (C := RX7) (T := TX7) (N := 15) hx hb hts inb_X7 hown hK.1 hP 1 rfl rfl 12 (by decide) (hts _ wd_116) (fun _ h9 => h9) rfl dX7_copyFrom_122 ?_
  refine lv_iconst (v := iI 0) hx hb dX7_copyFrom_125 rfl ?_
  refine lv_bipush (v := iI 24) hx hb dX7_copyFrom_126 (by decide) ?_
  refine g_cpy (own := RX7) hx hb (hml.trans hl.1.symm) hown (hts _ wd_620) (hts _ wd_622) (hts _ wd_621) (hts _ wd_19) hK.1 hP hD hS 8 9 0 0 rfl rfl rfl rfl (by omega) (by omega) (by omega) (Nat.le_of_ble_eq_true rfl) (Nat.le_of_ble_eq_true rfl) dX7_copyFrom_128 (fun H locs g128 eg128 hP hD hS => ?_)
  have hg128 : ∀ j : Nat, 0 ≤ g128 j ∧ g128 j ≤ 11 := by rw [eg128]; exact cI_all hc_a1_12 hc_t_12
  have hP : va_P D vwCl [(a1, .inr (7, oX7 a1_q a1_x0 a1_x1 a1_x2 a1_x3 a1_x4 a1_x5 a1_x6 a1_x7 a1_x8)), (t, .inr (7, oX7 t_q a1_x0 a1_x1 a1_x2 a1_x3 a1_x4 a1_x5 a1_x6 a1_x7 a1_x8)), ((a1_q 9), .inl (K 0, 5, .inl (fun j => iI (a1_9_c j)))), ((t_q 9), .inl (K 0, 5, .inl (fun j => iI (g83 j)))), ((a1_q 10), .inl (K 0, 6, .inl (fun j => iI (a1_10_c j)))), ((t_q 10), .inl (K 0, 6, .inl (fun j => iI (g98 j)))), ((a1_q 11), .inl (K 0, 12, .inl (fun j => iI (a1_11_c j)))), ((t_q 11), .inl (K 0, 12, .inl (fun j => iI (g113 j)))), ((a1_q 12), .inl (K 0, 24, .inl (fun j => iI (a1_12_c j)))), ((t_q 12), .inl (K 0, 24, .inl (fun j => iI (g128 j)))), ((a1_q 13), .inl (K 0, 24, .inl (fun j => iI (a1_13_c j)))), ((t_q 13), .inl (K 0, 24, .inl (fun j => iI (t_13_c j)))), ((a1_q 14), .inl (K 0, 24, .inl (fun j => iI (a1_14_c j)))), ((t_q 14), .inl (K 0, 24, .inl (fun j => iI (t_14_c j))))] H := hP
  have hD : va_D A [(a1, .inr (7, oX7 a1_q a1_x0 a1_x1 a1_x2 a1_x3 a1_x4 a1_x5 a1_x6 a1_x7 a1_x8)), (t, .inr (7, oX7 t_q a1_x0 a1_x1 a1_x2 a1_x3 a1_x4 a1_x5 a1_x6 a1_x7 a1_x8)), ((a1_q 9), .inl (K 0, 5, .inl (fun j => iI (a1_9_c j)))), ((t_q 9), .inl (K 0, 5, .inl (fun j => iI (g83 j)))), ((a1_q 10), .inl (K 0, 6, .inl (fun j => iI (a1_10_c j)))), ((t_q 10), .inl (K 0, 6, .inl (fun j => iI (g98 j)))), ((a1_q 11), .inl (K 0, 12, .inl (fun j => iI (a1_11_c j)))), ((t_q 11), .inl (K 0, 12, .inl (fun j => iI (g113 j)))), ((a1_q 12), .inl (K 0, 24, .inl (fun j => iI (a1_12_c j)))), ((t_q 12), .inl (K 0, 24, .inl (fun j => iI (g128 j)))), ((a1_q 13), .inl (K 0, 24, .inl (fun j => iI (a1_13_c j)))), ((t_q 13), .inl (K 0, 24, .inl (fun j => iI (t_13_c j)))), ((a1_q 14), .inl (K 0, 24, .inl (fun j => iI (a1_14_c j)))), ((t_q 14), .inl (K 0, 24, .inl (fun j => iI (t_14_c j))))] := hD
  refine lv_aload_n hx hb dX7_copyFrom_131 rfl (lv_at hl 1 rfl) ?_
  refine va_get (D := D) (own := RX7) (ci := 7) (v := .ref (a1_q 13)) (C := RX7) (T := TX7) (N := 15) hx hb hts inb_X7 hown hK.1 hP 0 rfl rfl 13 (by decide) (hts _ wd_122) (fun _ h9 => h9) rfl dX7_copyFrom_132 ?_
  refine lv_iconst (v := iI 0) hx hb dX7_copyFrom_135 rfl ?_
  refine lv_aload_n hx hb dX7_copyFrom_136 rfl (lv_at hl 0 rfl) ?_
  refine va_get (D := D) (own := RX7) (ci := 7) (v := .ref (t_q 13)) (C := RX7) (T := TX7) (N := 15) hx hb hts inb_X7 hown hK.1 hP 1 rfl rfl 13 (by decide) (hts _ wd_122) (fun _ h9 => h9) rfl dX7_copyFrom_137 ?_
  refine lv_iconst (v := iI 0) hx hb dX7_copyFrom_140 rfl ?_
  refine lv_bipush (v := iI 24) hx hb dX7_copyFrom_141 (by decide) ?_
  refine g_cpy (own := RX7) hx hb (hml.trans hl.1.symm) hown (hts _ wd_620) (hts _ wd_622) (hts _ wd_621) (hts _ wd_19) hK.1 hP hD hS 10 11 0 0 rfl rfl rfl rfl (by omega) (by omega) (by omega) (Nat.le_of_ble_eq_true rfl) (Nat.le_of_ble_eq_true rfl) dX7_copyFrom_143 (fun H locs g143 eg143 hP hD hS => ?_)
  have hg143 : ∀ j : Nat, 0 ≤ g143 j ∧ g143 j ≤ 4 := by rw [eg143]; exact cI_all hc_a1_13 hc_t_13
  have hP : va_P D vwCl [(a1, .inr (7, oX7 a1_q a1_x0 a1_x1 a1_x2 a1_x3 a1_x4 a1_x5 a1_x6 a1_x7 a1_x8)), (t, .inr (7, oX7 t_q a1_x0 a1_x1 a1_x2 a1_x3 a1_x4 a1_x5 a1_x6 a1_x7 a1_x8)), ((a1_q 9), .inl (K 0, 5, .inl (fun j => iI (a1_9_c j)))), ((t_q 9), .inl (K 0, 5, .inl (fun j => iI (g83 j)))), ((a1_q 10), .inl (K 0, 6, .inl (fun j => iI (a1_10_c j)))), ((t_q 10), .inl (K 0, 6, .inl (fun j => iI (g98 j)))), ((a1_q 11), .inl (K 0, 12, .inl (fun j => iI (a1_11_c j)))), ((t_q 11), .inl (K 0, 12, .inl (fun j => iI (g113 j)))), ((a1_q 12), .inl (K 0, 24, .inl (fun j => iI (a1_12_c j)))), ((t_q 12), .inl (K 0, 24, .inl (fun j => iI (g128 j)))), ((a1_q 13), .inl (K 0, 24, .inl (fun j => iI (a1_13_c j)))), ((t_q 13), .inl (K 0, 24, .inl (fun j => iI (g143 j)))), ((a1_q 14), .inl (K 0, 24, .inl (fun j => iI (a1_14_c j)))), ((t_q 14), .inl (K 0, 24, .inl (fun j => iI (t_14_c j))))] H := hP
  have hD : va_D A [(a1, .inr (7, oX7 a1_q a1_x0 a1_x1 a1_x2 a1_x3 a1_x4 a1_x5 a1_x6 a1_x7 a1_x8)), (t, .inr (7, oX7 t_q a1_x0 a1_x1 a1_x2 a1_x3 a1_x4 a1_x5 a1_x6 a1_x7 a1_x8)), ((a1_q 9), .inl (K 0, 5, .inl (fun j => iI (a1_9_c j)))), ((t_q 9), .inl (K 0, 5, .inl (fun j => iI (g83 j)))), ((a1_q 10), .inl (K 0, 6, .inl (fun j => iI (a1_10_c j)))), ((t_q 10), .inl (K 0, 6, .inl (fun j => iI (g98 j)))), ((a1_q 11), .inl (K 0, 12, .inl (fun j => iI (a1_11_c j)))), ((t_q 11), .inl (K 0, 12, .inl (fun j => iI (g113 j)))), ((a1_q 12), .inl (K 0, 24, .inl (fun j => iI (a1_12_c j)))), ((t_q 12), .inl (K 0, 24, .inl (fun j => iI (g128 j)))), ((a1_q 13), .inl (K 0, 24, .inl (fun j => iI (a1_13_c j)))), ((t_q 13), .inl (K 0, 24, .inl (fun j => iI (g143 j)))), ((a1_q 14), .inl (K 0, 24, .inl (fun j => iI (a1_14_c j)))), ((t_q 14), .inl (K 0, 24, .inl (fun j => iI (t_14_c j))))] := hD
  refine lv_aload_n hx hb dX7_copyFrom_146 rfl (lv_at hl 1 rfl) ?_
  refine va_get (D := D) (own := RX7) (ci := 7) (v := .ref (a1_q 14)) (C := RX7) (T := TX7) (N := 15) hx hb hts inb_X7 hown hK.1 hP 0 rfl rfl 14 (by decide) (hts _ wd_125) (fun _ h9 => h9) rfl dX7_copyFrom_147 ?_
  refine lv_iconst (v := iI 0) hx hb dX7_copyFrom_150 rfl ?_
  refine fn_at 151 rfl ?_
  refine lv_aload_n hx hb dX7_copyFrom_151 rfl (lv_at hl 0 rfl) ?_
  refine va_get (D := D) (own := RX7) (ci := 7) (v := .ref (t_q 14)) (C := RX7) (T := TX7) (N := 15) hx hb hts inb_X7 hown hK.1 hP 1 rfl rfl 14 (by decide) (hts _ wd_125) (fun _ h9 => h9) rfl dX7_copyFrom_152 ?_
  refine lv_iconst (v := iI 0) hx hb dX7_copyFrom_155 rfl ?_
  refine lv_bipush (v := iI 24) hx hb dX7_copyFrom_156 (by decide) ?_
  refine g_cpy (own := RX7) hx hb (hml.trans hl.1.symm) hown (hts _ wd_620) (hts _ wd_622) (hts _ wd_621) (hts _ wd_19) hK.1 hP hD hS 12 13 0 0 rfl rfl rfl rfl (by omega) (by omega) (by omega) (Nat.le_of_ble_eq_true rfl) (Nat.le_of_ble_eq_true rfl) dX7_copyFrom_158 (fun H locs g158 eg158 hP hD hS => ?_)
  have hg158 : ∀ j : Nat, 0 ≤ g158 j ∧ g158 j ≤ 29 := by rw [eg158]; exact cI_all hc_a1_14 hc_t_14
  have hP : va_P D vwCl [(a1, .inr (7, oX7 a1_q a1_x0 a1_x1 a1_x2 a1_x3 a1_x4 a1_x5 a1_x6 a1_x7 a1_x8)), (t, .inr (7, oX7 t_q a1_x0 a1_x1 a1_x2 a1_x3 a1_x4 a1_x5 a1_x6 a1_x7 a1_x8)), ((a1_q 9), .inl (K 0, 5, .inl (fun j => iI (a1_9_c j)))), ((t_q 9), .inl (K 0, 5, .inl (fun j => iI (g83 j)))), ((a1_q 10), .inl (K 0, 6, .inl (fun j => iI (a1_10_c j)))), ((t_q 10), .inl (K 0, 6, .inl (fun j => iI (g98 j)))), ((a1_q 11), .inl (K 0, 12, .inl (fun j => iI (a1_11_c j)))), ((t_q 11), .inl (K 0, 12, .inl (fun j => iI (g113 j)))), ((a1_q 12), .inl (K 0, 24, .inl (fun j => iI (a1_12_c j)))), ((t_q 12), .inl (K 0, 24, .inl (fun j => iI (g128 j)))), ((a1_q 13), .inl (K 0, 24, .inl (fun j => iI (a1_13_c j)))), ((t_q 13), .inl (K 0, 24, .inl (fun j => iI (g143 j)))), ((a1_q 14), .inl (K 0, 24, .inl (fun j => iI (a1_14_c j)))), ((t_q 14), .inl (K 0, 24, .inl (fun j => iI (g158 j))))] H := hP
  have hD : va_D A [(a1, .inr (7, oX7 a1_q a1_x0 a1_x1 a1_x2 a1_x3 a1_x4 a1_x5 a1_x6 a1_x7 a1_x8)), (t, .inr (7, oX7 t_q a1_x0 a1_x1 a1_x2 a1_x3 a1_x4 a1_x5 a1_x6 a1_x7 a1_x8)), ((a1_q 9), .inl (K 0, 5, .inl (fun j => iI (a1_9_c j)))), ((t_q 9), .inl (K 0, 5, .inl (fun j => iI (g83 j)))), ((a1_q 10), .inl (K 0, 6, .inl (fun j => iI (a1_10_c j)))), ((t_q 10), .inl (K 0, 6, .inl (fun j => iI (g98 j)))), ((a1_q 11), .inl (K 0, 12, .inl (fun j => iI (a1_11_c j)))), ((t_q 11), .inl (K 0, 12, .inl (fun j => iI (g113 j)))), ((a1_q 12), .inl (K 0, 24, .inl (fun j => iI (a1_12_c j)))), ((t_q 12), .inl (K 0, 24, .inl (fun j => iI (g128 j)))), ((a1_q 13), .inl (K 0, 24, .inl (fun j => iI (a1_13_c j)))), ((t_q 13), .inl (K 0, 24, .inl (fun j => iI (g143 j)))), ((a1_q 14), .inl (K 0, 24, .inl (fun j => iI (a1_14_c j)))), ((t_q 14), .inl (K 0, 24, .inl (fun j => iI (g158 j))))] := hD
  rw [hQ]; exact fn_vret hx hb hr hlocks hP hD hS ((fun k => ([a1_x0, a1_x1, a1_x2, a1_x3, a1_x4, a1_x5, a1_x6, a1_x7, a1_x8] : List Int).getD k 0), (fun k => ([g98, g113, g128, g143, g158, g83] : List (Nat → Int)).getD k (fun _ => 0))) ⟨(by show 0 ≤ a1_x0 ∧ a1_x0 ≤ 1400 ∧ 0 ≤ a1_x1 ∧ a1_x1 ≤ 20 ∧ 0 ≤ a1_x2 ∧ a1_x2 ≤ 100 ∧ 0 ≤ a1_x3 ∧ a1_x3 ≤ 5 ∧ 0 ≤ a1_x4 ∧ a1_x4 ≤ 12 ∧ 0 ≤ a1_x5 ∧ a1_x5 ≤ 24 ∧ 0 ≤ a1_x6 ∧ a1_x6 ≤ 4095 ∧ 0 ≤ a1_x7 ∧ a1_x7 ≤ 31 ∧ (-2147483648) ≤ a1_x8 ∧ a1_x8 ≤ 2147483647; omega), (hg98), (hg113), (hg128), (hg143), (hg158), (hg83), trivial⟩ [0, 1, 2, 3, 4, 5, 6, 7, 8, 9, 10, 11, 12, 13] (by decide) rfl dX7_copyFrom_161
theorem dX7_hasPage_0 : decode cX7_hasPage 0 = .ok (.iload_n 1, 1) := by decide +kernel
theorem dX7_hasPage_1 : decode cX7_hasPage 1 = .ok (.ifCond .lt 15, 3) := by decide +kernel
theorem dX7_hasPage_16 : decode cX7_hasPage 16 = .ok (.iconst 0, 1) := by decide +kernel
theorem dX7_hasPage_17 : decode cX7_hasPage 17 = .ok (.ireturn, 1) := by decide +kernel
theorem dX7_hasPage_4 : decode cX7_hasPage 4 = .ok (.iload_n 1, 1) := by decide +kernel
theorem dX7_hasPage_5 : decode cX7_hasPage 5 = .ok (.aload_n 0, 1) := by decide +kernel
theorem dX7_hasPage_6 : decode cX7_hasPage 6 = .ok (.getfield 43, 3) := by decide +kernel
theorem dX7_hasPage_9 : decode cX7_hasPage 9 = .ok (.if_icmp .ge 7, 3) := by decide +kernel
theorem dX7_hasPage_12 : decode cX7_hasPage 12 = .ok (.iconst 1, 1) := by decide +kernel
theorem dX7_hasPage_13 : decode cX7_hasPage 13 = .ok (.goto 4, 3) := by decide +kernel
set_option maxHeartbeats 4000000 in
set_option maxRecDepth 100000 in
theorem k_X7_hasPage (l : Launch) (D : va_G) (K : Nat → ClassId) (t : Nat) (t_q : Nat → Nat) (p1 t_x0 t_x1 t_x2 t_x3 t_x4 t_x5 t_x6 t_x7 t_x8 : Int) (hp1 : (-2147483648) ≤ p1 ∧ p1 ≤ 2147483647) (hi_t : bX7 t_x0 t_x1 t_x2 t_x3 t_x4 t_x5 t_x6 t_x7 t_x8) : fn_CI (S := (Nat → Int) × (Nat → Nat → Int)) l D K yX7_hasPage (fn_ws yX7_hasPage cX7_hasPage 2 (some .boolean)) ({ frames := 4, cells := 0, slots := 0, locals := 100 } : Room) [.ref t, .int (iI p1)] [(t, .inr (7, oX7 t_q t_x0 t_x1 t_x2 t_x3 t_x4 t_x5 t_x6 t_x7 t_x8))] (fun r u => ∃ k : Int, r = iI k ∧ (0 ≤ k ∧ k ≤ 1) ∧ ((k = 1 → 0 ≤ p1 ∧ p1 < t_x4 ∧ p1 ≤ 11)) ∧ True) (fun u => [(t, .inr (7, oX7 t_q t_x0 t_x1 t_x2 t_x3 t_x4 t_x5 t_x6 t_x7 t_x8))]) 0 0 := by
  refine g_inI (cc := cX7_hasPage) (maxL := 2) (ret := (some .boolean)) (by decide) rfl (Nat.le_of_ble_eq_true rfl) ?_
  intro p e s m below meth c A ls ag Q B hA hP hD hS hl hQ
  obtain ⟨hx, hb, hr, hml, hts, hown, hlocks, hin, hK⟩ := B
  have hown : s.vm.findClass RX7 = some m.cls := hown
  have hts := fun w h => hts w (List.mem_cons_of_mem _ h)
  have hl : lv_has ls 2 [(0, .ref t), (1, .int (iI p1))] := hl
  refine lv_iload_n hx hb dX7_hasPage_0 rfl (lv_at hl 1 rfl) ?_
  refine g_if_lt (tgt := 16) hx hb (by omega) dX7_hasPage_1 (by decide) (fun c1 => ?_) (fun c1 => ?_)
  · refine lv_iconst (v := iI 0) hx hb dX7_hasPage_16 rfl ?_
    rw [hQ]; exact fn_iret hx hb hr hlocks (iI_nz (by omega)) hP hD hS ((fun _ => 0), (fun _ _ => 0)) ⟨0, rfl, by omega, (by show ((0 : Int) = 1 → 0 ≤ p1 ∧ p1 < t_x4 ∧ p1 ≤ 11); omega), trivial⟩ [0] (by decide) rfl dX7_hasPage_17
  · refine lv_iload_n hx hb dX7_hasPage_4 rfl (lv_at hl 1 rfl) ?_
    refine lv_aload_n hx hb dX7_hasPage_5 rfl (lv_at hl 0 rfl) ?_
    refine va_get (D := D) (own := RX7) (ci := 7) (v := .int (iI t_x4)) (C := RX7) (T := TX7) (N := 15) hx hb hts inb_X7 hown hK.1 hP 0 rfl rfl 4 (by decide) (hts _ wd_87) (fun _ h9 => h9) rfl dX7_hasPage_6 ?_
    have y6_1 : 0 ≤ t_x4 ∧ t_x4 ≤ 12 := hi_t.2.2.2.2.1
    refine g_icmp_ge (tgt := 16) hx hb (by omega) (by omega) dX7_hasPage_9 (by decide) (fun c9 => ?_) (fun c9 => ?_)
    · refine lv_iconst (v := iI 0) hx hb dX7_hasPage_16 rfl ?_
      rw [hQ]; exact fn_iret hx hb hr hlocks (iI_nz (by omega)) hP hD hS ((fun _ => 0), (fun _ _ => 0)) ⟨0, rfl, by omega, (by show ((0 : Int) = 1 → 0 ≤ p1 ∧ p1 < t_x4 ∧ p1 ≤ 11); omega), trivial⟩ [0] (by decide) rfl dX7_hasPage_17
    · refine lv_iconst (v := iI 1) hx hb dX7_hasPage_12 rfl ?_
      refine lv_goto (tgt := 17) hx hb dX7_hasPage_13 (by decide) ?_
      rw [hQ]; exact fn_iret hx hb hr hlocks (iI_nz (by omega)) hP hD hS ((fun _ => 0), (fun _ _ => 0)) ⟨1, rfl, by omega, (by show ((1 : Int) = 1 → 0 ≤ p1 ∧ p1 < t_x4 ∧ p1 ≤ 11); omega), trivial⟩ [0] (by decide) rfl dX7_hasPage_17
theorem dX7_hasBook_0 : decode cX7_hasBook 0 = .ok (.iload_n 1, 1) := by decide +kernel
theorem dX7_hasBook_1 : decode cX7_hasBook 1 = .ok (.ifCond .lt 15, 3) := by decide +kernel
theorem dX7_hasBook_16 : decode cX7_hasBook 16 = .ok (.iconst 0, 1) := by decide +kernel
theorem dX7_hasBook_17 : decode cX7_hasBook 17 = .ok (.ireturn, 1) := by decide +kernel
theorem dX7_hasBook_4 : decode cX7_hasBook 4 = .ok (.iload_n 1, 1) := by decide +kernel
theorem dX7_hasBook_5 : decode cX7_hasBook 5 = .ok (.aload_n 0, 1) := by decide +kernel
theorem dX7_hasBook_6 : decode cX7_hasBook 6 = .ok (.getfield 40, 3) := by decide +kernel
theorem dX7_hasBook_9 : decode cX7_hasBook 9 = .ok (.if_icmp .ge 7, 3) := by decide +kernel
theorem dX7_hasBook_12 : decode cX7_hasBook 12 = .ok (.iconst 1, 1) := by decide +kernel
theorem dX7_hasBook_13 : decode cX7_hasBook 13 = .ok (.goto 4, 3) := by decide +kernel
set_option maxHeartbeats 4000000 in
set_option maxRecDepth 100000 in
theorem k_X7_hasBook (l : Launch) (D : va_G) (K : Nat → ClassId) (t : Nat) (t_q : Nat → Nat) (p1 t_x0 t_x1 t_x2 t_x3 t_x4 t_x5 t_x6 t_x7 t_x8 : Int) (hp1 : (-2147483648) ≤ p1 ∧ p1 ≤ 2147483647) (hi_t : bX7 t_x0 t_x1 t_x2 t_x3 t_x4 t_x5 t_x6 t_x7 t_x8) : fn_CI (S := (Nat → Int) × (Nat → Nat → Int)) l D K yX7_hasBook (fn_ws yX7_hasBook cX7_hasBook 2 (some .boolean)) ({ frames := 4, cells := 0, slots := 0, locals := 100 } : Room) [.ref t, .int (iI p1)] [(t, .inr (7, oX7 t_q t_x0 t_x1 t_x2 t_x3 t_x4 t_x5 t_x6 t_x7 t_x8))] (fun r u => ∃ k : Int, r = iI k ∧ (0 ≤ k ∧ k ≤ 1) ∧ ((k = 1 → 0 ≤ p1 ∧ p1 < t_x3 ∧ p1 ≤ 4)) ∧ True) (fun u => [(t, .inr (7, oX7 t_q t_x0 t_x1 t_x2 t_x3 t_x4 t_x5 t_x6 t_x7 t_x8))]) 0 0 := by
  refine g_inI (cc := cX7_hasBook) (maxL := 2) (ret := (some .boolean)) (by decide) rfl (Nat.le_of_ble_eq_true rfl) ?_
  intro p e s m below meth c A ls ag Q B hA hP hD hS hl hQ
  obtain ⟨hx, hb, hr, hml, hts, hown, hlocks, hin, hK⟩ := B
  have hown : s.vm.findClass RX7 = some m.cls := hown
  have hts := fun w h => hts w (List.mem_cons_of_mem _ h)
  have hl : lv_has ls 2 [(0, .ref t), (1, .int (iI p1))] := hl
  refine lv_iload_n hx hb dX7_hasBook_0 rfl (lv_at hl 1 rfl) ?_
  refine g_if_lt (tgt := 16) hx hb (by omega) dX7_hasBook_1 (by decide) (fun c1 => ?_) (fun c1 => ?_)
  · refine lv_iconst (v := iI 0) hx hb dX7_hasBook_16 rfl ?_
    rw [hQ]; exact fn_iret hx hb hr hlocks (iI_nz (by omega)) hP hD hS ((fun _ => 0), (fun _ _ => 0)) ⟨0, rfl, by omega, (by show ((0 : Int) = 1 → 0 ≤ p1 ∧ p1 < t_x3 ∧ p1 ≤ 4); omega), trivial⟩ [0] (by decide) rfl dX7_hasBook_17
  · refine lv_iload_n hx hb dX7_hasBook_4 rfl (lv_at hl 1 rfl) ?_
    refine lv_aload_n hx hb dX7_hasBook_5 rfl (lv_at hl 0 rfl) ?_
    refine va_get (D := D) (own := RX7) (ci := 7) (v := .int (iI t_x3)) (C := RX7) (T := TX7) (N := 15) hx hb hts inb_X7 hown hK.1 hP 0 rfl rfl 3 (by decide) (hts _ wd_80) (fun _ h9 => h9) rfl dX7_hasBook_6 ?_
    have y6_1 : 0 ≤ t_x3 ∧ t_x3 ≤ 5 := hi_t.2.2.2.1
    refine g_icmp_ge (tgt := 16) hx hb (by omega) (by omega) dX7_hasBook_9 (by decide) (fun c9 => ?_) (fun c9 => ?_)
    · refine lv_iconst (v := iI 0) hx hb dX7_hasBook_16 rfl ?_
      rw [hQ]; exact fn_iret hx hb hr hlocks (iI_nz (by omega)) hP hD hS ((fun _ => 0), (fun _ _ => 0)) ⟨0, rfl, by omega, (by show ((0 : Int) = 1 → 0 ≤ p1 ∧ p1 < t_x3 ∧ p1 ≤ 4); omega), trivial⟩ [0] (by decide) rfl dX7_hasBook_17
    · refine lv_iconst (v := iI 1) hx hb dX7_hasBook_12 rfl ?_
      refine lv_goto (tgt := 17) hx hb dX7_hasBook_13 (by decide) ?_
      rw [hQ]; exact fn_iret hx hb hr hlocks (iI_nz (by omega)) hP hD hS ((fun _ => 0), (fun _ _ => 0)) ⟨1, rfl, by omega, (by show ((1 : Int) = 1 → 0 ≤ p1 ∧ p1 < t_x3 ∧ p1 ≤ 4); omega), trivial⟩ [0] (by decide) rfl dX7_hasBook_17
theorem dX7_hasNote_0 : decode cX7_hasNote 0 = .ok (.iload_n 1, 1) := by decide +kernel
theorem dX7_hasNote_1 : decode cX7_hasNote 1 = .ok (.ifCond .lt 15, 3) := by decide +kernel
theorem dX7_hasNote_16 : decode cX7_hasNote 16 = .ok (.iconst 0, 1) := by decide +kernel
theorem dX7_hasNote_17 : decode cX7_hasNote 17 = .ok (.ireturn, 1) := by decide +kernel
theorem dX7_hasNote_4 : decode cX7_hasNote 4 = .ok (.iload_n 1, 1) := by decide +kernel
theorem dX7_hasNote_5 : decode cX7_hasNote 5 = .ok (.aload_n 0, 1) := by decide +kernel
theorem dX7_hasNote_6 : decode cX7_hasNote 6 = .ok (.getfield 46, 3) := by decide +kernel
theorem dX7_hasNote_9 : decode cX7_hasNote 9 = .ok (.if_icmp .ge 7, 3) := by decide +kernel
theorem dX7_hasNote_12 : decode cX7_hasNote 12 = .ok (.iconst 1, 1) := by decide +kernel
theorem dX7_hasNote_13 : decode cX7_hasNote 13 = .ok (.goto 4, 3) := by decide +kernel
set_option maxHeartbeats 4000000 in
set_option maxRecDepth 100000 in
theorem k_X7_hasNote (l : Launch) (D : va_G) (K : Nat → ClassId) (t : Nat) (t_q : Nat → Nat) (p1 t_x0 t_x1 t_x2 t_x3 t_x4 t_x5 t_x6 t_x7 t_x8 : Int) (hp1 : (-2147483648) ≤ p1 ∧ p1 ≤ 2147483647) (hi_t : bX7 t_x0 t_x1 t_x2 t_x3 t_x4 t_x5 t_x6 t_x7 t_x8) : fn_CI (S := (Nat → Int) × (Nat → Nat → Int)) l D K yX7_hasNote (fn_ws yX7_hasNote cX7_hasNote 2 (some .boolean)) ({ frames := 4, cells := 0, slots := 0, locals := 100 } : Room) [.ref t, .int (iI p1)] [(t, .inr (7, oX7 t_q t_x0 t_x1 t_x2 t_x3 t_x4 t_x5 t_x6 t_x7 t_x8))] (fun r u => ∃ k : Int, r = iI k ∧ (0 ≤ k ∧ k ≤ 1) ∧ ((k = 1 → 0 ≤ p1 ∧ p1 < t_x5 ∧ p1 ≤ 23)) ∧ True) (fun u => [(t, .inr (7, oX7 t_q t_x0 t_x1 t_x2 t_x3 t_x4 t_x5 t_x6 t_x7 t_x8))]) 0 0 := by
  refine g_inI (cc := cX7_hasNote) (maxL := 2) (ret := (some .boolean)) (by decide) rfl (Nat.le_of_ble_eq_true rfl) ?_
  intro p e s m below meth c A ls ag Q B hA hP hD hS hl hQ
  obtain ⟨hx, hb, hr, hml, hts, hown, hlocks, hin, hK⟩ := B
  have hown : s.vm.findClass RX7 = some m.cls := hown
  have hts := fun w h => hts w (List.mem_cons_of_mem _ h)
  have hl : lv_has ls 2 [(0, .ref t), (1, .int (iI p1))] := hl
  refine lv_iload_n hx hb dX7_hasNote_0 rfl (lv_at hl 1 rfl) ?_
  refine g_if_lt (tgt := 16) hx hb (by omega) dX7_hasNote_1 (by decide) (fun c1 => ?_) (fun c1 => ?_)
  · refine lv_iconst (v := iI 0) hx hb dX7_hasNote_16 rfl ?_
    rw [hQ]; exact fn_iret hx hb hr hlocks (iI_nz (by omega)) hP hD hS ((fun _ => 0), (fun _ _ => 0)) ⟨0, rfl, by omega, (by show ((0 : Int) = 1 → 0 ≤ p1 ∧ p1 < t_x5 ∧ p1 ≤ 23); omega), trivial⟩ [0] (by decide) rfl dX7_hasNote_17
  · refine lv_iload_n hx hb dX7_hasNote_4 rfl (lv_at hl 1 rfl) ?_
    refine lv_aload_n hx hb dX7_hasNote_5 rfl (lv_at hl 0 rfl) ?_
    refine va_get (D := D) (own := RX7) (ci := 7) (v := .int (iI t_x5)) (C := RX7) (T := TX7) (N := 15) hx hb hts inb_X7 hown hK.1 hP 0 rfl rfl 5 (by decide) (hts _ wd_92) (fun _ h9 => h9) rfl dX7_hasNote_6 ?_
    have y6_1 : 0 ≤ t_x5 ∧ t_x5 ≤ 24 := hi_t.2.2.2.2.2.1
    refine g_icmp_ge (tgt := 16) hx hb (by omega) (by omega) dX7_hasNote_9 (by decide) (fun c9 => ?_) (fun c9 => ?_)
    · refine lv_iconst (v := iI 0) hx hb dX7_hasNote_16 rfl ?_
      rw [hQ]; exact fn_iret hx hb hr hlocks (iI_nz (by omega)) hP hD hS ((fun _ => 0), (fun _ _ => 0)) ⟨0, rfl, by omega, (by show ((0 : Int) = 1 → 0 ≤ p1 ∧ p1 < t_x5 ∧ p1 ≤ 23); omega), trivial⟩ [0] (by decide) rfl dX7_hasNote_17
    · refine lv_iconst (v := iI 1) hx hb dX7_hasNote_12 rfl ?_
      refine lv_goto (tgt := 17) hx hb dX7_hasNote_13 (by decide) ?_
      rw [hQ]; exact fn_iret hx hb hr hlocks (iI_nz (by omega)) hP hD hS ((fun _ => 0), (fun _ _ => 0)) ⟨1, rfl, by omega, (by show ((1 : Int) = 1 → 0 ≤ p1 ∧ p1 < t_x5 ∧ p1 ≤ 23); omega), trivial⟩ [0] (by decide) rfl dX7_hasNote_17
theorem dX7_scholarOf_0 : decode cX7_scholarOf 0 = .ok (.aload_n 0, 1) := by decide +kernel
theorem dX7_scholarOf_1 : decode cX7_scholarOf 1 = .ok (.getfield 9, 3) := by decide +kernel
theorem dX7_scholarOf_4 : decode cX7_scholarOf 4 = .ok (.aload_n 0, 1) := by decide +kernel
theorem dX7_scholarOf_5 : decode cX7_scholarOf 5 = .ok (.getfield 18, 3) := by decide +kernel
theorem dX7_scholarOf_8 : decode cX7_scholarOf 8 = .ok (.iload_n 1, 1) := by decide +kernel
theorem dX7_scholarOf_9 : decode cX7_scholarOf 9 = .ok (.iaload, 1) := by decide +kernel
theorem dX7_scholarOf_10 : decode cX7_scholarOf 10 = .ok (.iaload, 1) := by decide +kernel
theorem dX7_scholarOf_11 : decode cX7_scholarOf 11 = .ok (.ireturn, 1) := by decide +kernel
set_option maxHeartbeats 4000000 in
set_option maxRecDepth 100000 in
theorem k_X7_scholarOf (l : Launch) (D : va_G) (K : Nat → ClassId) (t : Nat) (t_q : Nat → Nat) (p1 t_x0 t_x1 t_x2 t_x3 t_x4 t_x5 t_x6 t_x7 t_x8 : Int) (t_11_c : Nat → Int) (t_9_c : Nat → Int) (hp1 : 0 ≤ p1 ∧ p1 ≤ 11) (hi_t : bX7 t_x0 t_x1 t_x2 t_x3 t_x4 t_x5 t_x6 t_x7 t_x8) (hc_t_11 : ∀ j : Nat, 0 ≤ t_11_c j ∧ t_11_c j ≤ 4) (hc_t_9 : ∀ j : Nat, 0 ≤ t_9_c j ∧ t_9_c j ≤ 4) : fn_CI (S := (Nat → Int) × (Nat → Nat → Int)) l D K yX7_scholarOf (fn_ws yX7_scholarOf cX7_scholarOf 2 (some .int)) ({ frames := 4, cells := 0, slots := 0, locals := 100 } : Room) [.ref t, .int (iI p1)] [(t, .inr (7, oX7 t_q t_x0 t_x1 t_x2 t_x3 t_x4 t_x5 t_x6 t_x7 t_x8)), ((t_q 11), .inl (K 0, 12, .inl (fun j => iI (t_11_c j)))), ((t_q 9), .inl (K 0, 5, .inl (fun j => iI (t_9_c j))))] (fun r u => ∃ k : Int, r = iI k ∧ (0 ≤ k ∧ k ≤ 4) ∧ True) (fun u => [(t, .inr (7, oX7 t_q t_x0 t_x1 t_x2 t_x3 t_x4 t_x5 t_x6 t_x7 t_x8)), ((t_q 11), .inl (K 0, 12, .inl (fun j => iI (t_11_c j)))), ((t_q 9), .inl (K 0, 5, .inl (fun j => iI (t_9_c j))))]) 0 0 := by
  refine g_inI (cc := cX7_scholarOf) (maxL := 2) (ret := (some .int)) (by decide) rfl (Nat.le_of_ble_eq_true rfl) ?_
  intro p e s m below meth c A ls ag Q B hA hP hD hS hl hQ
  obtain ⟨hx, hb, hr, hml, hts, hown, hlocks, hin, hK⟩ := B
  have hown : s.vm.findClass RX7 = some m.cls := hown
  have hts := fun w h => hts w (List.mem_cons_of_mem _ h)
  have hl : lv_has ls 2 [(0, .ref t), (1, .int (iI p1))] := hl
  refine lv_aload_n hx hb dX7_scholarOf_0 rfl (lv_at hl 0 rfl) ?_
  refine va_get (D := D) (own := RX7) (ci := 7) (v := .ref (t_q 9)) (C := RX7) (T := TX7) (N := 15) hx hb hts inb_X7 hown hK.1 hP 0 rfl rfl 9 (by decide) (hts _ wd_109) (fun _ h9 => h9) rfl dX7_scholarOf_1 ?_
  refine lv_aload_n hx hb dX7_scholarOf_4 rfl (lv_at hl 0 rfl) ?_
  refine va_get (D := D) (own := RX7) (ci := 7) (v := .ref (t_q 11)) (C := RX7) (T := TX7) (N := 15) hx hb hts inb_X7 hown hK.1 hP 0 rfl rfl 11 (by decide) (hts _ wd_113) (fun _ h9 => h9) rfl dX7_scholarOf_5 ?_
  refine lv_iload_n hx hb dX7_scholarOf_8 rfl (lv_at hl 1 rfl) ?_
  refine g_iald hx hb hK.1 hP 1 0 rfl rfl (by omega) (by omega) (by decide) dX7_scholarOf_9 ?_
  have y9 : 0 ≤ (t_11_c p1.toNat) ∧ (t_11_c p1.toNat) ≤ 4 := hc_t_11 p1.toNat
  refine g_iald hx hb hK.1 hP 2 0 rfl rfl (by omega) (by omega) (by decide) dX7_scholarOf_10 ?_
  have y10 : 0 ≤ (t_9_c ((t_11_c p1.toNat).toNat)) ∧ (t_9_c ((t_11_c p1.toNat).toNat)) ≤ 4 := hc_t_9 ((t_11_c p1.toNat).toNat)
  rw [hQ]; exact fn_iret hx hb hr hlocks rfl hP hD hS ((fun _ => 0), (fun _ _ => 0)) ⟨t_9_c ((t_11_c p1.toNat).toNat), rfl, by omega, trivial⟩ [0, 1, 2] (by decide) rfl dX7_scholarOf_11
theorem dX7_notesOn_28 : decode cX7_notesOn 28 = .ok (.invokestatic 64, 3) := by decide +kernel
theorem dX7_notesOn_31 : decode cX7_notesOn 31 = .ok (.iadd, 1) := by decide +kernel
theorem dX7_notesOn_32 : decode cX7_notesOn 32 = .ok (.istore_n 2, 1) := by decide +kernel
theorem dX7_notesOn_33 : decode cX7_notesOn 33 = .ok (.iinc 3 1, 3) := by decide +kernel
theorem dX7_notesOn_36 : decode cX7_notesOn 36 = .ok (.goto (-32), 3) := by decide +kernel
theorem dX7_notesOn_4 : decode cX7_notesOn 4 = .ok (.iload_n 3, 1) := by decide +kernel
theorem dX7_notesOn_5 : decode cX7_notesOn 5 = .ok (.aload_n 0, 1) := by decide +kernel
theorem dX7_notesOn_6 : decode cX7_notesOn 6 = .ok (.getfield 46, 3) := by decide +kernel
theorem dX7_notesOn_9 : decode cX7_notesOn 9 = .ok (.if_icmp .ge 30, 3) := by decide +kernel
theorem dX7_notesOn_39 : decode cX7_notesOn 39 = .ok (.iload_n 2, 1) := by decide +kernel
theorem dX7_notesOn_40 : decode cX7_notesOn 40 = .ok (.ireturn, 1) := by decide +kernel
theorem dX7_notesOn_12 : decode cX7_notesOn 12 = .ok (.iload_n 2, 1) := by decide +kernel
theorem dX7_notesOn_13 : decode cX7_notesOn 13 = .ok (.aload_n 0, 1) := by decide +kernel
theorem dX7_notesOn_14 : decode cX7_notesOn 14 = .ok (.getfield 21, 3) := by decide +kernel
theorem dX7_notesOn_17 : decode cX7_notesOn 17 = .ok (.iload_n 3, 1) := by decide +kernel
theorem dX7_notesOn_18 : decode cX7_notesOn 18 = .ok (.iaload, 1) := by decide +kernel
theorem dX7_notesOn_19 : decode cX7_notesOn 19 = .ok (.iload_n 1, 1) := by decide +kernel
theorem dX7_notesOn_20 : decode cX7_notesOn 20 = .ok (.if_icmp .ne 7, 3) := by decide +kernel
theorem dX7_notesOn_27 : decode cX7_notesOn 27 = .ok (.iconst 0, 1) := by decide +kernel
theorem dX7_notesOn_23 : decode cX7_notesOn 23 = .ok (.iconst 1, 1) := by decide +kernel
theorem dX7_notesOn_24 : decode cX7_notesOn 24 = .ok (.goto 4, 3) := by decide +kernel
theorem dX7_notesOn_0 : decode cX7_notesOn 0 = .ok (.iconst 0, 1) := by decide +kernel
theorem dX7_notesOn_1 : decode cX7_notesOn 1 = .ok (.istore_n 2, 1) := by decide +kernel
theorem dX7_notesOn_2 : decode cX7_notesOn 2 = .ok (.iconst 0, 1) := by decide +kernel
theorem dX7_notesOn_3 : decode cX7_notesOn 3 = .ok (.istore_n 3, 1) := by decide +kernel
set_option maxHeartbeats 4000000 in
set_option maxRecDepth 100000 in
theorem k_X7_notesOn (l : Launch) (D : va_G) (K : Nat → ClassId) (t : Nat) (t_q : Nat → Nat) (p1 t_x0 t_x1 t_x2 t_x3 t_x4 t_x5 t_x6 t_x7 t_x8 : Int) (t_12_c : Nat → Int) (hp1 : (-2147483648) ≤ p1 ∧ p1 ≤ 2147483647) (hi_t : bX7 t_x0 t_x1 t_x2 t_x3 t_x4 t_x5 t_x6 t_x7 t_x8) (hc_t_12 : ∀ j : Nat, 0 ≤ t_12_c j ∧ t_12_c j ≤ 11) : fn_CI (S := (Nat → Int) × (Nat → Nat → Int)) l D K yX7_notesOn (fn_ws yX7_notesOn cX7_notesOn 4 (some .int)) ({ frames := 8, cells := 0, slots := 0, locals := 200 } : Room) [.ref t, .int (iI p1)] [(t, .inr (7, oX7 t_q t_x0 t_x1 t_x2 t_x3 t_x4 t_x5 t_x6 t_x7 t_x8)), ((t_q 12), .inl (K 0, 24, .inl (fun j => iI (t_12_c j))))] (fun r u => ∃ k : Int, r = iI k ∧ ((-2147483648) ≤ k ∧ k ≤ 2147483647) ∧ True) (fun u => [(t, .inr (7, oX7 t_q t_x0 t_x1 t_x2 t_x3 t_x4 t_x5 t_x6 t_x7 t_x8)), ((t_q 12), .inl (K 0, 24, .inl (fun j => iI (t_12_c j))))]) 0 0 := by
  refine g_inI (cc := cX7_notesOn) (maxL := 4) (ret := (some .int)) (by decide) rfl (Nat.le_of_ble_eq_true rfl) ?_
  intro p e s m below meth c A ls ag Q B hA hP hD hS hl hQ
  obtain ⟨hx, hb, hr, hml, hts, hown, hlocks, hin, hK⟩ := B
  have hown : s.vm.findClass RX7 = some m.cls := hown
  have hts := fun w h => hts w (List.mem_cons_of_mem _ h)
  have J4 : ∀ (n : Nat) (x4_2 : Int) (x4_3 : Int) (H : Heap) (locs : List Loc) (ls : Array Slot), (24 - x4_3).toNat < n → ((-2147483648) ≤ x4_2 ∧ x4_2 ≤ 2147483647 ∧ 0 ≤ x4_3 ∧ x4_3 ≤ 24) → va_P D vwCl [(t, .inr (7, oX7 t_q t_x0 t_x1 t_x2 t_x3 t_x4 t_x5 t_x6 t_x7 t_x8)), ((t_q 12), .inl (K 0, 24, .inl (fun j => iI (t_12_c j))))] H → va_D A [(t, .inr (7, oX7 t_q t_x0 t_x1 t_x2 t_x3 t_x4 t_x5 t_x6 t_x7 t_x8)), ((t_q 12), .inl (K 0, 24, .inl (fun j => iI (t_12_c j))))] → va_S A s.heap H locs → lv_has ls 4 [(0, .ref t), (1, .int (iI p1)), (2, .int (iI x4_2)), (3, .int (iI x4_3))] → W p l e ({ frames := 8, cells := 0, slots := 0, locals := 200 } : Room) s m ag below meth c H locs 0 0 Q (F0 m 4 ls []) := by
    intro n
    induction n with
    | zero =>
      intro x4_2 x4_3 H locs ls hm4 hf4 hP hD hS hl
      exact absurd hm4 (Nat.not_lt_zero _)
    | succ n ih4 =>
      intro x4_2 x4_3 H locs ls hm4 hf4 hP hD hS hl
      have J28 : ∀ (z28_1 : Int) (H : Heap) (locs : List Loc) (ls : Array Slot), (0 ≤ x4_3 ∧ x4_3 ≤ 23 ∧ 0 ≤ z28_1 ∧ z28_1 ≤ 1 ∧ 1 ≤ t_x5 ∧ t_x5 ≤ 24) → va_P D vwCl [(t, .inr (7, oX7 t_q t_x0 t_x1 t_x2 t_x3 t_x4 t_x5 t_x6 t_x7 t_x8)), ((t_q 12), .inl (K 0, 24, .inl (fun j => iI (t_12_c j))))] H → va_D A [(t, .inr (7, oX7 t_q t_x0 t_x1 t_x2 t_x3 t_x4 t_x5 t_x6 t_x7 t_x8)), ((t_q 12), .inl (K 0, 24, .inl (fun j => iI (t_12_c j))))] → va_S A s.heap H locs → lv_has ls 4 [(0, .ref t), (1, .int (iI p1)), (2, .int (iI x4_2)), (3, .int (iI x4_3))] → W p l e ({ frames := 8, cells := 0, slots := 0, locals := 200 } : Room) s m ag below meth c H locs 0 0 Q (F0 m 28 ls [.int (iI z28_1), .int (iI x4_2)]) := by
        intro z28_1 H locs ls hf28 hP hD hS hl
        refine fn_goi (wc := []) (wr := [(t, .inr (7, oX7 t_q t_x0 t_x1 t_x2 t_x3 t_x4 t_x5 t_x6 t_x7 t_x8)), ((t_q 12), .inl (K 0, 24, .inl (fun j => iI (t_12_c j))))]) hK hP hD hS hA [] [0, 1] rfl rfl (by decide) (fun hp => va_runSN (As := [.int (iI z28_1)]) (rest := [.int (iI x4_2)]) ⟨hx, hb, hml, hown, hts⟩ (k_X11_bit (l := l) (D := D) (K := K) (p1 := z28_1) (hp1 := (by omega)) _) ⟨va_cnB (own := RX7) 1 hts (fn_gin wd_605) rfl rfl rfl (hK.nw 102 rfl) (hts _ wd_1) (by decide +kernel) ⟨Nat.le_of_ble_eq_true rfl, Nat.le_of_ble_eq_true rfl⟩, hts _ wd_604, trivial⟩ ⟨fn_blind, hp⟩ rfl rfl hl.1 rfl (lv_room (Nat.le_of_ble_eq_true rfl)) dX7_notesOn_28 ⟨Nat.le_of_ble_eq_true rfl, Nat.le_of_ble_eq_true rfl⟩) (fun r28 u28 H locs hwu28 hP hD hS => ?_)
        obtain ⟨u28a, u28b⟩ := u28
        obtain ⟨kr28, rfl, hkr28, -⟩ := hwu28
        have hP : va_P D vwCl [(t, .inr (7, oX7 t_q t_x0 t_x1 t_x2 t_x3 t_x4 t_x5 t_x6 t_x7 t_x8)), ((t_q 12), .inl (K 0, 24, .inl (fun j => iI (t_12_c j))))] H := hP
        have hD : va_D A [(t, .inr (7, oX7 t_q t_x0 t_x1 t_x2 t_x3 t_x4 t_x5 t_x6 t_x7 t_x8)), ((t_q 12), .inl (K 0, 24, .inl (fun j => iI (t_12_c j))))] := hD
        refine g_iadd hx hb dX7_notesOn_31 ?_
        refine g_any (fun w31 hw31 ew31 => ?_)
        refine lv_istore_n (lv' := [(2, .int (iI w31)), (0, .ref t), (1, .int (iI p1)), (3, .int (iI x4_3))]) hx hb dX7_notesOn_32 rfl hl (by decide) rfl (fun ls hl => ?_)
        refine lv_iinc (v := iI (x4_3 + 1)) (lv' := [(3, .int (iI (x4_3 + 1))), (2, .int (iI w31)), (0, .ref t), (1, .int (iI p1))]) hx hb dX7_notesOn_33 hl (k := 3) rfl (iI_add _ _) (by decide) rfl (fun ls hl => ?_)
        refine lv_goto (tgt := 4) hx hb dX7_notesOn_36 (by decide) ?_
        exact ih4 w31 (x4_3 + 1) _ _ ls (by omega) (by omega) (hP.sub [0, 1] rfl) (hD.sub [0, 1] (by decide) rfl) hS (lv_sub hl [2, 3, 1, 0] rfl)
      refine lv_iload_n hx hb dX7_notesOn_4 rfl (lv_at hl 3 rfl) ?_
      refine lv_aload_n hx hb dX7_notesOn_5 rfl (lv_at hl 0 rfl) ?_
      refine va_get (D := D) (own := RX7) (ci := 7) (v := .int (iI t_x5)) (C := RX7) (T := TX7) (N := 15) hx hb hts inb_X7 hown hK.1 hP 0 rfl rfl 5 (by decide) (hts _ wd_92) (fun _ h9 => h9) rfl dX7_notesOn_6 ?_
      have y6_1 : 0 ≤ t_x5 ∧ t_x5 ≤ 24 := hi_t.2.2.2.2.2.1
      refine g_icmp_ge (tgt := 39) hx hb (by omega) (by omega) dX7_notesOn_9 (by decide) (fun c9 => ?_) (fun c9 => ?_)
      · refine lv_iload_n hx hb dX7_notesOn_39 rfl (lv_at hl 2 rfl) ?_
        rw [hQ]; exact fn_iret hx hb hr hlocks rfl hP hD hS ((fun _ => 0), (fun _ _ => 0)) ⟨x4_2, rfl, by omega, trivial⟩ [0, 1] (by decide) rfl dX7_notesOn_40
      · refine lv_iload_n hx hb dX7_notesOn_12 rfl (lv_at hl 2 rfl) ?_
        refine lv_aload_n hx hb dX7_notesOn_13 rfl (lv_at hl 0 rfl) ?_
        refine va_get (D := D) (own := RX7) (ci := 7) (v := .ref (t_q 12)) (C := RX7) (T := TX7) (N := 15) hx hb hts inb_X7 hown hK.1 hP 0 rfl rfl 12 (by decide) (hts _ wd_116) (fun _ h9 => h9) rfl dX7_notesOn_14 ?_
        refine lv_iload_n hx hb dX7_notesOn_17 rfl (lv_at hl 3 rfl) ?_
        refine g_iald hx hb hK.1 hP 1 0 rfl rfl (by omega) (by omega) (by decide) dX7_notesOn_18 ?_
        have y18 : 0 ≤ (t_12_c x4_3.toNat) ∧ (t_12_c x4_3.toNat) ≤ 11 := hc_t_12 x4_3.toNat
        refine lv_iload_n hx hb dX7_notesOn_19 rfl (lv_at hl 1 rfl) ?_
        refine g_icmp_ne (tgt := 27) hx hb (by omega) (by omega) dX7_notesOn_20 (by decide) (fun c20 => ?_) (fun c20 => ?_)
        · refine lv_iconst (v := iI 0) hx hb dX7_notesOn_27 rfl ?_
          exact J28 0 _ _ ls (by omega) (hP.sub [0, 1] rfl) (hD.sub [0, 1] (by decide) rfl) hS (lv_sub hl [0, 1, 2, 3] rfl)
        · refine lv_iconst (v := iI 1) hx hb dX7_notesOn_23 rfl ?_
          refine lv_goto (tgt := 28) hx hb dX7_notesOn_24 (by decide) ?_
          exact J28 1 _ _ ls (by omega) (hP.sub [0, 1] rfl) (hD.sub [0, 1] (by decide) rfl) hS (lv_sub hl [0, 1, 2, 3] rfl)
  have hl : lv_has ls 4 [(0, .ref t), (1, .int (iI p1))] := hl
  refine lv_iconst (v := iI 0) hx hb dX7_notesOn_0 rfl ?_
  refine lv_istore_n (lv' := [(2, .int (iI 0)), (0, .ref t), (1, .int (iI p1))]) hx hb dX7_notesOn_1 rfl hl (by decide) rfl (fun ls hl => ?_)
  refine lv_iconst (v := iI 0) hx hb dX7_notesOn_2 rfl ?_
  refine lv_istore_n (lv' := [(3, .int (iI 0)), (2, .int (iI 0)), (0, .ref t), (1, .int (iI p1))]) hx hb dX7_notesOn_3 rfl hl (by decide) rfl (fun ls hl => ?_)
  exact J4 _ 0 0 _ _ ls (Nat.lt_succ_self _) (by omega) (hP.sub [0, 1] rfl) (hD.sub [0, 1] (by decide) rfl) hS (lv_sub hl [2, 3, 1, 0] rfl)
theorem wd_701 : Cond.methodLink "FootNotes$Text" 68 ⟨"FootNotes$Text", "pagesIn", "(I)I"⟩ ∈ fn_big := fn_tb (fn_l3 (List.mem_of_getElem? (i := 221) (by decide +kernel))) (by decide +kernel)
theorem dX7_targetAtFirst_0 : decode cX7_targetAtFirst 0 = .ok (.aload_n 0, 1) := by decide +kernel
theorem dX7_targetAtFirst_1 : decode cX7_targetAtFirst 1 = .ok (.getfield 24, 3) := by decide +kernel
theorem dX7_targetAtFirst_4 : decode cX7_targetAtFirst 4 = .ok (.iload_n 1, 1) := by decide +kernel
theorem dX7_targetAtFirst_5 : decode cX7_targetAtFirst 5 = .ok (.iaload, 1) := by decide +kernel
theorem dX7_targetAtFirst_6 : decode cX7_targetAtFirst 6 = .ok (.istore_n 2, 1) := by decide +kernel
theorem dX7_targetAtFirst_7 : decode cX7_targetAtFirst 7 = .ok (.aload_n 0, 1) := by decide +kernel
theorem dX7_targetAtFirst_8 : decode cX7_targetAtFirst 8 = .ok (.getfield 27, 3) := by decide +kernel
theorem dX7_targetAtFirst_11 : decode cX7_targetAtFirst 11 = .ok (.iload_n 1, 1) := by decide +kernel
theorem dX7_targetAtFirst_12 : decode cX7_targetAtFirst 12 = .ok (.iaload, 1) := by decide +kernel
theorem dX7_targetAtFirst_13 : decode cX7_targetAtFirst 13 = .ok (.aload_n 0, 1) := by decide +kernel
theorem dX7_targetAtFirst_14 : decode cX7_targetAtFirst 14 = .ok (.iload_n 2, 1) := by decide +kernel
theorem dX7_targetAtFirst_15 : decode cX7_targetAtFirst 15 = .ok (.invokevirtual 68, 3) := by decide +kernel
theorem dX7_targetAtFirst_18 : decode cX7_targetAtFirst 18 = .ok (.if_icmp .ge 19, 3) := by decide +kernel
theorem dX7_targetAtFirst_37 : decode cX7_targetAtFirst 37 = .ok (.iconst (-1), 1) := by decide +kernel
theorem dX7_targetAtFirst_38 : decode cX7_targetAtFirst 38 = .ok (.ireturn, 1) := by decide +kernel
theorem dX7_targetAtFirst_21 : decode cX7_targetAtFirst 21 = .ok (.aload_n 0, 1) := by decide +kernel
theorem dX7_targetAtFirst_22 : decode cX7_targetAtFirst 22 = .ok (.getfield 15, 3) := by decide +kernel
theorem dX7_targetAtFirst_25 : decode cX7_targetAtFirst 25 = .ok (.iload_n 2, 1) := by decide +kernel
theorem dX7_targetAtFirst_26 : decode cX7_targetAtFirst 26 = .ok (.iaload, 1) := by decide +kernel
theorem dX7_targetAtFirst_27 : decode cX7_targetAtFirst 27 = .ok (.aload_n 0, 1) := by decide +kernel
theorem dX7_targetAtFirst_28 : decode cX7_targetAtFirst 28 = .ok (.getfield 27, 3) := by decide +kernel
theorem dX7_targetAtFirst_31 : decode cX7_targetAtFirst 31 = .ok (.iload_n 1, 1) := by decide +kernel
theorem dX7_targetAtFirst_32 : decode cX7_targetAtFirst 32 = .ok (.iaload, 1) := by decide +kernel
theorem dX7_targetAtFirst_33 : decode cX7_targetAtFirst 33 = .ok (.iadd, 1) := by decide +kernel
theorem dX7_targetAtFirst_34 : decode cX7_targetAtFirst 34 = .ok (.goto 4, 3) := by decide +kernel
set_option maxHeartbeats 4000000 in
set_option maxRecDepth 100000 in
theorem k_X7_targetAtFirst (l : Launch) (D : va_G) (K : Nat → ClassId) (t : Nat) (t_q : Nat → Nat) (p1 t_x0 t_x1 t_x2 t_x3 t_x4 t_x5 t_x6 t_x7 t_x8 : Int) (t_13_c : Nat → Int) (t_14_c : Nat → Int) (t_10_c : Nat → Int) (hp1 : 0 ≤ p1 ∧ p1 ≤ 23) (hi_t : bX7 t_x0 t_x1 t_x2 t_x3 t_x4 t_x5 t_x6 t_x7 t_x8) (hc_t_13 : ∀ j : Nat, 0 ≤ t_13_c j ∧ t_13_c j ≤ 4) (hc_t_14 : ∀ j : Nat, 0 ≤ t_14_c j ∧ t_14_c j ≤ 29) (hc_t_10 : ∀ j : Nat, 0 ≤ t_10_c j ∧ t_10_c j ≤ 12) : fn_CI (S := (Nat → Int) × (Nat → Nat → Int)) l D K yX7_targetAtFirst (fn_ws yX7_targetAtFirst cX7_targetAtFirst 3 (some .int)) ({ frames := 8, cells := 0, slots := 0, locals := 200 } : Room) [.ref t, .int (iI p1)] [(t, .inr (7, oX7 t_q t_x0 t_x1 t_x2 t_x3 t_x4 t_x5 t_x6 t_x7 t_x8)), ((t_q 13), .inl (K 0, 24, .inl (fun j => iI (t_13_c j)))), ((t_q 14), .inl (K 0, 24, .inl (fun j => iI (t_14_c j)))), ((t_q 10), .inl (K 0, 6, .inl (fun j => iI (t_10_c j))))] (fun r u => ∃ k : Int, r = iI k ∧ ((-1) ≤ k ∧ k ≤ 23) ∧ True) (fun u => [(t, .inr (7, oX7 t_q t_x0 t_x1 t_x2 t_x3 t_x4 t_x5 t_x6 t_x7 t_x8)), ((t_q 13), .inl (K 0, 24, .inl (fun j => iI (t_13_c j)))), ((t_q 14), .inl (K 0, 24, .inl (fun j => iI (t_14_c j)))), ((t_q 10), .inl (K 0, 6, .inl (fun j => iI (t_10_c j))))]) 0 0 := by
  refine g_inI (cc := cX7_targetAtFirst) (maxL := 3) (ret := (some .int)) (by decide) rfl (Nat.le_of_ble_eq_true rfl) ?_
  intro p e s m below meth c A ls ag Q B hA hP hD hS hl hQ
  obtain ⟨hx, hb, hr, hml, hts, hown, hlocks, hin, hK⟩ := B
  have hown : s.vm.findClass RX7 = some m.cls := hown
  have hts := fun w h => hts w (List.mem_cons_of_mem _ h)
  have hl : lv_has ls 3 [(0, .ref t), (1, .int (iI p1))] := hl
  refine lv_aload_n hx hb dX7_targetAtFirst_0 rfl (lv_at hl 0 rfl) ?_
  refine va_get (D := D) (own := RX7) (ci := 7) (v := .ref (t_q 13)) (C := RX7) (T := TX7) (N := 15) hx hb hts inb_X7 hown hK.1 hP 0 rfl rfl 13 (by decide) (hts _ wd_122) (fun _ h9 => h9) rfl dX7_targetAtFirst_1 ?_
  refine lv_iload_n hx hb dX7_targetAtFirst_4 rfl (lv_at hl 1 rfl) ?_
  refine g_iald hx hb hK.1 hP 1 0 rfl rfl (by omega) (by omega) (by decide) dX7_targetAtFirst_5 ?_
  have y5 : 0 ≤ (t_13_c p1.toNat) ∧ (t_13_c p1.toNat) ≤ 4 := hc_t_13 p1.toNat
  refine lv_istore_n (lv' := [(2, .int (iI (t_13_c p1.toNat))), (0, .ref t), (1, .int (iI p1))]) hx hb dX7_targetAtFirst_6 rfl hl (by decide) rfl (fun ls hl => ?_)
  refine lv_aload_n hx hb dX7_targetAtFirst_7 rfl (lv_at hl 1 rfl) ?_
  refine va_get (D := D) (own := RX7) (ci := 7) (v := .ref (t_q 14)) (C := RX7) (T := TX7) (N := 15) hx hb hts inb_X7 hown hK.1 hP 0 rfl rfl 14 (by decide) (hts _ wd_125) (fun _ h9 => h9) rfl dX7_targetAtFirst_8 ?_
  refine lv_iload_n hx hb dX7_targetAtFirst_11 rfl (lv_at hl 2 rfl) ?_
  refine g_iald hx hb hK.1 hP 2 0 rfl rfl (by omega) (by omega) (by decide) dX7_targetAtFirst_12 ?_
  have y12 : 0 ≤ (t_14_c p1.toNat) ∧ (t_14_c p1.toNat) ≤ 29 := hc_t_14 p1.toNat
  refine lv_aload_n hx hb dX7_targetAtFirst_13 rfl (lv_at hl 1 rfl) ?_
  refine lv_iload_n hx hb dX7_targetAtFirst_14 rfl (lv_at hl 0 rfl) ?_
  refine fn_goi (wc := [(t, .inr (7, oX7 t_q t_x0 t_x1 t_x2 t_x3 t_x4 t_x5 t_x6 t_x7 t_x8)), ((t_q 10), .inl (K 0, 6, .inl (fun j => iI (t_10_c j))))]) (wr := [((t_q 13), .inl (K 0, 24, .inl (fun j => iI (t_13_c j)))), ((t_q 14), .inl (K 0, 24, .inl (fun j => iI (t_14_c j))))]) hK hP hD hS hA [0, 3] [1, 2] rfl rfl (by decide) (fun hp => va_runV (C := RX7) (As := [.int (iI (t_13_c p1.toNat))]) (rest := [.int (iI (t_14_c p1.toNat))]) ⟨hx, hb, hml, hown, hts⟩ (k_X7_pagesIn (l := l) (D := D) (K := K) (t := t) (p1 := (t_13_c p1.toNat)) (t_q := t_q) (t_x0 := t_x0) (t_x1 := t_x1) (t_x2 := t_x2) (t_x3 := t_x3) (t_x4 := t_x4) (t_x5 := t_x5) (t_x6 := t_x6) (t_x7 := t_x7) (t_x8 := t_x8) (t_10_c := t_10_c) (hp1 := (by omega)) (hi_t := hi_t) (hc_t_10 := hc_t_10) _) (cwV 1 hts (fn_ginV (fn_gin wd_630) wd_701 wd_629 wp_20 wd_4) rfl rfl rfl (by decide +kernel) ⟨Nat.le_of_ble_eq_true rfl, Nat.le_of_ble_eq_true rfl⟩) ⟨fn_blind, va_recv hK.1 hP (ci := 7) (q0 := 0) rfl rfl, hp⟩ rfl rfl hl.1 rfl (lv_room (Nat.le_of_ble_eq_true rfl)) dX7_targetAtFirst_15 ⟨Nat.le_of_ble_eq_true rfl, Nat.le_of_ble_eq_true rfl⟩) (fun r15 u15 H locs hwu15 hP hD hS => ?_)
  obtain ⟨u15a, u15b⟩ := u15
  obtain ⟨kr15, rfl, hkr15, hqu150, -⟩ := hwu15
  have hqu15 : (kr15 = t_10_c (Int.toNat ((t_13_c p1.toNat) + 1)) - t_10_c (Int.toNat (t_13_c p1.toNat))) := hqu150
  clear hqu150
  have hP : va_P D vwCl [((t_q 13), .inl (K 0, 24, .inl (fun j => iI (t_13_c j)))), ((t_q 14), .inl (K 0, 24, .inl (fun j => iI (t_14_c j)))), (t, .inr (7, oX7 t_q t_x0 t_x1 t_x2 t_x3 t_x4 t_x5 t_x6 t_x7 t_x8)), ((t_q 10), .inl (K 0, 6, .inl (fun j => iI (t_10_c j))))] H := hP
  have hD : va_D A [((t_q 13), .inl (K 0, 24, .inl (fun j => iI (t_13_c j)))), ((t_q 14), .inl (K 0, 24, .inl (fun j => iI (t_14_c j)))), (t, .inr (7, oX7 t_q t_x0 t_x1 t_x2 t_x3 t_x4 t_x5 t_x6 t_x7 t_x8)), ((t_q 10), .inl (K 0, 6, .inl (fun j => iI (t_10_c j))))] := hD
  refine g_icmp_ge (tgt := 37) hx hb (by omega) (by omega) dX7_targetAtFirst_18 (by decide) (fun c18 => ?_) (fun c18 => ?_)
  · refine lv_iconst (v := iI (-1)) hx hb dX7_targetAtFirst_37 rfl ?_
    rw [hQ]; exact fn_iret hx hb hr hlocks rfl hP hD hS ((fun _ => 0), (fun _ _ => 0)) ⟨(-1), rfl, by omega, trivial⟩ [2, 0, 1, 3] (by decide) rfl dX7_targetAtFirst_38
  · refine lv_aload_n hx hb dX7_targetAtFirst_21 rfl (lv_at hl 1 rfl) ?_
    refine va_get (D := D) (own := RX7) (ci := 7) (v := .ref (t_q 10)) (C := RX7) (T := TX7) (N := 15) hx hb hts inb_X7 hown hK.1 hP 2 rfl rfl 10 (by decide) (hts _ wd_111) (fun _ h9 => h9) rfl dX7_targetAtFirst_22 ?_
    refine lv_iload_n hx hb dX7_targetAtFirst_25 rfl (lv_at hl 0 rfl) ?_
    refine g_iald hx hb hK.1 hP 3 0 rfl rfl (by omega) (by omega) (by decide) dX7_targetAtFirst_26 ?_
    have y26 : 0 ≤ (t_10_c ((t_13_c p1.toNat).toNat)) ∧ (t_10_c ((t_13_c p1.toNat).toNat)) ≤ 12 := hc_t_10 ((t_13_c p1.toNat).toNat)
    refine lv_aload_n hx hb dX7_targetAtFirst_27 rfl (lv_at hl 1 rfl) ?_
    refine va_get (D := D) (own := RX7) (ci := 7) (v := .ref (t_q 14)) (C := RX7) (T := TX7) (N := 15) hx hb hts inb_X7 hown hK.1 hP 2 rfl rfl 14 (by decide) (hts _ wd_125) (fun _ h9 => h9) rfl dX7_targetAtFirst_28 ?_
    refine fn_at 31 rfl ?_
    refine lv_iload_n hx hb dX7_targetAtFirst_31 rfl (lv_at hl 2 rfl) ?_
    refine g_iald hx hb hK.1 hP 1 0 rfl rfl (by omega) (by omega) (by decide) dX7_targetAtFirst_32 ?_
    refine g_iadd hx hb dX7_targetAtFirst_33 ?_
    refine lv_goto (tgt := 38) hx hb dX7_targetAtFirst_34 (by decide) ?_
    rw [hQ]; exact fn_iret hx hb hr hlocks rfl hP hD hS ((fun _ => 0), (fun _ _ => 0)) ⟨t_10_c ((t_13_c p1.toNat).toNat) + (t_14_c p1.toNat), rfl, by omega, trivial⟩ [2, 0, 1, 3] (by decide) rfl dX7_targetAtFirst_38
theorem wd_339 : Cond.fieldLink "FootNotes$Tour" 25 "FootNotes$Tour" "size" "I" ∈ fn_big := fn_tb (fn_l2 (List.mem_of_getElem? (i := 99) (by decide +kernel))) (by decide +kernel)
theorem wd_340 : Cond.fieldLink "FootNotes$Tour" 18 "FootNotes$Tour" "stop" "[I" ∈ fn_big := fn_tb (fn_l2 (List.mem_of_getElem? (i := 100) (by decide +kernel))) (by decide +kernel)
theorem dX8_begin_0 : decode cX8_begin 0 = .ok (.aload_n 0, 1) := by decide +kernel
theorem dX8_begin_1 : decode cX8_begin 1 = .ok (.iconst 0, 1) := by decide +kernel
theorem dX8_begin_2 : decode cX8_begin 2 = .ok (.putfield 25, 3) := by decide +kernel
theorem dX8_begin_5 : decode cX8_begin 5 = .ok (.aload_n 0, 1) := by decide +kernel
theorem dX8_begin_6 : decode cX8_begin 6 = .ok (.getfield 18, 3) := by decide +kernel
theorem dX8_begin_9 : decode cX8_begin 9 = .ok (.bipush 8, 2) := by decide +kernel
theorem dX8_begin_11 : decode cX8_begin 11 = .ok (.iload_n 1, 1) := by decide +kernel
theorem dX8_begin_12 : decode cX8_begin 12 = .ok (.iastore, 1) := by decide +kernel
theorem dX8_begin_13 : decode cX8_begin 13 = .ok (.return_, 1) := by decide +kernel
set_option maxHeartbeats 4000000 in
set_option maxRecDepth 100000 in
theorem k_X8_begin (l : Launch) (D : va_G) (K : Nat → ClassId) (t : Nat) (t_q : Nat → Nat) (p1 t_x1 : Int) (t_2_c : Nat → Int) (hp1 : 0 ≤ p1 ∧ p1 ≤ 11) (hi_t : bX8 t_x1) (hc_t_2 : ∀ j : Nat, 0 ≤ t_2_c j ∧ t_2_c j ≤ 11) : fn_CV (S := (Nat → Int) × (Nat → Nat → Int)) l D K yX8_begin (fn_ws yX8_begin cX8_begin 2 none) ({ frames := 4, cells := 0, slots := 0, locals := 100 } : Room) [.ref t, .int (iI p1)] [(t, .inr (8, oX8 t_q t_x1)), ((t_q 2), .inl (K 0, 9, .inl (fun j => iI (t_2_c j))))] (fun u => (0 ≤ (u.1 0) ∧ (u.1 0) ≤ 8) ∧ (∀ j : Nat, 0 ≤ (u.2 0) j ∧ (u.2 0) j ≤ 11) ∧ True) (fun u => [(t, .inr (8, oX8 t_q (u.1 0))), ((t_q 2), .inl (K 0, 9, .inl (fun j => iI ((u.2 0) j))))]) 0 0 := by
  refine g_inV (cc := cX8_begin) (maxL := 2) (ret := none) (by decide) rfl (Nat.le_of_ble_eq_true rfl) ?_
  intro p e s m below meth c A ls ag Q B hA hP hD hS hl hQ
  obtain ⟨hx, hb, hr, hml, hts, hown, hlocks, hin, hK⟩ := B
  have hown : s.vm.findClass RX8 = some m.cls := hown
  have hts := fun w h => hts w (List.mem_cons_of_mem _ h)
  have hl : lv_has ls 2 [(0, .ref t), (1, .int (iI p1))] := hl
  refine lv_aload_n hx hb dX8_begin_0 rfl (lv_at hl 0 rfl) ?_
  refine lv_iconst (v := iI 0) hx hb dX8_begin_1 rfl ?_
  refine va_put (D := D) (own := RX8) (ci := 8) (v := .int (iI 0)) (ty := .int) (C := RX8) (T := TX8) (N := 4) hx hb hts inb_X8 tyX8 tyX8_ok nmX8 hown hK.1 hP hD hS 0 rfl rfl 1 (by decide) (hts _ wd_339) (fun _ h9 => h9) rfl (by decide +kernel) rfl rfl (Nat.le_of_ble_eq_true rfl) dX8_begin_2 (fun H locs hP hD hS => ?_)
  have hP : va_P D vwCl [(t, .inr (8, oX8 t_q 0)), ((t_q 2), .inl (K 0, 9, .inl (fun j => iI (t_2_c j))))] H := hP
  have hD : va_D A [(t, .inr (8, oX8 t_q 0)), ((t_q 2), .inl (K 0, 9, .inl (fun j => iI (t_2_c j))))] := hD
  refine lv_aload_n hx hb dX8_begin_5 rfl (lv_at hl 0 rfl) ?_
  refine va_get (D := D) (own := RX8) (ci := 8) (v := .ref (t_q 2)) (C := RX8) (T := TX8) (N := 4) hx hb hts inb_X8 hown hK.1 hP 0 rfl rfl 2 (by decide) (hts _ wd_340) (fun _ h9 => h9) rfl dX8_begin_6 ?_
  refine lv_bipush (v := iI 8) hx hb dX8_begin_9 (by decide) ?_
  refine lv_iload_n hx hb dX8_begin_11 rfl (lv_at hl 1 rfl) ?_
  refine g_iast hx hb hK.1 hP hD hS 1 0 rfl rfl (by omega) (by omega) (by decide) dX8_begin_12 (fun H locs g12 eg12 hP hD hS => ?_)
  have hg12 : ∀ j : Nat, 0 ≤ g12 j ∧ g12 j ≤ 11 := by rw [eg12]; exact uI_all hc_t_2 (by omega)
  have hP : va_P D vwCl [(t, .inr (8, oX8 t_q 0)), ((t_q 2), .inl (K 0, 9, .inl (fun j => iI (g12 j))))] H := hP
  have hD : va_D A [(t, .inr (8, oX8 t_q 0)), ((t_q 2), .inl (K 0, 9, .inl (fun j => iI (g12 j))))] := hD
  rw [hQ]; exact fn_vret hx hb hr hlocks hP hD hS ((fun k => ([0] : List Int).getD k 0), (fun k => ([g12] : List (Nat → Int)).getD k (fun _ => 0))) ⟨(by show 0 ≤ 0 ∧ 0 ≤ 8; omega), (hg12), trivial⟩ [0, 1] (by decide) rfl dX8_begin_13
theorem dX8_addStop_0 : decode cX8_addStop 0 = .ok (.aload_n 0, 1) := by decide +kernel
theorem dX8_addStop_1 : decode cX8_addStop 1 = .ok (.getfield 25, 3) := by decide +kernel
theorem dX8_addStop_4 : decode cX8_addStop 4 = .ok (.bipush 8, 2) := by decide +kernel
theorem dX8_addStop_6 : decode cX8_addStop 6 = .ok (.if_icmp .ge 23, 3) := by decide +kernel
theorem dX8_addStop_29 : decode cX8_addStop 29 = .ok (.return_, 1) := by decide +kernel
theorem dX8_addStop_9 : decode cX8_addStop 9 = .ok (.aload_n 0, 1) := by decide +kernel
theorem dX8_addStop_10 : decode cX8_addStop 10 = .ok (.getfield 18, 3) := by decide +kernel
theorem dX8_addStop_13 : decode cX8_addStop 13 = .ok (.aload_n 0, 1) := by decide +kernel
theorem dX8_addStop_14 : decode cX8_addStop 14 = .ok (.getfield 25, 3) := by decide +kernel
theorem dX8_addStop_17 : decode cX8_addStop 17 = .ok (.iload_n 1, 1) := by decide +kernel
theorem dX8_addStop_18 : decode cX8_addStop 18 = .ok (.iastore, 1) := by decide +kernel
theorem dX8_addStop_19 : decode cX8_addStop 19 = .ok (.aload_n 0, 1) := by decide +kernel
theorem dX8_addStop_20 : decode cX8_addStop 20 = .ok (.dup, 1) := by decide +kernel
theorem dX8_addStop_21 : decode cX8_addStop 21 = .ok (.getfield 25, 3) := by decide +kernel
theorem dX8_addStop_24 : decode cX8_addStop 24 = .ok (.iconst 1, 1) := by decide +kernel
theorem dX8_addStop_25 : decode cX8_addStop 25 = .ok (.iadd, 1) := by decide +kernel
theorem dX8_addStop_26 : decode cX8_addStop 26 = .ok (.putfield 25, 3) := by decide +kernel
set_option maxHeartbeats 4000000 in
set_option maxRecDepth 100000 in
theorem k_X8_addStop (l : Launch) (D : va_G) (K : Nat → ClassId) (t : Nat) (t_q : Nat → Nat) (p1 t_x1 : Int) (t_2_c : Nat → Int) (hp1 : 0 ≤ p1 ∧ p1 ≤ 11) (hi_t : bX8 t_x1) (hc_t_2 : ∀ j : Nat, 0 ≤ t_2_c j ∧ t_2_c j ≤ 11) : fn_CV (S := (Nat → Int) × (Nat → Nat → Int)) l D K yX8_addStop (fn_ws yX8_addStop cX8_addStop 2 none) ({ frames := 4, cells := 0, slots := 0, locals := 100 } : Room) [.ref t, .int (iI p1)] [(t, .inr (8, oX8 t_q t_x1)), ((t_q 2), .inl (K 0, 9, .inl (fun j => iI (t_2_c j))))] (fun u => (0 ≤ (u.1 0) ∧ (u.1 0) ≤ 8) ∧ (∀ j : Nat, 0 ≤ (u.2 0) j ∧ (u.2 0) j ≤ 11) ∧ True) (fun u => [(t, .inr (8, oX8 t_q (u.1 0))), ((t_q 2), .inl (K 0, 9, .inl (fun j => iI ((u.2 0) j))))]) 0 0 := by
  refine g_inV (cc := cX8_addStop) (maxL := 2) (ret := none) (by decide) rfl (Nat.le_of_ble_eq_true rfl) ?_
  intro p e s m below meth c A ls ag Q B hA hP hD hS hl hQ
  obtain ⟨hx, hb, hr, hml, hts, hown, hlocks, hin, hK⟩ := B
  have hown : s.vm.findClass RX8 = some m.cls := hown
  have hts := fun w h => hts w (List.mem_cons_of_mem _ h)
  have hl : lv_has ls 2 [(0, .ref t), (1, .int (iI p1))] := hl
  refine lv_aload_n hx hb dX8_addStop_0 rfl (lv_at hl 0 rfl) ?_
  refine va_get (D := D) (own := RX8) (ci := 8) (v := .int (iI t_x1)) (C := RX8) (T := TX8) (N := 4) hx hb hts inb_X8 hown hK.1 hP 0 rfl rfl 1 (by decide) (hts _ wd_339) (fun _ h9 => h9) rfl dX8_addStop_1 ?_
  have y1_1 : 0 ≤ t_x1 ∧ t_x1 ≤ 8 := hi_t
  refine lv_bipush (v := iI 8) hx hb dX8_addStop_4 (by decide) ?_
  refine g_icmp_ge (tgt := 29) hx hb (by omega) (by omega) dX8_addStop_6 (by decide) (fun c6 => ?_) (fun c6 => ?_)
  · rw [hQ]; exact fn_vret hx hb hr hlocks hP hD hS ((fun k => ([t_x1] : List Int).getD k 0), (fun k => ([t_2_c] : List (Nat → Int)).getD k (fun _ => 0))) ⟨(by show 0 ≤ t_x1 ∧ t_x1 ≤ 8; omega), (hc_t_2), trivial⟩ [0, 1] (by decide) rfl dX8_addStop_29
  · refine lv_aload_n hx hb dX8_addStop_9 rfl (lv_at hl 0 rfl) ?_
    refine va_get (D := D) (own := RX8) (ci := 8) (v := .ref (t_q 2)) (C := RX8) (T := TX8) (N := 4) hx hb hts inb_X8 hown hK.1 hP 0 rfl rfl 2 (by decide) (hts _ wd_340) (fun _ h9 => h9) rfl dX8_addStop_10 ?_
    refine lv_aload_n hx hb dX8_addStop_13 rfl (lv_at hl 0 rfl) ?_
    refine va_get (D := D) (own := RX8) (ci := 8) (v := .int (iI t_x1)) (C := RX8) (T := TX8) (N := 4) hx hb hts inb_X8 hown hK.1 hP 0 rfl rfl 1 (by decide) (hts _ wd_339) (fun _ h9 => h9) rfl dX8_addStop_14 ?_
    refine lv_iload_n hx hb dX8_addStop_17 rfl (lv_at hl 1 rfl) ?_
    refine g_iast hx hb hK.1 hP hD hS 1 0 rfl rfl (by omega) (by omega) (by decide) dX8_addStop_18 (fun H locs g18 eg18 hP hD hS => ?_)
    have hg18 : ∀ j : Nat, 0 ≤ g18 j ∧ g18 j ≤ 11 := by rw [eg18]; exact uI_all hc_t_2 (by omega)
    have hP : va_P D vwCl [(t, .inr (8, oX8 t_q t_x1)), ((t_q 2), .inl (K 0, 9, .inl (fun j => iI (g18 j))))] H := hP
    have hD : va_D A [(t, .inr (8, oX8 t_q t_x1)), ((t_q 2), .inl (K 0, 9, .inl (fun j => iI (g18 j))))] := hD
    refine lv_aload_n hx hb dX8_addStop_19 rfl (lv_at hl 0 rfl) ?_
    refine lv_dup hx hb dX8_addStop_20 rfl ?_
    refine va_get (D := D) (own := RX8) (ci := 8) (v := .int (iI t_x1)) (C := RX8) (T := TX8) (N := 4) hx hb hts inb_X8 hown hK.1 hP 0 rfl rfl 1 (by decide) (hts _ wd_339) (fun _ h9 => h9) rfl dX8_addStop_21 ?_
    refine lv_iconst (v := iI 1) hx hb dX8_addStop_24 rfl ?_
    refine g_iadd hx hb dX8_addStop_25 ?_
    refine va_put (D := D) (own := RX8) (ci := 8) (v := .int (iI (t_x1 + 1))) (ty := .int) (C := RX8) (T := TX8) (N := 4) hx hb hts inb_X8 tyX8 tyX8_ok nmX8 hown hK.1 hP hD hS 0 rfl rfl 1 (by decide) (hts _ wd_339) (fun _ h9 => h9) rfl (by decide +kernel) rfl rfl (Nat.le_of_ble_eq_true rfl) dX8_addStop_26 (fun H locs hP hD hS => ?_)
    have hP : va_P D vwCl [(t, .inr (8, oX8 t_q (t_x1 + 1))), ((t_q 2), .inl (K 0, 9, .inl (fun j => iI (g18 j))))] H := hP
    have hD : va_D A [(t, .inr (8, oX8 t_q (t_x1 + 1))), ((t_q 2), .inl (K 0, 9, .inl (fun j => iI (g18 j))))] := hD
    rw [hQ]; exact fn_vret hx hb hr hlocks hP hD hS ((fun k => ([t_x1 + 1] : List Int).getD k 0), (fun k => ([g18] : List (Nat → Int)).getD k (fun _ => 0))) ⟨(by show 0 ≤ (t_x1 + 1) ∧ (t_x1 + 1) ≤ 8; omega), (hg18), trivial⟩ [0, 1] (by decide) rfl dX8_addStop_29
theorem dX8_all_0 : decode cX8_all 0 = .ok (.iconst 1, 1) := by decide +kernel
theorem dX8_all_1 : decode cX8_all 1 = .ok (.aload_n 0, 1) := by decide +kernel
theorem dX8_all_2 : decode cX8_all 2 = .ok (.getfield 25, 3) := by decide +kernel
theorem dX8_all_5 : decode cX8_all 5 = .ok (.ishl, 1) := by decide +kernel
theorem dX8_all_6 : decode cX8_all 6 = .ok (.iconst 1, 1) := by decide +kernel
theorem dX8_all_7 : decode cX8_all 7 = .ok (.isub, 1) := by decide +kernel
theorem dX8_all_8 : decode cX8_all 8 = .ok (.ireturn, 1) := by decide +kernel
set_option maxHeartbeats 4000000 in
set_option maxRecDepth 100000 in
theorem k_X8_all (l : Launch) (D : va_G) (K : Nat → ClassId) (t : Nat) (t_q : Nat → Nat) (t_x1 : Int) (hi_t : bX8 t_x1) : fn_CI (S := (Nat → Int) × (Nat → Nat → Int)) l D K yX8_all (fn_ws yX8_all cX8_all 1 (some .int)) ({ frames := 4, cells := 0, slots := 0, locals := 100 } : Room) [.ref t] [(t, .inr (8, oX8 t_q t_x1))] (fun r u => ∃ k : Int, r = iI k ∧ (0 ≤ k ∧ k ≤ 255) ∧ True) (fun u => [(t, .inr (8, oX8 t_q t_x1))]) 0 0 := by
  refine g_inI (cc := cX8_all) (maxL := 1) (ret := (some .int)) (by decide) rfl (Nat.le_of_ble_eq_true rfl) ?_
  intro p e s m below meth c A ls ag Q B hA hP hD hS hl hQ
  obtain ⟨hx, hb, hr, hml, hts, hown, hlocks, hin, hK⟩ := B
  have hown : s.vm.findClass RX8 = some m.cls := hown
  have hts := fun w h => hts w (List.mem_cons_of_mem _ h)
  have hl : lv_has ls 1 [(0, .ref t)] := hl
  refine lv_iconst (v := iI 1) hx hb dX8_all_0 rfl ?_
  refine lv_aload_n hx hb dX8_all_1 rfl (lv_at hl 0 rfl) ?_
  refine va_get (D := D) (own := RX8) (ci := 8) (v := .int (iI t_x1)) (C := RX8) (T := TX8) (N := 4) hx hb hts inb_X8 hown hK.1 hP 0 rfl rfl 1 (by decide) (hts _ wd_339) (fun _ h9 => h9) rfl dX8_all_2 ?_
  have y2_1 : 0 ≤ t_x1 ∧ t_x1 ≤ 8 := hi_t
  refine lv_ishl hx hb dX8_all_5 ?_
  obtain ⟨w5, ew5, hw5⟩ := iI_shl1 8 t_x1 (by omega) (by omega) (by decide)
  refine fn_top (iI w5) ew5 ?_
  refine lv_iconst (v := iI 1) hx hb dX8_all_6 rfl ?_
  refine g_isub hx hb dX8_all_7 ?_
  rw [hQ]; exact fn_iret hx hb hr hlocks rfl hP hD hS ((fun _ => 0), (fun _ _ => 0)) ⟨w5 - 1, rfl, by omega, trivial⟩ [0] (by decide) rfl dX8_all_8
theorem wd_323 : Cond.fieldLink "FootNotes$Turns" 21 "FootNotes$Turns" "far" "[I" ∈ fn_big := fn_tb (fn_l2 (List.mem_of_getElem? (i := 83) (by decide +kernel))) (by decide +kernel)
theorem dX9_between_0 : decode cX9_between 0 = .ok (.aload_n 0, 1) := by decide +kernel
theorem dX9_between_1 : decode cX9_between 1 = .ok (.getfield 21, 3) := by decide +kernel
theorem dX9_between_4 : decode cX9_between 4 = .ok (.iload_n 1, 1) := by decide +kernel
theorem dX9_between_5 : decode cX9_between 5 = .ok (.bipush 12, 2) := by decide +kernel
theorem dX9_between_7 : decode cX9_between 7 = .ok (.imul, 1) := by decide +kernel
theorem dX9_between_8 : decode cX9_between 8 = .ok (.iload_n 2, 1) := by decide +kernel
theorem dX9_between_9 : decode cX9_between 9 = .ok (.iadd, 1) := by decide +kernel
theorem dX9_between_10 : decode cX9_between 10 = .ok (.iaload, 1) := by decide +kernel
theorem dX9_between_11 : decode cX9_between 11 = .ok (.ireturn, 1) := by decide +kernel
set_option maxHeartbeats 4000000 in
set_option maxRecDepth 100000 in
theorem k_X9_between (l : Launch) (D : va_G) (K : Nat → ClassId) (t : Nat) (t_q : Nat → Nat) (p1 p2 t_x0 t_x4 : Int) (t_5_c : Nat → Int) (hp1 : 0 ≤ p1 ∧ p1 ≤ 11) (hp2 : 0 ≤ p2 ∧ p2 ≤ 11) (hi_t : bX9 t_x0 t_x4) (hc_t_5 : ∀ j : Nat, (-2147483648) ≤ t_5_c j ∧ t_5_c j ≤ 2147483647) : fn_CI (S := (Nat → Int) × (Nat → Nat → Int)) l D K yX9_between (fn_ws yX9_between cX9_between 3 (some .int)) ({ frames := 4, cells := 0, slots := 0, locals := 100 } : Room) [.ref t, .int (iI p1), .int (iI p2)] [(t, .inr (9, oX9 t_q t_x0 t_x4)), ((t_q 5), .inl (K 0, 144, .inl (fun j => iI (t_5_c j))))] (fun r u => ∃ k : Int, r = iI k ∧ ((-2147483648) ≤ k ∧ k ≤ 2147483647) ∧ True) (fun u => [(t, .inr (9, oX9 t_q t_x0 t_x4)), ((t_q 5), .inl (K 0, 144, .inl (fun j => iI (t_5_c j))))]) 0 0 := by
  refine g_inI (cc := cX9_between) (maxL := 3) (ret := (some .int)) (by decide) rfl (Nat.le_of_ble_eq_true rfl) ?_
  intro p e s m below meth c A ls ag Q B hA hP hD hS hl hQ
  obtain ⟨hx, hb, hr, hml, hts, hown, hlocks, hin, hK⟩ := B
  have hown : s.vm.findClass RX9 = some m.cls := hown
  have hts := fun w h => hts w (List.mem_cons_of_mem _ h)
  have hl : lv_has ls 3 [(0, .ref t), (1, .int (iI p1)), (2, .int (iI p2))] := hl
  refine lv_aload_n hx hb dX9_between_0 rfl (lv_at hl 0 rfl) ?_
  refine va_get (D := D) (own := RX9) (ci := 9) (v := .ref (t_q 5)) (C := RX9) (T := TX9) (N := 6) hx hb hts inb_X9 hown hK.1 hP 0 rfl rfl 5 (by decide) (hts _ wd_323) (fun _ h9 => h9) rfl dX9_between_1 ?_
  refine lv_iload_n hx hb dX9_between_4 rfl (lv_at hl 1 rfl) ?_
  refine lv_bipush (v := iI 12) hx hb dX9_between_5 (by decide) ?_
  refine g_imul hx hb dX9_between_7 ?_
  refine lv_iload_n hx hb dX9_between_8 rfl (lv_at hl 2 rfl) ?_
  refine g_iadd hx hb dX9_between_9 ?_
  refine g_iald hx hb hK.1 hP 1 0 rfl rfl (by omega) (by omega) (by decide) dX9_between_10 ?_
  have y10 : (-2147483648) ≤ (t_5_c ((p1 * 12 + p2).toNat)) ∧ (t_5_c ((p1 * 12 + p2).toNat)) ≤ 2147483647 := hc_t_5 ((p1 * 12 + p2).toNat)
  rw [hQ]; exact fn_iret hx hb hr hlocks rfl hP hD hS ((fun _ => 0), (fun _ _ => 0)) ⟨t_5_c ((p1 * 12 + p2).toNat), rfl, by omega, trivial⟩ [0, 1] (by decide) rfl dX9_between_11
theorem wd_337 : Cond.fieldLink "FootNotes$Tour" 12 "FootNotes$Tour" "turns" "LFootNotes$Turns;" ∈ fn_big := fn_tb (fn_l2 (List.mem_of_getElem? (i := 97) (by decide +kernel))) (by decide +kernel)
theorem wd_341 : Cond.fieldLink "FootNotes$Tour" 22 "FootNotes$Tour" "left" "[I" ∈ fn_big := fn_tb (fn_l2 (List.mem_of_getElem? (i := 101) (by decide +kernel))) (by decide +kernel)
theorem wd_952 : Cond.code ⟨"FootNotes$Turns", "between", "(II)I"⟩ prog_11_method_4_code 3 (Option.some Jvm.ClassFile.FieldType.int) ∈ fn_big := fn_tb (fn_l4 (List.mem_of_getElem? (i := 232) (by decide +kernel))) (by decide +kernel)
theorem wd_9 : Cond.initialized "FootNotes$Turns" ∈ fn_big := fn_tb (fn_l1 (List.mem_of_getElem? (i := 9) (by decide +kernel))) (by decide +kernel)
theorem wd_951 : Cond.instanceMethod ⟨"FootNotes$Turns", "between", "(II)I"⟩ ∈ fn_big := fn_tb (fn_l4 (List.mem_of_getElem? (i := 231) (by decide +kernel))) (by decide +kernel)
theorem wp_57 : Cond.selects "FootNotes$Turns" ⟨"FootNotes$Turns", "between", "(II)I"⟩ ⟨"FootNotes$Turns", "between", "(II)I"⟩ ∈ fn_big := fn_sel (q := (⟨"FootNotes$Turns", "between", "(II)I"⟩, 6)) 57 (by decide +kernel) (by decide +kernel)
theorem dX8_costBy_0 : decode cX8_costBy 0 = .ok (.aload_n 0, 1) := by decide +kernel
theorem dX8_costBy_1 : decode cX8_costBy 1 = .ok (.getfield 12, 3) := by decide +kernel
theorem dX8_costBy_4 : decode cX8_costBy 4 = .ok (.aload_n 0, 1) := by decide +kernel
theorem dX8_costBy_5 : decode cX8_costBy 5 = .ok (.getfield 18, 3) := by decide +kernel
theorem dX8_costBy_8 : decode cX8_costBy 8 = .ok (.iload_n 2, 1) := by decide +kernel
theorem dX8_costBy_9 : decode cX8_costBy 9 = .ok (.iaload, 1) := by decide +kernel
theorem dX8_costBy_10 : decode cX8_costBy 10 = .ok (.aload_n 0, 1) := by decide +kernel
theorem dX8_costBy_11 : decode cX8_costBy 11 = .ok (.getfield 18, 3) := by decide +kernel
theorem dX8_costBy_14 : decode cX8_costBy 14 = .ok (.iload_n 3, 1) := by decide +kernel
theorem dX8_costBy_15 : decode cX8_costBy 15 = .ok (.iaload, 1) := by decide +kernel
theorem dX8_costBy_16 : decode cX8_costBy 16 = .ok (.invokevirtual 41, 3) := by decide +kernel
theorem dX8_costBy_19 : decode cX8_costBy 19 = .ok (.aload_n 0, 1) := by decide +kernel
theorem dX8_costBy_20 : decode cX8_costBy 20 = .ok (.getfield 22, 3) := by decide +kernel
theorem dX8_costBy_23 : decode cX8_costBy 23 = .ok (.iload_n 1, 1) := by decide +kernel
theorem dX8_costBy_24 : decode cX8_costBy 24 = .ok (.iconst 1, 1) := by decide +kernel
theorem dX8_costBy_25 : decode cX8_costBy 25 = .ok (.iload_n 3, 1) := by decide +kernel
theorem dX8_costBy_26 : decode cX8_costBy 26 = .ok (.ishl, 1) := by decide +kernel
theorem dX8_costBy_27 : decode cX8_costBy 27 = .ok (.iconst (-1), 1) := by decide +kernel
theorem dX8_costBy_28 : decode cX8_costBy 28 = .ok (.ixor, 1) := by decide +kernel
theorem dX8_costBy_29 : decode cX8_costBy 29 = .ok (.iand, 1) := by decide +kernel
theorem dX8_costBy_30 : decode cX8_costBy 30 = .ok (.bipush 9, 2) := by decide +kernel
theorem dX8_costBy_32 : decode cX8_costBy 32 = .ok (.imul, 1) := by decide +kernel
theorem dX8_costBy_33 : decode cX8_costBy 33 = .ok (.iload_n 3, 1) := by decide +kernel
theorem dX8_costBy_34 : decode cX8_costBy 34 = .ok (.iadd, 1) := by decide +kernel
theorem dX8_costBy_35 : decode cX8_costBy 35 = .ok (.iaload, 1) := by decide +kernel
theorem dX8_costBy_36 : decode cX8_costBy 36 = .ok (.iadd, 1) := by decide +kernel
theorem dX8_costBy_37 : decode cX8_costBy 37 = .ok (.ireturn, 1) := by decide +kernel
set_option maxHeartbeats 4000000 in
set_option maxRecDepth 100000 in
theorem k_X8_costBy (l : Launch) (D : va_G) (K : Nat → ClassId) (t : Nat) (t_q t_0_q : Nat → Nat) (p1 p2 p3 t_x1 t_0_x0 t_0_x4 : Int) (t_2_c : Nat → Int) (t_0_5_c : Nat → Int) (t_3_c : Nat → Int) (hp1 : 0 ≤ p1 ∧ p1 ≤ 255) (hp2 : 0 ≤ p2 ∧ p2 ≤ 8) (hp3 : 0 ≤ p3 ∧ p3 ≤ 7) (hi_t : bX8 t_x1) (hc_t_2 : ∀ j : Nat, 0 ≤ t_2_c j ∧ t_2_c j ≤ 11) (hi_t_0 : bX9 t_0_x0 t_0_x4) (hc_t_0_5 : ∀ j : Nat, (-2147483648) ≤ t_0_5_c j ∧ t_0_5_c j ≤ 2147483647) (hc_t_3 : ∀ j : Nat, (-2147483648) ≤ t_3_c j ∧ t_3_c j ≤ 2147483647) : fn_CI (S := (Nat → Int) × (Nat → Nat → Int)) l D K yX8_costBy (fn_ws yX8_costBy cX8_costBy 4 (some .int)) ({ frames := 8, cells := 0, slots := 0, locals := 200 } : Room) [.ref t, .int (iI p1), .int (iI p2), .int (iI p3)] [(t, .inr (8, oX8 t_q t_x1)), ((t_q 2), .inl (K 0, 9, .inl (fun j => iI (t_2_c j)))), ((t_q 0), .inr (9, oX9 t_0_q t_0_x0 t_0_x4)), ((t_0_q 5), .inl (K 0, 144, .inl (fun j => iI (t_0_5_c j)))), ((t_q 3), .inl (K 0, 2304, .inl (fun j => iI (t_3_c j))))] (fun r u => ∃ k : Int, r = iI k ∧ ((-2147483648) ≤ k ∧ k ≤ 2147483647) ∧ True) (fun u => [(t, .inr (8, oX8 t_q t_x1)), ((t_q 2), .inl (K 0, 9, .inl (fun j => iI (t_2_c j)))), ((t_q 0), .inr (9, oX9 t_0_q t_0_x0 t_0_x4)), ((t_0_q 5), .inl (K 0, 144, .inl (fun j => iI (t_0_5_c j)))), ((t_q 3), .inl (K 0, 2304, .inl (fun j => iI (t_3_c j))))]) 0 0 := by
  refine g_inI (cc := cX8_costBy) (maxL := 4) (ret := (some .int)) (by decide) rfl (Nat.le_of_ble_eq_true rfl) ?_
  intro p e s m below meth c A ls ag Q B hA hP hD hS hl hQ
  obtain ⟨hx, hb, hr, hml, hts, hown, hlocks, hin, hK⟩ := B
  have hown : s.vm.findClass RX8 = some m.cls := hown
  have hts := fun w h => hts w (List.mem_cons_of_mem _ h)
  have hl : lv_has ls 4 [(0, .ref t), (1, .int (iI p1)), (2, .int (iI p2)), (3, .int (iI p3))] := hl
  refine lv_aload_n hx hb dX8_costBy_0 rfl (lv_at hl 0 rfl) ?_
  refine va_get (D := D) (own := RX8) (ci := 8) (v := .ref (t_q 0)) (C := RX8) (T := TX8) (N := 4) hx hb hts inb_X8 hown hK.1 hP 0 rfl rfl 0 (by decide) (hts _ wd_337) (fun _ h9 => h9) rfl dX8_costBy_1 ?_
  refine lv_aload_n hx hb dX8_costBy_4 rfl (lv_at hl 0 rfl) ?_
  refine va_get (D := D) (own := RX8) (ci := 8) (v := .ref (t_q 2)) (C := RX8) (T := TX8) (N := 4) hx hb hts inb_X8 hown hK.1 hP 0 rfl rfl 2 (by decide) (hts _ wd_340) (fun _ h9 => h9) rfl dX8_costBy_5 ?_
  refine lv_iload_n hx hb dX8_costBy_8 rfl (lv_at hl 2 rfl) ?_
  refine g_iald hx hb hK.1 hP 1 0 rfl rfl (by omega) (by omega) (by decide) dX8_costBy_9 ?_
  have y9 : 0 ≤ (t_2_c p2.toNat) ∧ (t_2_c p2.toNat) ≤ 11 := hc_t_2 p2.toNat
  refine lv_aload_n hx hb dX8_costBy_10 rfl (lv_at hl 0 rfl) ?_
  refine va_get (D := D) (own := RX8) (ci := 8) (v := .ref (t_q 2)) (C := RX8) (T := TX8) (N := 4) hx hb hts inb_X8 hown hK.1 hP 0 rfl rfl 2 (by decide) (hts _ wd_340) (fun _ h9 => h9) rfl dX8_costBy_11 ?_
  refine lv_iload_n hx hb dX8_costBy_14 rfl (lv_at hl 3 rfl) ?_
  refine g_iald hx hb hK.1 hP 1 0 rfl rfl (by omega) (by omega) (by decide) dX8_costBy_15 ?_
  have y15 : 0 ≤ (t_2_c p3.toNat) ∧ (t_2_c p3.toNat) ≤ 11 := hc_t_2 p3.toNat
  refine fn_goi (wc := [((t_q 0), .inr (9, oX9 t_0_q t_0_x0 t_0_x4)), ((t_0_q 5), .inl (K 0, 144, .inl (fun j => iI (t_0_5_c j))))]) (wr := [(t, .inr (8, oX8 t_q t_x1)), ((t_q 2), .inl (K 0, 9, .inl (fun j => iI (t_2_c j)))), ((t_q 3), .inl (K 0, 2304, .inl (fun j => iI (t_3_c j))))]) hK hP hD hS hA [2, 3] [0, 1, 4] rfl rfl (by decide) (fun hp => va_runVN (C := RX9) (As := [.int (iI (t_2_c p2.toNat)), .int (iI (t_2_c p3.toNat))]) (rest := []) ⟨hx, hb, hml, hown, hts⟩ (k_X9_between (l := l) (D := D) (K := K) (t := (t_q 0)) (p1 := (t_2_c p2.toNat)) (p2 := (t_2_c p3.toNat)) (t_q := t_0_q) (t_x0 := t_0_x0) (t_x4 := t_0_x4) (t_5_c := t_0_5_c) (hp1 := (by omega)) (hp2 := (by omega)) (hi_t := hi_t_0) (hc_t_5 := hc_t_0_5) _) ⟨va_cnB (own := RX8) 2 hts (fn_gin wd_952) rfl rfl rfl (hK.nw 140 rfl) (hts _ wd_9) (by decide +kernel) ⟨Nat.le_of_ble_eq_true rfl, Nat.le_of_ble_eq_true rfl⟩, hts _ wd_951, hts _ wp_57⟩ ⟨fn_blind, va_recv hK.1 hP (ci := 9) (q0 := 2) rfl rfl, hp⟩ rfl rfl hl.1 rfl (lv_room (Nat.le_of_ble_eq_true rfl)) dX8_costBy_16 ⟨Nat.le_of_ble_eq_true rfl, Nat.le_of_ble_eq_true rfl⟩) (fun r16 u16 H locs hwu16 hP hD hS => ?_)
  obtain ⟨u16a, u16b⟩ := u16
  obtain ⟨kr16, rfl, hkr16, -⟩ := hwu16
  have hP : va_P D vwCl [(t, .inr (8, oX8 t_q t_x1)), ((t_q 2), .inl (K 0, 9, .inl (fun j => iI (t_2_c j)))), ((t_q 3), .inl (K 0, 2304, .inl (fun j => iI (t_3_c j)))), ((t_q 0), .inr (9, oX9 t_0_q t_0_x0 t_0_x4)), ((t_0_q 5), .inl (K 0, 144, .inl (fun j => iI (t_0_5_c j))))] H := hP
  have hD : va_D A [(t, .inr (8, oX8 t_q t_x1)), ((t_q 2), .inl (K 0, 9, .inl (fun j => iI (t_2_c j)))), ((t_q 3), .inl (K 0, 2304, .inl (fun j => iI (t_3_c j)))), ((t_q 0), .inr (9, oX9 t_0_q t_0_x0 t_0_x4)), ((t_0_q 5), .inl (K 0, 144, .inl (fun j => iI (t_0_5_c j))))] := hD
  refine lv_aload_n hx hb dX8_costBy_19 rfl (lv_at hl 0 rfl) ?_
  refine va_get (D := D) (own := RX8) (ci := 8) (v := .ref (t_q 3)) (C := RX8) (T := TX8) (N := 4) hx hb hts inb_X8 hown hK.1 hP 0 rfl rfl 3 (by decide) (hts _ wd_341) (fun _ h9 => h9) rfl dX8_costBy_20 ?_
  refine lv_iload_n hx hb dX8_costBy_23 rfl (lv_at hl 1 rfl) ?_
  refine lv_iconst (v := iI 1) hx hb dX8_costBy_24 rfl ?_
  refine lv_iload_n hx hb dX8_costBy_25 rfl (lv_at hl 3 rfl) ?_
  refine lv_ishl hx hb dX8_costBy_26 ?_
  obtain ⟨w26, ew26, hw26⟩ := iI_shl1 7 p3 (by omega) (by omega) (by decide)
  refine fn_top (iI w26) ew26 ?_
  refine lv_iconst (v := iI (-1)) hx hb dX8_costBy_27 rfl ?_
  refine lv_ixor hx hb dX8_costBy_28 ?_
  obtain ⟨w28, ew28, hw28⟩ := iI_not w26 (by omega)
  refine fn_top (iI w28) ew28 ?_
  refine fn_at 29 rfl ?_
  refine lv_iand hx hb dX8_costBy_29 ?_
  obtain ⟨w29, ew29, hw29⟩ := iI_and2 p1 w28 (by omega)
  refine fn_top (iI w29) ew29 ?_
  refine lv_bipush (v := iI 9) hx hb dX8_costBy_30 (by decide) ?_
  refine g_imul hx hb dX8_costBy_32 ?_
  refine lv_iload_n hx hb dX8_costBy_33 rfl (lv_at hl 3 rfl) ?_
  refine g_iadd hx hb dX8_costBy_34 ?_
  refine g_iald hx hb hK.1 hP 2 0 rfl rfl (by omega) (by omega) (by decide) dX8_costBy_35 ?_
  have y35 : (-2147483648) ≤ (t_3_c ((w29 * 9 + p3).toNat)) ∧ (t_3_c ((w29 * 9 + p3).toNat)) ≤ 2147483647 := hc_t_3 ((w29 * 9 + p3).toNat)
  refine g_iadd hx hb dX8_costBy_36 ?_
  refine g_any (fun w36 hw36 ew36 => ?_)
  rw [hQ]; exact fn_iret hx hb hr hlocks rfl hP hD hS ((fun _ => 0), (fun _ _ => 0)) ⟨w36, rfl, by omega, trivial⟩ [0, 1, 3, 4, 2] (by decide) rfl dX8_costBy_37
theorem wd_991 : Cond.code ⟨"FootNotes$Tour", "costBy", "(III)I"⟩ prog_10_method_7_code 4 (Option.some Jvm.ClassFile.FieldType.int) ∈ fn_big := fn_tb (fn_l5 (List.mem_of_getElem? (i := 31) (by decide +kernel))) (by decide +kernel)
theorem wd_8 : Cond.initialized "FootNotes$Tour" ∈ fn_big := fn_tb (fn_l1 (List.mem_of_getElem? (i := 8) (by decide +kernel))) (by decide +kernel)
theorem wd_988 : Cond.methodLink "FootNotes$Tour" 37 ⟨"FootNotes$Tour", "costBy", "(III)I"⟩ ∈ fn_big := fn_tb (fn_l5 (List.mem_of_getElem? (i := 28) (by decide +kernel))) (by decide +kernel)
theorem wd_990 : Cond.instanceMethod ⟨"FootNotes$Tour", "costBy", "(III)I"⟩ ∈ fn_big := fn_tb (fn_l5 (List.mem_of_getElem? (i := 30) (by decide +kernel))) (by decide +kernel)
theorem wp_65 : Cond.selects "FootNotes$Tour" ⟨"FootNotes$Tour", "costBy", "(III)I"⟩ ⟨"FootNotes$Tour", "costBy", "(III)I"⟩ ∈ fn_big := fn_sel (q := (⟨"FootNotes$Tour", "costBy", "(III)I"⟩, 4)) 65 (by decide +kernel) (by decide +kernel)
theorem dX8_fewestFrom_55 : decode cX8_fewestFrom 55 = .ok (.iinc 4 1, 3) := by decide +kernel
theorem dX8_fewestFrom_58 : decode cX8_fewestFrom 58 = .ok (.goto (-45), 3) := by decide +kernel
theorem dX8_fewestFrom_52 : decode cX8_fewestFrom 52 = .ok (.iload 5, 2) := by decide +kernel
theorem dX8_fewestFrom_54 : decode cX8_fewestFrom 54 = .ok (.istore_n 3, 1) := by decide +kernel
theorem dX8_fewestFrom_13 : decode cX8_fewestFrom 13 = .ok (.iload 4, 2) := by decide +kernel
theorem dX8_fewestFrom_15 : decode cX8_fewestFrom 15 = .ok (.aload_n 0, 1) := by decide +kernel
theorem dX8_fewestFrom_16 : decode cX8_fewestFrom 16 = .ok (.getfield 25, 3) := by decide +kernel
theorem dX8_fewestFrom_19 : decode cX8_fewestFrom 19 = .ok (.if_icmp .ge 42, 3) := by decide +kernel
theorem dX8_fewestFrom_61 : decode cX8_fewestFrom 61 = .ok (.iload_n 3, 1) := by decide +kernel
theorem dX8_fewestFrom_62 : decode cX8_fewestFrom 62 = .ok (.ireturn, 1) := by decide +kernel
theorem dX8_fewestFrom_22 : decode cX8_fewestFrom 22 = .ok (.iload_n 1, 1) := by decide +kernel
theorem dX8_fewestFrom_23 : decode cX8_fewestFrom 23 = .ok (.iload 4, 2) := by decide +kernel
theorem dX8_fewestFrom_25 : decode cX8_fewestFrom 25 = .ok (.ishr, 1) := by decide +kernel
theorem dX8_fewestFrom_26 : decode cX8_fewestFrom 26 = .ok (.iconst 1, 1) := by decide +kernel
theorem dX8_fewestFrom_27 : decode cX8_fewestFrom 27 = .ok (.iand, 1) := by decide +kernel
theorem dX8_fewestFrom_28 : decode cX8_fewestFrom 28 = .ok (.iconst 1, 1) := by decide +kernel
theorem dX8_fewestFrom_29 : decode cX8_fewestFrom 29 = .ok (.if_icmp .ne 26, 3) := by decide +kernel
theorem dX8_fewestFrom_32 : decode cX8_fewestFrom 32 = .ok (.aload_n 0, 1) := by decide +kernel
theorem dX8_fewestFrom_33 : decode cX8_fewestFrom 33 = .ok (.iload_n 1, 1) := by decide +kernel
theorem dX8_fewestFrom_34 : decode cX8_fewestFrom 34 = .ok (.iload_n 2, 1) := by decide +kernel
theorem dX8_fewestFrom_35 : decode cX8_fewestFrom 35 = .ok (.iload 4, 2) := by decide +kernel
theorem dX8_fewestFrom_37 : decode cX8_fewestFrom 37 = .ok (.invokevirtual 37, 3) := by decide +kernel
theorem dX8_fewestFrom_40 : decode cX8_fewestFrom 40 = .ok (.istore 5, 2) := by decide +kernel
theorem dX8_fewestFrom_42 : decode cX8_fewestFrom 42 = .ok (.iload_n 3, 1) := by decide +kernel
theorem dX8_fewestFrom_43 : decode cX8_fewestFrom 43 = .ok (.ifCond .lt 9, 3) := by decide +kernel
theorem dX8_fewestFrom_46 : decode cX8_fewestFrom 46 = .ok (.iload 5, 2) := by decide +kernel
theorem dX8_fewestFrom_48 : decode cX8_fewestFrom 48 = .ok (.iload_n 3, 1) := by decide +kernel
theorem dX8_fewestFrom_49 : decode cX8_fewestFrom 49 = .ok (.if_icmp .ge 6, 3) := by decide +kernel
theorem dX8_fewestFrom_9 : decode cX8_fewestFrom 9 = .ok (.istore_n 3, 1) := by decide +kernel
theorem dX8_fewestFrom_10 : decode cX8_fewestFrom 10 = .ok (.iconst 0, 1) := by decide +kernel
theorem dX8_fewestFrom_11 : decode cX8_fewestFrom 11 = .ok (.istore 4, 2) := by decide +kernel
theorem dX8_fewestFrom_0 : decode cX8_fewestFrom 0 = .ok (.iload_n 1, 1) := by decide +kernel
theorem dX8_fewestFrom_1 : decode cX8_fewestFrom 1 = .ok (.ifCond .ne 7, 3) := by decide +kernel
theorem dX8_fewestFrom_8 : decode cX8_fewestFrom 8 = .ok (.iconst (-1), 1) := by decide +kernel
theorem dX8_fewestFrom_4 : decode cX8_fewestFrom 4 = .ok (.iconst 0, 1) := by decide +kernel
theorem dX8_fewestFrom_5 : decode cX8_fewestFrom 5 = .ok (.goto 4, 3) := by decide +kernel
set_option maxHeartbeats 4000000 in
set_option maxRecDepth 100000 in
theorem k_X8_fewestFrom (l : Launch) (D : va_G) (K : Nat → ClassId) (t : Nat) (t_q t_0_q : Nat → Nat) (p1 p2 t_x1 t_0_x0 t_0_x4 : Int) (t_2_c : Nat → Int) (t_0_5_c : Nat → Int) (t_3_c : Nat → Int) (hp1 : 0 ≤ p1 ∧ p1 ≤ 255) (hp2 : 0 ≤ p2 ∧ p2 ≤ 8) (hi_t : bX8 t_x1) (hc_t_2 : ∀ j : Nat, 0 ≤ t_2_c j ∧ t_2_c j ≤ 11) (hi_t_0 : bX9 t_0_x0 t_0_x4) (hc_t_0_5 : ∀ j : Nat, (-2147483648) ≤ t_0_5_c j ∧ t_0_5_c j ≤ 2147483647) (hc_t_3 : ∀ j : Nat, (-2147483648) ≤ t_3_c j ∧ t_3_c j ≤ 2147483647) : fn_CI (S := (Nat → Int) × (Nat → Nat → Int)) l D K yX8_fewestFrom (fn_ws yX8_fewestFrom cX8_fewestFrom 6 (some .int)) ({ frames := 12, cells := 0, slots := 0, locals := 300 } : Room) [.ref t, .int (iI p1), .int (iI p2)] [(t, .inr (8, oX8 t_q t_x1)), ((t_q 2), .inl (K 0, 9, .inl (fun j => iI (t_2_c j)))), ((t_q 0), .inr (9, oX9 t_0_q t_0_x0 t_0_x4)), ((t_0_q 5), .inl (K 0, 144, .inl (fun j => iI (t_0_5_c j)))), ((t_q 3), .inl (K 0, 2304, .inl (fun j => iI (t_3_c j))))] (fun r u => ∃ k : Int, r = iI k ∧ ((-2147483648) ≤ k ∧ k ≤ 2147483647) ∧ True) (fun u => [(t, .inr (8, oX8 t_q t_x1)), ((t_q 2), .inl (K 0, 9, .inl (fun j => iI (t_2_c j)))), ((t_q 0), .inr (9, oX9 t_0_q t_0_x0 t_0_x4)), ((t_0_q 5), .inl (K 0, 144, .inl (fun j => iI (t_0_5_c j)))), ((t_q 3), .inl (K 0, 2304, .inl (fun j => iI (t_3_c j))))]) 0 0 := by
  refine g_inI (cc := cX8_fewestFrom) (maxL := 6) (ret := (some .int)) (by decide) rfl (Nat.le_of_ble_eq_true rfl) ?_
  intro p e s m below meth c A ls ag Q B hA hP hD hS hl hQ
  obtain ⟨hx, hb, hr, hml, hts, hown, hlocks, hin, hK⟩ := B
  have hown : s.vm.findClass RX8 = some m.cls := hown
  have hts := fun w h => hts w (List.mem_cons_of_mem _ h)
  have J13 : ∀ (n : Nat) (x13_3 : Int) (x13_4 : Int) (H : Heap) (locs : List Loc) (ls : Array Slot), (9 - x13_4).toNat < n → ((-2147483648) ≤ x13_3 ∧ x13_3 ≤ 2147483647 ∧ 0 ≤ x13_4 ∧ x13_4 ≤ 9) → va_P D vwCl [(t, .inr (8, oX8 t_q t_x1)), ((t_q 2), .inl (K 0, 9, .inl (fun j => iI (t_2_c j)))), ((t_q 0), .inr (9, oX9 t_0_q t_0_x0 t_0_x4)), ((t_0_q 5), .inl (K 0, 144, .inl (fun j => iI (t_0_5_c j)))), ((t_q 3), .inl (K 0, 2304, .inl (fun j => iI (t_3_c j))))] H → va_D A [(t, .inr (8, oX8 t_q t_x1)), ((t_q 2), .inl (K 0, 9, .inl (fun j => iI (t_2_c j)))), ((t_q 0), .inr (9, oX9 t_0_q t_0_x0 t_0_x4)), ((t_0_q 5), .inl (K 0, 144, .inl (fun j => iI (t_0_5_c j)))), ((t_q 3), .inl (K 0, 2304, .inl (fun j => iI (t_3_c j))))] → va_S A s.heap H locs → lv_has ls 6 [(0, .ref t), (1, .int (iI p1)), (2, .int (iI p2)), (3, .int (iI x13_3)), (4, .int (iI x13_4))] → W p l e ({ frames := 12, cells := 0, slots := 0, locals := 300 } : Room) s m ag below meth c H locs 0 0 Q (F0 m 13 ls []) := by
    intro n
    induction n with
    | zero =>
      intro x13_3 x13_4 H locs ls hm13 hf13 hP hD hS hl
      exact absurd hm13 (Nat.not_lt_zero _)
    | succ n ih13 =>
      intro x13_3 x13_4 H locs ls hm13 hf13 hP hD hS hl
      have J55 : ∀ (x55_3 : Int) (H : Heap) (locs : List Loc) (ls : Array Slot), ((-2147483648) ≤ x55_3 ∧ x55_3 ≤ 2147483647 ∧ 0 ≤ x13_4 ∧ x13_4 ≤ 7 ∧ 1 ≤ t_x1 ∧ t_x1 ≤ 8) → va_P D vwCl [(t, .inr (8, oX8 t_q t_x1)), ((t_q 2), .inl (K 0, 9, .inl (fun j => iI (t_2_c j)))), ((t_q 0), .inr (9, oX9 t_0_q t_0_x0 t_0_x4)), ((t_0_q 5), .inl (K 0, 144, .inl (fun j => iI (t_0_5_c j)))), ((t_q 3), .inl (K 0, 2304, .inl (fun j => iI (t_3_c j))))] H → va_D A [(t, .inr (8, oX8 t_q t_x1)), ((t_q 2), .inl (K 0, 9, .inl (fun j => iI (t_2_c j)))), ((t_q 0), .inr (9, oX9 t_0_q t_0_x0 t_0_x4)), ((t_0_q 5), .inl (K 0, 144, .inl (fun j => iI (t_0_5_c j)))), ((t_q 3), .inl (K 0, 2304, .inl (fun j => iI (t_3_c j))))] → va_S A s.heap H locs → lv_has ls 6 [(0, .ref t), (1, .int (iI p1)), (2, .int (iI p2)), (3, .int (iI x55_3)), (4, .int (iI x13_4))] → W p l e ({ frames := 12, cells := 0, slots := 0, locals := 300 } : Room) s m ag below meth c H locs 0 0 Q (F0 m 55 ls []) := by
        intro x55_3 H locs ls hf55 hP hD hS hl
        refine lv_iinc (v := iI (x13_4 + 1)) (lv' := [(4, .int (iI (x13_4 + 1))), (0, .ref t), (1, .int (iI p1)), (2, .int (iI p2)), (3, .int (iI x55_3))]) hx hb dX8_fewestFrom_55 hl (k := 4) rfl (iI_add _ _) (by decide) rfl (fun ls hl => ?_)
        refine lv_goto (tgt := 13) hx hb dX8_fewestFrom_58 (by decide) ?_
        exact ih13 x55_3 (x13_4 + 1) _ _ ls (by omega) (by omega) (hP.sub [0, 1, 2, 3, 4] rfl) (hD.sub [0, 1, 2, 3, 4] (by decide) rfl) hS (lv_sub hl [1, 2, 3, 4, 0] rfl)
      have J52 : ∀ (x52_5 : Int) (H : Heap) (locs : List Loc) (ls : Array Slot), (0 ≤ x13_4 ∧ x13_4 ≤ 7 ∧ (-2147483648) ≤ x52_5 ∧ x52_5 ≤ 2147483647 ∧ 1 ≤ t_x1 ∧ t_x1 ≤ 8) → va_P D vwCl [(t, .inr (8, oX8 t_q t_x1)), ((t_q 2), .inl (K 0, 9, .inl (fun j => iI (t_2_c j)))), ((t_q 0), .inr (9, oX9 t_0_q t_0_x0 t_0_x4)), ((t_0_q 5), .inl (K 0, 144, .inl (fun j => iI (t_0_5_c j)))), ((t_q 3), .inl (K 0, 2304, .inl (fun j => iI (t_3_c j))))] H → va_D A [(t, .inr (8, oX8 t_q t_x1)), ((t_q 2), .inl (K 0, 9, .inl (fun j => iI (t_2_c j)))), ((t_q 0), .inr (9, oX9 t_0_q t_0_x0 t_0_x4)), ((t_0_q 5), .inl (K 0, 144, .inl (fun j => iI (t_0_5_c j)))), ((t_q 3), .inl (K 0, 2304, .inl (fun j => iI (t_3_c j))))] → va_S A s.heap H locs → lv_has ls 6 [(0, .ref t), (1, .int (iI p1)), (2, .int (iI p2)), (3, .int (iI x13_3)), (4, .int (iI x13_4)), (5, .int (iI x52_5))] → W p l e ({ frames := 12, cells := 0, slots := 0, locals := 300 } : Room) s m ag below meth c H locs 0 0 Q (F0 m 52 ls []) := by
        intro x52_5 H locs ls hf52 hP hD hS hl
        refine lv_iload hx hb dX8_fewestFrom_52 (lv_at hl 5 rfl) ?_
        refine lv_istore_n (lv' := [(3, .int (iI x52_5)), (0, .ref t), (1, .int (iI p1)), (2, .int (iI p2)), (4, .int (iI x13_4)), (5, .int (iI x52_5))]) hx hb dX8_fewestFrom_54 rfl hl (by decide) rfl (fun ls hl => ?_)
        exact J55 x52_5 _ _ ls (by omega) (hP.sub [0, 1, 2, 3, 4] rfl) (hD.sub [0, 1, 2, 3, 4] (by decide) rfl) hS (lv_sub hl [1, 2, 3, 0, 4] rfl)
      refine lv_iload hx hb dX8_fewestFrom_13 (lv_at hl 4 rfl) ?_
      refine lv_aload_n hx hb dX8_fewestFrom_15 rfl (lv_at hl 0 rfl) ?_
      refine va_get (D := D) (own := RX8) (ci := 8) (v := .int (iI t_x1)) (C := RX8) (T := TX8) (N := 4) hx hb hts inb_X8 hown hK.1 hP 0 rfl rfl 1 (by decide) (hts _ wd_339) (fun _ h9 => h9) rfl dX8_fewestFrom_16 ?_
      have y16_1 : 0 ≤ t_x1 ∧ t_x1 ≤ 8 := hi_t
      refine g_icmp_ge (tgt := 61) hx hb (by omega) (by omega) dX8_fewestFrom_19 (by decide) (fun c19 => ?_) (fun c19 => ?_)
      · refine lv_iload_n hx hb dX8_fewestFrom_61 rfl (lv_at hl 3 rfl) ?_
        rw [hQ]; exact fn_iret hx hb hr hlocks rfl hP hD hS ((fun _ => 0), (fun _ _ => 0)) ⟨x13_3, rfl, by omega, trivial⟩ [0, 1, 2, 3, 4] (by decide) rfl dX8_fewestFrom_62
      · refine lv_iload_n hx hb dX8_fewestFrom_22 rfl (lv_at hl 1 rfl) ?_
        refine lv_iload hx hb dX8_fewestFrom_23 (lv_at hl 4 rfl) ?_
        refine lv_ishr hx hb dX8_fewestFrom_25 ?_
        obtain ⟨w25, ew25, hw25⟩ := iI_shr p1 x13_4 (by omega) (by omega)
        refine fn_top (iI w25) ew25 ?_
        refine lv_iconst (v := iI 1) hx hb dX8_fewestFrom_26 rfl ?_
        refine lv_iand hx hb dX8_fewestFrom_27 ?_
        obtain ⟨w27, ew27, hw27⟩ := iI_and1 w25 (by omega)
        refine fn_top (iI w27) ew27 ?_
        refine lv_iconst (v := iI 1) hx hb dX8_fewestFrom_28 rfl ?_
        refine g_icmp_ne (tgt := 55) hx hb (by omega) (by omega) dX8_fewestFrom_29 (by decide) (fun c29 => ?_) (fun c29 => ?_)
        · exact J55 x13_3 _ _ ls (by omega) (hP.sub [0, 1, 2, 3, 4] rfl) (hD.sub [0, 1, 2, 3, 4] (by decide) rfl) hS (lv_sub hl [0, 1, 2, 3, 4] rfl)
        · refine lv_aload_n hx hb dX8_fewestFrom_32 rfl (lv_at hl 0 rfl) ?_
          refine lv_iload_n hx hb dX8_fewestFrom_33 rfl (lv_at hl 1 rfl) ?_
          refine lv_iload_n hx hb dX8_fewestFrom_34 rfl (lv_at hl 2 rfl) ?_
          refine lv_iload hx hb dX8_fewestFrom_35 (lv_at hl 4 rfl) ?_
          refine fn_goi (wc := [(t, .inr (8, oX8 t_q t_x1)), ((t_q 2), .inl (K 0, 9, .inl (fun j => iI (t_2_c j)))), ((t_q 0), .inr (9, oX9 t_0_q t_0_x0 t_0_x4)), ((t_0_q 5), .inl (K 0, 144, .inl (fun j => iI (t_0_5_c j)))), ((t_q 3), .inl (K 0, 2304, .inl (fun j => iI (t_3_c j))))]) (wr := []) hK hP hD hS hA [0, 1, 2, 3, 4] [] rfl rfl (by decide) (fun hp => va_runV (C := RX8) (As := [.int (iI p1), .int (iI p2), .int (iI x13_4)]) (rest := []) ⟨hx, hb, hml, hown, hts⟩ (k_X8_costBy (l := l) (D := D) (K := K) (t := t) (p1 := p1) (p2 := p2) (p3 := x13_4) (t_q := t_q) (t_x1 := t_x1) (t_2_c := t_2_c) (t_0_q := t_0_q) (t_0_x0 := t_0_x0) (t_0_x4 := t_0_x4) (t_0_5_c := t_0_5_c) (t_3_c := t_3_c) (hp1 := (by omega)) (hp2 := (by omega)) (hp3 := (by omega)) (hi_t := hi_t) (hc_t_2 := hc_t_2) (hi_t_0 := hi_t_0) (hc_t_0_5 := hc_t_0_5) (hc_t_3 := hc_t_3) _) (cwV 3 hts (fn_ginV (fn_gin wd_991) wd_988 wd_990 wp_65 wd_8) rfl rfl rfl (by decide +kernel) ⟨Nat.le_of_ble_eq_true rfl, Nat.le_of_ble_eq_true rfl⟩) ⟨fn_blind, va_recv hK.1 hP (ci := 8) (q0 := 0) rfl rfl, hp⟩ rfl rfl hl.1 rfl (lv_room (Nat.le_of_ble_eq_true rfl)) dX8_fewestFrom_37 ⟨Nat.le_of_ble_eq_true rfl, Nat.le_of_ble_eq_true rfl⟩) (fun r37 u37 H locs hwu37 hP hD hS => ?_)
          obtain ⟨u37a, u37b⟩ := u37
          obtain ⟨kr37, rfl, hkr37, -⟩ := hwu37
          have hP : va_P D vwCl [(t, .inr (8, oX8 t_q t_x1)), ((t_q 2), .inl (K 0, 9, .inl (fun j => iI (t_2_c j)))), ((t_q 0), .inr (9, oX9 t_0_q t_0_x0 t_0_x4)), ((t_0_q 5), .inl (K 0, 144, .inl (fun j => iI (t_0_5_c j)))), ((t_q 3), .inl (K 0, 2304, .inl (fun j => iI (t_3_c j))))] H := hP
          have hD : va_D A [(t, .inr (8, oX8 t_q t_x1)), ((t_q 2), .inl (K 0, 9, .inl (fun j => iI (t_2_c j)))), ((t_q 0), .inr (9, oX9 t_0_q t_0_x0 t_0_x4)), ((t_0_q 5), .inl (K 0, 144, .inl (fun j => iI (t_0_5_c j)))), ((t_q 3), .inl (K 0, 2304, .inl (fun j => iI (t_3_c j))))] := hD
          refine lv_istore (lv' := [(5, .int (iI kr37)), (0, .ref t), (1, .int (iI p1)), (2, .int (iI p2)), (3, .int (iI x13_3)), (4, .int (iI x13_4))]) hx hb dX8_fewestFrom_40 hl (by decide) rfl (fun ls hl => ?_)
          refine lv_iload_n hx hb dX8_fewestFrom_42 rfl (lv_at hl 4 rfl) ?_
          refine g_if_lt (tgt := 52) hx hb (by omega) dX8_fewestFrom_43 (by decide) (fun c43 => ?_) (fun c43 => ?_)
          · exact J52 kr37 _ _ ls (by omega) (hP.sub [0, 1, 2, 3, 4] rfl) (hD.sub [0, 1, 2, 3, 4] (by decide) rfl) hS (lv_sub hl [1, 2, 3, 4, 5, 0] rfl)
          · refine fn_at 46 rfl ?_
            refine lv_iload hx hb dX8_fewestFrom_46 (lv_at hl 0 rfl) ?_
            refine lv_iload_n hx hb dX8_fewestFrom_48 rfl (lv_at hl 4 rfl) ?_
            refine g_icmp_ge (tgt := 55) hx hb (by omega) (by omega) dX8_fewestFrom_49 (by decide) (fun c49 => ?_) (fun c49 => ?_)
            · exact J55 x13_3 _ _ ls (by omega) (hP.sub [0, 1, 2, 3, 4] rfl) (hD.sub [0, 1, 2, 3, 4] (by decide) rfl) hS (lv_sub hl [1, 2, 3, 4, 5] rfl)
            · exact J52 kr37 _ _ ls (by omega) (hP.sub [0, 1, 2, 3, 4] rfl) (hD.sub [0, 1, 2, 3, 4] (by decide) rfl) hS (lv_sub hl [1, 2, 3, 4, 5, 0] rfl)
  have J9 : ∀ (z9_0 : Int) (H : Heap) (locs : List Loc) (ls : Array Slot), ((-1) ≤ z9_0 ∧ z9_0 ≤ 0) → va_P D vwCl [(t, .inr (8, oX8 t_q t_x1)), ((t_q 2), .inl (K 0, 9, .inl (fun j => iI (t_2_c j)))), ((t_q 0), .inr (9, oX9 t_0_q t_0_x0 t_0_x4)), ((t_0_q 5), .inl (K 0, 144, .inl (fun j => iI (t_0_5_c j)))), ((t_q 3), .inl (K 0, 2304, .inl (fun j => iI (t_3_c j))))] H → va_D A [(t, .inr (8, oX8 t_q t_x1)), ((t_q 2), .inl (K 0, 9, .inl (fun j => iI (t_2_c j)))), ((t_q 0), .inr (9, oX9 t_0_q t_0_x0 t_0_x4)), ((t_0_q 5), .inl (K 0, 144, .inl (fun j => iI (t_0_5_c j)))), ((t_q 3), .inl (K 0, 2304, .inl (fun j => iI (t_3_c j))))] → va_S A s.heap H locs → lv_has ls 6 [(0, .ref t), (1, .int (iI p1)), (2, .int (iI p2))] → W p l e ({ frames := 12, cells := 0, slots := 0, locals := 300 } : Room) s m ag below meth c H locs 0 0 Q (F0 m 9 ls [.int (iI z9_0)]) := by
    intro z9_0 H locs ls hf9 hP hD hS hl
    refine lv_istore_n (lv' := [(3, .int (iI z9_0)), (0, .ref t), (1, .int (iI p1)), (2, .int (iI p2))]) hx hb dX8_fewestFrom_9 rfl hl (by decide) rfl (fun ls hl => ?_)
    refine lv_iconst (v := iI 0) hx hb dX8_fewestFrom_10 rfl ?_
    refine lv_istore (lv' := [(4, .int (iI 0)), (3, .int (iI z9_0)), (0, .ref t), (1, .int (iI p1)), (2, .int (iI p2))]) hx hb dX8_fewestFrom_11 hl (by decide) rfl (fun ls hl => ?_)
    exact J13 _ z9_0 0 _ _ ls (Nat.lt_succ_self _) (by omega) (hP.sub [0, 1, 2, 3, 4] rfl) (hD.sub [0, 1, 2, 3, 4] (by decide) rfl) hS (lv_sub hl [2, 3, 4, 1, 0] rfl)
  have hl : lv_has ls 6 [(0, .ref t), (1, .int (iI p1)), (2, .int (iI p2))] := hl
  refine lv_iload_n hx hb dX8_fewestFrom_0 rfl (lv_at hl 1 rfl) ?_
  refine g_if_ne (tgt := 8) hx hb (by omega) dX8_fewestFrom_1 (by decide) (fun c1 => ?_) (fun c1 => ?_)
  · refine lv_iconst (v := iI (-1)) hx hb dX8_fewestFrom_8 rfl ?_
    exact J9 (-1) _ _ ls (by omega) (hP.sub [0, 1, 2, 3, 4] rfl) (hD.sub [0, 1, 2, 3, 4] (by decide) rfl) hS (lv_sub hl [0, 1, 2] rfl)
  · refine lv_iconst (v := iI 0) hx hb dX8_fewestFrom_4 rfl ?_
    refine lv_goto (tgt := 9) hx hb dX8_fewestFrom_5 (by decide) ?_
    exact J9 0 _ _ ls (by omega) (hP.sub [0, 1, 2, 3, 4] rfl) (hD.sub [0, 1, 2, 3, 4] (by decide) rfl) hS (lv_sub hl [0, 1, 2] rfl)
theorem wd_987 : Cond.code ⟨"FootNotes$Tour", "fewestFrom", "(II)I"⟩ prog_10_method_6_code 6 (Option.some Jvm.ClassFile.FieldType.int) ∈ fn_big := fn_tb (fn_l5 (List.mem_of_getElem? (i := 27) (by decide +kernel))) (by decide +kernel)
theorem wd_984 : Cond.methodLink "FootNotes$Tour" 33 ⟨"FootNotes$Tour", "fewestFrom", "(II)I"⟩ ∈ fn_big := fn_tb (fn_l5 (List.mem_of_getElem? (i := 24) (by decide +kernel))) (by decide +kernel)
theorem wd_986 : Cond.instanceMethod ⟨"FootNotes$Tour", "fewestFrom", "(II)I"⟩ ∈ fn_big := fn_tb (fn_l5 (List.mem_of_getElem? (i := 26) (by decide +kernel))) (by decide +kernel)
theorem wp_64 : Cond.selects "FootNotes$Tour" ⟨"FootNotes$Tour", "fewestFrom", "(II)I"⟩ ⟨"FootNotes$Tour", "fewestFrom", "(II)I"⟩ ∈ fn_big := fn_sel (q := (⟨"FootNotes$Tour", "fewestFrom", "(II)I"⟩, 4)) 64 (by decide +kernel) (by decide +kernel)
theorem wd_983 : Cond.code ⟨"FootNotes$Tour", "all", "()I"⟩ prog_10_method_4_code 1 (Option.some Jvm.ClassFile.FieldType.int) ∈ fn_big := fn_tb (fn_l5 (List.mem_of_getElem? (i := 23) (by decide +kernel))) (by decide +kernel)
theorem wd_980 : Cond.methodLink "FootNotes$Tour" 29 ⟨"FootNotes$Tour", "all", "()I"⟩ ∈ fn_big := fn_tb (fn_l5 (List.mem_of_getElem? (i := 20) (by decide +kernel))) (by decide +kernel)
theorem wd_982 : Cond.instanceMethod ⟨"FootNotes$Tour", "all", "()I"⟩ ∈ fn_big := fn_tb (fn_l5 (List.mem_of_getElem? (i := 22) (by decide +kernel))) (by decide +kernel)
theorem wp_63 : Cond.selects "FootNotes$Tour" ⟨"FootNotes$Tour", "all", "()I"⟩ ⟨"FootNotes$Tour", "all", "()I"⟩ ∈ fn_big := fn_sel (q := (⟨"FootNotes$Tour", "all", "()I"⟩, 4)) 63 (by decide +kernel) (by decide +kernel)
theorem dX8_plan_45 : decode cX8_plan 45 = .ok (.iinc 2 1, 3) := by decide +kernel
theorem dX8_plan_48 : decode cX8_plan 48 = .ok (.goto (-36), 3) := by decide +kernel
theorem dX8_plan_12 : decode cX8_plan 12 = .ok (.iload_n 2, 1) := by decide +kernel
theorem dX8_plan_13 : decode cX8_plan 13 = .ok (.aload_n 0, 1) := by decide +kernel
theorem dX8_plan_14 : decode cX8_plan 14 = .ok (.getfield 25, 3) := by decide +kernel
theorem dX8_plan_17 : decode cX8_plan 17 = .ok (.if_icmp .ge 34, 3) := by decide +kernel
theorem dX8_plan_51 : decode cX8_plan 51 = .ok (.aload_n 0, 1) := by decide +kernel
theorem dX8_plan_52 : decode cX8_plan 52 = .ok (.getfield 22, 3) := by decide +kernel
theorem dX8_plan_55 : decode cX8_plan 55 = .ok (.iload_n 1, 1) := by decide +kernel
theorem dX8_plan_56 : decode cX8_plan 56 = .ok (.bipush 9, 2) := by decide +kernel
theorem dX8_plan_58 : decode cX8_plan 58 = .ok (.imul, 1) := by decide +kernel
theorem dX8_plan_59 : decode cX8_plan 59 = .ok (.bipush 8, 2) := by decide +kernel
theorem dX8_plan_61 : decode cX8_plan 61 = .ok (.iadd, 1) := by decide +kernel
theorem dX8_plan_62 : decode cX8_plan 62 = .ok (.aload_n 0, 1) := by decide +kernel
theorem dX8_plan_63 : decode cX8_plan 63 = .ok (.iload_n 1, 1) := by decide +kernel
theorem dX8_plan_64 : decode cX8_plan 64 = .ok (.bipush 8, 2) := by decide +kernel
theorem dX8_plan_66 : decode cX8_plan 66 = .ok (.invokevirtual 33, 3) := by decide +kernel
theorem dX8_plan_69 : decode cX8_plan 69 = .ok (.iastore, 1) := by decide +kernel
theorem dX8_plan_70 : decode cX8_plan 70 = .ok (.iinc 1 1, 3) := by decide +kernel
theorem dX8_plan_73 : decode cX8_plan 73 = .ok (.goto (-71), 3) := by decide +kernel
theorem dX8_plan_20 : decode cX8_plan 20 = .ok (.iload_n 1, 1) := by decide +kernel
theorem dX8_plan_21 : decode cX8_plan 21 = .ok (.iload_n 2, 1) := by decide +kernel
theorem dX8_plan_22 : decode cX8_plan 22 = .ok (.ishr, 1) := by decide +kernel
theorem dX8_plan_23 : decode cX8_plan 23 = .ok (.iconst 1, 1) := by decide +kernel
theorem dX8_plan_24 : decode cX8_plan 24 = .ok (.iand, 1) := by decide +kernel
theorem dX8_plan_25 : decode cX8_plan 25 = .ok (.ifCond .ne 20, 3) := by decide +kernel
theorem dX8_plan_28 : decode cX8_plan 28 = .ok (.aload_n 0, 1) := by decide +kernel
theorem dX8_plan_29 : decode cX8_plan 29 = .ok (.getfield 22, 3) := by decide +kernel
theorem dX8_plan_32 : decode cX8_plan 32 = .ok (.iload_n 1, 1) := by decide +kernel
theorem dX8_plan_33 : decode cX8_plan 33 = .ok (.bipush 9, 2) := by decide +kernel
theorem dX8_plan_35 : decode cX8_plan 35 = .ok (.imul, 1) := by decide +kernel
theorem dX8_plan_36 : decode cX8_plan 36 = .ok (.iload_n 2, 1) := by decide +kernel
theorem dX8_plan_37 : decode cX8_plan 37 = .ok (.iadd, 1) := by decide +kernel
theorem dX8_plan_38 : decode cX8_plan 38 = .ok (.aload_n 0, 1) := by decide +kernel
theorem dX8_plan_39 : decode cX8_plan 39 = .ok (.iload_n 1, 1) := by decide +kernel
theorem dX8_plan_40 : decode cX8_plan 40 = .ok (.iload_n 2, 1) := by decide +kernel
theorem dX8_plan_41 : decode cX8_plan 41 = .ok (.invokevirtual 33, 3) := by decide +kernel
theorem dX8_plan_44 : decode cX8_plan 44 = .ok (.iastore, 1) := by decide +kernel
theorem dX8_plan_2 : decode cX8_plan 2 = .ok (.iload_n 1, 1) := by decide +kernel
theorem dX8_plan_3 : decode cX8_plan 3 = .ok (.aload_n 0, 1) := by decide +kernel
theorem dX8_plan_4 : decode cX8_plan 4 = .ok (.invokevirtual 29, 3) := by decide +kernel
theorem dX8_plan_7 : decode cX8_plan 7 = .ok (.if_icmp .gt 69, 3) := by decide +kernel
theorem dX8_plan_76 : decode cX8_plan 76 = .ok (.return_, 1) := by decide +kernel
theorem dX8_plan_10 : decode cX8_plan 10 = .ok (.iconst 0, 1) := by decide +kernel
theorem dX8_plan_11 : decode cX8_plan 11 = .ok (.istore_n 2, 1) := by decide +kernel
theorem dX8_plan_0 : decode cX8_plan 0 = .ok (.iconst 0, 1) := by decide +kernel
theorem dX8_plan_1 : decode cX8_plan 1 = .ok (.istore_n 1, 1) := by decide +kernel
set_option maxHeartbeats 4000000 in
set_option maxRecDepth 100000 in
theorem k_X8_plan (l : Launch) (D : va_G) (K : Nat → ClassId) (t : Nat) (t_q t_0_q : Nat → Nat) (t_x1 t_0_x0 t_0_x4 : Int) (t_2_c : Nat → Int) (t_0_5_c : Nat → Int) (t_3_c : Nat → Int) (hi_t : bX8 t_x1) (hc_t_2 : ∀ j : Nat, 0 ≤ t_2_c j ∧ t_2_c j ≤ 11) (hi_t_0 : bX9 t_0_x0 t_0_x4) (hc_t_0_5 : ∀ j : Nat, (-2147483648) ≤ t_0_5_c j ∧ t_0_5_c j ≤ 2147483647) (hc_t_3 : ∀ j : Nat, (-2147483648) ≤ t_3_c j ∧ t_3_c j ≤ 2147483647) : fn_CV (S := (Nat → Int) × (Nat → Nat → Int)) l D K yX8_plan (fn_ws yX8_plan cX8_plan 3 none) ({ frames := 16, cells := 0, slots := 0, locals := 400 } : Room) [.ref t] [(t, .inr (8, oX8 t_q t_x1)), ((t_q 2), .inl (K 0, 9, .inl (fun j => iI (t_2_c j)))), ((t_q 0), .inr (9, oX9 t_0_q t_0_x0 t_0_x4)), ((t_0_q 5), .inl (K 0, 144, .inl (fun j => iI (t_0_5_c j)))), ((t_q 3), .inl (K 0, 2304, .inl (fun j => iI (t_3_c j))))] (fun u => (∀ j : Nat, (-2147483648) ≤ (u.2 0) j ∧ (u.2 0) j ≤ 2147483647) ∧ True) (fun u => [(t, .inr (8, oX8 t_q t_x1)), ((t_q 2), .inl (K 0, 9, .inl (fun j => iI (t_2_c j)))), ((t_q 0), .inr (9, oX9 t_0_q t_0_x0 t_0_x4)), ((t_0_q 5), .inl (K 0, 144, .inl (fun j => iI (t_0_5_c j)))), ((t_q 3), .inl (K 0, 2304, .inl (fun j => iI ((u.2 0) j))))]) 0 0 := by
  refine g_inV (cc := cX8_plan) (maxL := 3) (ret := none) (by decide) rfl (Nat.le_of_ble_eq_true rfl) ?_
  intro p e s m below meth c A ls ag Q B hA hP hD hS hl hQ
  obtain ⟨hx, hb, hr, hml, hts, hown, hlocks, hin, hK⟩ := B
  have hown : s.vm.findClass RX8 = some m.cls := hown
  have hts := fun w h => hts w (List.mem_cons_of_mem _ h)
  have J2 : ∀ (n : Nat) (x2_1 : Int) (c2_t_3 : Nat → Int) (H : Heap) (locs : List Loc) (ls : Array Slot), (256 - x2_1).toNat < n → (0 ≤ x2_1 ∧ x2_1 ≤ 256) → (∀ j : Nat, (-2147483648) ≤ c2_t_3 j ∧ c2_t_3 j ≤ 2147483647) → va_P D vwCl [(t, .inr (8, oX8 t_q t_x1)), ((t_q 2), .inl (K 0, 9, .inl (fun j => iI (t_2_c j)))), ((t_q 0), .inr (9, oX9 t_0_q t_0_x0 t_0_x4)), ((t_0_q 5), .inl (K 0, 144, .inl (fun j => iI (t_0_5_c j)))), ((t_q 3), .inl (K 0, 2304, .inl (fun j => iI (c2_t_3 j))))] H → va_D A [(t, .inr (8, oX8 t_q t_x1)), ((t_q 2), .inl (K 0, 9, .inl (fun j => iI (t_2_c j)))), ((t_q 0), .inr (9, oX9 t_0_q t_0_x0 t_0_x4)), ((t_0_q 5), .inl (K 0, 144, .inl (fun j => iI (t_0_5_c j)))), ((t_q 3), .inl (K 0, 2304, .inl (fun j => iI (c2_t_3 j))))] → va_S A s.heap H locs → lv_has ls 3 [(0, .ref t), (1, .int (iI x2_1))] → W p l e ({ frames := 16, cells := 0, slots := 0, locals := 400 } : Room) s m ag below meth c H locs 0 0 Q (F0 m 2 ls []) := by
    intro n
    induction n with
    | zero =>
      intro x2_1 c2_t_3 H locs ls hm2 hf2 hc2_t_3 hP hD hS hl
      exact absurd hm2 (Nat.not_lt_zero _)
    | succ n ih2 =>
      intro x2_1 c2_t_3 H locs ls hm2 hf2 hc2_t_3 hP hD hS hl
      have J12 : ∀ (n : Nat) (x12_2 : Int) (c12_t_3 : Nat → Int) (H : Heap) (locs : List Loc) (ls : Array Slot), (9 - x12_2).toNat < n → (0 ≤ x2_1 ∧ x2_1 ≤ 255 ∧ 0 ≤ x12_2 ∧ x12_2 ≤ 9) → (∀ j : Nat, (-2147483648) ≤ c12_t_3 j ∧ c12_t_3 j ≤ 2147483647) → va_P D vwCl [(t, .inr (8, oX8 t_q t_x1)), ((t_q 2), .inl (K 0, 9, .inl (fun j => iI (t_2_c j)))), ((t_q 0), .inr (9, oX9 t_0_q t_0_x0 t_0_x4)), ((t_0_q 5), .inl (K 0, 144, .inl (fun j => iI (t_0_5_c j)))), ((t_q 3), .inl (K 0, 2304, .inl (fun j => iI (c12_t_3 j))))] H → va_D A [(t, .inr (8, oX8 t_q t_x1)), ((t_q 2), .inl (K 0, 9, .inl (fun j => iI (t_2_c j)))), ((t_q 0), .inr (9, oX9 t_0_q t_0_x0 t_0_x4)), ((t_0_q 5), .inl (K 0, 144, .inl (fun j => iI (t_0_5_c j)))), ((t_q 3), .inl (K 0, 2304, .inl (fun j => iI (c12_t_3 j))))] → va_S A s.heap H locs → lv_has ls 3 [(0, .ref t), (1, .int (iI x2_1)), (2, .int (iI x12_2))] → W p l e ({ frames := 16, cells := 0, slots := 0, locals := 400 } : Room) s m ag below meth c H locs 0 0 Q (F0 m 12 ls []) := by
        intro n
        induction n with
        | zero =>
          intro x12_2 c12_t_3 H locs ls hm12 hf12 hc12_t_3 hP hD hS hl
          exact absurd hm12 (Nat.not_lt_zero _)
        | succ n ih12 =>
          intro x12_2 c12_t_3 H locs ls hm12 hf12 hc12_t_3 hP hD hS hl
          have J45 : ∀ (c45_t_3 : Nat → Int) (H : Heap) (locs : List Loc) (ls : Array Slot), (0 ≤ x2_1 ∧ x2_1 ≤ 255 ∧ 0 ≤ x12_2 ∧ x12_2 ≤ 7 ∧ 1 ≤ t_x1 ∧ t_x1 ≤ 8) → (∀ j : Nat, (-2147483648) ≤ c45_t_3 j ∧ c45_t_3 j ≤ 2147483647) → va_P D vwCl [(t, .inr (8, oX8 t_q t_x1)), ((t_q 2), .inl (K 0, 9, .inl (fun j => iI (t_2_c j)))), ((t_q 0), .inr (9, oX9 t_0_q t_0_x0 t_0_x4)), ((t_0_q 5), .inl (K 0, 144, .inl (fun j => iI (t_0_5_c j)))), ((t_q 3), .inl (K 0, 2304, .inl (fun j => iI (c45_t_3 j))))] H → va_D A [(t, .inr (8, oX8 t_q t_x1)), ((t_q 2), .inl (K 0, 9, .inl (fun j => iI (t_2_c j)))), ((t_q 0), .inr (9, oX9 t_0_q t_0_x0 t_0_x4)), ((t_0_q 5), .inl (K 0, 144, .inl (fun j => iI (t_0_5_c j)))), ((t_q 3), .inl (K 0, 2304, .inl (fun j => iI (c45_t_3 j))))] → va_S A s.heap H locs → lv_has ls 3 [(0, .ref t), (1, .int (iI x2_1)), (2, .int (iI x12_2))] → W p l e ({ frames := 16, cells := 0, slots := 0, locals := 400 } : Room) s m ag below meth c H locs 0 0 Q (F0 m 45 ls []) := by
            intro c45_t_3 H locs ls hf45 hc45_t_3 hP hD hS hl
            refine lv_iinc (v := iI (x12_2 + 1)) (lv' := [(2, .int (iI (x12_2 + 1))), (0, .ref t), (1, .int (iI x2_1))]) hx hb dX8_plan_45 hl (k := 2) rfl (iI_add _ _) (by decide) rfl (fun ls hl => ?_)
            refine lv_goto (tgt := 12) hx hb dX8_plan_48 (by decide) ?_
            exact ih12 (x12_2 + 1) c45_t_3 _ _ ls (by omega) (by omega) hc45_t_3 (hP.sub [0, 1, 2, 3, 4] rfl) (hD.sub [0, 1, 2, 3, 4] (by decide) rfl) hS (lv_sub hl [1, 2, 0] rfl)
          refine lv_iload_n hx hb dX8_plan_12 rfl (lv_at hl 2 rfl) ?_
          refine lv_aload_n hx hb dX8_plan_13 rfl (lv_at hl 0 rfl) ?_
          refine va_get (D := D) (own := RX8) (ci := 8) (v := .int (iI t_x1)) (C := RX8) (T := TX8) (N := 4) hx hb hts inb_X8 hown hK.1 hP 0 rfl rfl 1 (by decide) (hts _ wd_339) (fun _ h9 => h9) rfl dX8_plan_14 ?_
          have y14_1 : 0 ≤ t_x1 ∧ t_x1 ≤ 8 := hi_t
          refine g_icmp_ge (tgt := 51) hx hb (by omega) (by omega) dX8_plan_17 (by decide) (fun c17 => ?_) (fun c17 => ?_)
          · refine lv_aload_n hx hb dX8_plan_51 rfl (lv_at hl 0 rfl) ?_
            refine va_get (D := D) (own := RX8) (ci := 8) (v := .ref (t_q 3)) (C := RX8) (T := TX8) (N := 4) hx hb hts inb_X8 hown hK.1 hP 0 rfl rfl 3 (by decide) (hts _ wd_341) (fun _ h9 => h9) rfl dX8_plan_52 ?_
            refine lv_iload_n hx hb dX8_plan_55 rfl (lv_at hl 1 rfl) ?_
            refine lv_bipush (v := iI 9) hx hb dX8_plan_56 (by decide) ?_
            refine g_imul hx hb dX8_plan_58 ?_
            refine lv_bipush (v := iI 8) hx hb dX8_plan_59 (by decide) ?_
            refine g_iadd hx hb dX8_plan_61 ?_
            refine lv_aload_n hx hb dX8_plan_62 rfl (lv_at hl 0 rfl) ?_
            refine lv_iload_n hx hb dX8_plan_63 rfl (lv_at hl 1 rfl) ?_
            refine lv_bipush (v := iI 8) hx hb dX8_plan_64 (by decide) ?_
            refine fn_goi (wc := [(t, .inr (8, oX8 t_q t_x1)), ((t_q 2), .inl (K 0, 9, .inl (fun j => iI (t_2_c j)))), ((t_q 0), .inr (9, oX9 t_0_q t_0_x0 t_0_x4)), ((t_0_q 5), .inl (K 0, 144, .inl (fun j => iI (t_0_5_c j)))), ((t_q 3), .inl (K 0, 2304, .inl (fun j => iI (c12_t_3 j))))]) (wr := []) hK hP hD hS hA [0, 1, 2, 3, 4] [] rfl rfl (by decide) (fun hp => va_runV (C := RX8) (As := [.int (iI x2_1), .int (iI 8)]) (rest := [.int (iI (x2_1 * 9 + 8)), .ref (t_q 3)]) ⟨hx, hb, hml, hown, hts⟩ (k_X8_fewestFrom (l := l) (D := D) (K := K) (t := t) (p1 := x2_1) (p2 := 8) (t_q := t_q) (t_x1 := t_x1) (t_2_c := t_2_c) (t_0_q := t_0_q) (t_0_x0 := t_0_x0) (t_0_x4 := t_0_x4) (t_0_5_c := t_0_5_c) (t_3_c := c12_t_3) (hp1 := (by omega)) (hp2 := (by omega)) (hi_t := hi_t) (hc_t_2 := hc_t_2) (hi_t_0 := hi_t_0) (hc_t_0_5 := hc_t_0_5) (hc_t_3 := hc12_t_3) _) (cwV 2 hts (fn_ginV (fn_gin wd_987) wd_984 wd_986 wp_64 wd_8) rfl rfl rfl (by decide +kernel) ⟨Nat.le_of_ble_eq_true rfl, Nat.le_of_ble_eq_true rfl⟩) ⟨fn_blind, va_recv hK.1 hP (ci := 8) (q0 := 0) rfl rfl, hp⟩ rfl rfl hl.1 rfl (lv_room (Nat.le_of_ble_eq_true rfl)) dX8_plan_66 ⟨Nat.le_of_ble_eq_true rfl, Nat.le_of_ble_eq_true rfl⟩) (fun r66 u66 H locs hwu66 hP hD hS => ?_)
            obtain ⟨u66a, u66b⟩ := u66
            obtain ⟨kr66, rfl, hkr66, -⟩ := hwu66
            have hP : va_P D vwCl [(t, .inr (8, oX8 t_q t_x1)), ((t_q 2), .inl (K 0, 9, .inl (fun j => iI (t_2_c j)))), ((t_q 0), .inr (9, oX9 t_0_q t_0_x0 t_0_x4)), ((t_0_q 5), .inl (K 0, 144, .inl (fun j => iI (t_0_5_c j)))), ((t_q 3), .inl (K 0, 2304, .inl (fun j => iI (c12_t_3 j))))] H := hP
            have hD : va_D A [(t, .inr (8, oX8 t_q t_x1)), ((t_q 2), .inl (K 0, 9, .inl (fun j => iI (t_2_c j)))), ((t_q 0), .inr (9, oX9 t_0_q t_0_x0 t_0_x4)), ((t_0_q 5), .inl (K 0, 144, .inl (fun j => iI (t_0_5_c j)))), ((t_q 3), .inl (K 0, 2304, .inl (fun j => iI (c12_t_3 j))))] := hD
            refine g_iast hx hb hK.1 hP hD hS 4 0 rfl rfl (by omega) (by omega) (by decide) dX8_plan_69 (fun H locs g69 eg69 hP hD hS => ?_)
            have hg69 : ∀ j : Nat, (-2147483648) ≤ g69 j ∧ g69 j ≤ 2147483647 := by rw [eg69]; exact uI_all hc12_t_3 (by omega)
            have hP : va_P D vwCl [(t, .inr (8, oX8 t_q t_x1)), ((t_q 2), .inl (K 0, 9, .inl (fun j => iI (t_2_c j)))), ((t_q 0), .inr (9, oX9 t_0_q t_0_x0 t_0_x4)), ((t_0_q 5), .inl (K 0, 144, .inl (fun j => iI (t_0_5_c j)))), ((t_q 3), .inl (K 0, 2304, .inl (fun j => iI (g69 j))))] H := hP
            have hD : va_D A [(t, .inr (8, oX8 t_q t_x1)), ((t_q 2), .inl (K 0, 9, .inl (fun j => iI (t_2_c j)))), ((t_q 0), .inr (9, oX9 t_0_q t_0_x0 t_0_x4)), ((t_0_q 5), .inl (K 0, 144, .inl (fun j => iI (t_0_5_c j)))), ((t_q 3), .inl (K 0, 2304, .inl (fun j => iI (g69 j))))] := hD
            refine lv_iinc (v := iI (x2_1 + 1)) (lv' := [(1, .int (iI (x2_1 + 1))), (0, .ref t), (2, .int (iI x12_2))]) hx hb dX8_plan_70 hl (k := 1) rfl (iI_add _ _) (by decide) rfl (fun ls hl => ?_)
            refine lv_goto (tgt := 2) hx hb dX8_plan_73 (by decide) ?_
            exact ih2 (x2_1 + 1) g69 _ _ ls (by omega) (by omega) hg69 (hP.sub [0, 1, 2, 3, 4] rfl) (hD.sub [0, 1, 2, 3, 4] (by decide) rfl) hS (lv_sub hl [1, 0] rfl)
          · refine lv_iload_n hx hb dX8_plan_20 rfl (lv_at hl 1 rfl) ?_
            refine lv_iload_n hx hb dX8_plan_21 rfl (lv_at hl 2 rfl) ?_
            refine lv_ishr hx hb dX8_plan_22 ?_
            obtain ⟨w22, ew22, hw22⟩ := iI_shr x2_1 x12_2 (by omega) (by omega)
            refine fn_top (iI w22) ew22 ?_
            refine lv_iconst (v := iI 1) hx hb dX8_plan_23 rfl ?_
            refine lv_iand hx hb dX8_plan_24 ?_
            obtain ⟨w24, ew24, hw24⟩ := iI_and1 w22 (by omega)
            refine fn_top (iI w24) ew24 ?_
            refine g_if_ne (tgt := 45) hx hb (by omega) dX8_plan_25 (by decide) (fun c25 => ?_) (fun c25 => ?_)
            · exact J45 c12_t_3 _ _ ls (by omega) hc12_t_3 (hP.sub [0, 1, 2, 3, 4] rfl) (hD.sub [0, 1, 2, 3, 4] (by decide) rfl) hS (lv_sub hl [0, 1, 2] rfl)
            · refine lv_aload_n hx hb dX8_plan_28 rfl (lv_at hl 0 rfl) ?_
              refine va_get (D := D) (own := RX8) (ci := 8) (v := .ref (t_q 3)) (C := RX8) (T := TX8) (N := 4) hx hb hts inb_X8 hown hK.1 hP 0 rfl rfl 3 (by decide) (hts _ wd_341) (fun _ h9 => h9) rfl dX8_plan_29 ?_
              refine lv_iload_n hx hb dX8_plan_32 rfl (lv_at hl 1 rfl) ?_
              refine lv_bipush (v := iI 9) hx hb dX8_plan_33 (by decide) ?_
              refine g_imul hx hb dX8_plan_35 ?_
              refine lv_iload_n hx hb dX8_plan_36 rfl (lv_at hl 2 rfl) ?_
              refine g_iadd hx hb dX8_plan_37 ?_
              refine lv_aload_n hx hb dX8_plan_38 rfl (lv_at hl 0 rfl) ?_
              refine lv_iload_n hx hb dX8_plan_39 rfl (lv_at hl 1 rfl) ?_
              refine fn_at 40 rfl ?_
              refine lv_iload_n hx hb dX8_plan_40 rfl (lv_at hl 2 rfl) ?_
              refine fn_goi (wc := [(t, .inr (8, oX8 t_q t_x1)), ((t_q 2), .inl (K 0, 9, .inl (fun j => iI (t_2_c j)))), ((t_q 0), .inr (9, oX9 t_0_q t_0_x0 t_0_x4)), ((t_0_q 5), .inl (K 0, 144, .inl (fun j => iI (t_0_5_c j)))), ((t_q 3), .inl (K 0, 2304, .inl (fun j => iI (c12_t_3 j))))]) (wr := []) hK hP hD hS hA [0, 1, 2, 3, 4] [] rfl rfl (by decide) (fun hp => va_runV (C := RX8) (As := [.int (iI x2_1), .int (iI x12_2)]) (rest := [.int (iI (x2_1 * 9 + x12_2)), .ref (t_q 3)]) ⟨hx, hb, hml, hown, hts⟩ (k_X8_fewestFrom (l := l) (D := D) (K := K) (t := t) (p1 := x2_1) (p2 := x12_2) (t_q := t_q) (t_x1 := t_x1) (t_2_c := t_2_c) (t_0_q := t_0_q) (t_0_x0 := t_0_x0) (t_0_x4 := t_0_x4) (t_0_5_c := t_0_5_c) (t_3_c := c12_t_3) (hp1 := (by omega)) (hp2 := (by omega)) (hi_t := hi_t) (hc_t_2 := hc_t_2) (hi_t_0 := hi_t_0) (hc_t_0_5 := hc_t_0_5) (hc_t_3 := hc12_t_3) _) (cwV 2 hts (fn_ginV (fn_gin wd_987) wd_984 wd_986 wp_64 wd_8) rfl rfl rfl (by decide +kernel) ⟨Nat.le_of_ble_eq_true rfl, Nat.le_of_ble_eq_true rfl⟩) ⟨fn_blind, va_recv hK.1 hP (ci := 8) (q0 := 0) rfl rfl, hp⟩ rfl rfl hl.1 rfl (lv_room (Nat.le_of_ble_eq_true rfl)) dX8_plan_41 ⟨Nat.le_of_ble_eq_true rfl, Nat.le_of_ble_eq_true rfl⟩) (fun r41 u41 H locs hwu41 hP hD hS => ?_)
              obtain ⟨u41a, u41b⟩ := u41
              obtain ⟨kr41, rfl, hkr41, -⟩ := hwu41
              have hP : va_P D vwCl [(t, .inr (8, oX8 t_q t_x1)), ((t_q 2), .inl (K 0, 9, .inl (fun j => iI (t_2_c j)))), ((t_q 0), .inr (9, oX9 t_0_q t_0_x0 t_0_x4)), ((t_0_q 5), .inl (K 0, 144, .inl (fun j => iI (t_0_5_c j)))), ((t_q 3), .inl (K 0, 2304, .inl (fun j => iI (c12_t_3 j))))] H := hP
              have hD : va_D A [(t, .inr (8, oX8 t_q t_x1)), ((t_q 2), .inl (K 0, 9, .inl (fun j => iI (t_2_c j)))), ((t_q 0), .inr (9, oX9 t_0_q t_0_x0 t_0_x4)), ((t_0_q 5), .inl (K 0, 144, .inl (fun j => iI (t_0_5_c j)))), ((t_q 3), .inl (K 0, 2304, .inl (fun j => iI (c12_t_3 j))))] := hD
              refine g_iast hx hb hK.1 hP hD hS 4 0 rfl rfl (by omega) (by omega) (by decide) dX8_plan_44 (fun H locs g44 eg44 hP hD hS => ?_)
              have hg44 : ∀ j : Nat, (-2147483648) ≤ g44 j ∧ g44 j ≤ 2147483647 := by rw [eg44]; exact uI_all hc12_t_3 (by omega)
              have hP : va_P D vwCl [(t, .inr (8, oX8 t_q t_x1)), ((t_q 2), .inl (K 0, 9, .inl (fun j => iI (t_2_c j)))), ((t_q 0), .inr (9, oX9 t_0_q t_0_x0 t_0_x4)), ((t_0_q 5), .inl (K 0, 144, .inl (fun j => iI (t_0_5_c j)))), ((t_q 3), .inl (K 0, 2304, .inl (fun j => iI (g44 j))))] H := hP
              have hD : va_D A [(t, .inr (8, oX8 t_q t_x1)), ((t_q 2), .inl (K 0, 9, .inl (fun j => iI (t_2_c j)))), ((t_q 0), .inr (9, oX9 t_0_q t_0_x0 t_0_x4)), ((t_0_q 5), .inl (K 0, 144, .inl (fun j => iI (t_0_5_c j)))), ((t_q 3), .inl (K 0, 2304, .inl (fun j => iI (g44 j))))] := hD
              exact J45 g44 _ _ ls (by omega) hg44 (hP.sub [0, 1, 2, 3, 4] rfl) (hD.sub [0, 1, 2, 3, 4] (by decide) rfl) hS (lv_sub hl [0, 1, 2] rfl)
      refine lv_iload_n hx hb dX8_plan_2 rfl (lv_at hl 1 rfl) ?_
      refine lv_aload_n hx hb dX8_plan_3 rfl (lv_at hl 0 rfl) ?_
      refine fn_goi (wc := [(t, .inr (8, oX8 t_q t_x1))]) (wr := [((t_q 2), .inl (K 0, 9, .inl (fun j => iI (t_2_c j)))), ((t_q 0), .inr (9, oX9 t_0_q t_0_x0 t_0_x4)), ((t_0_q 5), .inl (K 0, 144, .inl (fun j => iI (t_0_5_c j)))), ((t_q 3), .inl (K 0, 2304, .inl (fun j => iI (c2_t_3 j))))]) hK hP hD hS hA [0] [1, 2, 3, 4] rfl rfl (by decide) (fun hp => va_runV (C := RX8) (As := []) (rest := [.int (iI x2_1)]) ⟨hx, hb, hml, hown, hts⟩ (k_X8_all (l := l) (D := D) (K := K) (t := t) (t_q := t_q) (t_x1 := t_x1) (hi_t := hi_t) _) (cwV 0 hts (fn_ginV (fn_gin wd_983) wd_980 wd_982 wp_63 wd_8) rfl rfl rfl (by decide +kernel) ⟨Nat.le_of_ble_eq_true rfl, Nat.le_of_ble_eq_true rfl⟩) ⟨fn_blind, va_recv hK.1 hP (ci := 8) (q0 := 0) rfl rfl, hp⟩ rfl rfl hl.1 rfl (lv_room (Nat.le_of_ble_eq_true rfl)) dX8_plan_4 ⟨Nat.le_of_ble_eq_true rfl, Nat.le_of_ble_eq_true rfl⟩) (fun r4 u4 H locs hwu4 hP hD hS => ?_)
      obtain ⟨u4a, u4b⟩ := u4
      obtain ⟨kr4, rfl, hkr4, -⟩ := hwu4
      have hP : va_P D vwCl [((t_q 2), .inl (K 0, 9, .inl (fun j => iI (t_2_c j)))), ((t_q 0), .inr (9, oX9 t_0_q t_0_x0 t_0_x4)), ((t_0_q 5), .inl (K 0, 144, .inl (fun j => iI (t_0_5_c j)))), ((t_q 3), .inl (K 0, 2304, .inl (fun j => iI (c2_t_3 j)))), (t, .inr (8, oX8 t_q t_x1))] H := hP
      have hD : va_D A [((t_q 2), .inl (K 0, 9, .inl (fun j => iI (t_2_c j)))), ((t_q 0), .inr (9, oX9 t_0_q t_0_x0 t_0_x4)), ((t_0_q 5), .inl (K 0, 144, .inl (fun j => iI (t_0_5_c j)))), ((t_q 3), .inl (K 0, 2304, .inl (fun j => iI (c2_t_3 j)))), (t, .inr (8, oX8 t_q t_x1))] := hD
      refine g_icmp_gt (tgt := 76) hx hb (by omega) (by omega) dX8_plan_7 (by decide) (fun c7 => ?_) (fun c7 => ?_)
      · rw [hQ]; exact fn_vret hx hb hr hlocks hP hD hS ((fun _ => 0), (fun k => ([c2_t_3] : List (Nat → Int)).getD k (fun _ => 0))) ⟨(hc2_t_3), trivial⟩ [4, 0, 1, 2, 3] (by decide) rfl dX8_plan_76
      · refine lv_iconst (v := iI 0) hx hb dX8_plan_10 rfl ?_
        refine lv_istore_n (lv' := [(2, .int (iI 0)), (0, .ref t), (1, .int (iI x2_1))]) hx hb dX8_plan_11 rfl hl (by decide) rfl (fun ls hl => ?_)
        exact J12 _ 0 c2_t_3 _ _ ls (Nat.lt_succ_self _) (by omega) hc2_t_3 (hP.sub [4, 0, 1, 2, 3] rfl) (hD.sub [4, 0, 1, 2, 3] (by decide) rfl) hS (lv_sub hl [1, 2, 0] rfl)
  have hl : lv_has ls 3 [(0, .ref t)] := hl
  refine lv_iconst (v := iI 0) hx hb dX8_plan_0 rfl ?_
  refine lv_istore_n (lv' := [(1, .int (iI 0)), (0, .ref t)]) hx hb dX8_plan_1 rfl hl (by decide) rfl (fun ls hl => ?_)
  exact J2 _ 0 t_3_c _ _ ls (Nat.lt_succ_self _) (by omega) hc_t_3 (hP.sub [0, 1, 2, 3, 4] rfl) (hD.sub [0, 1, 2, 3, 4] (by decide) rfl) hS (lv_sub hl [1, 0] rfl)
theorem dX8_fewestFor_0 : decode cX8_fewestFor 0 = .ok (.aload_n 0, 1) := by decide +kernel
theorem dX8_fewestFor_1 : decode cX8_fewestFor 1 = .ok (.getfield 22, 3) := by decide +kernel
theorem dX8_fewestFor_4 : decode cX8_fewestFor 4 = .ok (.iload_n 1, 1) := by decide +kernel
theorem dX8_fewestFor_5 : decode cX8_fewestFor 5 = .ok (.bipush 9, 2) := by decide +kernel
theorem dX8_fewestFor_7 : decode cX8_fewestFor 7 = .ok (.imul, 1) := by decide +kernel
theorem dX8_fewestFor_8 : decode cX8_fewestFor 8 = .ok (.bipush 8, 2) := by decide +kernel
theorem dX8_fewestFor_10 : decode cX8_fewestFor 10 = .ok (.iadd, 1) := by decide +kernel
theorem dX8_fewestFor_11 : decode cX8_fewestFor 11 = .ok (.iaload, 1) := by decide +kernel
theorem dX8_fewestFor_12 : decode cX8_fewestFor 12 = .ok (.ireturn, 1) := by decide +kernel
set_option maxHeartbeats 4000000 in
set_option maxRecDepth 100000 in
theorem k_X8_fewestFor (l : Launch) (D : va_G) (K : Nat → ClassId) (t : Nat) (t_q : Nat → Nat) (p1 t_x1 : Int) (t_3_c : Nat → Int) (hp1 : 0 ≤ p1 ∧ p1 ≤ 255) (hi_t : bX8 t_x1) (hc_t_3 : ∀ j : Nat, (-2147483648) ≤ t_3_c j ∧ t_3_c j ≤ 2147483647) : fn_CI (S := (Nat → Int) × (Nat → Nat → Int)) l D K yX8_fewestFor (fn_ws yX8_fewestFor cX8_fewestFor 2 (some .int)) ({ frames := 4, cells := 0, slots := 0, locals := 100 } : Room) [.ref t, .int (iI p1)] [(t, .inr (8, oX8 t_q t_x1)), ((t_q 3), .inl (K 0, 2304, .inl (fun j => iI (t_3_c j))))] (fun r u => ∃ k : Int, r = iI k ∧ ((-2147483648) ≤ k ∧ k ≤ 2147483647) ∧ True) (fun u => [(t, .inr (8, oX8 t_q t_x1)), ((t_q 3), .inl (K 0, 2304, .inl (fun j => iI (t_3_c j))))]) 0 0 := by
  refine g_inI (cc := cX8_fewestFor) (maxL := 2) (ret := (some .int)) (by decide) rfl (Nat.le_of_ble_eq_true rfl) ?_
  intro p e s m below meth c A ls ag Q B hA hP hD hS hl hQ
  obtain ⟨hx, hb, hr, hml, hts, hown, hlocks, hin, hK⟩ := B
  have hown : s.vm.findClass RX8 = some m.cls := hown
  have hts := fun w h => hts w (List.mem_cons_of_mem _ h)
  have hl : lv_has ls 2 [(0, .ref t), (1, .int (iI p1))] := hl
  refine lv_aload_n hx hb dX8_fewestFor_0 rfl (lv_at hl 0 rfl) ?_
  refine va_get (D := D) (own := RX8) (ci := 8) (v := .ref (t_q 3)) (C := RX8) (T := TX8) (N := 4) hx hb hts inb_X8 hown hK.1 hP 0 rfl rfl 3 (by decide) (hts _ wd_341) (fun _ h9 => h9) rfl dX8_fewestFor_1 ?_
  refine lv_iload_n hx hb dX8_fewestFor_4 rfl (lv_at hl 1 rfl) ?_
  refine lv_bipush (v := iI 9) hx hb dX8_fewestFor_5 (by decide) ?_
  refine g_imul hx hb dX8_fewestFor_7 ?_
  refine lv_bipush (v := iI 8) hx hb dX8_fewestFor_8 (by decide) ?_
  refine g_iadd hx hb dX8_fewestFor_10 ?_
  refine g_iald hx hb hK.1 hP 1 0 rfl rfl (by omega) (by omega) (by decide) dX8_fewestFor_11 ?_
  have y11 : (-2147483648) ≤ (t_3_c ((p1 * 9 + 8).toNat)) ∧ (t_3_c ((p1 * 9 + 8).toNat)) ≤ 2147483647 := hc_t_3 ((p1 * 9 + 8).toNat)
  rw [hQ]; exact fn_iret hx hb hr hlocks rfl hP hD hS ((fun _ => 0), (fun _ _ => 0)) ⟨t_3_c ((p1 * 9 + 8).toNat), rfl, by omega, trivial⟩ [0, 1] (by decide) rfl dX8_fewestFor_12
theorem dX8_bestNext_42 : decode cX8_bestNext 42 = .ok (.iinc 3 1, 3) := by decide +kernel
theorem dX8_bestNext_45 : decode cX8_bestNext 45 = .ok (.goto (-43), 3) := by decide +kernel
theorem dX8_bestNext_2 : decode cX8_bestNext 2 = .ok (.iload_n 3, 1) := by decide +kernel
theorem dX8_bestNext_3 : decode cX8_bestNext 3 = .ok (.aload_n 0, 1) := by decide +kernel
theorem dX8_bestNext_4 : decode cX8_bestNext 4 = .ok (.getfield 25, 3) := by decide +kernel
theorem dX8_bestNext_7 : decode cX8_bestNext 7 = .ok (.if_icmp .ge 41, 3) := by decide +kernel
theorem dX8_bestNext_48 : decode cX8_bestNext 48 = .ok (.bipush 8, 2) := by decide +kernel
theorem dX8_bestNext_50 : decode cX8_bestNext 50 = .ok (.ireturn, 1) := by decide +kernel
theorem dX8_bestNext_10 : decode cX8_bestNext 10 = .ok (.iload_n 1, 1) := by decide +kernel
theorem dX8_bestNext_11 : decode cX8_bestNext 11 = .ok (.iload_n 3, 1) := by decide +kernel
theorem dX8_bestNext_12 : decode cX8_bestNext 12 = .ok (.ishr, 1) := by decide +kernel
theorem dX8_bestNext_13 : decode cX8_bestNext 13 = .ok (.iconst 1, 1) := by decide +kernel
theorem dX8_bestNext_14 : decode cX8_bestNext 14 = .ok (.iand, 1) := by decide +kernel
theorem dX8_bestNext_15 : decode cX8_bestNext 15 = .ok (.iconst 1, 1) := by decide +kernel
theorem dX8_bestNext_16 : decode cX8_bestNext 16 = .ok (.if_icmp .ne 26, 3) := by decide +kernel
theorem dX8_bestNext_19 : decode cX8_bestNext 19 = .ok (.aload_n 0, 1) := by decide +kernel
theorem dX8_bestNext_20 : decode cX8_bestNext 20 = .ok (.iload_n 1, 1) := by decide +kernel
theorem dX8_bestNext_21 : decode cX8_bestNext 21 = .ok (.iload_n 2, 1) := by decide +kernel
theorem dX8_bestNext_22 : decode cX8_bestNext 22 = .ok (.iload_n 3, 1) := by decide +kernel
theorem dX8_bestNext_23 : decode cX8_bestNext 23 = .ok (.invokevirtual 37, 3) := by decide +kernel
theorem dX8_bestNext_26 : decode cX8_bestNext 26 = .ok (.aload_n 0, 1) := by decide +kernel
theorem dX8_bestNext_27 : decode cX8_bestNext 27 = .ok (.getfield 22, 3) := by decide +kernel
theorem dX8_bestNext_30 : decode cX8_bestNext 30 = .ok (.iload_n 1, 1) := by decide +kernel
theorem dX8_bestNext_31 : decode cX8_bestNext 31 = .ok (.bipush 9, 2) := by decide +kernel
theorem dX8_bestNext_33 : decode cX8_bestNext 33 = .ok (.imul, 1) := by decide +kernel
theorem dX8_bestNext_34 : decode cX8_bestNext 34 = .ok (.iload_n 2, 1) := by decide +kernel
theorem dX8_bestNext_35 : decode cX8_bestNext 35 = .ok (.iadd, 1) := by decide +kernel
theorem dX8_bestNext_36 : decode cX8_bestNext 36 = .ok (.iaload, 1) := by decide +kernel
theorem dX8_bestNext_37 : decode cX8_bestNext 37 = .ok (.if_icmp .ne 5, 3) := by decide +kernel
theorem dX8_bestNext_40 : decode cX8_bestNext 40 = .ok (.iload_n 3, 1) := by decide +kernel
theorem dX8_bestNext_41 : decode cX8_bestNext 41 = .ok (.ireturn, 1) := by decide +kernel
theorem dX8_bestNext_0 : decode cX8_bestNext 0 = .ok (.iconst 0, 1) := by decide +kernel
theorem dX8_bestNext_1 : decode cX8_bestNext 1 = .ok (.istore_n 3, 1) := by decide +kernel
set_option maxHeartbeats 4000000 in
set_option maxRecDepth 100000 in
theorem k_X8_bestNext (l : Launch) (D : va_G) (K : Nat → ClassId) (t : Nat) (t_q t_0_q : Nat → Nat) (p1 p2 t_x1 t_0_x0 t_0_x4 : Int) (t_2_c : Nat → Int) (t_0_5_c : Nat → Int) (t_3_c : Nat → Int) (hp1 : 0 ≤ p1 ∧ p1 ≤ 255) (hp2 : 0 ≤ p2 ∧ p2 ≤ 8) (hi_t : bX8 t_x1) (hc_t_2 : ∀ j : Nat, 0 ≤ t_2_c j ∧ t_2_c j ≤ 11) (hi_t_0 : bX9 t_0_x0 t_0_x4) (hc_t_0_5 : ∀ j : Nat, (-2147483648) ≤ t_0_5_c j ∧ t_0_5_c j ≤ 2147483647) (hc_t_3 : ∀ j : Nat, (-2147483648) ≤ t_3_c j ∧ t_3_c j ≤ 2147483647) : fn_CI (S := (Nat → Int) × (Nat → Nat → Int)) l D K yX8_bestNext (fn_ws yX8_bestNext cX8_bestNext 4 (some .int)) ({ frames := 12, cells := 0, slots := 0, locals := 300 } : Room) [.ref t, .int (iI p1), .int (iI p2)] [(t, .inr (8, oX8 t_q t_x1)), ((t_q 2), .inl (K 0, 9, .inl (fun j => iI (t_2_c j)))), ((t_q 0), .inr (9, oX9 t_0_q t_0_x0 t_0_x4)), ((t_0_q 5), .inl (K 0, 144, .inl (fun j => iI (t_0_5_c j)))), ((t_q 3), .inl (K 0, 2304, .inl (fun j => iI (t_3_c j))))] (fun r u => ∃ k : Int, r = iI k ∧ (0 ≤ k ∧ k ≤ 8) ∧ True) (fun u => [(t, .inr (8, oX8 t_q t_x1)), ((t_q 2), .inl (K 0, 9, .inl (fun j => iI (t_2_c j)))), ((t_q 0), .inr (9, oX9 t_0_q t_0_x0 t_0_x4)), ((t_0_q 5), .inl (K 0, 144, .inl (fun j => iI (t_0_5_c j)))), ((t_q 3), .inl (K 0, 2304, .inl (fun j => iI (t_3_c j))))]) 0 0 := by
  refine g_inI (cc := cX8_bestNext) (maxL := 4) (ret := (some .int)) (by decide) rfl (Nat.le_of_ble_eq_true rfl) ?_
  intro p e s m below meth c A ls ag Q B hA hP hD hS hl hQ
  obtain ⟨hx, hb, hr, hml, hts, hown, hlocks, hin, hK⟩ := B
  have hown : s.vm.findClass RX8 = some m.cls := hown
  have hts := fun w h => hts w (List.mem_cons_of_mem _ h)
  have J2 : ∀ (n : Nat) (x2_3 : Int) (H : Heap) (locs : List Loc) (ls : Array Slot), (8 - x2_3).toNat < n → (0 ≤ x2_3 ∧ x2_3 ≤ 8) → va_P D vwCl [(t, .inr (8, oX8 t_q t_x1)), ((t_q 2), .inl (K 0, 9, .inl (fun j => iI (t_2_c j)))), ((t_q 0), .inr (9, oX9 t_0_q t_0_x0 t_0_x4)), ((t_0_q 5), .inl (K 0, 144, .inl (fun j => iI (t_0_5_c j)))), ((t_q 3), .inl (K 0, 2304, .inl (fun j => iI (t_3_c j))))] H → va_D A [(t, .inr (8, oX8 t_q t_x1)), ((t_q 2), .inl (K 0, 9, .inl (fun j => iI (t_2_c j)))), ((t_q 0), .inr (9, oX9 t_0_q t_0_x0 t_0_x4)), ((t_0_q 5), .inl (K 0, 144, .inl (fun j => iI (t_0_5_c j)))), ((t_q 3), .inl (K 0, 2304, .inl (fun j => iI (t_3_c j))))] → va_S A s.heap H locs → lv_has ls 4 [(0, .ref t), (1, .int (iI p1)), (2, .int (iI p2)), (3, .int (iI x2_3))] → W p l e ({ frames := 12, cells := 0, slots := 0, locals := 300 } : Room) s m ag below meth c H locs 0 0 Q (F0 m 2 ls []) := by
    intro n
    induction n with
    | zero =>
      intro x2_3 H locs ls hm2 hf2 hP hD hS hl
      exact absurd hm2 (Nat.not_lt_zero _)
    | succ n ih2 =>
      intro x2_3 H locs ls hm2 hf2 hP hD hS hl
      have J42 : ∀  (H : Heap) (locs : List Loc) (ls : Array Slot), (0 ≤ x2_3 ∧ x2_3 ≤ 7 ∧ 1 ≤ t_x1 ∧ t_x1 ≤ 8) → va_P D vwCl [(t, .inr (8, oX8 t_q t_x1)), ((t_q 2), .inl (K 0, 9, .inl (fun j => iI (t_2_c j)))), ((t_q 0), .inr (9, oX9 t_0_q t_0_x0 t_0_x4)), ((t_0_q 5), .inl (K 0, 144, .inl (fun j => iI (t_0_5_c j)))), ((t_q 3), .inl (K 0, 2304, .inl (fun j => iI (t_3_c j))))] H → va_D A [(t, .inr (8, oX8 t_q t_x1)), ((t_q 2), .inl (K 0, 9, .inl (fun j => iI (t_2_c j)))), ((t_q 0), .inr (9, oX9 t_0_q t_0_x0 t_0_x4)), ((t_0_q 5), .inl (K 0, 144, .inl (fun j => iI (t_0_5_c j)))), ((t_q 3), .inl (K 0, 2304, .inl (fun j => iI (t_3_c j))))] → va_S A s.heap H locs → lv_has ls 4 [(0, .ref t), (1, .int (iI p1)), (2, .int (iI p2)), (3, .int (iI x2_3))] → W p l e ({ frames := 12, cells := 0, slots := 0, locals := 300 } : Room) s m ag below meth c H locs 0 0 Q (F0 m 42 ls []) := by
        intro  H locs ls hf42 hP hD hS hl
        refine lv_iinc (v := iI (x2_3 + 1)) (lv' := [(3, .int (iI (x2_3 + 1))), (0, .ref t), (1, .int (iI p1)), (2, .int (iI p2))]) hx hb dX8_bestNext_42 hl (k := 3) rfl (iI_add _ _) (by decide) rfl (fun ls hl => ?_)
        refine lv_goto (tgt := 2) hx hb dX8_bestNext_45 (by decide) ?_
        exact ih2 (x2_3 + 1) _ _ ls (by omega) (by omega) (hP.sub [0, 1, 2, 3, 4] rfl) (hD.sub [0, 1, 2, 3, 4] (by decide) rfl) hS (lv_sub hl [1, 2, 3, 0] rfl)
      refine lv_iload_n hx hb dX8_bestNext_2 rfl (lv_at hl 3 rfl) ?_
      refine lv_aload_n hx hb dX8_bestNext_3 rfl (lv_at hl 0 rfl) ?_
      refine va_get (D := D) (own := RX8) (ci := 8) (v := .int (iI t_x1)) (C := RX8) (T := TX8) (N := 4) hx hb hts inb_X8 hown hK.1 hP 0 rfl rfl 1 (by decide) (hts _ wd_339) (fun _ h9 => h9) rfl dX8_bestNext_4 ?_
      have y4_1 : 0 ≤ t_x1 ∧ t_x1 ≤ 8 := hi_t
      refine g_icmp_ge (tgt := 48) hx hb (by omega) (by omega) dX8_bestNext_7 (by decide) (fun c7 => ?_) (fun c7 => ?_)
      · refine lv_bipush (v := iI 8) hx hb dX8_bestNext_48 (by decide) ?_
        rw [hQ]; exact fn_iret hx hb hr hlocks rfl hP hD hS ((fun _ => 0), (fun _ _ => 0)) ⟨8, rfl, by omega, trivial⟩ [0, 1, 2, 3, 4] (by decide) rfl dX8_bestNext_50
      · refine lv_iload_n hx hb dX8_bestNext_10 rfl (lv_at hl 1 rfl) ?_
        refine lv_iload_n hx hb dX8_bestNext_11 rfl (lv_at hl 3 rfl) ?_
        refine lv_ishr hx hb dX8_bestNext_12 ?_
        obtain ⟨w12, ew12, hw12⟩ := iI_shr p1 x2_3 (by omega) (by omega)
        refine fn_top (iI w12) ew12 ?_
        refine lv_iconst (v := iI 1) hx hb dX8_bestNext_13 rfl ?_
        refine lv_iand hx hb dX8_bestNext_14 ?_
        obtain ⟨w14, ew14, hw14⟩ := iI_and1 w12 (by omega)
        refine fn_top (iI w14) ew14 ?_
        refine lv_iconst (v := iI 1) hx hb dX8_bestNext_15 rfl ?_
        refine g_icmp_ne (tgt := 42) hx hb (by omega) (by omega) dX8_bestNext_16 (by decide) (fun c16 => ?_) (fun c16 => ?_)
        · exact J42  _ _ ls (by omega) (hP.sub [0, 1, 2, 3, 4] rfl) (hD.sub [0, 1, 2, 3, 4] (by decide) rfl) hS (lv_sub hl [0, 1, 2, 3] rfl)
        · refine lv_aload_n hx hb dX8_bestNext_19 rfl (lv_at hl 0 rfl) ?_
          refine lv_iload_n hx hb dX8_bestNext_20 rfl (lv_at hl 1 rfl) ?_
          refine lv_iload_n hx hb dX8_bestNext_21 rfl (lv_at hl 2 rfl) ?_
          refine lv_iload_n hx hb dX8_bestNext_22 rfl (lv_at hl 3 rfl) ?_
          refine fn_goi (wc := [(t, .inr (8, oX8 t_q t_x1)), ((t_q 2), .inl (K 0, 9, .inl (fun j => iI (t_2_c j)))), ((t_q 0), .inr (9, oX9 t_0_q t_0_x0 t_0_x4)), ((t_0_q 5), .inl (K 0, 144, .inl (fun j => iI (t_0_5_c j)))), ((t_q 3), .inl (K 0, 2304, .inl (fun j => iI (t_3_c j))))]) (wr := []) hK hP hD hS hA [0, 1, 2, 3, 4] [] rfl rfl (by decide) (fun hp => va_runV (C := RX8) (As := [.int (iI p1), .int (iI p2), .int (iI x2_3)]) (rest := []) ⟨hx, hb, hml, hown, hts⟩ (k_X8_costBy (l := l) (D := D) (K := K) (t := t) (p1 := p1) (p2 := p2) (p3 := x2_3) (t_q := t_q) (t_x1 := t_x1) (t_2_c := t_2_c) (t_0_q := t_0_q) (t_0_x0 := t_0_x0) (t_0_x4 := t_0_x4) (t_0_5_c := t_0_5_c) (t_3_c := t_3_c) (hp1 := (by omega)) (hp2 := (by omega)) (hp3 := (by omega)) (hi_t := hi_t) (hc_t_2 := hc_t_2) (hi_t_0 := hi_t_0) (hc_t_0_5 := hc_t_0_5) (hc_t_3 := hc_t_3) _) (cwV 3 hts (fn_ginV (fn_gin wd_991) wd_988 wd_990 wp_65 wd_8) rfl rfl rfl (by decide +kernel) ⟨Nat.le_of_ble_eq_true rfl, Nat.le_of_ble_eq_true rfl⟩) ⟨fn_blind, va_recv hK.1 hP (ci := 8) (q0 := 0) rfl rfl, hp⟩ rfl rfl hl.1 rfl (lv_room (Nat.le_of_ble_eq_true rfl)) dX8_bestNext_23 ⟨Nat.le_of_ble_eq_true rfl, Nat.le_of_ble_eq_true rfl⟩) (fun r23 u23 H locs hwu23 hP hD hS => ?_)
          obtain ⟨u23a, u23b⟩ := u23
          obtain ⟨kr23, rfl, hkr23, -⟩ := hwu23
          have hP : va_P D vwCl [(t, .inr (8, oX8 t_q t_x1)), ((t_q 2), .inl (K 0, 9, .inl (fun j => iI (t_2_c j)))), ((t_q 0), .inr (9, oX9 t_0_q t_0_x0 t_0_x4)), ((t_0_q 5), .inl (K 0, 144, .inl (fun j => iI (t_0_5_c j)))), ((t_q 3), .inl (K 0, 2304, .inl (fun j => iI (t_3_c j))))] H := hP
          have hD : va_D A [(t, .inr (8, oX8 t_q t_x1)), ((t_q 2), .inl (K 0, 9, .inl (fun j => iI (t_2_c j)))), ((t_q 0), .inr (9, oX9 t_0_q t_0_x0 t_0_x4)), ((t_0_q 5), .inl (K 0, 144, .inl (fun j => iI (t_0_5_c j)))), ((t_q 3), .inl (K 0, 2304, .inl (fun j => iI (t_3_c j))))] := hD
          refine lv_aload_n hx hb dX8_bestNext_26 rfl (lv_at hl 0 rfl) ?_
          refine va_get (D := D) (own := RX8) (ci := 8) (v := .ref (t_q 3)) (C := RX8) (T := TX8) (N := 4) hx hb hts inb_X8 hown hK.1 hP 0 rfl rfl 3 (by decide) (hts _ wd_341) (fun _ h9 => h9) rfl dX8_bestNext_27 ?_
          refine lv_iload_n hx hb dX8_bestNext_30 rfl (lv_at hl 1 rfl) ?_
          refine fn_at 31 rfl ?_
          refine lv_bipush (v := iI 9) hx hb dX8_bestNext_31 (by decide) ?_
          refine g_imul hx hb dX8_bestNext_33 ?_
          refine lv_iload_n hx hb dX8_bestNext_34 rfl (lv_at hl 2 rfl) ?_
          refine g_iadd hx hb dX8_bestNext_35 ?_
          refine g_iald hx hb hK.1 hP 4 0 rfl rfl (by omega) (by omega) (by decide) dX8_bestNext_36 ?_
          have y36 : (-2147483648) ≤ (t_3_c ((p1 * 9 + p2).toNat)) ∧ (t_3_c ((p1 * 9 + p2).toNat)) ≤ 2147483647 := hc_t_3 ((p1 * 9 + p2).toNat)
          refine g_icmp_ne (tgt := 42) hx hb (by omega) (by omega) dX8_bestNext_37 (by decide) (fun c37 => ?_) (fun c37 => ?_)
          · exact J42  _ _ ls (by omega) (hP.sub [0, 1, 2, 3, 4] rfl) (hD.sub [0, 1, 2, 3, 4] (by decide) rfl) hS (lv_sub hl [0, 1, 2, 3] rfl)
          · refine lv_iload_n hx hb dX8_bestNext_40 rfl (lv_at hl 3 rfl) ?_
            rw [hQ]; exact fn_iret hx hb hr hlocks rfl hP hD hS ((fun _ => 0), (fun _ _ => 0)) ⟨x2_3, rfl, by omega, trivial⟩ [0, 1, 2, 3, 4] (by decide) rfl dX8_bestNext_41
  have hl : lv_has ls 4 [(0, .ref t), (1, .int (iI p1)), (2, .int (iI p2))] := hl
  refine lv_iconst (v := iI 0) hx hb dX8_bestNext_0 rfl ?_
  refine lv_istore_n (lv' := [(3, .int (iI 0)), (0, .ref t), (1, .int (iI p1)), (2, .int (iI p2))]) hx hb dX8_bestNext_1 rfl hl (by decide) rfl (fun ls hl => ?_)
  exact J2 _ 0 _ _ ls (Nat.lt_succ_self _) (by omega) (hP.sub [0, 1, 2, 3, 4] rfl) (hD.sub [0, 1, 2, 3, 4] (by decide) rfl) hS (lv_sub hl [1, 2, 3, 0] rfl)
theorem wd_1009 : Cond.code ⟨"FootNotes$Tour", "bestNext", "(II)I"⟩ prog_10_method_10_code 4 (Option.some Jvm.ClassFile.FieldType.int) ∈ fn_big := fn_tb (fn_l5 (List.mem_of_getElem? (i := 49) (by decide +kernel))) (by decide +kernel)
theorem wd_1006 : Cond.methodLink "FootNotes$Tour" 44 ⟨"FootNotes$Tour", "bestNext", "(II)I"⟩ ∈ fn_big := fn_tb (fn_l5 (List.mem_of_getElem? (i := 46) (by decide +kernel))) (by decide +kernel)
theorem wd_1008 : Cond.instanceMethod ⟨"FootNotes$Tour", "bestNext", "(II)I"⟩ ∈ fn_big := fn_tb (fn_l5 (List.mem_of_getElem? (i := 48) (by decide +kernel))) (by decide +kernel)
theorem wp_68 : Cond.selects "FootNotes$Tour" ⟨"FootNotes$Tour", "bestNext", "(II)I"⟩ ⟨"FootNotes$Tour", "bestNext", "(II)I"⟩ ∈ fn_big := fn_sel (q := (⟨"FootNotes$Tour", "bestNext", "(II)I"⟩, 4)) 68 (by decide +kernel) (by decide +kernel)
theorem dX8_stopAt_11 : decode cX8_stopAt 11 = .ok (.iload 4, 2) := by decide +kernel
theorem dX8_stopAt_13 : decode cX8_stopAt 13 = .ok (.iload_n 1, 1) := by decide +kernel
theorem dX8_stopAt_14 : decode cX8_stopAt 14 = .ok (.if_icmp .gt 28, 3) := by decide +kernel
theorem dX8_stopAt_42 : decode cX8_stopAt 42 = .ok (.aload_n 0, 1) := by decide +kernel
theorem dX8_stopAt_43 : decode cX8_stopAt 43 = .ok (.getfield 18, 3) := by decide +kernel
theorem dX8_stopAt_46 : decode cX8_stopAt 46 = .ok (.iload_n 3, 1) := by decide +kernel
theorem dX8_stopAt_47 : decode cX8_stopAt 47 = .ok (.iaload, 1) := by decide +kernel
theorem dX8_stopAt_48 : decode cX8_stopAt 48 = .ok (.ireturn, 1) := by decide +kernel
theorem dX8_stopAt_17 : decode cX8_stopAt 17 = .ok (.iload_n 2, 1) := by decide +kernel
theorem dX8_stopAt_18 : decode cX8_stopAt 18 = .ok (.ifCond .eq 24, 3) := by decide +kernel
theorem dX8_stopAt_21 : decode cX8_stopAt 21 = .ok (.aload_n 0, 1) := by decide +kernel
theorem dX8_stopAt_22 : decode cX8_stopAt 22 = .ok (.iload_n 2, 1) := by decide +kernel
theorem dX8_stopAt_23 : decode cX8_stopAt 23 = .ok (.iload_n 3, 1) := by decide +kernel
theorem dX8_stopAt_24 : decode cX8_stopAt 24 = .ok (.invokevirtual 44, 3) := by decide +kernel
theorem dX8_stopAt_27 : decode cX8_stopAt 27 = .ok (.istore_n 3, 1) := by decide +kernel
theorem dX8_stopAt_28 : decode cX8_stopAt 28 = .ok (.iload_n 2, 1) := by decide +kernel
theorem dX8_stopAt_29 : decode cX8_stopAt 29 = .ok (.iconst 1, 1) := by decide +kernel
theorem dX8_stopAt_30 : decode cX8_stopAt 30 = .ok (.iload_n 3, 1) := by decide +kernel
theorem dX8_stopAt_31 : decode cX8_stopAt 31 = .ok (.ishl, 1) := by decide +kernel
theorem dX8_stopAt_32 : decode cX8_stopAt 32 = .ok (.iconst (-1), 1) := by decide +kernel
theorem dX8_stopAt_33 : decode cX8_stopAt 33 = .ok (.ixor, 1) := by decide +kernel
theorem dX8_stopAt_34 : decode cX8_stopAt 34 = .ok (.iand, 1) := by decide +kernel
theorem dX8_stopAt_35 : decode cX8_stopAt 35 = .ok (.istore_n 2, 1) := by decide +kernel
theorem dX8_stopAt_36 : decode cX8_stopAt 36 = .ok (.iinc 4 1, 3) := by decide +kernel
theorem dX8_stopAt_39 : decode cX8_stopAt 39 = .ok (.goto (-28), 3) := by decide +kernel
theorem dX8_stopAt_0 : decode cX8_stopAt 0 = .ok (.aload_n 0, 1) := by decide +kernel
theorem dX8_stopAt_1 : decode cX8_stopAt 1 = .ok (.invokevirtual 29, 3) := by decide +kernel
theorem dX8_stopAt_4 : decode cX8_stopAt 4 = .ok (.istore_n 2, 1) := by decide +kernel
theorem dX8_stopAt_5 : decode cX8_stopAt 5 = .ok (.bipush 8, 2) := by decide +kernel
theorem dX8_stopAt_7 : decode cX8_stopAt 7 = .ok (.istore_n 3, 1) := by decide +kernel
theorem dX8_stopAt_8 : decode cX8_stopAt 8 = .ok (.iconst 0, 1) := by decide +kernel
theorem dX8_stopAt_9 : decode cX8_stopAt 9 = .ok (.istore 4, 2) := by decide +kernel
set_option maxHeartbeats 4000000 in
set_option maxRecDepth 100000 in
theorem k_X8_stopAt (l : Launch) (D : va_G) (K : Nat → ClassId) (t : Nat) (t_q t_0_q : Nat → Nat) (p1 t_x1 t_0_x0 t_0_x4 : Int) (t_2_c : Nat → Int) (t_0_5_c : Nat → Int) (t_3_c : Nat → Int) (hp1 : 0 ≤ p1 ∧ p1 ≤ 7) (hi_t : bX8 t_x1) (hc_t_2 : ∀ j : Nat, 0 ≤ t_2_c j ∧ t_2_c j ≤ 11) (hi_t_0 : bX9 t_0_x0 t_0_x4) (hc_t_0_5 : ∀ j : Nat, (-2147483648) ≤ t_0_5_c j ∧ t_0_5_c j ≤ 2147483647) (hc_t_3 : ∀ j : Nat, (-2147483648) ≤ t_3_c j ∧ t_3_c j ≤ 2147483647) : fn_CI (S := (Nat → Int) × (Nat → Nat → Int)) l D K yX8_stopAt (fn_ws yX8_stopAt cX8_stopAt 5 (some .int)) ({ frames := 16, cells := 0, slots := 0, locals := 400 } : Room) [.ref t, .int (iI p1)] [(t, .inr (8, oX8 t_q t_x1)), ((t_q 2), .inl (K 0, 9, .inl (fun j => iI (t_2_c j)))), ((t_q 0), .inr (9, oX9 t_0_q t_0_x0 t_0_x4)), ((t_0_q 5), .inl (K 0, 144, .inl (fun j => iI (t_0_5_c j)))), ((t_q 3), .inl (K 0, 2304, .inl (fun j => iI (t_3_c j))))] (fun r u => ∃ k : Int, r = iI k ∧ (0 ≤ k ∧ k ≤ 11) ∧ True) (fun u => [(t, .inr (8, oX8 t_q t_x1)), ((t_q 2), .inl (K 0, 9, .inl (fun j => iI (t_2_c j)))), ((t_q 0), .inr (9, oX9 t_0_q t_0_x0 t_0_x4)), ((t_0_q 5), .inl (K 0, 144, .inl (fun j => iI (t_0_5_c j)))), ((t_q 3), .inl (K 0, 2304, .inl (fun j => iI (t_3_c j))))]) 0 0 := by
  refine g_inI (cc := cX8_stopAt) (maxL := 5) (ret := (some .int)) (by decide) rfl (Nat.le_of_ble_eq_true rfl) ?_
  intro p e s m below meth c A ls ag Q B hA hP hD hS hl hQ
  obtain ⟨hx, hb, hr, hml, hts, hown, hlocks, hin, hK⟩ := B
  have hown : s.vm.findClass RX8 = some m.cls := hown
  have hts := fun w h => hts w (List.mem_cons_of_mem _ h)
  have J11 : ∀ (n : Nat) (x11_2 : Int) (x11_3 : Int) (x11_4 : Int) (H : Heap) (locs : List Loc) (ls : Array Slot), (8 - x11_4).toNat < n → (0 ≤ x11_2 ∧ x11_2 ≤ 255 ∧ 0 ≤ x11_3 ∧ x11_3 ≤ 8 ∧ 0 ≤ x11_4 ∧ x11_4 ≤ 8) → va_P D vwCl [(t, .inr (8, oX8 t_q t_x1)), ((t_q 2), .inl (K 0, 9, .inl (fun j => iI (t_2_c j)))), ((t_q 0), .inr (9, oX9 t_0_q t_0_x0 t_0_x4)), ((t_0_q 5), .inl (K 0, 144, .inl (fun j => iI (t_0_5_c j)))), ((t_q 3), .inl (K 0, 2304, .inl (fun j => iI (t_3_c j))))] H → va_D A [(t, .inr (8, oX8 t_q t_x1)), ((t_q 2), .inl (K 0, 9, .inl (fun j => iI (t_2_c j)))), ((t_q 0), .inr (9, oX9 t_0_q t_0_x0 t_0_x4)), ((t_0_q 5), .inl (K 0, 144, .inl (fun j => iI (t_0_5_c j)))), ((t_q 3), .inl (K 0, 2304, .inl (fun j => iI (t_3_c j))))] → va_S A s.heap H locs → lv_has ls 5 [(0, .ref t), (1, .int (iI p1)), (2, .int (iI x11_2)), (3, .int (iI x11_3)), (4, .int (iI x11_4))] → W p l e ({ frames := 16, cells := 0, slots := 0, locals := 400 } : Room) s m ag below meth c H locs 0 0 Q (F0 m 11 ls []) := by
    intro n
    induction n with
    | zero =>
      intro x11_2 x11_3 x11_4 H locs ls hm11 hf11 hP hD hS hl
      exact absurd hm11 (Nat.not_lt_zero _)
    | succ n ih11 =>
      intro x11_2 x11_3 x11_4 H locs ls hm11 hf11 hP hD hS hl
      refine lv_iload hx hb dX8_stopAt_11 (lv_at hl 4 rfl) ?_
      refine lv_iload_n hx hb dX8_stopAt_13 rfl (lv_at hl 1 rfl) ?_
      refine g_icmp_gt (tgt := 42) hx hb (by omega) (by omega) dX8_stopAt_14 (by decide) (fun c14 => ?_) (fun c14 => ?_)
      · refine lv_aload_n hx hb dX8_stopAt_42 rfl (lv_at hl 0 rfl) ?_
        refine va_get (D := D) (own := RX8) (ci := 8) (v := .ref (t_q 2)) (C := RX8) (T := TX8) (N := 4) hx hb hts inb_X8 hown hK.1 hP 0 rfl rfl 2 (by decide) (hts _ wd_340) (fun _ h9 => h9) rfl dX8_stopAt_43 ?_
        refine lv_iload_n hx hb dX8_stopAt_46 rfl (lv_at hl 3 rfl) ?_
        refine g_iald hx hb hK.1 hP 1 0 rfl rfl (by omega) (by omega) (by decide) dX8_stopAt_47 ?_
        have y47 : 0 ≤ (t_2_c x11_3.toNat) ∧ (t_2_c x11_3.toNat) ≤ 11 := hc_t_2 x11_3.toNat
        rw [hQ]; exact fn_iret hx hb hr hlocks rfl hP hD hS ((fun _ => 0), (fun _ _ => 0)) ⟨t_2_c x11_3.toNat, rfl, by omega, trivial⟩ [0, 1, 2, 3, 4] (by decide) rfl dX8_stopAt_48
      · refine lv_iload_n hx hb dX8_stopAt_17 rfl (lv_at hl 2 rfl) ?_
        refine g_if_eq (tgt := 42) hx hb (by omega) dX8_stopAt_18 (by decide) (fun c18 => ?_) (fun c18 => ?_)
        · refine lv_aload_n hx hb dX8_stopAt_42 rfl (lv_at hl 0 rfl) ?_
          refine va_get (D := D) (own := RX8) (ci := 8) (v := .ref (t_q 2)) (C := RX8) (T := TX8) (N := 4) hx hb hts inb_X8 hown hK.1 hP 0 rfl rfl 2 (by decide) (hts _ wd_340) (fun _ h9 => h9) rfl dX8_stopAt_43 ?_
          refine lv_iload_n hx hb dX8_stopAt_46 rfl (lv_at hl 3 rfl) ?_
          refine g_iald hx hb hK.1 hP 1 0 rfl rfl (by omega) (by omega) (by decide) dX8_stopAt_47 ?_
          have y47 : 0 ≤ (t_2_c x11_3.toNat) ∧ (t_2_c x11_3.toNat) ≤ 11 := hc_t_2 x11_3.toNat
          rw [hQ]; exact fn_iret hx hb hr hlocks rfl hP hD hS ((fun _ => 0), (fun _ _ => 0)) ⟨t_2_c x11_3.toNat, rfl, by omega, trivial⟩ [0, 1, 2, 3, 4] (by decide) rfl dX8_stopAt_48
        · refine lv_aload_n hx hb dX8_stopAt_21 rfl (lv_at hl 0 rfl) ?_
          refine lv_iload_n hx hb dX8_stopAt_22 rfl (lv_at hl 2 rfl) ?_
          refine lv_iload_n hx hb dX8_stopAt_23 rfl (lv_at hl 3 rfl) ?_
          refine fn_goi (wc := [(t, .inr (8, oX8 t_q t_x1)), ((t_q 2), .inl (K 0, 9, .inl (fun j => iI (t_2_c j)))), ((t_q 0), .inr (9, oX9 t_0_q t_0_x0 t_0_x4)), ((t_0_q 5), .inl (K 0, 144, .inl (fun j => iI (t_0_5_c j)))), ((t_q 3), .inl (K 0, 2304, .inl (fun j => iI (t_3_c j))))]) (wr := []) hK hP hD hS hA [0, 1, 2, 3, 4] [] rfl rfl (by decide) (fun hp => va_runV (C := RX8) (As := [.int (iI x11_2), .int (iI x11_3)]) (rest := []) ⟨hx, hb, hml, hown, hts⟩ (k_X8_bestNext (l := l) (D := D) (K := K) (t := t) (p1 := x11_2) (p2 := x11_3) (t_q := t_q) (t_x1 := t_x1) (t_2_c := t_2_c) (t_0_q := t_0_q) (t_0_x0 := t_0_x0) (t_0_x4 := t_0_x4) (t_0_5_c := t_0_5_c) (t_3_c := t_3_c) (hp1 := (by omega)) (hp2 := (by omega)) (hi_t := hi_t) (hc_t_2 := hc_t_2) (hi_t_0 := hi_t_0) (hc_t_0_5 := hc_t_0_5) (hc_t_3 := hc_t_3) _) (cwV 2 hts (fn_ginV (fn_gin wd_1009) wd_1006 wd_1008 wp_68 wd_8) rfl rfl rfl (by decide +kernel) ⟨Nat.le_of_ble_eq_true rfl, Nat.le_of_ble_eq_true rfl⟩) ⟨fn_blind, va_recv hK.1 hP (ci := 8) (q0 := 0) rfl rfl, hp⟩ rfl rfl hl.1 rfl (lv_room (Nat.le_of_ble_eq_true rfl)) dX8_stopAt_24 ⟨Nat.le_of_ble_eq_true rfl, Nat.le_of_ble_eq_true rfl⟩) (fun r24 u24 H locs hwu24 hP hD hS => ?_)
          obtain ⟨u24a, u24b⟩ := u24
          obtain ⟨kr24, rfl, hkr24, -⟩ := hwu24
          have hP : va_P D vwCl [(t, .inr (8, oX8 t_q t_x1)), ((t_q 2), .inl (K 0, 9, .inl (fun j => iI (t_2_c j)))), ((t_q 0), .inr (9, oX9 t_0_q t_0_x0 t_0_x4)), ((t_0_q 5), .inl (K 0, 144, .inl (fun j => iI (t_0_5_c j)))), ((t_q 3), .inl (K 0, 2304, .inl (fun j => iI (t_3_c j))))] H := hP
          have hD : va_D A [(t, .inr (8, oX8 t_q t_x1)), ((t_q 2), .inl (K 0, 9, .inl (fun j => iI (t_2_c j)))), ((t_q 0), .inr (9, oX9 t_0_q t_0_x0 t_0_x4)), ((t_0_q 5), .inl (K 0, 144, .inl (fun j => iI (t_0_5_c j)))), ((t_q 3), .inl (K 0, 2304, .inl (fun j => iI (t_3_c j))))] := hD
          refine lv_istore_n (lv' := [(3, .int (iI kr24)), (0, .ref t), (1, .int (iI p1)), (2, .int (iI x11_2)), (4, .int (iI x11_4))]) hx hb dX8_stopAt_27 rfl hl (by decide) rfl (fun ls hl => ?_)
          refine lv_iload_n hx hb dX8_stopAt_28 rfl (lv_at hl 3 rfl) ?_
          refine lv_iconst (v := iI 1) hx hb dX8_stopAt_29 rfl ?_
          refine lv_iload_n hx hb dX8_stopAt_30 rfl (lv_at hl 0 rfl) ?_
          refine lv_ishl hx hb dX8_stopAt_31 ?_
          obtain ⟨w31, ew31, hw31⟩ := iI_shl1 8 kr24 (by omega) (by omega) (by decide)
          refine fn_top (iI w31) ew31 ?_
          refine lv_iconst (v := iI (-1)) hx hb dX8_stopAt_32 rfl ?_
          refine lv_ixor hx hb dX8_stopAt_33 ?_
          obtain ⟨w33, ew33, hw33⟩ := iI_not w31 (by omega)
          refine fn_top (iI w33) ew33 ?_
          refine lv_iand hx hb dX8_stopAt_34 ?_
          obtain ⟨w34, ew34, hw34⟩ := iI_and2 x11_2 w33 (by omega)
          refine fn_top (iI w34) ew34 ?_
          refine lv_istore_n (lv' := [(2, .int (iI w34)), (3, .int (iI kr24)), (0, .ref t), (1, .int (iI p1)), (4, .int (iI x11_4))]) hx hb dX8_stopAt_35 rfl hl (by decide) rfl (fun ls hl => ?_)
          refine lv_iinc (v := iI (x11_4 + 1)) (lv' := [(4, .int (iI (x11_4 + 1))), (2, .int (iI w34)), (3, .int (iI kr24)), (0, .ref t), (1, .int (iI p1))]) hx hb dX8_stopAt_36 hl (k := 4) rfl (iI_add _ _) (by decide) rfl (fun ls hl => ?_)
          refine fn_at 39 rfl ?_
          refine lv_goto (tgt := 11) hx hb dX8_stopAt_39 (by decide) ?_
          exact ih11 w34 kr24 (x11_4 + 1) _ _ ls (by omega) (by omega) (hP.sub [0, 1, 2, 3, 4] rfl) (hD.sub [0, 1, 2, 3, 4] (by decide) rfl) hS (lv_sub hl [3, 4, 1, 2, 0] rfl)
  have hl : lv_has ls 5 [(0, .ref t), (1, .int (iI p1))] := hl
  refine lv_aload_n hx hb dX8_stopAt_0 rfl (lv_at hl 0 rfl) ?_
  refine fn_goi (wc := [(t, .inr (8, oX8 t_q t_x1))]) (wr := [((t_q 2), .inl (K 0, 9, .inl (fun j => iI (t_2_c j)))), ((t_q 0), .inr (9, oX9 t_0_q t_0_x0 t_0_x4)), ((t_0_q 5), .inl (K 0, 144, .inl (fun j => iI (t_0_5_c j)))), ((t_q 3), .inl (K 0, 2304, .inl (fun j => iI (t_3_c j))))]) hK hP hD hS hA [0] [1, 2, 3, 4] rfl rfl (by decide) (fun hp => va_runV (C := RX8) (As := []) (rest := []) ⟨hx, hb, hml, hown, hts⟩ (k_X8_all (l := l) (D := D) (K := K) (t := t) (t_q := t_q) (t_x1 := t_x1) (hi_t := hi_t) _) (cwV 0 hts (fn_ginV (fn_gin wd_983) wd_980 wd_982 wp_63 wd_8) rfl rfl rfl (by decide +kernel) ⟨Nat.le_of_ble_eq_true rfl, Nat.le_of_ble_eq_true rfl⟩) ⟨fn_blind, va_recv hK.1 hP (ci := 8) (q0 := 0) rfl rfl, hp⟩ rfl rfl hl.1 rfl (lv_room (Nat.le_of_ble_eq_true rfl)) dX8_stopAt_1 ⟨Nat.le_of_ble_eq_true rfl, Nat.le_of_ble_eq_true rfl⟩) (fun r1 u1 H locs hwu1 hP hD hS => ?_)
  obtain ⟨u1a, u1b⟩ := u1
  obtain ⟨kr1, rfl, hkr1, -⟩ := hwu1
  have hP : va_P D vwCl [((t_q 2), .inl (K 0, 9, .inl (fun j => iI (t_2_c j)))), ((t_q 0), .inr (9, oX9 t_0_q t_0_x0 t_0_x4)), ((t_0_q 5), .inl (K 0, 144, .inl (fun j => iI (t_0_5_c j)))), ((t_q 3), .inl (K 0, 2304, .inl (fun j => iI (t_3_c j)))), (t, .inr (8, oX8 t_q t_x1))] H := hP
  have hD : va_D A [((t_q 2), .inl (K 0, 9, .inl (fun j => iI (t_2_c j)))), ((t_q 0), .inr (9, oX9 t_0_q t_0_x0 t_0_x4)), ((t_0_q 5), .inl (K 0, 144, .inl (fun j => iI (t_0_5_c j)))), ((t_q 3), .inl (K 0, 2304, .inl (fun j => iI (t_3_c j)))), (t, .inr (8, oX8 t_q t_x1))] := hD
  refine lv_istore_n (lv' := [(2, .int (iI kr1)), (0, .ref t), (1, .int (iI p1))]) hx hb dX8_stopAt_4 rfl hl (by decide) rfl (fun ls hl => ?_)
  refine lv_bipush (v := iI 8) hx hb dX8_stopAt_5 (by decide) ?_
  refine lv_istore_n (lv' := [(3, .int (iI 8)), (2, .int (iI kr1)), (0, .ref t), (1, .int (iI p1))]) hx hb dX8_stopAt_7 rfl hl (by decide) rfl (fun ls hl => ?_)
  refine lv_iconst (v := iI 0) hx hb dX8_stopAt_8 rfl ?_
  refine lv_istore (lv' := [(4, .int (iI 0)), (3, .int (iI 8)), (2, .int (iI kr1)), (0, .ref t), (1, .int (iI p1))]) hx hb dX8_stopAt_9 hl (by decide) rfl (fun ls hl => ?_)
  exact J11 _ kr1 8 0 _ _ ls (Nat.lt_succ_self _) (by omega) (hP.sub [4, 0, 1, 2, 3] rfl) (hD.sub [4, 0, 1, 2, 3] (by decide) rfl) hS (lv_sub hl [3, 4, 2, 1, 0] rfl)
theorem wd_1023 : Cond.methodLink "FootNotes$Tour" 51 ⟨"java/lang/Math", "max", "(II)I"⟩ ∈ fn_big := fn_tb (fn_l5 (List.mem_of_getElem? (i := 63) (by decide +kernel))) (by decide +kernel)
theorem wd_812 : Cond.static ⟨"java/lang/Math", "max", "(II)I"⟩ ∈ fn_big := fn_tb (fn_l4 (List.mem_of_getElem? (i := 92) (by decide +kernel))) (by decide +kernel)
theorem wd_813 : Cond.code ⟨"java/lang/Math", "max", "(II)I"⟩ prog_16_method_65_code 2 (Option.some Jvm.ClassFile.FieldType.int) ∈ fn_big := fn_tb (fn_l4 (List.mem_of_getElem? (i := 93) (by decide +kernel))) (by decide +kernel)
theorem wd_997 : Cond.code ⟨"FootNotes$Tour", "fewestFor", "(I)I"⟩ prog_10_method_8_code 2 (Option.some Jvm.ClassFile.FieldType.int) ∈ fn_big := fn_tb (fn_l5 (List.mem_of_getElem? (i := 37) (by decide +kernel))) (by decide +kernel)
theorem wd_1022 : Cond.methodLink "FootNotes$Tour" 47 ⟨"FootNotes$Tour", "fewestFor", "(I)I"⟩ ∈ fn_big := fn_tb (fn_l5 (List.mem_of_getElem? (i := 62) (by decide +kernel))) (by decide +kernel)
theorem wd_996 : Cond.instanceMethod ⟨"FootNotes$Tour", "fewestFor", "(I)I"⟩ ∈ fn_big := fn_tb (fn_l5 (List.mem_of_getElem? (i := 36) (by decide +kernel))) (by decide +kernel)
theorem wp_66 : Cond.selects "FootNotes$Tour" ⟨"FootNotes$Tour", "fewestFor", "(I)I"⟩ ⟨"FootNotes$Tour", "fewestFor", "(I)I"⟩ ∈ fn_big := fn_sel (q := (⟨"FootNotes$Tour", "fewestFor", "(I)I"⟩, 4)) 66 (by decide +kernel) (by decide +kernel)
theorem dX8_longerOf_0 : decode cX8_longerOf 0 = .ok (.aload_n 0, 1) := by decide +kernel
theorem dX8_longerOf_1 : decode cX8_longerOf 1 = .ok (.iload_n 1, 1) := by decide +kernel
theorem dX8_longerOf_2 : decode cX8_longerOf 2 = .ok (.invokevirtual 47, 3) := by decide +kernel
theorem dX8_longerOf_5 : decode cX8_longerOf 5 = .ok (.aload_n 0, 1) := by decide +kernel
theorem dX8_longerOf_6 : decode cX8_longerOf 6 = .ok (.aload_n 0, 1) := by decide +kernel
theorem dX8_longerOf_7 : decode cX8_longerOf 7 = .ok (.invokevirtual 29, 3) := by decide +kernel
theorem dX8_longerOf_10 : decode cX8_longerOf 10 = .ok (.iload_n 1, 1) := by decide +kernel
theorem dX8_longerOf_11 : decode cX8_longerOf 11 = .ok (.iconst (-1), 1) := by decide +kernel
theorem dX8_longerOf_12 : decode cX8_longerOf 12 = .ok (.ixor, 1) := by decide +kernel
theorem dX8_longerOf_13 : decode cX8_longerOf 13 = .ok (.iand, 1) := by decide +kernel
theorem dX8_longerOf_14 : decode cX8_longerOf 14 = .ok (.invokevirtual 47, 3) := by decide +kernel
theorem dX8_longerOf_17 : decode cX8_longerOf 17 = .ok (.invokestatic 51, 3) := by decide +kernel
theorem dX8_longerOf_20 : decode cX8_longerOf 20 = .ok (.ireturn, 1) := by decide +kernel
set_option maxHeartbeats 4000000 in
set_option maxRecDepth 100000 in
theorem k_X8_longerOf (l : Launch) (D : va_G) (K : Nat → ClassId) (t : Nat) (t_q : Nat → Nat) (p1 t_x1 : Int) (t_3_c : Nat → Int) (hp1 : 0 ≤ p1 ∧ p1 ≤ 255) (hi_t : bX8 t_x1) (hc_t_3 : ∀ j : Nat, (-2147483648) ≤ t_3_c j ∧ t_3_c j ≤ 2147483647) : fn_CI (S := (Nat → Int) × (Nat → Nat → Int)) l D K yX8_longerOf (fn_ws yX8_longerOf cX8_longerOf 2 (some .int)) ({ frames := 8, cells := 0, slots := 0, locals := 200 } : Room) [.ref t, .int (iI p1)] [(t, .inr (8, oX8 t_q t_x1)), ((t_q 3), .inl (K 0, 2304, .inl (fun j => iI (t_3_c j))))] (fun r u => ∃ k : Int, r = iI k ∧ ((-2147483648) ≤ k ∧ k ≤ 2147483647) ∧ True) (fun u => [(t, .inr (8, oX8 t_q t_x1)), ((t_q 3), .inl (K 0, 2304, .inl (fun j => iI (t_3_c j))))]) 0 0 := by
  refine g_inI (cc := cX8_longerOf) (maxL := 2) (ret := (some .int)) (by decide) rfl (Nat.le_of_ble_eq_true rfl) ?_
  intro p e s m below meth c A ls ag Q B hA hP hD hS hl hQ
  obtain ⟨hx, hb, hr, hml, hts, hown, hlocks, hin, hK⟩ := B
  have hown : s.vm.findClass RX8 = some m.cls := hown
  have hts := fun w h => hts w (List.mem_cons_of_mem _ h)
  have hl : lv_has ls 2 [(0, .ref t), (1, .int (iI p1))] := hl
  refine lv_aload_n hx hb dX8_longerOf_0 rfl (lv_at hl 0 rfl) ?_
  refine lv_iload_n hx hb dX8_longerOf_1 rfl (lv_at hl 1 rfl) ?_
  refine fn_goi (wc := [(t, .inr (8, oX8 t_q t_x1)), ((t_q 3), .inl (K 0, 2304, .inl (fun j => iI (t_3_c j))))]) (wr := []) hK hP hD hS hA [0, 1] [] rfl rfl (by decide) (fun hp => va_runV (C := RX8) (As := [.int (iI p1)]) (rest := []) ⟨hx, hb, hml, hown, hts⟩ (k_X8_fewestFor (l := l) (D := D) (K := K) (t := t) (p1 := p1) (t_q := t_q) (t_x1 := t_x1) (t_3_c := t_3_c) (hp1 := (by omega)) (hi_t := hi_t) (hc_t_3 := hc_t_3) _) (cwV 1 hts (fn_ginV (fn_gin wd_997) wd_1022 wd_996 wp_66 wd_8) rfl rfl rfl (by decide +kernel) ⟨Nat.le_of_ble_eq_true rfl, Nat.le_of_ble_eq_true rfl⟩) ⟨fn_blind, va_recv hK.1 hP (ci := 8) (q0 := 0) rfl rfl, hp⟩ rfl rfl hl.1 rfl (lv_room (Nat.le_of_ble_eq_true rfl)) dX8_longerOf_2 ⟨Nat.le_of_ble_eq_true rfl, Nat.le_of_ble_eq_true rfl⟩) (fun r2 u2 H locs hwu2 hP hD hS => ?_)
  obtain ⟨u2a, u2b⟩ := u2
  obtain ⟨kr2, rfl, hkr2, -⟩ := hwu2
  have hP : va_P D vwCl [(t, .inr (8, oX8 t_q t_x1)), ((t_q 3), .inl (K 0, 2304, .inl (fun j => iI (t_3_c j))))] H := hP
  have hD : va_D A [(t, .inr (8, oX8 t_q t_x1)), ((t_q 3), .inl (K 0, 2304, .inl (fun j => iI (t_3_c j))))] := hD
  refine lv_aload_n hx hb dX8_longerOf_5 rfl (lv_at hl 0 rfl) ?_
  refine lv_aload_n hx hb dX8_longerOf_6 rfl (lv_at hl 0 rfl) ?_
  refine fn_goi (wc := [(t, .inr (8, oX8 t_q t_x1))]) (wr := [((t_q 3), .inl (K 0, 2304, .inl (fun j => iI (t_3_c j))))]) hK hP hD hS hA [0] [1] rfl rfl (by decide) (fun hp => va_runV (C := RX8) (As := []) (rest := [.ref t, .int (iI kr2)]) ⟨hx, hb, hml, hown, hts⟩ (k_X8_all (l := l) (D := D) (K := K) (t := t) (t_q := t_q) (t_x1 := t_x1) (hi_t := hi_t) _) (cwV 0 hts (fn_ginV (fn_gin wd_983) wd_980 wd_982 wp_63 wd_8) rfl rfl rfl (by decide +kernel) ⟨Nat.le_of_ble_eq_true rfl, Nat.le_of_ble_eq_true rfl⟩) ⟨fn_blind, va_recv hK.1 hP (ci := 8) (q0 := 0) rfl rfl, hp⟩ rfl rfl hl.1 rfl (lv_room (Nat.le_of_ble_eq_true rfl)) dX8_longerOf_7 ⟨Nat.le_of_ble_eq_true rfl, Nat.le_of_ble_eq_true rfl⟩) (fun r7 u7 H locs hwu7 hP hD hS => ?_)
  obtain ⟨u7a, u7b⟩ := u7
  obtain ⟨kr7, rfl, hkr7, -⟩ := hwu7
  have hP : va_P D vwCl [((t_q 3), .inl (K 0, 2304, .inl (fun j => iI (t_3_c j)))), (t, .inr (8, oX8 t_q t_x1))] H := hP
  have hD : va_D A [((t_q 3), .inl (K 0, 2304, .inl (fun j => iI (t_3_c j)))), (t, .inr (8, oX8 t_q t_x1))] := hD
  refine lv_iload_n hx hb dX8_longerOf_10 rfl (lv_at hl 1 rfl) ?_
  refine lv_iconst (v := iI (-1)) hx hb dX8_longerOf_11 rfl ?_
  refine lv_ixor hx hb dX8_longerOf_12 ?_
  obtain ⟨w12, ew12, hw12⟩ := iI_not p1 (by omega)
  refine fn_top (iI w12) ew12 ?_
  refine lv_iand hx hb dX8_longerOf_13 ?_
  obtain ⟨w13, ew13, hw13⟩ := iI_and2 kr7 w12 (by omega)
  refine fn_top (iI w13) ew13 ?_
  refine fn_goi (wc := [(t, .inr (8, oX8 t_q t_x1)), ((t_q 3), .inl (K 0, 2304, .inl (fun j => iI (t_3_c j))))]) (wr := []) hK hP hD hS hA [1, 0] [] rfl rfl (by decide) (fun hp => va_runV (C := RX8) (As := [.int (iI w13)]) (rest := [.int (iI kr2)]) ⟨hx, hb, hml, hown, hts⟩ (k_X8_fewestFor (l := l) (D := D) (K := K) (t := t) (p1 := w13) (t_q := t_q) (t_x1 := t_x1) (t_3_c := t_3_c) (hp1 := (by omega)) (hi_t := hi_t) (hc_t_3 := hc_t_3) _) (cwV 1 hts (fn_ginV (fn_gin wd_997) wd_1022 wd_996 wp_66 wd_8) rfl rfl rfl (by decide +kernel) ⟨Nat.le_of_ble_eq_true rfl, Nat.le_of_ble_eq_true rfl⟩) ⟨fn_blind, va_recv hK.1 hP (ci := 8) (q0 := 1) rfl rfl, hp⟩ rfl rfl hl.1 rfl (lv_room (Nat.le_of_ble_eq_true rfl)) dX8_longerOf_14 ⟨Nat.le_of_ble_eq_true rfl, Nat.le_of_ble_eq_true rfl⟩) (fun r14 u14 H locs hwu14 hP hD hS => ?_)
  obtain ⟨u14a, u14b⟩ := u14
  obtain ⟨kr14, rfl, hkr14, -⟩ := hwu14
  have hP : va_P D vwCl [(t, .inr (8, oX8 t_q t_x1)), ((t_q 3), .inl (K 0, 2304, .inl (fun j => iI (t_3_c j))))] H := hP
  have hD : va_D A [(t, .inr (8, oX8 t_q t_x1)), ((t_q 3), .inl (K 0, 2304, .inl (fun j => iI (t_3_c j))))] := hD
  refine g_mmax (own := RX8) hx hb (hml.trans hl.1.symm) hown (hts _ wd_1023) (hts _ wd_812) (hts _ wd_18) (hts _ wd_813) (by omega) (by omega) (Nat.le_of_ble_eq_true rfl) (Nat.le_of_ble_eq_true rfl) (Nat.le_of_ble_eq_true rfl) (Nat.le_of_ble_eq_true rfl) dX8_longerOf_17 (fun w17 hw17 => ?_)
  rw [hQ]; exact fn_iret hx hb hr hlocks rfl hP hD hS ((fun _ => 0), (fun _ _ => 0)) ⟨w17, rfl, by omega, trivial⟩ [0, 1] (by decide) rfl dX8_longerOf_20
theorem wd_1021 : Cond.code ⟨"FootNotes$Tour", "longerOf", "(I)I"⟩ prog_10_method_11_code 2 (Option.some Jvm.ClassFile.FieldType.int) ∈ fn_big := fn_tb (fn_l5 (List.mem_of_getElem? (i := 61) (by decide +kernel))) (by decide +kernel)
theorem wd_1018 : Cond.methodLink "FootNotes$Tour" 56 ⟨"FootNotes$Tour", "longerOf", "(I)I"⟩ ∈ fn_big := fn_tb (fn_l5 (List.mem_of_getElem? (i := 58) (by decide +kernel))) (by decide +kernel)
theorem wd_1020 : Cond.instanceMethod ⟨"FootNotes$Tour", "longerOf", "(I)I"⟩ ∈ fn_big := fn_tb (fn_l5 (List.mem_of_getElem? (i := 60) (by decide +kernel))) (by decide +kernel)
theorem wp_70 : Cond.selects "FootNotes$Tour" ⟨"FootNotes$Tour", "longerOf", "(I)I"⟩ ⟨"FootNotes$Tour", "longerOf", "(I)I"⟩ ∈ fn_big := fn_sel (q := (⟨"FootNotes$Tour", "longerOf", "(I)I"⟩, 4)) 70 (by decide +kernel) (by decide +kernel)
theorem dX8_fairestSet_27 : decode cX8_fairestSet 27 = .ok (.iinc 2 1, 3) := by decide +kernel
theorem dX8_fairestSet_30 : decode cX8_fairestSet 30 = .ok (.goto (-26), 3) := by decide +kernel
theorem dX8_fairestSet_4 : decode cX8_fairestSet 4 = .ok (.iload_n 2, 1) := by decide +kernel
theorem dX8_fairestSet_5 : decode cX8_fairestSet 5 = .ok (.aload_n 0, 1) := by decide +kernel
theorem dX8_fairestSet_6 : decode cX8_fairestSet 6 = .ok (.invokevirtual 29, 3) := by decide +kernel
theorem dX8_fairestSet_9 : decode cX8_fairestSet 9 = .ok (.if_icmp .gt 24, 3) := by decide +kernel
theorem dX8_fairestSet_33 : decode cX8_fairestSet 33 = .ok (.iload_n 1, 1) := by decide +kernel
theorem dX8_fairestSet_34 : decode cX8_fairestSet 34 = .ok (.ireturn, 1) := by decide +kernel
theorem dX8_fairestSet_12 : decode cX8_fairestSet 12 = .ok (.aload_n 0, 1) := by decide +kernel
theorem dX8_fairestSet_13 : decode cX8_fairestSet 13 = .ok (.iload_n 2, 1) := by decide +kernel
theorem dX8_fairestSet_14 : decode cX8_fairestSet 14 = .ok (.invokevirtual 56, 3) := by decide +kernel
theorem dX8_fairestSet_17 : decode cX8_fairestSet 17 = .ok (.aload_n 0, 1) := by decide +kernel
theorem dX8_fairestSet_18 : decode cX8_fairestSet 18 = .ok (.iload_n 1, 1) := by decide +kernel
theorem dX8_fairestSet_19 : decode cX8_fairestSet 19 = .ok (.invokevirtual 56, 3) := by decide +kernel
theorem dX8_fairestSet_22 : decode cX8_fairestSet 22 = .ok (.if_icmp .ge 5, 3) := by decide +kernel
theorem dX8_fairestSet_25 : decode cX8_fairestSet 25 = .ok (.iload_n 2, 1) := by decide +kernel
theorem dX8_fairestSet_26 : decode cX8_fairestSet 26 = .ok (.istore_n 1, 1) := by decide +kernel
theorem dX8_fairestSet_0 : decode cX8_fairestSet 0 = .ok (.iconst 0, 1) := by decide +kernel
theorem dX8_fairestSet_1 : decode cX8_fairestSet 1 = .ok (.istore_n 1, 1) := by decide +kernel
theorem dX8_fairestSet_2 : decode cX8_fairestSet 2 = .ok (.iconst 1, 1) := by decide +kernel
theorem dX8_fairestSet_3 : decode cX8_fairestSet 3 = .ok (.istore_n 2, 1) := by decide +kernel
set_option maxHeartbeats 4000000 in
set_option maxRecDepth 100000 in
theorem k_X8_fairestSet (l : Launch) (D : va_G) (K : Nat → ClassId) (t : Nat) (t_q : Nat → Nat) (t_x1 : Int) (t_3_c : Nat → Int) (hi_t : bX8 t_x1) (hc_t_3 : ∀ j : Nat, (-2147483648) ≤ t_3_c j ∧ t_3_c j ≤ 2147483647) : fn_CI (S := (Nat → Int) × (Nat → Nat → Int)) l D K yX8_fairestSet (fn_ws yX8_fairestSet cX8_fairestSet 3 (some .int)) ({ frames := 12, cells := 0, slots := 0, locals := 300 } : Room) [.ref t] [(t, .inr (8, oX8 t_q t_x1)), ((t_q 3), .inl (K 0, 2304, .inl (fun j => iI (t_3_c j))))] (fun r u => ∃ k : Int, r = iI k ∧ (0 ≤ k ∧ k ≤ 255) ∧ True) (fun u => [(t, .inr (8, oX8 t_q t_x1)), ((t_q 3), .inl (K 0, 2304, .inl (fun j => iI (t_3_c j))))]) 0 0 := by
  refine g_inI (cc := cX8_fairestSet) (maxL := 3) (ret := (some .int)) (by decide) rfl (Nat.le_of_ble_eq_true rfl) ?_
  intro p e s m below meth c A ls ag Q B hA hP hD hS hl hQ
  obtain ⟨hx, hb, hr, hml, hts, hown, hlocks, hin, hK⟩ := B
  have hown : s.vm.findClass RX8 = some m.cls := hown
  have hts := fun w h => hts w (List.mem_cons_of_mem _ h)
  have J4 : ∀ (n : Nat) (x4_1 : Int) (x4_2 : Int) (H : Heap) (locs : List Loc) (ls : Array Slot), (256 - x4_2).toNat < n → (0 ≤ x4_1 ∧ x4_1 ≤ 255 ∧ 1 ≤ x4_2 ∧ x4_2 ≤ 256) → va_P D vwCl [(t, .inr (8, oX8 t_q t_x1)), ((t_q 3), .inl (K 0, 2304, .inl (fun j => iI (t_3_c j))))] H → va_D A [(t, .inr (8, oX8 t_q t_x1)), ((t_q 3), .inl (K 0, 2304, .inl (fun j => iI (t_3_c j))))] → va_S A s.heap H locs → lv_has ls 3 [(0, .ref t), (1, .int (iI x4_1)), (2, .int (iI x4_2))] → W p l e ({ frames := 12, cells := 0, slots := 0, locals := 300 } : Room) s m ag below meth c H locs 0 0 Q (F0 m 4 ls []) := by
    intro n
    induction n with
    | zero =>
      intro x4_1 x4_2 H locs ls hm4 hf4 hP hD hS hl
      exact absurd hm4 (Nat.not_lt_zero _)
    | succ n ih4 =>
      intro x4_1 x4_2 H locs ls hm4 hf4 hP hD hS hl
      have J27 : ∀ (x27_1 : Int) (H : Heap) (locs : List Loc) (ls : Array Slot), (0 ≤ x27_1 ∧ x27_1 ≤ 255 ∧ 1 ≤ x4_2 ∧ x4_2 ≤ 255) → va_P D vwCl [(t, .inr (8, oX8 t_q t_x1)), ((t_q 3), .inl (K 0, 2304, .inl (fun j => iI (t_3_c j))))] H → va_D A [(t, .inr (8, oX8 t_q t_x1)), ((t_q 3), .inl (K 0, 2304, .inl (fun j => iI (t_3_c j))))] → va_S A s.heap H locs → lv_has ls 3 [(0, .ref t), (1, .int (iI x27_1)), (2, .int (iI x4_2))] → W p l e ({ frames := 12, cells := 0, slots := 0, locals := 300 } : Room) s m ag below meth c H locs 0 0 Q (F0 m 27 ls []) := by
        intro x27_1 H locs ls hf27 hP hD hS hl
        refine lv_iinc (v := iI (x4_2 + 1)) (lv' := [(2, .int (iI (x4_2 + 1))), (0, .ref t), (1, .int (iI x27_1))]) hx hb dX8_fairestSet_27 hl (k := 2) rfl (iI_add _ _) (by decide) rfl (fun ls hl => ?_)
        refine lv_goto (tgt := 4) hx hb dX8_fairestSet_30 (by decide) ?_
        exact ih4 x27_1 (x4_2 + 1) _ _ ls (by omega) (by omega) (hP.sub [0, 1] rfl) (hD.sub [0, 1] (by decide) rfl) hS (lv_sub hl [1, 2, 0] rfl)
      refine lv_iload_n hx hb dX8_fairestSet_4 rfl (lv_at hl 2 rfl) ?_
      refine lv_aload_n hx hb dX8_fairestSet_5 rfl (lv_at hl 0 rfl) ?_
      refine fn_goi (wc := [(t, .inr (8, oX8 t_q t_x1))]) (wr := [((t_q 3), .inl (K 0, 2304, .inl (fun j => iI (t_3_c j))))]) hK hP hD hS hA [0] [1] rfl rfl (by decide) (fun hp => va_runV (C := RX8) (As := []) (rest := [.int (iI x4_2)]) ⟨hx, hb, hml, hown, hts⟩ (k_X8_all (l := l) (D := D) (K := K) (t := t) (t_q := t_q) (t_x1 := t_x1) (hi_t := hi_t) _) (cwV 0 hts (fn_ginV (fn_gin wd_983) wd_980 wd_982 wp_63 wd_8) rfl rfl rfl (by decide +kernel) ⟨Nat.le_of_ble_eq_true rfl, Nat.le_of_ble_eq_true rfl⟩) ⟨fn_blind, va_recv hK.1 hP (ci := 8) (q0 := 0) rfl rfl, hp⟩ rfl rfl hl.1 rfl (lv_room (Nat.le_of_ble_eq_true rfl)) dX8_fairestSet_6 ⟨Nat.le_of_ble_eq_true rfl, Nat.le_of_ble_eq_true rfl⟩) (fun r6 u6 H locs hwu6 hP hD hS => ?_)
      obtain ⟨u6a, u6b⟩ := u6
      obtain ⟨kr6, rfl, hkr6, -⟩ := hwu6
      have hP : va_P D vwCl [((t_q 3), .inl (K 0, 2304, .inl (fun j => iI (t_3_c j)))), (t, .inr (8, oX8 t_q t_x1))] H := hP
      have hD : va_D A [((t_q 3), .inl (K 0, 2304, .inl (fun j => iI (t_3_c j)))), (t, .inr (8, oX8 t_q t_x1))] := hD
      refine g_icmp_gt (tgt := 33) hx hb (by omega) (by omega) dX8_fairestSet_9 (by decide) (fun c9 => ?_) (fun c9 => ?_)
      · refine lv_iload_n hx hb dX8_fairestSet_33 rfl (lv_at hl 1 rfl) ?_
        rw [hQ]; exact fn_iret hx hb hr hlocks rfl hP hD hS ((fun _ => 0), (fun _ _ => 0)) ⟨x4_1, rfl, by omega, trivial⟩ [1, 0] (by decide) rfl dX8_fairestSet_34
      · refine lv_aload_n hx hb dX8_fairestSet_12 rfl (lv_at hl 0 rfl) ?_
        refine lv_iload_n hx hb dX8_fairestSet_13 rfl (lv_at hl 2 rfl) ?_
        refine fn_goi (wc := [(t, .inr (8, oX8 t_q t_x1)), ((t_q 3), .inl (K 0, 2304, .inl (fun j => iI (t_3_c j))))]) (wr := []) hK hP hD hS hA [1, 0] [] rfl rfl (by decide) (fun hp => va_runV (C := RX8) (As := [.int (iI x4_2)]) (rest := []) ⟨hx, hb, hml, hown, hts⟩ (k_X8_longerOf (l := l) (D := D) (K := K) (t := t) (p1 := x4_2) (t_q := t_q) (t_x1 := t_x1) (t_3_c := t_3_c) (hp1 := (by omega)) (hi_t := hi_t) (hc_t_3 := hc_t_3) _) (cwV 1 hts (fn_ginV (fn_gin wd_1021) wd_1018 wd_1020 wp_70 wd_8) rfl rfl rfl (by decide +kernel) ⟨Nat.le_of_ble_eq_true rfl, Nat.le_of_ble_eq_true rfl⟩) ⟨fn_blind, va_recv hK.1 hP (ci := 8) (q0 := 1) rfl rfl, hp⟩ rfl rfl hl.1 rfl (lv_room (Nat.le_of_ble_eq_true rfl)) dX8_fairestSet_14 ⟨Nat.le_of_ble_eq_true rfl, Nat.le_of_ble_eq_true rfl⟩) (fun r14 u14 H locs hwu14 hP hD hS => ?_)
        obtain ⟨u14a, u14b⟩ := u14
        obtain ⟨kr14, rfl, hkr14, -⟩ := hwu14
        have hP : va_P D vwCl [(t, .inr (8, oX8 t_q t_x1)), ((t_q 3), .inl (K 0, 2304, .inl (fun j => iI (t_3_c j))))] H := hP
        have hD : va_D A [(t, .inr (8, oX8 t_q t_x1)), ((t_q 3), .inl (K 0, 2304, .inl (fun j => iI (t_3_c j))))] := hD
        refine lv_aload_n hx hb dX8_fairestSet_17 rfl (lv_at hl 0 rfl) ?_
        refine lv_iload_n hx hb dX8_fairestSet_18 rfl (lv_at hl 1 rfl) ?_
        refine fn_goi (wc := [(t, .inr (8, oX8 t_q t_x1)), ((t_q 3), .inl (K 0, 2304, .inl (fun j => iI (t_3_c j))))]) (wr := []) hK hP hD hS hA [0, 1] [] rfl rfl (by decide) (fun hp => va_runV (C := RX8) (As := [.int (iI x4_1)]) (rest := [.int (iI kr14)]) ⟨hx, hb, hml, hown, hts⟩ (k_X8_longerOf (l := l) (D := D) (K := K) (t := t) (p1 := x4_1) (t_q := t_q) (t_x1 := t_x1) (t_3_c := t_3_c) (hp1 := (by omega)) (hi_t := hi_t) (hc_t_3 := hc_t_3) _) (cwV 1 hts (fn_ginV (fn_gin wd_1021) wd_1018 wd_1020 wp_70 wd_8) rfl rfl rfl (by decide +kernel) ⟨Nat.le_of_ble_eq_true rfl, Nat.le_of_ble_eq_true rfl⟩) ⟨fn_blind, va_recv hK.1 hP (ci := 8) (q0 := 0) rfl rfl, hp⟩ rfl rfl hl.1 rfl (lv_room (Nat.le_of_ble_eq_true rfl)) dX8_fairestSet_19 ⟨Nat.le_of_ble_eq_true rfl, Nat.le_of_ble_eq_true rfl⟩) (fun r19 u19 H locs hwu19 hP hD hS => ?_)
        obtain ⟨u19a, u19b⟩ := u19
        obtain ⟨kr19, rfl, hkr19, -⟩ := hwu19
        have hP : va_P D vwCl [(t, .inr (8, oX8 t_q t_x1)), ((t_q 3), .inl (K 0, 2304, .inl (fun j => iI (t_3_c j))))] H := hP
        have hD : va_D A [(t, .inr (8, oX8 t_q t_x1)), ((t_q 3), .inl (K 0, 2304, .inl (fun j => iI (t_3_c j))))] := hD
        refine g_icmp_ge (tgt := 27) hx hb (by omega) (by omega) dX8_fairestSet_22 (by decide) (fun c22 => ?_) (fun c22 => ?_)
        · exact J27 x4_1 _ _ ls (by omega) (hP.sub [0, 1] rfl) (hD.sub [0, 1] (by decide) rfl) hS (lv_sub hl [0, 1, 2] rfl)
        · refine lv_iload_n hx hb dX8_fairestSet_25 rfl (lv_at hl 2 rfl) ?_
          refine lv_istore_n (lv' := [(1, .int (iI x4_2)), (0, .ref t), (2, .int (iI x4_2))]) hx hb dX8_fairestSet_26 rfl hl (by decide) rfl (fun ls hl => ?_)
          exact J27 x4_2 _ _ ls (by omega) (hP.sub [0, 1] rfl) (hD.sub [0, 1] (by decide) rfl) hS (lv_sub hl [1, 0, 2] rfl)
  have hl : lv_has ls 3 [(0, .ref t)] := hl
  refine lv_iconst (v := iI 0) hx hb dX8_fairestSet_0 rfl ?_
  refine lv_istore_n (lv' := [(1, .int (iI 0)), (0, .ref t)]) hx hb dX8_fairestSet_1 rfl hl (by decide) rfl (fun ls hl => ?_)
  refine lv_iconst (v := iI 1) hx hb dX8_fairestSet_2 rfl ?_
  refine lv_istore_n (lv' := [(2, .int (iI 1)), (1, .int (iI 0)), (0, .ref t)]) hx hb dX8_fairestSet_3 rfl hl (by decide) rfl (fun ls hl => ?_)
  exact J4 _ 0 1 _ _ ls (Nat.lt_succ_self _) (by omega) (hP.sub [0, 1] rfl) (hD.sub [0, 1] (by decide) rfl) hS (lv_sub hl [2, 1, 0] rfl)
theorem wd_322 : Cond.fieldLink "FootNotes$Turns" 37 "FootNotes$Turns" "queued" "I" ∈ fn_big := fn_tb (fn_l2 (List.mem_of_getElem? (i := 82) (by decide +kernel))) (by decide +kernel)
theorem wd_321 : Cond.fieldLink "FootNotes$Turns" 18 "FootNotes$Turns" "queue" "[I" ∈ fn_big := fn_tb (fn_l2 (List.mem_of_getElem? (i := 81) (by decide +kernel))) (by decide +kernel)
theorem dX9_arrive_0 : decode cX9_arrive 0 = .ok (.iload_n 2, 1) := by decide +kernel
theorem dX9_arrive_1 : decode cX9_arrive 1 = .ok (.ifCond .lt 45, 3) := by decide +kernel
theorem dX9_arrive_46 : decode cX9_arrive 46 = .ok (.return_, 1) := by decide +kernel
theorem dX9_arrive_4 : decode cX9_arrive 4 = .ok (.aload_n 1, 1) := by decide +kernel
theorem dX9_arrive_5 : decode cX9_arrive 5 = .ok (.iload_n 2, 1) := by decide +kernel
theorem dX9_arrive_6 : decode cX9_arrive 6 = .ok (.iaload, 1) := by decide +kernel
theorem dX9_arrive_7 : decode cX9_arrive 7 = .ok (.ifCond .ge 39, 3) := by decide +kernel
theorem dX9_arrive_10 : decode cX9_arrive 10 = .ok (.aload_n 0, 1) := by decide +kernel
theorem dX9_arrive_11 : decode cX9_arrive 11 = .ok (.getfield 37, 3) := by decide +kernel
theorem dX9_arrive_14 : decode cX9_arrive 14 = .ok (.aload_n 0, 1) := by decide +kernel
theorem dX9_arrive_15 : decode cX9_arrive 15 = .ok (.getfield 18, 3) := by decide +kernel
theorem dX9_arrive_18 : decode cX9_arrive 18 = .ok (.arraylength, 1) := by decide +kernel
theorem dX9_arrive_19 : decode cX9_arrive 19 = .ok (.if_icmp .ge 27, 3) := by decide +kernel
theorem dX9_arrive_22 : decode cX9_arrive 22 = .ok (.aload_n 1, 1) := by decide +kernel
theorem dX9_arrive_23 : decode cX9_arrive 23 = .ok (.iload_n 2, 1) := by decide +kernel
theorem dX9_arrive_24 : decode cX9_arrive 24 = .ok (.iload_n 3, 1) := by decide +kernel
theorem dX9_arrive_25 : decode cX9_arrive 25 = .ok (.iastore, 1) := by decide +kernel
theorem dX9_arrive_26 : decode cX9_arrive 26 = .ok (.aload_n 0, 1) := by decide +kernel
theorem dX9_arrive_27 : decode cX9_arrive 27 = .ok (.getfield 18, 3) := by decide +kernel
theorem dX9_arrive_30 : decode cX9_arrive 30 = .ok (.aload_n 0, 1) := by decide +kernel
theorem dX9_arrive_31 : decode cX9_arrive 31 = .ok (.getfield 37, 3) := by decide +kernel
theorem dX9_arrive_34 : decode cX9_arrive 34 = .ok (.iload_n 2, 1) := by decide +kernel
theorem dX9_arrive_35 : decode cX9_arrive 35 = .ok (.iastore, 1) := by decide +kernel
theorem dX9_arrive_36 : decode cX9_arrive 36 = .ok (.aload_n 0, 1) := by decide +kernel
theorem dX9_arrive_37 : decode cX9_arrive 37 = .ok (.dup, 1) := by decide +kernel
theorem dX9_arrive_38 : decode cX9_arrive 38 = .ok (.getfield 37, 3) := by decide +kernel
theorem dX9_arrive_41 : decode cX9_arrive 41 = .ok (.iconst 1, 1) := by decide +kernel
theorem dX9_arrive_42 : decode cX9_arrive 42 = .ok (.iadd, 1) := by decide +kernel
theorem dX9_arrive_43 : decode cX9_arrive 43 = .ok (.putfield 37, 3) := by decide +kernel
set_option maxHeartbeats 4000000 in
set_option maxRecDepth 100000 in
theorem k_X9_arrive (l : Launch) (D : va_G) (K : Nat → ClassId) (t a1 : Nat) (t_q : Nat → Nat) (p2 p3 t_x0 t_x4 : Int) (a1_c : Nat → Int) (t_3_c : Nat → Int) (hp2 : (-1) ≤ p2 ∧ p2 ≤ 149) (hp3 : (-2147483648) ≤ p3 ∧ p3 ≤ 2147483647) (hc_a1 : ∀ j : Nat, (-2147483648) ≤ a1_c j ∧ a1_c j ≤ 2147483647) (hi_t : bX9 t_x0 t_x4) (hc_t_3 : ∀ j : Nat, 0 ≤ t_3_c j ∧ t_3_c j ≤ 149) : fn_CV (S := (Nat → Int) × (Nat → Nat → Int)) l D K yX9_arrive (fn_ws yX9_arrive cX9_arrive 4 none) ({ frames := 4, cells := 0, slots := 0, locals := 100 } : Room) [.ref t, .ref a1, .int (iI p2), .int (iI p3)] [(a1, .inl (K 0, 150, .inl (fun j => iI (a1_c j)))), (t, .inr (9, oX9 t_q t_x0 t_x4)), ((t_q 3), .inl (K 0, 150, .inl (fun j => iI (t_3_c j))))] (fun u => (0 ≤ (u.1 0) ∧ (u.1 0) ≤ 150) ∧ (∀ j : Nat, (-2147483648) ≤ (u.2 0) j ∧ (u.2 0) j ≤ 2147483647) ∧ (∀ j : Nat, 0 ≤ (u.2 1) j ∧ (u.2 1) j ≤ 149) ∧ True) (fun u => [(a1, .inl (K 0, 150, .inl (fun j => iI ((u.2 0) j)))), (t, .inr (9, oX9 t_q t_x0 (u.1 0))), ((t_q 3), .inl (K 0, 150, .inl (fun j => iI ((u.2 1) j))))]) 0 0 := by
  refine g_inV (cc := cX9_arrive) (maxL := 4) (ret := none) (by decide) rfl (Nat.le_of_ble_eq_true rfl) ?_
  intro p e s m below meth c A ls ag Q B hA hP hD hS hl hQ
  obtain ⟨hx, hb, hr, hml, hts, hown, hlocks, hin, hK⟩ := B
  have hown : s.vm.findClass RX9 = some m.cls := hown
  have hts := fun w h => hts w (List.mem_cons_of_mem _ h)
  have hl : lv_has ls 4 [(0, .ref t), (1, .ref a1), (2, .int (iI p2)), (3, .int (iI p3))] := hl
  refine lv_iload_n hx hb dX9_arrive_0 rfl (lv_at hl 2 rfl) ?_
  refine g_if_lt (tgt := 46) hx hb (by omega) dX9_arrive_1 (by decide) (fun c1 => ?_) (fun c1 => ?_)
  · have y46_1 : 0 ≤ t_x4 ∧ t_x4 ≤ 150 := hi_t.2
    rw [hQ]; exact fn_vret hx hb hr hlocks hP hD hS ((fun k => ([t_x4] : List Int).getD k 0), (fun k => ([a1_c, t_3_c] : List (Nat → Int)).getD k (fun _ => 0))) ⟨(by show 0 ≤ t_x4 ∧ t_x4 ≤ 150; omega), (hc_a1), (hc_t_3), trivial⟩ [0, 1, 2] (by decide) rfl dX9_arrive_46
  · refine lv_aload_n hx hb dX9_arrive_4 rfl (lv_at hl 1 rfl) ?_
    refine lv_iload_n hx hb dX9_arrive_5 rfl (lv_at hl 2 rfl) ?_
    refine g_iald hx hb hK.1 hP 0 0 rfl rfl (by omega) (by omega) (by decide) dX9_arrive_6 ?_
    have y6 : (-2147483648) ≤ (a1_c p2.toNat) ∧ (a1_c p2.toNat) ≤ 2147483647 := hc_a1 p2.toNat
    refine g_if_ge (tgt := 46) hx hb (by omega) dX9_arrive_7 (by decide) (fun c7 => ?_) (fun c7 => ?_)
    · have y46_1 : 0 ≤ t_x4 ∧ t_x4 ≤ 150 := hi_t.2
      rw [hQ]; exact fn_vret hx hb hr hlocks hP hD hS ((fun k => ([t_x4] : List Int).getD k 0), (fun k => ([a1_c, t_3_c] : List (Nat → Int)).getD k (fun _ => 0))) ⟨(by show 0 ≤ t_x4 ∧ t_x4 ≤ 150; omega), (hc_a1), (hc_t_3), trivial⟩ [0, 1, 2] (by decide) rfl dX9_arrive_46
    · refine lv_aload_n hx hb dX9_arrive_10 rfl (lv_at hl 0 rfl) ?_
      refine va_get (D := D) (own := RX9) (ci := 9) (v := .int (iI t_x4)) (C := RX9) (T := TX9) (N := 6) hx hb hts inb_X9 hown hK.1 hP 1 rfl rfl 4 (by decide) (hts _ wd_322) (fun _ h9 => h9) rfl dX9_arrive_11 ?_
      have y11_1 : 0 ≤ t_x4 ∧ t_x4 ≤ 150 := hi_t.2
      refine lv_aload_n hx hb dX9_arrive_14 rfl (lv_at hl 0 rfl) ?_
      refine va_get (D := D) (own := RX9) (ci := 9) (v := .ref (t_q 3)) (C := RX9) (T := TX9) (N := 6) hx hb hts inb_X9 hown hK.1 hP 1 rfl rfl 3 (by decide) (hts _ wd_321) (fun _ h9 => h9) rfl dX9_arrive_15 ?_
      refine va_alen (v := iI 150) hx hb hK.1 hP 2 0 rfl rfl (by show Int32.ofNat 150 = iI 150; decide) dX9_arrive_18 ?_
      refine g_icmp_ge (tgt := 46) hx hb (by omega) (by omega) dX9_arrive_19 (by decide) (fun c19 => ?_) (fun c19 => ?_)
      · rw [hQ]; exact fn_vret hx hb hr hlocks hP hD hS ((fun k => ([t_x4] : List Int).getD k 0), (fun k => ([a1_c, t_3_c] : List (Nat → Int)).getD k (fun _ => 0))) ⟨(by show 0 ≤ t_x4 ∧ t_x4 ≤ 150; omega), (hc_a1), (hc_t_3), trivial⟩ [0, 1, 2] (by decide) rfl dX9_arrive_46
      · refine lv_aload_n hx hb dX9_arrive_22 rfl (lv_at hl 1 rfl) ?_
        refine lv_iload_n hx hb dX9_arrive_23 rfl (lv_at hl 2 rfl) ?_
        refine lv_iload_n hx hb dX9_arrive_24 rfl (lv_at hl 3 rfl) ?_
        refine g_iast hx hb hK.1 hP hD hS 0 0 rfl rfl (by omega) (by omega) (by decide) dX9_arrive_25 (fun H locs g25 eg25 hP hD hS => ?_)
        have hg25 : ∀ j : Nat, (-2147483648) ≤ g25 j ∧ g25 j ≤ 2147483647 := by rw [eg25]; exact uI_all hc_a1 (by omega)
        have hP : va_P D vwCl [(a1, .inl (K 0, 150, .inl (fun j => iI (g25 j)))), (t, .inr (9, oX9 t_q t_x0 t_x4)), ((t_q 3), .inl (K 0, 150, .inl (fun j => iI (t_3_c j))))] H := hP
        have hD : va_D A [(a1, .inl (K 0, 150, .inl (fun j => iI (g25 j)))), (t, .inr (9, oX9 t_q t_x0 t_x4)), ((t_q 3), .inl (K 0, 150, .inl (fun j => iI (t_3_c j))))] := hD
        refine lv_aload_n hx hb dX9_arrive_26 rfl (lv_at hl 0 rfl) ?_
        refine va_get (D := D) (own := RX9) (ci := 9) (v := .ref (t_q 3)) (C := RX9) (T := TX9) (N := 6) hx hb hts inb_X9 hown hK.1 hP 1 rfl rfl 3 (by decide) (hts _ wd_321) (fun _ h9 => h9) rfl dX9_arrive_27 ?_
        refine lv_aload_n hx hb dX9_arrive_30 rfl (lv_at hl 0 rfl) ?_
        refine fn_at 31 rfl ?_
        refine va_get (D := D) (own := RX9) (ci := 9) (v := .int (iI t_x4)) (C := RX9) (T := TX9) (N := 6) hx hb hts inb_X9 hown hK.1 hP 1 rfl rfl 4 (by decide) (hts _ wd_322) (fun _ h9 => h9) rfl dX9_arrive_31 ?_
        refine lv_iload_n hx hb dX9_arrive_34 rfl (lv_at hl 2 rfl) ?_
        refine g_iast hx hb hK.1 hP hD hS 2 0 rfl rfl (by omega) (by omega) (by decide) dX9_arrive_35 (fun H locs g35 eg35 hP hD hS => ?_)
        have hg35 : ∀ j : Nat, 0 ≤ g35 j ∧ g35 j ≤ 149 := by rw [eg35]; exact uI_all hc_t_3 (by omega)
        have hP : va_P D vwCl [(a1, .inl (K 0, 150, .inl (fun j => iI (g25 j)))), (t, .inr (9, oX9 t_q t_x0 t_x4)), ((t_q 3), .inl (K 0, 150, .inl (fun j => iI (g35 j))))] H := hP
        have hD : va_D A [(a1, .inl (K 0, 150, .inl (fun j => iI (g25 j)))), (t, .inr (9, oX9 t_q t_x0 t_x4)), ((t_q 3), .inl (K 0, 150, .inl (fun j => iI (g35 j))))] := hD
        refine lv_aload_n hx hb dX9_arrive_36 rfl (lv_at hl 0 rfl) ?_
        refine lv_dup hx hb dX9_arrive_37 rfl ?_
        refine va_get (D := D) (own := RX9) (ci := 9) (v := .int (iI t_x4)) (C := RX9) (T := TX9) (N := 6) hx hb hts inb_X9 hown hK.1 hP 1 rfl rfl 4 (by decide) (hts _ wd_322) (fun _ h9 => h9) rfl dX9_arrive_38 ?_
        refine lv_iconst (v := iI 1) hx hb dX9_arrive_41 rfl ?_
        refine g_iadd hx hb dX9_arrive_42 ?_
        refine va_put (D := D) (own := RX9) (ci := 9) (v := .int (iI (t_x4 + 1))) (ty := .int) (C := RX9) (T := TX9) (N := 6) hx hb hts inb_X9 tyX9 tyX9_ok nmX9 hown hK.1 hP hD hS 1 rfl rfl 4 (by decide) (hts _ wd_322) (fun _ h9 => h9) rfl (by decide +kernel) rfl rfl (Nat.le_of_ble_eq_true rfl) dX9_arrive_43 (fun H locs hP hD hS => ?_)
        have hP : va_P D vwCl [(a1, .inl (K 0, 150, .inl (fun j => iI (g25 j)))), (t, .inr (9, oX9 t_q t_x0 (t_x4 + 1))), ((t_q 3), .inl (K 0, 150, .inl (fun j => iI (g35 j))))] H := hP
        have hD : va_D A [(a1, .inl (K 0, 150, .inl (fun j => iI (g25 j)))), (t, .inr (9, oX9 t_q t_x0 (t_x4 + 1))), ((t_q 3), .inl (K 0, 150, .inl (fun j => iI (g35 j))))] := hD
        rw [hQ]; exact fn_vret hx hb hr hlocks hP hD hS ((fun k => ([t_x4 + 1] : List Int).getD k 0), (fun k => ([g25, g35] : List (Nat → Int)).getD k (fun _ => 0))) ⟨(by show 0 ≤ (t_x4 + 1) ∧ (t_x4 + 1) ≤ 150; omega), (hg25), (hg35), trivial⟩ [0, 1, 2] (by decide) rfl dX9_arrive_46
