theorem wd_1783 : Cond.code ⟨"FootNotesModel", "betters", "(II)Z"⟩ prog_14_method_98_code 3 (Option.some Jvm.ClassFile.FieldType.boolean) ∈ fn_big := fn_tb (fn_l8 (List.mem_of_getElem? (i := 103) (by decide +kernel))) (by decide +kernel)
theorem wd_1780 : Cond.methodLink "FootNotesModel" 354 ⟨"FootNotesModel", "betters", "(II)Z"⟩ ∈ fn_big := fn_tb (fn_l8 (List.mem_of_getElem? (i := 100) (by decide +kernel))) (by decide +kernel)
theorem wd_1782 : Cond.instanceMethod ⟨"FootNotesModel", "betters", "(II)Z"⟩ ∈ fn_big := fn_tb (fn_l8 (List.mem_of_getElem? (i := 102) (by decide +kernel))) (by decide +kernel)
theorem wp_141 : Cond.selects "FootNotesModel" ⟨"FootNotesModel", "betters", "(II)Z"⟩ ⟨"FootNotesModel", "betters", "(II)Z"⟩ ∈ fn_big := fn_sel (q := (⟨"FootNotesModel", "betters", "(II)Z"⟩, 51)) 141 (by decide +kernel) (by decide +kernel)
theorem dX12_spreads_129 : decode cX12_spreads 129 = .ok (.iload 6, 2) := by decide +kernel
theorem dX12_spreads_131 : decode cX12_spreads 131 = .ok (.aload_n 0, 1) := by decide +kernel
theorem dX12_spreads_132 : decode cX12_spreads 132 = .ok (.getfield 34, 3) := by decide +kernel
theorem dX12_spreads_135 : decode cX12_spreads 135 = .ok (.iconst 3, 1) := by decide +kernel
theorem dX12_spreads_136 : decode cX12_spreads 136 = .ok (.iaload, 1) := by decide +kernel
theorem dX12_spreads_137 : decode cX12_spreads 137 = .ok (.if_icmp .ge 59, 3) := by decide +kernel
theorem dX12_spreads_196 : decode cX12_spreads 196 = .ok (.iload 5, 2) := by decide +kernel
theorem dX12_spreads_198 : decode cX12_spreads 198 = .ok (.ireturn, 1) := by decide +kernel
theorem dX12_spreads_140 : decode cX12_spreads 140 = .ok (.iload 4, 2) := by decide +kernel
theorem dX12_spreads_142 : decode cX12_spreads 142 = .ok (.ifCond .lt 54, 3) := by decide +kernel
theorem dX12_spreads_145 : decode cX12_spreads 145 = .ok (.aload_n 0, 1) := by decide +kernel
theorem dX12_spreads_146 : decode cX12_spreads 146 = .ok (.getfield 68, 3) := by decide +kernel
theorem dX12_spreads_149 : decode cX12_spreads 149 = .ok (.iload 4, 2) := by decide +kernel
theorem dX12_spreads_151 : decode cX12_spreads 151 = .ok (.iaload, 1) := by decide +kernel
theorem dX12_spreads_152 : decode cX12_spreads 152 = .ok (.iload 6, 2) := by decide +kernel
theorem dX12_spreads_154 : decode cX12_spreads 154 = .ok (.invokestatic 221, 3) := by decide +kernel
theorem dX12_spreads_157 : decode cX12_spreads 157 = .ok (.ifCond .eq 33, 3) := by decide +kernel
theorem dX12_spreads_190 : decode cX12_spreads 190 = .ok (.iinc 6 1, 3) := by decide +kernel
theorem dX12_spreads_193 : decode cX12_spreads 193 = .ok (.goto (-64), 3) := by decide +kernel
theorem dX12_spreads_160 : decode cX12_spreads 160 = .ok (.iload 5, 2) := by decide +kernel
theorem dX12_spreads_162 : decode cX12_spreads 162 = .ok (.aload_n 0, 1) := by decide +kernel
theorem dX12_spreads_163 : decode cX12_spreads 163 = .ok (.bipush 30, 2) := by decide +kernel
theorem dX12_spreads_165 : decode cX12_spreads 165 = .ok (.aload_n 0, 1) := by decide +kernel
theorem dX12_spreads_166 : decode cX12_spreads 166 = .ok (.getfield 40, 3) := by decide +kernel
theorem dX12_spreads_169 : decode cX12_spreads 169 = .ok (.iload 6, 2) := by decide +kernel
theorem dX12_spreads_171 : decode cX12_spreads 171 = .ok (.iaload, 1) := by decide +kernel
theorem dX12_spreads_172 : decode cX12_spreads 172 = .ok (.imul, 1) := by decide +kernel
theorem dX12_spreads_173 : decode cX12_spreads 173 = .ok (.aload_n 0, 1) := by decide +kernel
theorem dX12_spreads_174 : decode cX12_spreads 174 = .ok (.getfield 65, 3) := by decide +kernel
theorem dX12_spreads_177 : decode cX12_spreads 177 = .ok (.iload 6, 2) := by decide +kernel
theorem dX12_spreads_179 : decode cX12_spreads 179 = .ok (.iaload, 1) := by decide +kernel
theorem dX12_spreads_180 : decode cX12_spreads 180 = .ok (.iadd, 1) := by decide +kernel
theorem dX12_spreads_181 : decode cX12_spreads 181 = .ok (.iload_n 3, 1) := by decide +kernel
theorem dX12_spreads_182 : decode cX12_spreads 182 = .ok (.iconst 1, 1) := by decide +kernel
theorem dX12_spreads_183 : decode cX12_spreads 183 = .ok (.iadd, 1) := by decide +kernel
theorem dX12_spreads_184 : decode cX12_spreads 184 = .ok (.invokevirtual 354, 3) := by decide +kernel
theorem dX12_spreads_187 : decode cX12_spreads 187 = .ok (.ior, 1) := by decide +kernel
theorem dX12_spreads_188 : decode cX12_spreads 188 = .ok (.istore 5, 2) := by decide +kernel
theorem dX12_spreads_87 : decode cX12_spreads 87 = .ok (.iload 6, 2) := by decide +kernel
theorem dX12_spreads_89 : decode cX12_spreads 89 = .ok (.aload_n 0, 1) := by decide +kernel
theorem dX12_spreads_90 : decode cX12_spreads 90 = .ok (.getfield 34, 3) := by decide +kernel
theorem dX12_spreads_93 : decode cX12_spreads 93 = .ok (.iconst 2, 1) := by decide +kernel
theorem dX12_spreads_94 : decode cX12_spreads 94 = .ok (.iaload, 1) := by decide +kernel
theorem dX12_spreads_95 : decode cX12_spreads 95 = .ok (.if_icmp .ge 31, 3) := by decide +kernel
theorem dX12_spreads_126 : decode cX12_spreads 126 = .ok (.iconst 0, 1) := by decide +kernel
theorem dX12_spreads_127 : decode cX12_spreads 127 = .ok (.istore 6, 2) := by decide +kernel
theorem dX12_spreads_98 : decode cX12_spreads 98 = .ok (.iload 5, 2) := by decide +kernel
theorem dX12_spreads_100 : decode cX12_spreads 100 = .ok (.aload_n 0, 1) := by decide +kernel
theorem dX12_spreads_101 : decode cX12_spreads 101 = .ok (.bipush 30, 2) := by decide +kernel
theorem dX12_spreads_103 : decode cX12_spreads 103 = .ok (.iload 6, 2) := by decide +kernel
theorem dX12_spreads_105 : decode cX12_spreads 105 = .ok (.imul, 1) := by decide +kernel
theorem dX12_spreads_106 : decode cX12_spreads 106 = .ok (.iload_n 3, 1) := by decide +kernel
theorem dX12_spreads_107 : decode cX12_spreads 107 = .ok (.aload_n 0, 1) := by decide +kernel
theorem dX12_spreads_108 : decode cX12_spreads 108 = .ok (.getfield 34, 3) := by decide +kernel
theorem dX12_spreads_111 : decode cX12_spreads 111 = .ok (.iconst 0, 1) := by decide +kernel
theorem dX12_spreads_112 : decode cX12_spreads 112 = .ok (.iaload, 1) := by decide +kernel
theorem dX12_spreads_113 : decode cX12_spreads 113 = .ok (.iadd, 1) := by decide +kernel
theorem dX12_spreads_114 : decode cX12_spreads 114 = .ok (.invokevirtual 354, 3) := by decide +kernel
theorem dX12_spreads_117 : decode cX12_spreads 117 = .ok (.ior, 1) := by decide +kernel
theorem dX12_spreads_118 : decode cX12_spreads 118 = .ok (.istore 5, 2) := by decide +kernel
theorem dX12_spreads_120 : decode cX12_spreads 120 = .ok (.iinc 6 1, 3) := by decide +kernel
theorem dX12_spreads_123 : decode cX12_spreads 123 = .ok (.goto (-36), 3) := by decide +kernel
theorem dX12_spreads_84 : decode cX12_spreads 84 = .ok (.iconst 0, 1) := by decide +kernel
theorem dX12_spreads_85 : decode cX12_spreads 85 = .ok (.istore 6, 2) := by decide +kernel
theorem dX12_spreads_52 : decode cX12_spreads 52 = .ok (.iload_n 2, 1) := by decide +kernel
theorem dX12_spreads_53 : decode cX12_spreads 53 = .ok (.iconst 1, 1) := by decide +kernel
theorem dX12_spreads_54 : decode cX12_spreads 54 = .ok (.iadd, 1) := by decide +kernel
theorem dX12_spreads_55 : decode cX12_spreads 55 = .ok (.aload_n 0, 1) := by decide +kernel
theorem dX12_spreads_56 : decode cX12_spreads 56 = .ok (.getfield 56, 3) := by decide +kernel
theorem dX12_spreads_59 : decode cX12_spreads 59 = .ok (.iload_n 1, 1) := by decide +kernel
theorem dX12_spreads_60 : decode cX12_spreads 60 = .ok (.iaload, 1) := by decide +kernel
theorem dX12_spreads_61 : decode cX12_spreads 61 = .ok (.if_icmp .ge 23, 3) := by decide +kernel
theorem dX12_spreads_64 : decode cX12_spreads 64 = .ok (.iload 5, 2) := by decide +kernel
theorem dX12_spreads_66 : decode cX12_spreads 66 = .ok (.aload_n 0, 1) := by decide +kernel
theorem dX12_spreads_67 : decode cX12_spreads 67 = .ok (.bipush 30, 2) := by decide +kernel
theorem dX12_spreads_69 : decode cX12_spreads 69 = .ok (.iload_n 1, 1) := by decide +kernel
theorem dX12_spreads_70 : decode cX12_spreads 70 = .ok (.imul, 1) := by decide +kernel
theorem dX12_spreads_71 : decode cX12_spreads 71 = .ok (.iload_n 2, 1) := by decide +kernel
theorem dX12_spreads_72 : decode cX12_spreads 72 = .ok (.iadd, 1) := by decide +kernel
theorem dX12_spreads_73 : decode cX12_spreads 73 = .ok (.iconst 1, 1) := by decide +kernel
theorem dX12_spreads_74 : decode cX12_spreads 74 = .ok (.iadd, 1) := by decide +kernel
theorem dX12_spreads_75 : decode cX12_spreads 75 = .ok (.iload_n 3, 1) := by decide +kernel
theorem dX12_spreads_76 : decode cX12_spreads 76 = .ok (.iconst 1, 1) := by decide +kernel
theorem dX12_spreads_77 : decode cX12_spreads 77 = .ok (.iadd, 1) := by decide +kernel
theorem dX12_spreads_78 : decode cX12_spreads 78 = .ok (.invokevirtual 354, 3) := by decide +kernel
theorem dX12_spreads_81 : decode cX12_spreads 81 = .ok (.ior, 1) := by decide +kernel
theorem dX12_spreads_82 : decode cX12_spreads 82 = .ok (.istore 5, 2) := by decide +kernel
theorem dX12_spreads_0 : decode cX12_spreads 0 = .ok (.aload_n 0, 1) := by decide +kernel
theorem dX12_spreads_1 : decode cX12_spreads 1 = .ok (.getfield 80, 3) := by decide +kernel
theorem dX12_spreads_4 : decode cX12_spreads 4 = .ok (.bipush 30, 2) := by decide +kernel
theorem dX12_spreads_6 : decode cX12_spreads 6 = .ok (.iload_n 1, 1) := by decide +kernel
theorem dX12_spreads_7 : decode cX12_spreads 7 = .ok (.imul, 1) := by decide +kernel
theorem dX12_spreads_8 : decode cX12_spreads 8 = .ok (.iload_n 2, 1) := by decide +kernel
theorem dX12_spreads_9 : decode cX12_spreads 9 = .ok (.iadd, 1) := by decide +kernel
theorem dX12_spreads_10 : decode cX12_spreads 10 = .ok (.iaload, 1) := by decide +kernel
theorem dX12_spreads_11 : decode cX12_spreads 11 = .ok (.istore_n 3, 1) := by decide +kernel
theorem dX12_spreads_12 : decode cX12_spreads 12 = .ok (.aload_n 0, 1) := by decide +kernel
theorem dX12_spreads_13 : decode cX12_spreads 13 = .ok (.getfield 53, 3) := by decide +kernel
theorem dX12_spreads_16 : decode cX12_spreads 16 = .ok (.bipush 30, 2) := by decide +kernel
theorem dX12_spreads_18 : decode cX12_spreads 18 = .ok (.iload_n 1, 1) := by decide +kernel
theorem dX12_spreads_19 : decode cX12_spreads 19 = .ok (.imul, 1) := by decide +kernel
theorem dX12_spreads_20 : decode cX12_spreads 20 = .ok (.iload_n 2, 1) := by decide +kernel
theorem dX12_spreads_21 : decode cX12_spreads 21 = .ok (.iadd, 1) := by decide +kernel
theorem dX12_spreads_22 : decode cX12_spreads 22 = .ok (.iaload, 1) := by decide +kernel
theorem dX12_spreads_23 : decode cX12_spreads 23 = .ok (.istore 4, 2) := by decide +kernel
theorem dX12_spreads_25 : decode cX12_spreads 25 = .ok (.iconst 0, 1) := by decide +kernel
theorem dX12_spreads_26 : decode cX12_spreads 26 = .ok (.istore 5, 2) := by decide +kernel
theorem dX12_spreads_28 : decode cX12_spreads 28 = .ok (.iload_n 2, 1) := by decide +kernel
theorem dX12_spreads_29 : decode cX12_spreads 29 = .ok (.ifCond .le 23, 3) := by decide +kernel
theorem dX12_spreads_32 : decode cX12_spreads 32 = .ok (.iload 5, 2) := by decide +kernel
theorem dX12_spreads_34 : decode cX12_spreads 34 = .ok (.aload_n 0, 1) := by decide +kernel
theorem dX12_spreads_35 : decode cX12_spreads 35 = .ok (.bipush 30, 2) := by decide +kernel
theorem dX12_spreads_37 : decode cX12_spreads 37 = .ok (.iload_n 1, 1) := by decide +kernel
theorem dX12_spreads_38 : decode cX12_spreads 38 = .ok (.imul, 1) := by decide +kernel
theorem dX12_spreads_39 : decode cX12_spreads 39 = .ok (.iload_n 2, 1) := by decide +kernel
theorem dX12_spreads_40 : decode cX12_spreads 40 = .ok (.iadd, 1) := by decide +kernel
theorem dX12_spreads_41 : decode cX12_spreads 41 = .ok (.iconst 1, 1) := by decide +kernel
theorem dX12_spreads_42 : decode cX12_spreads 42 = .ok (.isub, 1) := by decide +kernel
theorem dX12_spreads_43 : decode cX12_spreads 43 = .ok (.iload_n 3, 1) := by decide +kernel
theorem dX12_spreads_44 : decode cX12_spreads 44 = .ok (.iconst 1, 1) := by decide +kernel
theorem dX12_spreads_45 : decode cX12_spreads 45 = .ok (.iadd, 1) := by decide +kernel
theorem dX12_spreads_46 : decode cX12_spreads 46 = .ok (.invokevirtual 354, 3) := by decide +kernel
theorem dX12_spreads_49 : decode cX12_spreads 49 = .ok (.ior, 1) := by decide +kernel
theorem dX12_spreads_50 : decode cX12_spreads 50 = .ok (.istore 5, 2) := by decide +kernel
set_option maxHeartbeats 4000000 in
set_option maxRecDepth 100000 in
theorem k_X12_spreads (l : Launch) (D : va_G) (K : Nat → ClassId) (t : Nat) (t_q : Nat → Nat) (p1 p2 t_x0 t_x6 t_x7 t_x8 t_x9 t_x10 t_x11 t_x12 t_x13 t_x14 t_x15 t_x32 t_x33 t_x34 t_x35 t_x39 t_x40 t_x43 t_x44 t_x48 t_x49 t_x50 : Int) (t_17_c : Nat → Int) (t_18_c : Nat → Int) (t_19_c : Nat → Int) (t_20_c : Nat → Int) (t_21_c : Nat → Int) (t_23_c : Nat → Int) (t_24_c : Nat → Int) (t_25_c : Nat → Int) (t_26_c : Nat → Int) (t_27_c : Nat → Int) (t_28_c : Nat → Int) (t_36_c : Nat → Int) (hp1 : 0 ≤ p1 ∧ p1 ≤ 4) (hp2 : 0 ≤ p2 ∧ p2 ≤ 29) (hi_t : bM12 t_x0 t_x6 t_x7 t_x8 t_x9 t_x10 t_x11 t_x12 t_x13 t_x14 t_x15 t_x32 t_x33 t_x34 t_x35 t_x39 t_x40 t_x43 t_x44 t_x48 t_x49 t_x50) (hc_t_17 : ∀ j : Nat, (j % 8 = 0 → 0 ≤ t_17_c j ∧ t_17_c j ≤ 20) ∧ (j % 8 = 1 → 0 ≤ t_17_c j ∧ t_17_c j ≤ 100) ∧ (j % 8 = 2 → 0 ≤ t_17_c j ∧ t_17_c j ≤ 5) ∧ (j % 8 = 3 → 0 ≤ t_17_c j ∧ t_17_c j ≤ 12) ∧ (j % 8 = 4 → 0 ≤ t_17_c j ∧ t_17_c j ≤ 24) ∧ (j % 8 = 5 → 0 ≤ t_17_c j ∧ t_17_c j ≤ 4095) ∧ (j % 8 = 6 → 0 ≤ t_17_c j ∧ t_17_c j ≤ 31) ∧ (j % 8 = 7 → 0 ≤ t_17_c j ∧ t_17_c j ≤ 40)) (hc_t_18 : ∀ j : Nat, (j % 2 = 0 → 0 ≤ t_18_c j ∧ t_18_c j ≤ 9) ∧ (j % 2 = 1 → 0 ≤ t_18_c j ∧ t_18_c j ≤ 4)) (hc_t_19 : ∀ j : Nat, 0 ≤ t_19_c j ∧ t_19_c j ≤ 4) (hc_t_20 : ∀ j : Nat, (j % 4 = 0 → 0 ≤ t_20_c j ∧ t_20_c j ≤ 11) ∧ (j % 4 = 1 → 0 ≤ t_20_c j ∧ t_20_c j ≤ 4) ∧ (j % 4 = 2 → 0 ≤ t_20_c j ∧ t_20_c j ≤ 29) ∧ (j % 4 = 3 → 0 ≤ t_20_c j ∧ t_20_c j ≤ 1)) (hc_t_21 : ∀ j : Nat, (j % 3 = 0 → 0 ≤ t_21_c j ∧ t_21_c j ≤ 2) ∧ (j % 3 = 1 → 0 ≤ t_21_c j ∧ t_21_c j ≤ 23) ∧ (j % 3 = 2 → 0 ≤ t_21_c j ∧ t_21_c j ≤ 29)) (hc_t_23 : ∀ j : Nat, (-2) ≤ t_23_c j ∧ t_23_c j ≤ 11) (hc_t_24 : ∀ j : Nat, 0 ≤ t_24_c j ∧ t_24_c j ≤ 30) (hc_t_25 : ∀ j : Nat, 0 ≤ t_25_c j ∧ t_25_c j ≤ 30) (hc_t_26 : ∀ j : Nat, (-1) ≤ t_26_c j ∧ t_26_c j ≤ 11) (hc_t_27 : ∀ j : Nat, (-1) ≤ t_27_c j ∧ t_27_c j ≤ 29) (hc_t_28 : ∀ j : Nat, 0 ≤ t_28_c j ∧ t_28_c j ≤ 4095) (hc_t_36 : ∀ j : Nat, 0 ≤ t_36_c j ∧ t_36_c j ≤ 100000) (li : LI t_17_c t_19_c t_23_c t_24_c t_26_c t_27_c t_28_c) (pb : p1 < t_17_c 2 ∧ p2 < t_24_c (Int.toNat p1)) : fn_CI (S := (Nat → Int) × (Nat → Nat → Int)) l D K yX12_spreads (fn_ws yX12_spreads cX12_spreads 7 (some .boolean)) ({ frames := 8, cells := 0, slots := 0, locals := 200 } : Room) [.ref t, .int (iI p1), .int (iI p2)] [(t, .inr (12, oX12 t_q t_x0 t_x6 t_x7 t_x8 t_x9 t_x10 t_x11 t_x12 t_x13 t_x14 t_x15 t_x32 t_x33 t_x34 t_x35 t_x39 t_x40 t_x43 t_x44 t_x48 t_x49 t_x50)), ((t_q 17), .inl (K 0, 40, .inl (fun j => iI (t_17_c j)))), ((t_q 18), .inl (K 0, 50, .inl (fun j => iI (t_18_c j)))), ((t_q 19), .inl (K 0, 60, .inl (fun j => iI (t_19_c j)))), ((t_q 20), .inl (K 0, 480, .inl (fun j => iI (t_20_c j)))), ((t_q 21), .inl (K 0, 600, .inl (fun j => iI (t_21_c j)))), ((t_q 23), .inl (K 0, 150, .inl (fun j => iI (t_23_c j)))), ((t_q 24), .inl (K 0, 5, .inl (fun j => iI (t_24_c j)))), ((t_q 25), .inl (K 0, 24, .inl (fun j => iI (t_25_c j)))), ((t_q 26), .inl (K 0, 24, .inl (fun j => iI (t_26_c j)))), ((t_q 27), .inl (K 0, 12, .inl (fun j => iI (t_27_c j)))), ((t_q 28), .inl (K 0, 12, .inl (fun j => iI (t_28_c j)))), ((t_q 36), .inl (K 0, 150, .inl (fun j => iI (t_36_c j))))] (fun r u => ∃ k : Int, r = iI k ∧ (0 ≤ k ∧ k ≤ 1) ∧ (smN (u.2 0) 150 + k ≤ smN t_36_c 150) ∧ (k = 0 → (u.2 0) = t_36_c) ∧ (∀ j : Nat, (u.2 0) j ≤ t_36_c j) ∧ (k = 0 → ∀ o : Nat, (o : Int) < t_17_c 2 → (u.2 0) (30 * o) ≤ (u.2 0) (Int.toNat (30 * p1 + p2)) + t_17_c 0) ∧ (k = 0 → p2 + 1 < t_24_c (Int.toNat p1) → (u.2 0) (Int.toNat (30 * p1 + p2 + 1)) ≤ (u.2 0) (Int.toNat (30 * p1 + p2)) + 1) ∧ (∀ j : Nat, 0 ≤ (u.2 0) j ∧ (u.2 0) j ≤ 100000) ∧ True) (fun u => [(t, .inr (12, oX12 t_q t_x0 t_x6 t_x7 t_x8 t_x9 t_x10 t_x11 t_x12 t_x13 t_x14 t_x15 t_x32 t_x33 t_x34 t_x35 t_x39 t_x40 t_x43 t_x44 t_x48 t_x49 t_x50)), ((t_q 17), .inl (K 0, 40, .inl (fun j => iI (t_17_c j)))), ((t_q 18), .inl (K 0, 50, .inl (fun j => iI (t_18_c j)))), ((t_q 19), .inl (K 0, 60, .inl (fun j => iI (t_19_c j)))), ((t_q 20), .inl (K 0, 480, .inl (fun j => iI (t_20_c j)))), ((t_q 21), .inl (K 0, 600, .inl (fun j => iI (t_21_c j)))), ((t_q 23), .inl (K 0, 150, .inl (fun j => iI (t_23_c j)))), ((t_q 24), .inl (K 0, 5, .inl (fun j => iI (t_24_c j)))), ((t_q 25), .inl (K 0, 24, .inl (fun j => iI (t_25_c j)))), ((t_q 26), .inl (K 0, 24, .inl (fun j => iI (t_26_c j)))), ((t_q 27), .inl (K 0, 12, .inl (fun j => iI (t_27_c j)))), ((t_q 28), .inl (K 0, 12, .inl (fun j => iI (t_28_c j)))), ((t_q 36), .inl (K 0, 150, .inl (fun j => iI ((u.2 0) j))))]) 0 0 := by
  refine g_inI (cc := cX12_spreads) (maxL := 7) (ret := (some .boolean)) (by decide) rfl (Nat.le_of_ble_eq_true rfl) ?_
  intro p e s m below meth c A ls ag Q B hA hP hD hS hl hQ
  obtain ⟨hx, hb, hr, hml, hts, hown, hlocks, hin, hK⟩ := B
  have hown : s.vm.findClass RX12 = some m.cls := hown
  have hts := fun w h => hts w (List.mem_cons_of_mem _ h)
  have hs0 := (hc_t_17 0).1 (by omega)
  have hs2 := (hc_t_17 2).2.2.1 (by omega)
  have hs3 := (hc_t_17 3).2.2.2.1 (by omega)
  have J129 : ∀ (n : Nat) (x129_3 : Int) (x129_4 : Int) (x129_5 : Int) (x129_6 : Int) (c129_t_36 : Nat → Int) (H : Heap) (locs : List Loc) (ls : Array Slot), (12 - x129_6).toNat < n → (0 ≤ x129_3 ∧ x129_3 ≤ 100000 ∧ (-2) ≤ x129_4 ∧ x129_4 ≤ 11 ∧ 0 ≤ x129_5 ∧ x129_5 ≤ 1 ∧ 0 ≤ x129_6 ∧ x129_6 ≤ 12 ∧ smN c129_t_36 150 + x129_5 ≤ smN t_36_c 150 ∧ x129_3 = t_36_c (Int.toNat (30 * p1 + p2)) ∧ (x129_4 < 0 ∨ x129_4 < t_17_c 3)) → (x129_5 = 0 → c129_t_36 = t_36_c) → (∀ j : Nat, c129_t_36 j ≤ t_36_c j) → (x129_5 = 0 → p2 + 1 < t_24_c (Int.toNat p1) → c129_t_36 (Int.toNat (30 * p1 + p2 + 1)) ≤ x129_3 + 1) → (x129_5 = 0 → ∀ o : Nat, (o : Int) < t_17_c 2 → c129_t_36 (30 * o) ≤ x129_3 + t_17_c 0) → (∀ j : Nat, 0 ≤ c129_t_36 j ∧ c129_t_36 j ≤ 100000) → va_P D vwCl [(t, .inr (12, oX12 t_q t_x0 t_x6 t_x7 t_x8 t_x9 t_x10 t_x11 t_x12 t_x13 t_x14 t_x15 t_x32 t_x33 t_x34 t_x35 t_x39 t_x40 t_x43 t_x44 t_x48 t_x49 t_x50)), ((t_q 17), .inl (K 0, 40, .inl (fun j => iI (t_17_c j)))), ((t_q 18), .inl (K 0, 50, .inl (fun j => iI (t_18_c j)))), ((t_q 19), .inl (K 0, 60, .inl (fun j => iI (t_19_c j)))), ((t_q 20), .inl (K 0, 480, .inl (fun j => iI (t_20_c j)))), ((t_q 21), .inl (K 0, 600, .inl (fun j => iI (t_21_c j)))), ((t_q 23), .inl (K 0, 150, .inl (fun j => iI (t_23_c j)))), ((t_q 24), .inl (K 0, 5, .inl (fun j => iI (t_24_c j)))), ((t_q 25), .inl (K 0, 24, .inl (fun j => iI (t_25_c j)))), ((t_q 26), .inl (K 0, 24, .inl (fun j => iI (t_26_c j)))), ((t_q 27), .inl (K 0, 12, .inl (fun j => iI (t_27_c j)))), ((t_q 28), .inl (K 0, 12, .inl (fun j => iI (t_28_c j)))), ((t_q 36), .inl (K 0, 150, .inl (fun j => iI (c129_t_36 j))))] H → va_D A [(t, .inr (12, oX12 t_q t_x0 t_x6 t_x7 t_x8 t_x9 t_x10 t_x11 t_x12 t_x13 t_x14 t_x15 t_x32 t_x33 t_x34 t_x35 t_x39 t_x40 t_x43 t_x44 t_x48 t_x49 t_x50)), ((t_q 17), .inl (K 0, 40, .inl (fun j => iI (t_17_c j)))), ((t_q 18), .inl (K 0, 50, .inl (fun j => iI (t_18_c j)))), ((t_q 19), .inl (K 0, 60, .inl (fun j => iI (t_19_c j)))), ((t_q 20), .inl (K 0, 480, .inl (fun j => iI (t_20_c j)))), ((t_q 21), .inl (K 0, 600, .inl (fun j => iI (t_21_c j)))), ((t_q 23), .inl (K 0, 150, .inl (fun j => iI (t_23_c j)))), ((t_q 24), .inl (K 0, 5, .inl (fun j => iI (t_24_c j)))), ((t_q 25), .inl (K 0, 24, .inl (fun j => iI (t_25_c j)))), ((t_q 26), .inl (K 0, 24, .inl (fun j => iI (t_26_c j)))), ((t_q 27), .inl (K 0, 12, .inl (fun j => iI (t_27_c j)))), ((t_q 28), .inl (K 0, 12, .inl (fun j => iI (t_28_c j)))), ((t_q 36), .inl (K 0, 150, .inl (fun j => iI (c129_t_36 j))))] → va_S A s.heap H locs → lv_has ls 7 [(0, .ref t), (1, .int (iI p1)), (2, .int (iI p2)), (3, .int (iI x129_3)), (4, .int (iI x129_4)), (5, .int (iI x129_5)), (6, .int (iI x129_6))] → W p l e ({ frames := 8, cells := 0, slots := 0, locals := 200 } : Room) s m ag below meth c H locs 0 0 Q (F0 m 129 ls []) := by
    intro n
    induction n with
    | zero =>
      intro x129_3 x129_4 x129_5 x129_6 c129_t_36 H locs ls hm129 hf129 bz mo nx dr hc129_t_36 hP hD hS hl
      exact absurd hm129 (Nat.not_lt_zero _)
    | succ n ih129 =>
      intro x129_3 x129_4 x129_5 x129_6 c129_t_36 H locs ls hm129 hf129 bz mo nx dr hc129_t_36 hP hD hS hl
      refine lv_iload hx hb dX12_spreads_129 (lv_at hl 6 rfl) ?_
      refine lv_aload_n hx hb dX12_spreads_131 rfl (lv_at hl 0 rfl) ?_
      refine va_get (D := D) (own := RX12) (ci := 12) (v := .ref (t_q 17)) (C := RX12) (T := TX12) (N := 51) hx hb hts inb_X12 hown hK.1 hP 0 rfl rfl 17 (by decide) (hts _ wd_1251) (fun _ h9 => h9) rfl dX12_spreads_132 ?_
      refine lv_iconst (v := iI 3) hx hb dX12_spreads_135 rfl ?_
      refine g_iald hx hb hK.1 hP 1 0 rfl rfl (by omega) (by omega) (by decide) dX12_spreads_136 ?_
      refine fn_top (iI (t_17_c 3)) rfl ?_
      have y136 : 0 ≤ (t_17_c 3) ∧ (t_17_c 3) ≤ 12 := (hc_t_17 3).2.2.2.1 (by omega)
      refine g_icmp_ge (tgt := 196) hx hb (by omega) (by omega) dX12_spreads_137 (by decide) (fun c137 => ?_) (fun c137 => ?_)
      · refine lv_iload hx hb dX12_spreads_196 (lv_at hl 5 rfl) ?_
        rw [hQ]; exact fn_iret hx hb hr hlocks (iI_nz (by omega)) hP hD hS ((fun _ => 0), (fun k => ([c129_t_36] : List (Nat → Int)).getD k (fun _ => 0))) ⟨x129_5, rfl, by omega, (show smN c129_t_36 150 + x129_5 ≤ smN t_36_c 150 from by omega), (show x129_5 = 0 → c129_t_36 = t_36_c from by assumption), (show ∀ j : Nat, c129_t_36 j ≤ t_36_c j from by assumption), (show x129_5 = 0 → ∀ o : Nat, (o : Int) < t_17_c 2 → c129_t_36 (30 * o) ≤ c129_t_36 (Int.toNat (30 * p1 + p2)) + t_17_c 0 from fun h9 => by rw [bz h9]; rw [bz h9] at dr; rw [← show x129_3 = t_36_c (Int.toNat (30 * p1 + p2)) by omega]; exact dr h9), (show x129_5 = 0 → p2 + 1 < t_24_c (Int.toNat p1) → c129_t_36 (Int.toNat (30 * p1 + p2 + 1)) ≤ c129_t_36 (Int.toNat (30 * p1 + p2)) + 1 from fun h9 h8 => by have h7 := nx h9 h8; rw [bz h9] at h7 ⊢; omega), (hc129_t_36), trivial⟩ [0, 1, 2, 3, 4, 5, 6, 7, 8, 9, 10, 11, 12] (by decide) rfl dX12_spreads_198
      · refine lv_iload hx hb dX12_spreads_140 (lv_at hl 4 rfl) ?_
        refine g_if_lt (tgt := 196) hx hb (by omega) dX12_spreads_142 (by decide) (fun c142 => ?_) (fun c142 => ?_)
        · refine lv_iload hx hb dX12_spreads_196 (lv_at hl 5 rfl) ?_
          rw [hQ]; exact fn_iret hx hb hr hlocks (iI_nz (by omega)) hP hD hS ((fun _ => 0), (fun k => ([c129_t_36] : List (Nat → Int)).getD k (fun _ => 0))) ⟨x129_5, rfl, by omega, (show smN c129_t_36 150 + x129_5 ≤ smN t_36_c 150 from by omega), (show x129_5 = 0 → c129_t_36 = t_36_c from by assumption), (show ∀ j : Nat, c129_t_36 j ≤ t_36_c j from by assumption), (show x129_5 = 0 → ∀ o : Nat, (o : Int) < t_17_c 2 → c129_t_36 (30 * o) ≤ c129_t_36 (Int.toNat (30 * p1 + p2)) + t_17_c 0 from fun h9 => by rw [bz h9]; rw [bz h9] at dr; rw [← show x129_3 = t_36_c (Int.toNat (30 * p1 + p2)) by omega]; exact dr h9), (show x129_5 = 0 → p2 + 1 < t_24_c (Int.toNat p1) → c129_t_36 (Int.toNat (30 * p1 + p2 + 1)) ≤ c129_t_36 (Int.toNat (30 * p1 + p2)) + 1 from fun h9 h8 => by have h7 := nx h9 h8; rw [bz h9] at h7 ⊢; omega), (hc129_t_36), trivial⟩ [0, 1, 2, 3, 4, 5, 6, 7, 8, 9, 10, 11, 12] (by decide) rfl dX12_spreads_198
        · refine lv_aload_n hx hb dX12_spreads_145 rfl (lv_at hl 0 rfl) ?_
          refine va_get (D := D) (own := RX12) (ci := 12) (v := .ref (t_q 28)) (C := RX12) (T := TX12) (N := 51) hx hb hts inb_X12 hown hK.1 hP 0 rfl rfl 28 (by decide) (hts _ wd_1262) (fun _ h9 => h9) rfl dX12_spreads_146 ?_
          refine lv_iload hx hb dX12_spreads_149 (lv_at hl 4 rfl) ?_
          refine g_iald hx hb hK.1 hP 11 0 rfl rfl (by omega) (by omega) (by decide) dX12_spreads_151 ?_
          have y151 : 0 ≤ (t_28_c x129_4.toNat) ∧ (t_28_c x129_4.toNat) ≤ 4095 := hc_t_28 x129_4.toNat
          refine lv_iload hx hb dX12_spreads_152 (lv_at hl 6 rfl) ?_
          refine fn_goi (wc := []) (wr := [(t, .inr (12, oX12 t_q t_x0 t_x6 t_x7 t_x8 t_x9 t_x10 t_x11 t_x12 t_x13 t_x14 t_x15 t_x32 t_x33 t_x34 t_x35 t_x39 t_x40 t_x43 t_x44 t_x48 t_x49 t_x50)), ((t_q 17), .inl (K 0, 40, .inl (fun j => iI (t_17_c j)))), ((t_q 18), .inl (K 0, 50, .inl (fun j => iI (t_18_c j)))), ((t_q 19), .inl (K 0, 60, .inl (fun j => iI (t_19_c j)))), ((t_q 20), .inl (K 0, 480, .inl (fun j => iI (t_20_c j)))), ((t_q 21), .inl (K 0, 600, .inl (fun j => iI (t_21_c j)))), ((t_q 23), .inl (K 0, 150, .inl (fun j => iI (t_23_c j)))), ((t_q 24), .inl (K 0, 5, .inl (fun j => iI (t_24_c j)))), ((t_q 25), .inl (K 0, 24, .inl (fun j => iI (t_25_c j)))), ((t_q 26), .inl (K 0, 24, .inl (fun j => iI (t_26_c j)))), ((t_q 27), .inl (K 0, 12, .inl (fun j => iI (t_27_c j)))), ((t_q 28), .inl (K 0, 12, .inl (fun j => iI (t_28_c j)))), ((t_q 36), .inl (K 0, 150, .inl (fun j => iI (c129_t_36 j))))]) hK hP hD hS hA [] [0, 1, 2, 3, 4, 5, 6, 7, 8, 9, 10, 11, 12] rfl rfl (by decide) (fun hp => va_runS (As := [.int (iI (t_28_c x129_4.toNat)), .int (iI x129_6)]) (rest := []) ⟨hx, hb, hml, hown, hts⟩ (k_X12_isBit_x (l := l) (D := D) (K := K) (p1 := (t_28_c x129_4.toNat)) (p2 := x129_6) (hp1 := (by omega)) (hp2 := (by omega)) _) (va_cwS 2 hts (fn_ginS (fn_gin wd_1515) wd_1513 wd_1514 wd_13) rfl rfl rfl (by decide +kernel) ⟨Nat.le_of_ble_eq_true rfl, Nat.le_of_ble_eq_true rfl⟩) ⟨fn_blind, hp⟩ rfl rfl hl.1 rfl (lv_room (Nat.le_of_ble_eq_true rfl)) dX12_spreads_154 ⟨Nat.le_of_ble_eq_true rfl, Nat.le_of_ble_eq_true rfl⟩) (fun r154 u154 H locs hwu154 hP hD hS => ?_)
          obtain ⟨u154a, u154b⟩ := u154
          obtain ⟨kr154, rfl, hkr154, hqu1540, hqu154_bt0, -⟩ := hwu154
          have hqu154 : ((t_28_c x129_4.toNat) = 0 → kr154 = 0) := hqu1540
          have hqu154_bt : kr154 = 1 ↔ (Int.toNat (t_28_c x129_4.toNat)).testBit (Int.toNat x129_6) = true := hqu154_bt0
          clear hqu1540 hqu154_bt0
          have hP : va_P D vwCl [(t, .inr (12, oX12 t_q t_x0 t_x6 t_x7 t_x8 t_x9 t_x10 t_x11 t_x12 t_x13 t_x14 t_x15 t_x32 t_x33 t_x34 t_x35 t_x39 t_x40 t_x43 t_x44 t_x48 t_x49 t_x50)), ((t_q 17), .inl (K 0, 40, .inl (fun j => iI (t_17_c j)))), ((t_q 18), .inl (K 0, 50, .inl (fun j => iI (t_18_c j)))), ((t_q 19), .inl (K 0, 60, .inl (fun j => iI (t_19_c j)))), ((t_q 20), .inl (K 0, 480, .inl (fun j => iI (t_20_c j)))), ((t_q 21), .inl (K 0, 600, .inl (fun j => iI (t_21_c j)))), ((t_q 23), .inl (K 0, 150, .inl (fun j => iI (t_23_c j)))), ((t_q 24), .inl (K 0, 5, .inl (fun j => iI (t_24_c j)))), ((t_q 25), .inl (K 0, 24, .inl (fun j => iI (t_25_c j)))), ((t_q 26), .inl (K 0, 24, .inl (fun j => iI (t_26_c j)))), ((t_q 27), .inl (K 0, 12, .inl (fun j => iI (t_27_c j)))), ((t_q 28), .inl (K 0, 12, .inl (fun j => iI (t_28_c j)))), ((t_q 36), .inl (K 0, 150, .inl (fun j => iI (c129_t_36 j))))] H := hP
          have hD : va_D A [(t, .inr (12, oX12 t_q t_x0 t_x6 t_x7 t_x8 t_x9 t_x10 t_x11 t_x12 t_x13 t_x14 t_x15 t_x32 t_x33 t_x34 t_x35 t_x39 t_x40 t_x43 t_x44 t_x48 t_x49 t_x50)), ((t_q 17), .inl (K 0, 40, .inl (fun j => iI (t_17_c j)))), ((t_q 18), .inl (K 0, 50, .inl (fun j => iI (t_18_c j)))), ((t_q 19), .inl (K 0, 60, .inl (fun j => iI (t_19_c j)))), ((t_q 20), .inl (K 0, 480, .inl (fun j => iI (t_20_c j)))), ((t_q 21), .inl (K 0, 600, .inl (fun j => iI (t_21_c j)))), ((t_q 23), .inl (K 0, 150, .inl (fun j => iI (t_23_c j)))), ((t_q 24), .inl (K 0, 5, .inl (fun j => iI (t_24_c j)))), ((t_q 25), .inl (K 0, 24, .inl (fun j => iI (t_25_c j)))), ((t_q 26), .inl (K 0, 24, .inl (fun j => iI (t_26_c j)))), ((t_q 27), .inl (K 0, 12, .inl (fun j => iI (t_27_c j)))), ((t_q 28), .inl (K 0, 12, .inl (fun j => iI (t_28_c j)))), ((t_q 36), .inl (K 0, 150, .inl (fun j => iI (c129_t_36 j))))] := hD
          refine g_if_eq (tgt := 190) hx hb (by omega) dX12_spreads_157 (by decide) (fun c157 => ?_) (fun c157 => ?_)
          · refine lv_iinc (v := iI (x129_6 + 1)) (lv' := [(6, .int (iI (x129_6 + 1))), (0, .ref t), (1, .int (iI p1)), (2, .int (iI p2)), (3, .int (iI x129_3)), (4, .int (iI x129_4)), (5, .int (iI x129_5))]) hx hb dX12_spreads_190 hl (k := 6) rfl (iI_add _ _) (by decide) rfl (fun ls hl => ?_)
            refine lv_goto (tgt := 129) hx hb dX12_spreads_193 (by decide) ?_
            have s193 := True.intro
            exact ih129 x129_3 x129_4 x129_5 (x129_6 + 1) c129_t_36 _ _ ls (by omega) (by omega) (show x129_5 = 0 → c129_t_36 = t_36_c from by first | assumption | exact fun h9 => (True.intro (by omega)).trans (bz (by omega))) (show ∀ j : Nat, c129_t_36 j ≤ t_36_c j from by first | assumption | exact fun j => Int.le_trans (True.intro j) (mo j)) (show x129_5 = 0 → p2 + 1 < t_24_c (Int.toNat p1) → c129_t_36 (Int.toNat (30 * p1 + p2 + 1)) ≤ x129_3 + 1 from by first | assumption | exact fun h9 h8 => by rw [True.intro (by omega)]; exact nx (by omega) h8) (show x129_5 = 0 → ∀ o : Nat, (o : Int) < t_17_c 2 → c129_t_36 (30 * o) ≤ x129_3 + t_17_c 0 from by first | assumption | exact fun h9 o ho => by rw [True.intro (by omega)]; exact dr (by omega) o ho) hc129_t_36 (hP.sub [0, 1, 2, 3, 4, 5, 6, 7, 8, 9, 10, 11, 12] rfl) (hD.sub [0, 1, 2, 3, 4, 5, 6, 7, 8, 9, 10, 11, 12] (by decide) rfl) hS (lv_sub hl [1, 2, 3, 4, 5, 6, 0] rfl)
          · have z160 := li.2.2.2 (Int.toNat x129_4) (Int.toNat x129_6) (by omega) ((hqu154_bt).mp (by omega))
            refine lv_iload hx hb dX12_spreads_160 (lv_at hl 5 rfl) ?_
            refine lv_aload_n hx hb dX12_spreads_162 rfl (lv_at hl 0 rfl) ?_
            refine lv_bipush (v := iI 30) hx hb dX12_spreads_163 (by decide) ?_
            refine lv_aload_n hx hb dX12_spreads_165 rfl (lv_at hl 0 rfl) ?_
            refine fn_at 166 rfl ?_
            refine va_get (D := D) (own := RX12) (ci := 12) (v := .ref (t_q 19)) (C := RX12) (T := TX12) (N := 51) hx hb hts inb_X12 hown hK.1 hP 0 rfl rfl 19 (by decide) (hts _ wd_1253) (fun _ h9 => h9) rfl dX12_spreads_166 ?_
            refine lv_iload hx hb dX12_spreads_169 (lv_at hl 6 rfl) ?_
            refine g_iald hx hb hK.1 hP 3 0 rfl rfl (by omega) (by omega) (by decide) dX12_spreads_171 ?_
            have y171 : 0 ≤ (t_19_c x129_6.toNat) ∧ (t_19_c x129_6.toNat) ≤ 4 := hc_t_19 x129_6.toNat
            refine g_imul hx hb dX12_spreads_172 ?_
            refine lv_aload_n hx hb dX12_spreads_173 rfl (lv_at hl 0 rfl) ?_
            refine va_get (D := D) (own := RX12) (ci := 12) (v := .ref (t_q 27)) (C := RX12) (T := TX12) (N := 51) hx hb hts inb_X12 hown hK.1 hP 0 rfl rfl 27 (by decide) (hts _ wd_1261) (fun _ h9 => h9) rfl dX12_spreads_174 ?_
            refine lv_iload hx hb dX12_spreads_177 (lv_at hl 6 rfl) ?_
            refine g_iald hx hb hK.1 hP 10 0 rfl rfl (by omega) (by omega) (by decide) dX12_spreads_179 ?_
            have y179 : (-1) ≤ (t_27_c x129_6.toNat) ∧ (t_27_c x129_6.toNat) ≤ 29 := hc_t_27 x129_6.toNat
            refine g_iadd hx hb dX12_spreads_180 ?_
            refine lv_iload_n hx hb dX12_spreads_181 rfl (lv_at hl 3 rfl) ?_
            refine lv_iconst (v := iI 1) hx hb dX12_spreads_182 rfl ?_
            refine g_iadd hx hb dX12_spreads_183 ?_
            refine fn_goi (wc := [(t, .inr (12, oX12 t_q t_x0 t_x6 t_x7 t_x8 t_x9 t_x10 t_x11 t_x12 t_x13 t_x14 t_x15 t_x32 t_x33 t_x34 t_x35 t_x39 t_x40 t_x43 t_x44 t_x48 t_x49 t_x50)), ((t_q 36), .inl (K 0, 150, .inl (fun j => iI (c129_t_36 j))))]) (wr := [((t_q 17), .inl (K 0, 40, .inl (fun j => iI (t_17_c j)))), ((t_q 18), .inl (K 0, 50, .inl (fun j => iI (t_18_c j)))), ((t_q 19), .inl (K 0, 60, .inl (fun j => iI (t_19_c j)))), ((t_q 20), .inl (K 0, 480, .inl (fun j => iI (t_20_c j)))), ((t_q 21), .inl (K 0, 600, .inl (fun j => iI (t_21_c j)))), ((t_q 23), .inl (K 0, 150, .inl (fun j => iI (t_23_c j)))), ((t_q 24), .inl (K 0, 5, .inl (fun j => iI (t_24_c j)))), ((t_q 25), .inl (K 0, 24, .inl (fun j => iI (t_25_c j)))), ((t_q 26), .inl (K 0, 24, .inl (fun j => iI (t_26_c j)))), ((t_q 27), .inl (K 0, 12, .inl (fun j => iI (t_27_c j)))), ((t_q 28), .inl (K 0, 12, .inl (fun j => iI (t_28_c j))))]) hK hP hD hS hA [0, 12] [1, 2, 3, 4, 5, 6, 7, 8, 9, 10, 11] rfl rfl (by decide) (fun hp => va_runV (C := RX12) (As := [.int (iI (30 * (t_19_c x129_6.toNat) + (t_27_c x129_6.toNat))), .int (iI (x129_3 + 1))]) (rest := [.int (iI x129_5)]) ⟨hx, hb, hml, hown, hts⟩ (k_X12_betters (l := l) (D := D) (K := K) (t := t) (p1 := (30 * (t_19_c x129_6.toNat) + (t_27_c x129_6.toNat))) (p2 := (x129_3 + 1)) (t_q := t_q) (t_x0 := t_x0) (t_x6 := t_x6) (t_x7 := t_x7) (t_x8 := t_x8) (t_x9 := t_x9) (t_x10 := t_x10) (t_x11 := t_x11) (t_x12 := t_x12) (t_x13 := t_x13) (t_x14 := t_x14) (t_x15 := t_x15) (t_x32 := t_x32) (t_x33 := t_x33) (t_x34 := t_x34) (t_x35 := t_x35) (t_x39 := t_x39) (t_x40 := t_x40) (t_x43 := t_x43) (t_x44 := t_x44) (t_x48 := t_x48) (t_x49 := t_x49) (t_x50 := t_x50) (t_36_c := c129_t_36) (hp1 := (by omega)) (hp2 := (by omega)) (hi_t := hi_t) (hc_t_36 := hc129_t_36) _) (cwV 2 hts (fn_ginV (fn_gin wd_1783) wd_1780 wd_1782 wp_141 wd_13) rfl rfl rfl (by decide +kernel) ⟨Nat.le_of_ble_eq_true rfl, Nat.le_of_ble_eq_true rfl⟩) ⟨fn_blind, va_recv hK.1 hP (ci := 12) (q0 := 0) rfl rfl, hp⟩ rfl rfl hl.1 rfl (lv_room (Nat.le_of_ble_eq_true rfl)) dX12_spreads_184 ⟨Nat.le_of_ble_eq_true rfl, Nat.le_of_ble_eq_true rfl⟩) (fun r184 u184 H locs hwu184 hP hD hS => ?_)
            obtain ⟨u184a, u184b⟩ := u184
            obtain ⟨kr184, rfl, hkr184, hqu184_sm0, hqu184_bq0, hqu184_bz0, hqu184_mo0, hu184_00, -⟩ := hwu184
            have hqu184_sm : smN (u184b 0) 150 + kr184 ≤ smN c129_t_36 150 := hqu184_sm0
            have hqu184_bq : (u184b 0) (Int.toNat (30 * (t_19_c x129_6.toNat) + (t_27_c x129_6.toNat))) ≤ (x129_3 + 1) := hqu184_bq0
            have hqu184_bz : kr184 = 0 → (u184b 0) = c129_t_36 := hqu184_bz0
            have hqu184_mo : ∀ j : Nat, (u184b 0) j ≤ c129_t_36 j := hqu184_mo0
            have hu184_0 : ∀ j : Nat, 0 ≤ (u184b 0) j ∧ (u184b 0) j ≤ 100000 := hu184_00
            clear hqu184_sm0 hqu184_bq0 hqu184_bz0 hqu184_mo0 hu184_00
            have hP : va_P D vwCl [((t_q 17), .inl (K 0, 40, .inl (fun j => iI (t_17_c j)))), ((t_q 18), .inl (K 0, 50, .inl (fun j => iI (t_18_c j)))), ((t_q 19), .inl (K 0, 60, .inl (fun j => iI (t_19_c j)))), ((t_q 20), .inl (K 0, 480, .inl (fun j => iI (t_20_c j)))), ((t_q 21), .inl (K 0, 600, .inl (fun j => iI (t_21_c j)))), ((t_q 23), .inl (K 0, 150, .inl (fun j => iI (t_23_c j)))), ((t_q 24), .inl (K 0, 5, .inl (fun j => iI (t_24_c j)))), ((t_q 25), .inl (K 0, 24, .inl (fun j => iI (t_25_c j)))), ((t_q 26), .inl (K 0, 24, .inl (fun j => iI (t_26_c j)))), ((t_q 27), .inl (K 0, 12, .inl (fun j => iI (t_27_c j)))), ((t_q 28), .inl (K 0, 12, .inl (fun j => iI (t_28_c j)))), (t, .inr (12, oX12 t_q t_x0 t_x6 t_x7 t_x8 t_x9 t_x10 t_x11 t_x12 t_x13 t_x14 t_x15 t_x32 t_x33 t_x34 t_x35 t_x39 t_x40 t_x43 t_x44 t_x48 t_x49 t_x50)), ((t_q 36), .inl (K 0, 150, .inl (fun j => iI ((u184b 0) j))))] H := hP
            have hD : va_D A [((t_q 17), .inl (K 0, 40, .inl (fun j => iI (t_17_c j)))), ((t_q 18), .inl (K 0, 50, .inl (fun j => iI (t_18_c j)))), ((t_q 19), .inl (K 0, 60, .inl (fun j => iI (t_19_c j)))), ((t_q 20), .inl (K 0, 480, .inl (fun j => iI (t_20_c j)))), ((t_q 21), .inl (K 0, 600, .inl (fun j => iI (t_21_c j)))), ((t_q 23), .inl (K 0, 150, .inl (fun j => iI (t_23_c j)))), ((t_q 24), .inl (K 0, 5, .inl (fun j => iI (t_24_c j)))), ((t_q 25), .inl (K 0, 24, .inl (fun j => iI (t_25_c j)))), ((t_q 26), .inl (K 0, 24, .inl (fun j => iI (t_26_c j)))), ((t_q 27), .inl (K 0, 12, .inl (fun j => iI (t_27_c j)))), ((t_q 28), .inl (K 0, 12, .inl (fun j => iI (t_28_c j)))), (t, .inr (12, oX12 t_q t_x0 t_x6 t_x7 t_x8 t_x9 t_x10 t_x11 t_x12 t_x13 t_x14 t_x15 t_x32 t_x33 t_x34 t_x35 t_x39 t_x40 t_x43 t_x44 t_x48 t_x49 t_x50)), ((t_q 36), .inl (K 0, 150, .inl (fun j => iI ((u184b 0) j))))] := hD
            refine lv_ior hx hb dX12_spreads_187 ?_
            obtain ⟨w187, ew187, hw187⟩ := iI_or1 x129_5 kr184 (by omega) (by omega)
            refine fn_top (iI w187) ew187 ?_
            refine lv_istore (lv' := [(5, .int (iI w187)), (0, .ref t), (1, .int (iI p1)), (2, .int (iI p2)), (3, .int (iI x129_3)), (4, .int (iI x129_4)), (6, .int (iI x129_6))]) hx hb dX12_spreads_188 hl (by decide) rfl (fun ls hl => ?_)
            refine lv_iinc (v := iI (x129_6 + 1)) (lv' := [(6, .int (iI (x129_6 + 1))), (5, .int (iI w187)), (0, .ref t), (1, .int (iI p1)), (2, .int (iI p2)), (3, .int (iI x129_3)), (4, .int (iI x129_4))]) hx hb dX12_spreads_190 hl (k := 6) rfl (iI_add _ _) (by decide) rfl (fun ls hl => ?_)
            refine lv_goto (tgt := 129) hx hb dX12_spreads_193 (by decide) ?_
            have s193 := hqu184_sm
            exact ih129 x129_3 x129_4 w187 (x129_6 + 1) (u184b 0) _ _ ls (by omega) (by omega) (show w187 = 0 → (u184b 0) = t_36_c from by first | assumption | exact fun h9 => (hqu184_bz (by omega)).trans (bz (by omega))) (show ∀ j : Nat, (u184b 0) j ≤ t_36_c j from by first | assumption | exact fun j => Int.le_trans (hqu184_mo j) (mo j)) (show w187 = 0 → p2 + 1 < t_24_c (Int.toNat p1) → (u184b 0) (Int.toNat (30 * p1 + p2 + 1)) ≤ x129_3 + 1 from by first | assumption | exact fun h9 h8 => by rw [hqu184_bz (by omega)]; exact nx (by omega) h8) (show w187 = 0 → ∀ o : Nat, (o : Int) < t_17_c 2 → (u184b 0) (30 * o) ≤ x129_3 + t_17_c 0 from by first | assumption | exact fun h9 o ho => by rw [hqu184_bz (by omega)]; exact dr (by omega) o ho) hu184_0 (hP.sub [11, 0, 1, 2, 3, 4, 5, 6, 7, 8, 9, 10, 12] rfl) (hD.sub [11, 0, 1, 2, 3, 4, 5, 6, 7, 8, 9, 10, 12] (by decide) rfl) hS (lv_sub hl [2, 3, 4, 5, 6, 1, 0] rfl)
  have J87 : ∀ (n : Nat) (x87_3 : Int) (x87_4 : Int) (x87_5 : Int) (x87_6 : Int) (c87_t_36 : Nat → Int) (H : Heap) (locs : List Loc) (ls : Array Slot), (5 - x87_6).toNat < n → (0 ≤ x87_3 ∧ x87_3 ≤ 100000 ∧ (-2) ≤ x87_4 ∧ x87_4 ≤ 11 ∧ 0 ≤ x87_5 ∧ x87_5 ≤ 1 ∧ 0 ≤ x87_6 ∧ x87_6 ≤ 5 ∧ smN c87_t_36 150 + x87_5 ≤ smN t_36_c 150 ∧ x87_3 = t_36_c (Int.toNat (30 * p1 + p2)) ∧ (x87_4 < 0 ∨ x87_4 < t_17_c 3)) → (x87_5 = 0 → c87_t_36 = t_36_c) → (∀ j : Nat, c87_t_36 j ≤ t_36_c j) → (x87_5 = 0 → p2 + 1 < t_24_c (Int.toNat p1) → c87_t_36 (Int.toNat (30 * p1 + p2 + 1)) ≤ x87_3 + 1) → (x87_5 = 0 → ∀ o : Nat, (o : Int) < x87_6 → c87_t_36 (30 * o) ≤ x87_3 + t_17_c 0) → (∀ j : Nat, 0 ≤ c87_t_36 j ∧ c87_t_36 j ≤ 100000) → va_P D vwCl [(t, .inr (12, oX12 t_q t_x0 t_x6 t_x7 t_x8 t_x9 t_x10 t_x11 t_x12 t_x13 t_x14 t_x15 t_x32 t_x33 t_x34 t_x35 t_x39 t_x40 t_x43 t_x44 t_x48 t_x49 t_x50)), ((t_q 17), .inl (K 0, 40, .inl (fun j => iI (t_17_c j)))), ((t_q 18), .inl (K 0, 50, .inl (fun j => iI (t_18_c j)))), ((t_q 19), .inl (K 0, 60, .inl (fun j => iI (t_19_c j)))), ((t_q 20), .inl (K 0, 480, .inl (fun j => iI (t_20_c j)))), ((t_q 21), .inl (K 0, 600, .inl (fun j => iI (t_21_c j)))), ((t_q 23), .inl (K 0, 150, .inl (fun j => iI (t_23_c j)))), ((t_q 24), .inl (K 0, 5, .inl (fun j => iI (t_24_c j)))), ((t_q 25), .inl (K 0, 24, .inl (fun j => iI (t_25_c j)))), ((t_q 26), .inl (K 0, 24, .inl (fun j => iI (t_26_c j)))), ((t_q 27), .inl (K 0, 12, .inl (fun j => iI (t_27_c j)))), ((t_q 28), .inl (K 0, 12, .inl (fun j => iI (t_28_c j)))), ((t_q 36), .inl (K 0, 150, .inl (fun j => iI (c87_t_36 j))))] H → va_D A [(t, .inr (12, oX12 t_q t_x0 t_x6 t_x7 t_x8 t_x9 t_x10 t_x11 t_x12 t_x13 t_x14 t_x15 t_x32 t_x33 t_x34 t_x35 t_x39 t_x40 t_x43 t_x44 t_x48 t_x49 t_x50)), ((t_q 17), .inl (K 0, 40, .inl (fun j => iI (t_17_c j)))), ((t_q 18), .inl (K 0, 50, .inl (fun j => iI (t_18_c j)))), ((t_q 19), .inl (K 0, 60, .inl (fun j => iI (t_19_c j)))), ((t_q 20), .inl (K 0, 480, .inl (fun j => iI (t_20_c j)))), ((t_q 21), .inl (K 0, 600, .inl (fun j => iI (t_21_c j)))), ((t_q 23), .inl (K 0, 150, .inl (fun j => iI (t_23_c j)))), ((t_q 24), .inl (K 0, 5, .inl (fun j => iI (t_24_c j)))), ((t_q 25), .inl (K 0, 24, .inl (fun j => iI (t_25_c j)))), ((t_q 26), .inl (K 0, 24, .inl (fun j => iI (t_26_c j)))), ((t_q 27), .inl (K 0, 12, .inl (fun j => iI (t_27_c j)))), ((t_q 28), .inl (K 0, 12, .inl (fun j => iI (t_28_c j)))), ((t_q 36), .inl (K 0, 150, .inl (fun j => iI (c87_t_36 j))))] → va_S A s.heap H locs → lv_has ls 7 [(0, .ref t), (1, .int (iI p1)), (2, .int (iI p2)), (3, .int (iI x87_3)), (4, .int (iI x87_4)), (5, .int (iI x87_5)), (6, .int (iI x87_6))] → W p l e ({ frames := 8, cells := 0, slots := 0, locals := 200 } : Room) s m ag below meth c H locs 0 0 Q (F0 m 87 ls []) := by
    intro n
    induction n with
    | zero =>
      intro x87_3 x87_4 x87_5 x87_6 c87_t_36 H locs ls hm87 hf87 bz mo nx dr hc87_t_36 hP hD hS hl
      exact absurd hm87 (Nat.not_lt_zero _)
    | succ n ih87 =>
      intro x87_3 x87_4 x87_5 x87_6 c87_t_36 H locs ls hm87 hf87 bz mo nx dr hc87_t_36 hP hD hS hl
      refine lv_iload hx hb dX12_spreads_87 (lv_at hl 6 rfl) ?_
      refine lv_aload_n hx hb dX12_spreads_89 rfl (lv_at hl 0 rfl) ?_
      refine va_get (D := D) (own := RX12) (ci := 12) (v := .ref (t_q 17)) (C := RX12) (T := TX12) (N := 51) hx hb hts inb_X12 hown hK.1 hP 0 rfl rfl 17 (by decide) (hts _ wd_1251) (fun _ h9 => h9) rfl dX12_spreads_90 ?_
      refine lv_iconst (v := iI 2) hx hb dX12_spreads_93 rfl ?_
      refine g_iald hx hb hK.1 hP 1 0 rfl rfl (by omega) (by omega) (by decide) dX12_spreads_94 ?_
      refine fn_top (iI (t_17_c 2)) rfl ?_
      have y94 : 0 ≤ (t_17_c 2) ∧ (t_17_c 2) ≤ 5 := (hc_t_17 2).2.2.1 (by omega)
      refine g_icmp_ge (tgt := 126) hx hb (by omega) (by omega) dX12_spreads_95 (by decide) (fun c95 => ?_) (fun c95 => ?_)
      · refine lv_iconst (v := iI 0) hx hb dX12_spreads_126 rfl ?_
        refine lv_istore (lv' := [(6, .int (iI 0)), (0, .ref t), (1, .int (iI p1)), (2, .int (iI p2)), (3, .int (iI x87_3)), (4, .int (iI x87_4)), (5, .int (iI x87_5))]) hx hb dX12_spreads_127 hl (by decide) rfl (fun ls hl => ?_)
        exact J129 _ x87_3 x87_4 x87_5 0 c87_t_36 _ _ ls (Nat.lt_succ_self _) (by omega) (show x87_5 = 0 → c87_t_36 = t_36_c from by assumption) (show ∀ j : Nat, c87_t_36 j ≤ t_36_c j from by assumption) (show x87_5 = 0 → p2 + 1 < t_24_c (Int.toNat p1) → c87_t_36 (Int.toNat (30 * p1 + p2 + 1)) ≤ x87_3 + 1 from by assumption) (show x87_5 = 0 → ∀ o : Nat, (o : Int) < t_17_c 2 → c87_t_36 (30 * o) ≤ x87_3 + t_17_c 0 from fun h9 o ho => dr h9 o (by omega)) hc87_t_36 (hP.sub [0, 1, 2, 3, 4, 5, 6, 7, 8, 9, 10, 11, 12] rfl) (hD.sub [0, 1, 2, 3, 4, 5, 6, 7, 8, 9, 10, 11, 12] (by decide) rfl) hS (lv_sub hl [1, 2, 3, 4, 5, 6, 0] rfl)
      · refine lv_iload hx hb dX12_spreads_98 (lv_at hl 5 rfl) ?_
        refine lv_aload_n hx hb dX12_spreads_100 rfl (lv_at hl 0 rfl) ?_
        refine lv_bipush (v := iI 30) hx hb dX12_spreads_101 (by decide) ?_
        refine lv_iload hx hb dX12_spreads_103 (lv_at hl 6 rfl) ?_
        refine g_imul hx hb dX12_spreads_105 ?_
        refine lv_iload_n hx hb dX12_spreads_106 rfl (lv_at hl 3 rfl) ?_
        refine lv_aload_n hx hb dX12_spreads_107 rfl (lv_at hl 0 rfl) ?_
        refine va_get (D := D) (own := RX12) (ci := 12) (v := .ref (t_q 17)) (C := RX12) (T := TX12) (N := 51) hx hb hts inb_X12 hown hK.1 hP 0 rfl rfl 17 (by decide) (hts _ wd_1251) (fun _ h9 => h9) rfl dX12_spreads_108 ?_
        refine lv_iconst (v := iI 0) hx hb dX12_spreads_111 rfl ?_
        refine g_iald hx hb hK.1 hP 1 0 rfl rfl (by omega) (by omega) (by decide) dX12_spreads_112 ?_
        refine fn_top (iI (t_17_c 0)) rfl ?_
        have y112 : 0 ≤ (t_17_c 0) ∧ (t_17_c 0) ≤ 20 := (hc_t_17 0).1 (by omega)
        refine g_iadd hx hb dX12_spreads_113 ?_
        refine fn_goi (wc := [(t, .inr (12, oX12 t_q t_x0 t_x6 t_x7 t_x8 t_x9 t_x10 t_x11 t_x12 t_x13 t_x14 t_x15 t_x32 t_x33 t_x34 t_x35 t_x39 t_x40 t_x43 t_x44 t_x48 t_x49 t_x50)), ((t_q 36), .inl (K 0, 150, .inl (fun j => iI (c87_t_36 j))))]) (wr := [((t_q 17), .inl (K 0, 40, .inl (fun j => iI (t_17_c j)))), ((t_q 18), .inl (K 0, 50, .inl (fun j => iI (t_18_c j)))), ((t_q 19), .inl (K 0, 60, .inl (fun j => iI (t_19_c j)))), ((t_q 20), .inl (K 0, 480, .inl (fun j => iI (t_20_c j)))), ((t_q 21), .inl (K 0, 600, .inl (fun j => iI (t_21_c j)))), ((t_q 23), .inl (K 0, 150, .inl (fun j => iI (t_23_c j)))), ((t_q 24), .inl (K 0, 5, .inl (fun j => iI (t_24_c j)))), ((t_q 25), .inl (K 0, 24, .inl (fun j => iI (t_25_c j)))), ((t_q 26), .inl (K 0, 24, .inl (fun j => iI (t_26_c j)))), ((t_q 27), .inl (K 0, 12, .inl (fun j => iI (t_27_c j)))), ((t_q 28), .inl (K 0, 12, .inl (fun j => iI (t_28_c j))))]) hK hP hD hS hA [0, 12] [1, 2, 3, 4, 5, 6, 7, 8, 9, 10, 11] rfl rfl (by decide) (fun hp => va_runV (C := RX12) (As := [.int (iI (30 * x87_6)), .int (iI (x87_3 + (t_17_c 0)))]) (rest := [.int (iI x87_5)]) ⟨hx, hb, hml, hown, hts⟩ (k_X12_betters (l := l) (D := D) (K := K) (t := t) (p1 := (30 * x87_6)) (p2 := (x87_3 + (t_17_c 0))) (t_q := t_q) (t_x0 := t_x0) (t_x6 := t_x6) (t_x7 := t_x7) (t_x8 := t_x8) (t_x9 := t_x9) (t_x10 := t_x10) (t_x11 := t_x11) (t_x12 := t_x12) (t_x13 := t_x13) (t_x14 := t_x14) (t_x15 := t_x15) (t_x32 := t_x32) (t_x33 := t_x33) (t_x34 := t_x34) (t_x35 := t_x35) (t_x39 := t_x39) (t_x40 := t_x40) (t_x43 := t_x43) (t_x44 := t_x44) (t_x48 := t_x48) (t_x49 := t_x49) (t_x50 := t_x50) (t_36_c := c87_t_36) (hp1 := (by omega)) (hp2 := (by omega)) (hi_t := hi_t) (hc_t_36 := hc87_t_36) _) (cwV 2 hts (fn_ginV (fn_gin wd_1783) wd_1780 wd_1782 wp_141 wd_13) rfl rfl rfl (by decide +kernel) ⟨Nat.le_of_ble_eq_true rfl, Nat.le_of_ble_eq_true rfl⟩) ⟨fn_blind, va_recv hK.1 hP (ci := 12) (q0 := 0) rfl rfl, hp⟩ rfl rfl hl.1 rfl (lv_room (Nat.le_of_ble_eq_true rfl)) dX12_spreads_114 ⟨Nat.le_of_ble_eq_true rfl, Nat.le_of_ble_eq_true rfl⟩) (fun r114 u114 H locs hwu114 hP hD hS => ?_)
        obtain ⟨u114a, u114b⟩ := u114
        obtain ⟨kr114, rfl, hkr114, hqu114_sm0, hqu114_bq0, hqu114_bz0, hqu114_mo0, hu114_00, -⟩ := hwu114
        have hqu114_sm : smN (u114b 0) 150 + kr114 ≤ smN c87_t_36 150 := hqu114_sm0
        have hqu114_bq : (u114b 0) (Int.toNat (30 * x87_6)) ≤ (x87_3 + (t_17_c 0)) := hqu114_bq0
        have hqu114_bz : kr114 = 0 → (u114b 0) = c87_t_36 := hqu114_bz0
        have hqu114_mo : ∀ j : Nat, (u114b 0) j ≤ c87_t_36 j := hqu114_mo0
        have hu114_0 : ∀ j : Nat, 0 ≤ (u114b 0) j ∧ (u114b 0) j ≤ 100000 := hu114_00
        clear hqu114_sm0 hqu114_bq0 hqu114_bz0 hqu114_mo0 hu114_00
        have hP : va_P D vwCl [((t_q 17), .inl (K 0, 40, .inl (fun j => iI (t_17_c j)))), ((t_q 18), .inl (K 0, 50, .inl (fun j => iI (t_18_c j)))), ((t_q 19), .inl (K 0, 60, .inl (fun j => iI (t_19_c j)))), ((t_q 20), .inl (K 0, 480, .inl (fun j => iI (t_20_c j)))), ((t_q 21), .inl (K 0, 600, .inl (fun j => iI (t_21_c j)))), ((t_q 23), .inl (K 0, 150, .inl (fun j => iI (t_23_c j)))), ((t_q 24), .inl (K 0, 5, .inl (fun j => iI (t_24_c j)))), ((t_q 25), .inl (K 0, 24, .inl (fun j => iI (t_25_c j)))), ((t_q 26), .inl (K 0, 24, .inl (fun j => iI (t_26_c j)))), ((t_q 27), .inl (K 0, 12, .inl (fun j => iI (t_27_c j)))), ((t_q 28), .inl (K 0, 12, .inl (fun j => iI (t_28_c j)))), (t, .inr (12, oX12 t_q t_x0 t_x6 t_x7 t_x8 t_x9 t_x10 t_x11 t_x12 t_x13 t_x14 t_x15 t_x32 t_x33 t_x34 t_x35 t_x39 t_x40 t_x43 t_x44 t_x48 t_x49 t_x50)), ((t_q 36), .inl (K 0, 150, .inl (fun j => iI ((u114b 0) j))))] H := hP
        have hD : va_D A [((t_q 17), .inl (K 0, 40, .inl (fun j => iI (t_17_c j)))), ((t_q 18), .inl (K 0, 50, .inl (fun j => iI (t_18_c j)))), ((t_q 19), .inl (K 0, 60, .inl (fun j => iI (t_19_c j)))), ((t_q 20), .inl (K 0, 480, .inl (fun j => iI (t_20_c j)))), ((t_q 21), .inl (K 0, 600, .inl (fun j => iI (t_21_c j)))), ((t_q 23), .inl (K 0, 150, .inl (fun j => iI (t_23_c j)))), ((t_q 24), .inl (K 0, 5, .inl (fun j => iI (t_24_c j)))), ((t_q 25), .inl (K 0, 24, .inl (fun j => iI (t_25_c j)))), ((t_q 26), .inl (K 0, 24, .inl (fun j => iI (t_26_c j)))), ((t_q 27), .inl (K 0, 12, .inl (fun j => iI (t_27_c j)))), ((t_q 28), .inl (K 0, 12, .inl (fun j => iI (t_28_c j)))), (t, .inr (12, oX12 t_q t_x0 t_x6 t_x7 t_x8 t_x9 t_x10 t_x11 t_x12 t_x13 t_x14 t_x15 t_x32 t_x33 t_x34 t_x35 t_x39 t_x40 t_x43 t_x44 t_x48 t_x49 t_x50)), ((t_q 36), .inl (K 0, 150, .inl (fun j => iI ((u114b 0) j))))] := hD
        refine lv_ior hx hb dX12_spreads_117 ?_
        obtain ⟨w117, ew117, hw117⟩ := iI_or1 x87_5 kr114 (by omega) (by omega)
        refine fn_top (iI w117) ew117 ?_
        refine fn_at 118 rfl ?_
        refine lv_istore (lv' := [(5, .int (iI w117)), (0, .ref t), (1, .int (iI p1)), (2, .int (iI p2)), (3, .int (iI x87_3)), (4, .int (iI x87_4)), (6, .int (iI x87_6))]) hx hb dX12_spreads_118 hl (by decide) rfl (fun ls hl => ?_)
        refine lv_iinc (v := iI (x87_6 + 1)) (lv' := [(6, .int (iI (x87_6 + 1))), (5, .int (iI w117)), (0, .ref t), (1, .int (iI p1)), (2, .int (iI p2)), (3, .int (iI x87_3)), (4, .int (iI x87_4))]) hx hb dX12_spreads_120 hl (k := 6) rfl (iI_add _ _) (by decide) rfl (fun ls hl => ?_)
        refine lv_goto (tgt := 87) hx hb dX12_spreads_123 (by decide) ?_
        have s123 := hqu114_sm
        exact ih87 x87_3 x87_4 w117 (x87_6 + 1) (u114b 0) _ _ ls (by omega) (by omega) (show w117 = 0 → (u114b 0) = t_36_c from fun h9 => (hqu114_bz (by omega)).trans (bz (by omega))) (show ∀ j : Nat, (u114b 0) j ≤ t_36_c j from fun j => Int.le_trans (hqu114_mo j) (mo j)) (show w117 = 0 → p2 + 1 < t_24_c (Int.toNat p1) → (u114b 0) (Int.toNat (30 * p1 + p2 + 1)) ≤ x87_3 + 1 from fun h9 h8 => by rw [hqu114_bz (by omega)]; exact nx (by omega) h8) (show w117 = 0 → ∀ o : Nat, (o : Int) < (x87_6 + 1) → (u114b 0) (30 * o) ≤ x87_3 + t_17_c 0 from fun h9 => all_step (by omega) (fun o ho => by rw [hqu114_bz (by omega)]; exact dr (by omega) o ho) (by have e9 : 30 * Int.toNat x87_6 = Int.toNat (30 * x87_6) := (by omega); rw [e9]; exact hqu114_bq)) hu114_0 (hP.sub [11, 0, 1, 2, 3, 4, 5, 6, 7, 8, 9, 10, 12] rfl) (hD.sub [11, 0, 1, 2, 3, 4, 5, 6, 7, 8, 9, 10, 12] (by decide) rfl) hS (lv_sub hl [2, 3, 4, 5, 6, 1, 0] rfl)
  have J84 : ∀ (x84_3 : Int) (x84_4 : Int) (x84_5 : Int) (c84_t_36 : Nat → Int) (H : Heap) (locs : List Loc) (ls : Array Slot), (0 ≤ x84_3 ∧ x84_3 ≤ 100000 ∧ (-2) ≤ x84_4 ∧ x84_4 ≤ 11 ∧ 0 ≤ x84_5 ∧ x84_5 ≤ 1 ∧ smN c84_t_36 150 + x84_5 ≤ smN t_36_c 150 ∧ x84_3 = t_36_c (Int.toNat (30 * p1 + p2)) ∧ (x84_4 < 0 ∨ x84_4 < t_17_c 3)) → (x84_5 = 0 → c84_t_36 = t_36_c) → (∀ j : Nat, c84_t_36 j ≤ t_36_c j) → (x84_5 = 0 → p2 + 1 < t_24_c (Int.toNat p1) → c84_t_36 (Int.toNat (30 * p1 + p2 + 1)) ≤ x84_3 + 1) → (∀ j : Nat, 0 ≤ c84_t_36 j ∧ c84_t_36 j ≤ 100000) → va_P D vwCl [(t, .inr (12, oX12 t_q t_x0 t_x6 t_x7 t_x8 t_x9 t_x10 t_x11 t_x12 t_x13 t_x14 t_x15 t_x32 t_x33 t_x34 t_x35 t_x39 t_x40 t_x43 t_x44 t_x48 t_x49 t_x50)), ((t_q 17), .inl (K 0, 40, .inl (fun j => iI (t_17_c j)))), ((t_q 18), .inl (K 0, 50, .inl (fun j => iI (t_18_c j)))), ((t_q 19), .inl (K 0, 60, .inl (fun j => iI (t_19_c j)))), ((t_q 20), .inl (K 0, 480, .inl (fun j => iI (t_20_c j)))), ((t_q 21), .inl (K 0, 600, .inl (fun j => iI (t_21_c j)))), ((t_q 23), .inl (K 0, 150, .inl (fun j => iI (t_23_c j)))), ((t_q 24), .inl (K 0, 5, .inl (fun j => iI (t_24_c j)))), ((t_q 25), .inl (K 0, 24, .inl (fun j => iI (t_25_c j)))), ((t_q 26), .inl (K 0, 24, .inl (fun j => iI (t_26_c j)))), ((t_q 27), .inl (K 0, 12, .inl (fun j => iI (t_27_c j)))), ((t_q 28), .inl (K 0, 12, .inl (fun j => iI (t_28_c j)))), ((t_q 36), .inl (K 0, 150, .inl (fun j => iI (c84_t_36 j))))] H → va_D A [(t, .inr (12, oX12 t_q t_x0 t_x6 t_x7 t_x8 t_x9 t_x10 t_x11 t_x12 t_x13 t_x14 t_x15 t_x32 t_x33 t_x34 t_x35 t_x39 t_x40 t_x43 t_x44 t_x48 t_x49 t_x50)), ((t_q 17), .inl (K 0, 40, .inl (fun j => iI (t_17_c j)))), ((t_q 18), .inl (K 0, 50, .inl (fun j => iI (t_18_c j)))), ((t_q 19), .inl (K 0, 60, .inl (fun j => iI (t_19_c j)))), ((t_q 20), .inl (K 0, 480, .inl (fun j => iI (t_20_c j)))), ((t_q 21), .inl (K 0, 600, .inl (fun j => iI (t_21_c j)))), ((t_q 23), .inl (K 0, 150, .inl (fun j => iI (t_23_c j)))), ((t_q 24), .inl (K 0, 5, .inl (fun j => iI (t_24_c j)))), ((t_q 25), .inl (K 0, 24, .inl (fun j => iI (t_25_c j)))), ((t_q 26), .inl (K 0, 24, .inl (fun j => iI (t_26_c j)))), ((t_q 27), .inl (K 0, 12, .inl (fun j => iI (t_27_c j)))), ((t_q 28), .inl (K 0, 12, .inl (fun j => iI (t_28_c j)))), ((t_q 36), .inl (K 0, 150, .inl (fun j => iI (c84_t_36 j))))] → va_S A s.heap H locs → lv_has ls 7 [(0, .ref t), (1, .int (iI p1)), (2, .int (iI p2)), (3, .int (iI x84_3)), (4, .int (iI x84_4)), (5, .int (iI x84_5))] → W p l e ({ frames := 8, cells := 0, slots := 0, locals := 200 } : Room) s m ag below meth c H locs 0 0 Q (F0 m 84 ls []) := by
    intro x84_3 x84_4 x84_5 c84_t_36 H locs ls hf84 bz mo nx hc84_t_36 hP hD hS hl
    refine lv_iconst (v := iI 0) hx hb dX12_spreads_84 rfl ?_
    refine lv_istore (lv' := [(6, .int (iI 0)), (0, .ref t), (1, .int (iI p1)), (2, .int (iI p2)), (3, .int (iI x84_3)), (4, .int (iI x84_4)), (5, .int (iI x84_5))]) hx hb dX12_spreads_85 hl (by decide) rfl (fun ls hl => ?_)
    exact J87 _ x84_3 x84_4 x84_5 0 c84_t_36 _ _ ls (Nat.lt_succ_self _) (by omega) (show x84_5 = 0 → c84_t_36 = t_36_c from by assumption) (show ∀ j : Nat, c84_t_36 j ≤ t_36_c j from by assumption) (show x84_5 = 0 → p2 + 1 < t_24_c (Int.toNat p1) → c84_t_36 (Int.toNat (30 * p1 + p2 + 1)) ≤ x84_3 + 1 from by assumption) (show x84_5 = 0 → ∀ o : Nat, (o : Int) < (0 : Int) → c84_t_36 (30 * o) ≤ x84_3 + t_17_c 0 from fun _ o ho => by omega) hc84_t_36 (hP.sub [0, 1, 2, 3, 4, 5, 6, 7, 8, 9, 10, 11, 12] rfl) (hD.sub [0, 1, 2, 3, 4, 5, 6, 7, 8, 9, 10, 11, 12] (by decide) rfl) hS (lv_sub hl [1, 2, 3, 4, 5, 6, 0] rfl)
  have J52 : ∀ (x52_3 : Int) (x52_4 : Int) (x52_5 : Int) (c52_t_36 : Nat → Int) (H : Heap) (locs : List Loc) (ls : Array Slot), (0 ≤ x52_3 ∧ x52_3 ≤ 100000 ∧ (-2) ≤ x52_4 ∧ x52_4 ≤ 11 ∧ 0 ≤ x52_5 ∧ x52_5 ≤ 1 ∧ smN c52_t_36 150 + x52_5 ≤ smN t_36_c 150 ∧ x52_3 = t_36_c (Int.toNat (30 * p1 + p2)) ∧ (x52_4 < 0 ∨ x52_4 < t_17_c 3)) → (x52_5 = 0 → c52_t_36 = t_36_c) → (∀ j : Nat, c52_t_36 j ≤ t_36_c j) → (∀ j : Nat, 0 ≤ c52_t_36 j ∧ c52_t_36 j ≤ 100000) → va_P D vwCl [(t, .inr (12, oX12 t_q t_x0 t_x6 t_x7 t_x8 t_x9 t_x10 t_x11 t_x12 t_x13 t_x14 t_x15 t_x32 t_x33 t_x34 t_x35 t_x39 t_x40 t_x43 t_x44 t_x48 t_x49 t_x50)), ((t_q 17), .inl (K 0, 40, .inl (fun j => iI (t_17_c j)))), ((t_q 18), .inl (K 0, 50, .inl (fun j => iI (t_18_c j)))), ((t_q 19), .inl (K 0, 60, .inl (fun j => iI (t_19_c j)))), ((t_q 20), .inl (K 0, 480, .inl (fun j => iI (t_20_c j)))), ((t_q 21), .inl (K 0, 600, .inl (fun j => iI (t_21_c j)))), ((t_q 23), .inl (K 0, 150, .inl (fun j => iI (t_23_c j)))), ((t_q 24), .inl (K 0, 5, .inl (fun j => iI (t_24_c j)))), ((t_q 25), .inl (K 0, 24, .inl (fun j => iI (t_25_c j)))), ((t_q 26), .inl (K 0, 24, .inl (fun j => iI (t_26_c j)))), ((t_q 27), .inl (K 0, 12, .inl (fun j => iI (t_27_c j)))), ((t_q 28), .inl (K 0, 12, .inl (fun j => iI (t_28_c j)))), ((t_q 36), .inl (K 0, 150, .inl (fun j => iI (c52_t_36 j))))] H → va_D A [(t, .inr (12, oX12 t_q t_x0 t_x6 t_x7 t_x8 t_x9 t_x10 t_x11 t_x12 t_x13 t_x14 t_x15 t_x32 t_x33 t_x34 t_x35 t_x39 t_x40 t_x43 t_x44 t_x48 t_x49 t_x50)), ((t_q 17), .inl (K 0, 40, .inl (fun j => iI (t_17_c j)))), ((t_q 18), .inl (K 0, 50, .inl (fun j => iI (t_18_c j)))), ((t_q 19), .inl (K 0, 60, .inl (fun j => iI (t_19_c j)))), ((t_q 20), .inl (K 0, 480, .inl (fun j => iI (t_20_c j)))), ((t_q 21), .inl (K 0, 600, .inl (fun j => iI (t_21_c j)))), ((t_q 23), .inl (K 0, 150, .inl (fun j => iI (t_23_c j)))), ((t_q 24), .inl (K 0, 5, .inl (fun j => iI (t_24_c j)))), ((t_q 25), .inl (K 0, 24, .inl (fun j => iI (t_25_c j)))), ((t_q 26), .inl (K 0, 24, .inl (fun j => iI (t_26_c j)))), ((t_q 27), .inl (K 0, 12, .inl (fun j => iI (t_27_c j)))), ((t_q 28), .inl (K 0, 12, .inl (fun j => iI (t_28_c j)))), ((t_q 36), .inl (K 0, 150, .inl (fun j => iI (c52_t_36 j))))] → va_S A s.heap H locs → lv_has ls 7 [(0, .ref t), (1, .int (iI p1)), (2, .int (iI p2)), (3, .int (iI x52_3)), (4, .int (iI x52_4)), (5, .int (iI x52_5))] → W p l e ({ frames := 8, cells := 0, slots := 0, locals := 200 } : Room) s m ag below meth c H locs 0 0 Q (F0 m 52 ls []) := by
    intro x52_3 x52_4 x52_5 c52_t_36 H locs ls hf52 bz mo hc52_t_36 hP hD hS hl
    refine lv_iload_n hx hb dX12_spreads_52 rfl (lv_at hl 2 rfl) ?_
    refine lv_iconst (v := iI 1) hx hb dX12_spreads_53 rfl ?_
    refine g_iadd hx hb dX12_spreads_54 ?_
    refine lv_aload_n hx hb dX12_spreads_55 rfl (lv_at hl 0 rfl) ?_
    refine va_get (D := D) (own := RX12) (ci := 12) (v := .ref (t_q 24)) (C := RX12) (T := TX12) (N := 51) hx hb hts inb_X12 hown hK.1 hP 0 rfl rfl 24 (by decide) (hts _ wd_1258) (fun _ h9 => h9) rfl dX12_spreads_56 ?_
    refine lv_iload_n hx hb dX12_spreads_59 rfl (lv_at hl 1 rfl) ?_
    refine g_iald hx hb hK.1 hP 7 0 rfl rfl (by omega) (by omega) (by decide) dX12_spreads_60 ?_
    have y60 : 0 ≤ (t_24_c p1.toNat) ∧ (t_24_c p1.toNat) ≤ 30 := hc_t_24 p1.toNat
    refine g_icmp_ge (tgt := 84) hx hb (by omega) (by omega) dX12_spreads_61 (by decide) (fun c61 => ?_) (fun c61 => ?_)
    · exact J84 x52_3 x52_4 x52_5 c52_t_36 _ _ ls (by omega) (show x52_5 = 0 → c52_t_36 = t_36_c from by assumption) (show ∀ j : Nat, c52_t_36 j ≤ t_36_c j from by assumption) (show x52_5 = 0 → p2 + 1 < t_24_c (Int.toNat p1) → c52_t_36 (Int.toNat (30 * p1 + p2 + 1)) ≤ x52_3 + 1 from fun _ h9 => absurd h9 (by omega)) hc52_t_36 (hP.sub [0, 1, 2, 3, 4, 5, 6, 7, 8, 9, 10, 11, 12] rfl) (hD.sub [0, 1, 2, 3, 4, 5, 6, 7, 8, 9, 10, 11, 12] (by decide) rfl) hS (lv_sub hl [0, 1, 2, 3, 4, 5] rfl)
    · refine lv_iload hx hb dX12_spreads_64 (lv_at hl 5 rfl) ?_
      refine lv_aload_n hx hb dX12_spreads_66 rfl (lv_at hl 0 rfl) ?_
      refine lv_bipush (v := iI 30) hx hb dX12_spreads_67 (by decide) ?_
      refine lv_iload_n hx hb dX12_spreads_69 rfl (lv_at hl 1 rfl) ?_
      refine g_imul hx hb dX12_spreads_70 ?_
      refine lv_iload_n hx hb dX12_spreads_71 rfl (lv_at hl 2 rfl) ?_
      refine g_iadd hx hb dX12_spreads_72 ?_
      refine lv_iconst (v := iI 1) hx hb dX12_spreads_73 rfl ?_
      refine g_iadd hx hb dX12_spreads_74 ?_
      refine lv_iload_n hx hb dX12_spreads_75 rfl (lv_at hl 3 rfl) ?_
      refine lv_iconst (v := iI 1) hx hb dX12_spreads_76 rfl ?_
      refine fn_at 77 rfl ?_
      refine g_iadd hx hb dX12_spreads_77 ?_
      refine fn_goi (wc := [(t, .inr (12, oX12 t_q t_x0 t_x6 t_x7 t_x8 t_x9 t_x10 t_x11 t_x12 t_x13 t_x14 t_x15 t_x32 t_x33 t_x34 t_x35 t_x39 t_x40 t_x43 t_x44 t_x48 t_x49 t_x50)), ((t_q 36), .inl (K 0, 150, .inl (fun j => iI (c52_t_36 j))))]) (wr := [((t_q 17), .inl (K 0, 40, .inl (fun j => iI (t_17_c j)))), ((t_q 18), .inl (K 0, 50, .inl (fun j => iI (t_18_c j)))), ((t_q 19), .inl (K 0, 60, .inl (fun j => iI (t_19_c j)))), ((t_q 20), .inl (K 0, 480, .inl (fun j => iI (t_20_c j)))), ((t_q 21), .inl (K 0, 600, .inl (fun j => iI (t_21_c j)))), ((t_q 23), .inl (K 0, 150, .inl (fun j => iI (t_23_c j)))), ((t_q 24), .inl (K 0, 5, .inl (fun j => iI (t_24_c j)))), ((t_q 25), .inl (K 0, 24, .inl (fun j => iI (t_25_c j)))), ((t_q 26), .inl (K 0, 24, .inl (fun j => iI (t_26_c j)))), ((t_q 27), .inl (K 0, 12, .inl (fun j => iI (t_27_c j)))), ((t_q 28), .inl (K 0, 12, .inl (fun j => iI (t_28_c j))))]) hK hP hD hS hA [0, 12] [1, 2, 3, 4, 5, 6, 7, 8, 9, 10, 11] rfl rfl (by decide) (fun hp => va_runV (C := RX12) (As := [.int (iI (30 * p1 + p2 + 1)), .int (iI (x52_3 + 1))]) (rest := [.int (iI x52_5)]) ⟨hx, hb, hml, hown, hts⟩ (k_X12_betters (l := l) (D := D) (K := K) (t := t) (p1 := (30 * p1 + p2 + 1)) (p2 := (x52_3 + 1)) (t_q := t_q) (t_x0 := t_x0) (t_x6 := t_x6) (t_x7 := t_x7) (t_x8 := t_x8) (t_x9 := t_x9) (t_x10 := t_x10) (t_x11 := t_x11) (t_x12 := t_x12) (t_x13 := t_x13) (t_x14 := t_x14) (t_x15 := t_x15) (t_x32 := t_x32) (t_x33 := t_x33) (t_x34 := t_x34) (t_x35 := t_x35) (t_x39 := t_x39) (t_x40 := t_x40) (t_x43 := t_x43) (t_x44 := t_x44) (t_x48 := t_x48) (t_x49 := t_x49) (t_x50 := t_x50) (t_36_c := c52_t_36) (hp1 := (by omega)) (hp2 := (by omega)) (hi_t := hi_t) (hc_t_36 := hc52_t_36) _) (cwV 2 hts (fn_ginV (fn_gin wd_1783) wd_1780 wd_1782 wp_141 wd_13) rfl rfl rfl (by decide +kernel) ⟨Nat.le_of_ble_eq_true rfl, Nat.le_of_ble_eq_true rfl⟩) ⟨fn_blind, va_recv hK.1 hP (ci := 12) (q0 := 0) rfl rfl, hp⟩ rfl rfl hl.1 rfl (lv_room (Nat.le_of_ble_eq_true rfl)) dX12_spreads_78 ⟨Nat.le_of_ble_eq_true rfl, Nat.le_of_ble_eq_true rfl⟩) (fun r78 u78 H locs hwu78 hP hD hS => ?_)
      obtain ⟨u78a, u78b⟩ := u78
      obtain ⟨kr78, rfl, hkr78, hqu78_sm0, hqu78_bq0, hqu78_bz0, hqu78_mo0, hu78_00, -⟩ := hwu78
      have hqu78_sm : smN (u78b 0) 150 + kr78 ≤ smN c52_t_36 150 := hqu78_sm0
      have hqu78_bq : (u78b 0) (Int.toNat (30 * p1 + p2 + 1)) ≤ (x52_3 + 1) := hqu78_bq0
      have hqu78_bz : kr78 = 0 → (u78b 0) = c52_t_36 := hqu78_bz0
      have hqu78_mo : ∀ j : Nat, (u78b 0) j ≤ c52_t_36 j := hqu78_mo0
      have hu78_0 : ∀ j : Nat, 0 ≤ (u78b 0) j ∧ (u78b 0) j ≤ 100000 := hu78_00
      clear hqu78_sm0 hqu78_bq0 hqu78_bz0 hqu78_mo0 hu78_00
      have hP : va_P D vwCl [((t_q 17), .inl (K 0, 40, .inl (fun j => iI (t_17_c j)))), ((t_q 18), .inl (K 0, 50, .inl (fun j => iI (t_18_c j)))), ((t_q 19), .inl (K 0, 60, .inl (fun j => iI (t_19_c j)))), ((t_q 20), .inl (K 0, 480, .inl (fun j => iI (t_20_c j)))), ((t_q 21), .inl (K 0, 600, .inl (fun j => iI (t_21_c j)))), ((t_q 23), .inl (K 0, 150, .inl (fun j => iI (t_23_c j)))), ((t_q 24), .inl (K 0, 5, .inl (fun j => iI (t_24_c j)))), ((t_q 25), .inl (K 0, 24, .inl (fun j => iI (t_25_c j)))), ((t_q 26), .inl (K 0, 24, .inl (fun j => iI (t_26_c j)))), ((t_q 27), .inl (K 0, 12, .inl (fun j => iI (t_27_c j)))), ((t_q 28), .inl (K 0, 12, .inl (fun j => iI (t_28_c j)))), (t, .inr (12, oX12 t_q t_x0 t_x6 t_x7 t_x8 t_x9 t_x10 t_x11 t_x12 t_x13 t_x14 t_x15 t_x32 t_x33 t_x34 t_x35 t_x39 t_x40 t_x43 t_x44 t_x48 t_x49 t_x50)), ((t_q 36), .inl (K 0, 150, .inl (fun j => iI ((u78b 0) j))))] H := hP
      have hD : va_D A [((t_q 17), .inl (K 0, 40, .inl (fun j => iI (t_17_c j)))), ((t_q 18), .inl (K 0, 50, .inl (fun j => iI (t_18_c j)))), ((t_q 19), .inl (K 0, 60, .inl (fun j => iI (t_19_c j)))), ((t_q 20), .inl (K 0, 480, .inl (fun j => iI (t_20_c j)))), ((t_q 21), .inl (K 0, 600, .inl (fun j => iI (t_21_c j)))), ((t_q 23), .inl (K 0, 150, .inl (fun j => iI (t_23_c j)))), ((t_q 24), .inl (K 0, 5, .inl (fun j => iI (t_24_c j)))), ((t_q 25), .inl (K 0, 24, .inl (fun j => iI (t_25_c j)))), ((t_q 26), .inl (K 0, 24, .inl (fun j => iI (t_26_c j)))), ((t_q 27), .inl (K 0, 12, .inl (fun j => iI (t_27_c j)))), ((t_q 28), .inl (K 0, 12, .inl (fun j => iI (t_28_c j)))), (t, .inr (12, oX12 t_q t_x0 t_x6 t_x7 t_x8 t_x9 t_x10 t_x11 t_x12 t_x13 t_x14 t_x15 t_x32 t_x33 t_x34 t_x35 t_x39 t_x40 t_x43 t_x44 t_x48 t_x49 t_x50)), ((t_q 36), .inl (K 0, 150, .inl (fun j => iI ((u78b 0) j))))] := hD
      refine lv_ior hx hb dX12_spreads_81 ?_
      obtain ⟨w81, ew81, hw81⟩ := iI_or1 x52_5 kr78 (by omega) (by omega)
      refine fn_top (iI w81) ew81 ?_
      refine lv_istore (lv' := [(5, .int (iI w81)), (0, .ref t), (1, .int (iI p1)), (2, .int (iI p2)), (3, .int (iI x52_3)), (4, .int (iI x52_4))]) hx hb dX12_spreads_82 hl (by decide) rfl (fun ls hl => ?_)
      have s82 := hqu78_sm
      exact J84 x52_3 x52_4 w81 (u78b 0) _ _ ls (by omega) (show w81 = 0 → (u78b 0) = t_36_c from fun h9 => (hqu78_bz (by omega)).trans (bz (by omega))) (show ∀ j : Nat, (u78b 0) j ≤ t_36_c j from fun j => Int.le_trans (hqu78_mo j) (mo j)) (show w81 = 0 → p2 + 1 < t_24_c (Int.toNat p1) → (u78b 0) (Int.toNat (30 * p1 + p2 + 1)) ≤ x52_3 + 1 from fun _ _ => hqu78_bq) hu78_0 (hP.sub [11, 0, 1, 2, 3, 4, 5, 6, 7, 8, 9, 10, 12] rfl) (hD.sub [11, 0, 1, 2, 3, 4, 5, 6, 7, 8, 9, 10, 12] (by decide) rfl) hS (lv_sub hl [1, 2, 3, 4, 5, 0] rfl)
  have hl : lv_has ls 7 [(0, .ref t), (1, .int (iI p1)), (2, .int (iI p2))] := hl
  refine lv_aload_n hx hb dX12_spreads_0 rfl (lv_at hl 0 rfl) ?_
  refine va_get (D := D) (own := RX12) (ci := 12) (v := .ref (t_q 36)) (C := RX12) (T := TX12) (N := 51) hx hb hts inb_X12 hown hK.1 hP 0 rfl rfl 36 (by decide) (hts _ wd_1270) (fun _ h9 => h9) rfl dX12_spreads_1 ?_
  refine lv_bipush (v := iI 30) hx hb dX12_spreads_4 (by decide) ?_
  refine lv_iload_n hx hb dX12_spreads_6 rfl (lv_at hl 1 rfl) ?_
  refine g_imul hx hb dX12_spreads_7 ?_
  refine lv_iload_n hx hb dX12_spreads_8 rfl (lv_at hl 2 rfl) ?_
  refine g_iadd hx hb dX12_spreads_9 ?_
  refine g_iald hx hb hK.1 hP 12 0 rfl rfl (by omega) (by omega) (by decide) dX12_spreads_10 ?_
  have y10 : 0 ≤ (t_36_c ((30 * p1 + p2).toNat)) ∧ (t_36_c ((30 * p1 + p2).toNat)) ≤ 100000 := hc_t_36 ((30 * p1 + p2).toNat)
  refine lv_istore_n (lv' := [(3, .int (iI (t_36_c ((30 * p1 + p2).toNat)))), (0, .ref t), (1, .int (iI p1)), (2, .int (iI p2))]) hx hb dX12_spreads_11 rfl hl (by decide) rfl (fun ls hl => ?_)
  refine lv_aload_n hx hb dX12_spreads_12 rfl (lv_at hl 1 rfl) ?_
  refine va_get (D := D) (own := RX12) (ci := 12) (v := .ref (t_q 23)) (C := RX12) (T := TX12) (N := 51) hx hb hts inb_X12 hown hK.1 hP 0 rfl rfl 23 (by decide) (hts _ wd_1257) (fun _ h9 => h9) rfl dX12_spreads_13 ?_
  refine lv_bipush (v := iI 30) hx hb dX12_spreads_16 (by decide) ?_
  refine lv_iload_n hx hb dX12_spreads_18 rfl (lv_at hl 2 rfl) ?_
  refine g_imul hx hb dX12_spreads_19 ?_
  refine lv_iload_n hx hb dX12_spreads_20 rfl (lv_at hl 3 rfl) ?_
  refine g_iadd hx hb dX12_spreads_21 ?_
  refine g_iald hx hb hK.1 hP 6 0 rfl rfl (by omega) (by omega) (by decide) dX12_spreads_22 ?_
  have y22 : (-2) ≤ (t_23_c ((30 * p1 + p2).toNat)) ∧ (t_23_c ((30 * p1 + p2).toNat)) ≤ 11 := hc_t_23 ((30 * p1 + p2).toNat)
  refine lv_istore (lv' := [(4, .int (iI (t_23_c ((30 * p1 + p2).toNat)))), (3, .int (iI (t_36_c ((30 * p1 + p2).toNat)))), (0, .ref t), (1, .int (iI p1)), (2, .int (iI p2))]) hx hb dX12_spreads_23 hl (by decide) rfl (fun ls hl => ?_)
  have z25 : (t_23_c ((30 * p1 + p2).toNat)) < 0 ∨ (t_23_c ((30 * p1 + p2).toNat)) < t_17_c 3 := (Int.lt_or_le (t_23_c ((30 * p1 + p2).toNat)) 0).elim Or.inl (fun h9 => Or.inr (LA_at li.1 (by omega) (by omega) (by omega) (by omega) h9).1)
  refine lv_iconst (v := iI 0) hx hb dX12_spreads_25 rfl ?_
  refine fn_at 26 rfl ?_
  refine lv_istore (lv' := [(5, .int (iI 0)), (4, .int (iI (t_23_c ((30 * p1 + p2).toNat)))), (3, .int (iI (t_36_c ((30 * p1 + p2).toNat)))), (0, .ref t), (1, .int (iI p1)), (2, .int (iI p2))]) hx hb dX12_spreads_26 hl (by decide) rfl (fun ls hl => ?_)
  refine lv_iload_n hx hb dX12_spreads_28 rfl (lv_at hl 5 rfl) ?_
  refine g_if_le (tgt := 52) hx hb (by omega) dX12_spreads_29 (by decide) (fun c29 => ?_) (fun c29 => ?_)
  · exact J52 (t_36_c ((30 * p1 + p2).toNat)) (t_23_c ((30 * p1 + p2).toNat)) 0 t_36_c _ _ ls (by omega) (show (0 : Int) = 0 → t_36_c = t_36_c from fun _ => rfl) (show ∀ j : Nat, t_36_c j ≤ t_36_c j from fun j => Int.le_refl _) hc_t_36 (hP.sub [0, 1, 2, 3, 4, 5, 6, 7, 8, 9, 10, 11, 12] rfl) (hD.sub [0, 1, 2, 3, 4, 5, 6, 7, 8, 9, 10, 11, 12] (by decide) rfl) hS (lv_sub hl [3, 4, 5, 2, 1, 0] rfl)
  · refine lv_iload hx hb dX12_spreads_32 (lv_at hl 0 rfl) ?_
    refine lv_aload_n hx hb dX12_spreads_34 rfl (lv_at hl 3 rfl) ?_
    refine lv_bipush (v := iI 30) hx hb dX12_spreads_35 (by decide) ?_
    refine lv_iload_n hx hb dX12_spreads_37 rfl (lv_at hl 4 rfl) ?_
    refine g_imul hx hb dX12_spreads_38 ?_
    refine lv_iload_n hx hb dX12_spreads_39 rfl (lv_at hl 5 rfl) ?_
    refine g_iadd hx hb dX12_spreads_40 ?_
    refine lv_iconst (v := iI 1) hx hb dX12_spreads_41 rfl ?_
    refine g_isub hx hb dX12_spreads_42 ?_
    refine lv_iload_n hx hb dX12_spreads_43 rfl (lv_at hl 2 rfl) ?_
    refine lv_iconst (v := iI 1) hx hb dX12_spreads_44 rfl ?_
    refine g_iadd hx hb dX12_spreads_45 ?_
    refine fn_goi (wc := [(t, .inr (12, oX12 t_q t_x0 t_x6 t_x7 t_x8 t_x9 t_x10 t_x11 t_x12 t_x13 t_x14 t_x15 t_x32 t_x33 t_x34 t_x35 t_x39 t_x40 t_x43 t_x44 t_x48 t_x49 t_x50)), ((t_q 36), .inl (K 0, 150, .inl (fun j => iI (t_36_c j))))]) (wr := [((t_q 17), .inl (K 0, 40, .inl (fun j => iI (t_17_c j)))), ((t_q 18), .inl (K 0, 50, .inl (fun j => iI (t_18_c j)))), ((t_q 19), .inl (K 0, 60, .inl (fun j => iI (t_19_c j)))), ((t_q 20), .inl (K 0, 480, .inl (fun j => iI (t_20_c j)))), ((t_q 21), .inl (K 0, 600, .inl (fun j => iI (t_21_c j)))), ((t_q 23), .inl (K 0, 150, .inl (fun j => iI (t_23_c j)))), ((t_q 24), .inl (K 0, 5, .inl (fun j => iI (t_24_c j)))), ((t_q 25), .inl (K 0, 24, .inl (fun j => iI (t_25_c j)))), ((t_q 26), .inl (K 0, 24, .inl (fun j => iI (t_26_c j)))), ((t_q 27), .inl (K 0, 12, .inl (fun j => iI (t_27_c j)))), ((t_q 28), .inl (K 0, 12, .inl (fun j => iI (t_28_c j))))]) hK hP hD hS hA [0, 12] [1, 2, 3, 4, 5, 6, 7, 8, 9, 10, 11] rfl rfl (by decide) (fun hp => va_runV (C := RX12) (As := [.int (iI (30 * p1 + p2 - 1)), .int (iI (t_36_c ((30 * p1 + p2).toNat) + 1))]) (rest := [.int (iI 0)]) ⟨hx, hb, hml, hown, hts⟩ (k_X12_betters (l := l) (D := D) (K := K) (t := t) (p1 := (30 * p1 + p2 - 1)) (p2 := (t_36_c ((30 * p1 + p2).toNat) + 1)) (t_q := t_q) (t_x0 := t_x0) (t_x6 := t_x6) (t_x7 := t_x7) (t_x8 := t_x8) (t_x9 := t_x9) (t_x10 := t_x10) (t_x11 := t_x11) (t_x12 := t_x12) (t_x13 := t_x13) (t_x14 := t_x14) (t_x15 := t_x15) (t_x32 := t_x32) (t_x33 := t_x33) (t_x34 := t_x34) (t_x35 := t_x35) (t_x39 := t_x39) (t_x40 := t_x40) (t_x43 := t_x43) (t_x44 := t_x44) (t_x48 := t_x48) (t_x49 := t_x49) (t_x50 := t_x50) (t_36_c := t_36_c) (hp1 := (by omega)) (hp2 := (by omega)) (hi_t := hi_t) (hc_t_36 := hc_t_36) _) (cwV 2 hts (fn_ginV (fn_gin wd_1783) wd_1780 wd_1782 wp_141 wd_13) rfl rfl rfl (by decide +kernel) ⟨Nat.le_of_ble_eq_true rfl, Nat.le_of_ble_eq_true rfl⟩) ⟨fn_blind, va_recv hK.1 hP (ci := 12) (q0 := 0) rfl rfl, hp⟩ rfl rfl hl.1 rfl (lv_room (Nat.le_of_ble_eq_true rfl)) dX12_spreads_46 ⟨Nat.le_of_ble_eq_true rfl, Nat.le_of_ble_eq_true rfl⟩) (fun r46 u46 H locs hwu46 hP hD hS => ?_)
    obtain ⟨u46a, u46b⟩ := u46
    obtain ⟨kr46, rfl, hkr46, hqu46_sm0, hqu46_bq0, hqu46_bz0, hqu46_mo0, hu46_00, -⟩ := hwu46
    have hqu46_sm : smN (u46b 0) 150 + kr46 ≤ smN t_36_c 150 := hqu46_sm0
    have hqu46_bq : (u46b 0) (Int.toNat (30 * p1 + p2 - 1)) ≤ (t_36_c ((30 * p1 + p2).toNat) + 1) := hqu46_bq0
    have hqu46_bz : kr46 = 0 → (u46b 0) = t_36_c := hqu46_bz0
    have hqu46_mo : ∀ j : Nat, (u46b 0) j ≤ t_36_c j := hqu46_mo0
    have hu46_0 : ∀ j : Nat, 0 ≤ (u46b 0) j ∧ (u46b 0) j ≤ 100000 := hu46_00
    clear hqu46_sm0 hqu46_bq0 hqu46_bz0 hqu46_mo0 hu46_00
    have hP : va_P D vwCl [((t_q 17), .inl (K 0, 40, .inl (fun j => iI (t_17_c j)))), ((t_q 18), .inl (K 0, 50, .inl (fun j => iI (t_18_c j)))), ((t_q 19), .inl (K 0, 60, .inl (fun j => iI (t_19_c j)))), ((t_q 20), .inl (K 0, 480, .inl (fun j => iI (t_20_c j)))), ((t_q 21), .inl (K 0, 600, .inl (fun j => iI (t_21_c j)))), ((t_q 23), .inl (K 0, 150, .inl (fun j => iI (t_23_c j)))), ((t_q 24), .inl (K 0, 5, .inl (fun j => iI (t_24_c j)))), ((t_q 25), .inl (K 0, 24, .inl (fun j => iI (t_25_c j)))), ((t_q 26), .inl (K 0, 24, .inl (fun j => iI (t_26_c j)))), ((t_q 27), .inl (K 0, 12, .inl (fun j => iI (t_27_c j)))), ((t_q 28), .inl (K 0, 12, .inl (fun j => iI (t_28_c j)))), (t, .inr (12, oX12 t_q t_x0 t_x6 t_x7 t_x8 t_x9 t_x10 t_x11 t_x12 t_x13 t_x14 t_x15 t_x32 t_x33 t_x34 t_x35 t_x39 t_x40 t_x43 t_x44 t_x48 t_x49 t_x50)), ((t_q 36), .inl (K 0, 150, .inl (fun j => iI ((u46b 0) j))))] H := hP
    have hD : va_D A [((t_q 17), .inl (K 0, 40, .inl (fun j => iI (t_17_c j)))), ((t_q 18), .inl (K 0, 50, .inl (fun j => iI (t_18_c j)))), ((t_q 19), .inl (K 0, 60, .inl (fun j => iI (t_19_c j)))), ((t_q 20), .inl (K 0, 480, .inl (fun j => iI (t_20_c j)))), ((t_q 21), .inl (K 0, 600, .inl (fun j => iI (t_21_c j)))), ((t_q 23), .inl (K 0, 150, .inl (fun j => iI (t_23_c j)))), ((t_q 24), .inl (K 0, 5, .inl (fun j => iI (t_24_c j)))), ((t_q 25), .inl (K 0, 24, .inl (fun j => iI (t_25_c j)))), ((t_q 26), .inl (K 0, 24, .inl (fun j => iI (t_26_c j)))), ((t_q 27), .inl (K 0, 12, .inl (fun j => iI (t_27_c j)))), ((t_q 28), .inl (K 0, 12, .inl (fun j => iI (t_28_c j)))), (t, .inr (12, oX12 t_q t_x0 t_x6 t_x7 t_x8 t_x9 t_x10 t_x11 t_x12 t_x13 t_x14 t_x15 t_x32 t_x33 t_x34 t_x35 t_x39 t_x40 t_x43 t_x44 t_x48 t_x49 t_x50)), ((t_q 36), .inl (K 0, 150, .inl (fun j => iI ((u46b 0) j))))] := hD
    refine lv_ior hx hb dX12_spreads_49 ?_
    obtain ⟨w49, ew49, hw49⟩ := iI_or1 0 kr46 (by omega) (by omega)
    refine fn_top (iI w49) ew49 ?_
    refine lv_istore (lv' := [(5, .int (iI w49)), (4, .int (iI (t_23_c ((30 * p1 + p2).toNat)))), (3, .int (iI (t_36_c ((30 * p1 + p2).toNat)))), (0, .ref t), (1, .int (iI p1)), (2, .int (iI p2))]) hx hb dX12_spreads_50 hl (by decide) rfl (fun ls hl => ?_)
    have s50 := hqu46_sm
    exact J52 (t_36_c ((30 * p1 + p2).toNat)) (t_23_c ((30 * p1 + p2).toNat)) w49 (u46b 0) _ _ ls (by omega) (show w49 = 0 → (u46b 0) = t_36_c from fun h9 => hqu46_bz (by omega)) (show ∀ j : Nat, (u46b 0) j ≤ t_36_c j from hqu46_mo) hu46_0 (hP.sub [11, 0, 1, 2, 3, 4, 5, 6, 7, 8, 9, 10, 12] rfl) (hD.sub [11, 0, 1, 2, 3, 4, 5, 6, 7, 8, 9, 10, 12] (by decide) rfl) hS (lv_sub hl [3, 4, 5, 2, 1, 0] rfl)
theorem wd_1779 : Cond.code ⟨"FootNotesModel", "spreads", "(II)Z"⟩ prog_14_method_99_code 7 (Option.some Jvm.ClassFile.FieldType.boolean) ∈ fn_big := fn_tb (fn_l8 (List.mem_of_getElem? (i := 99) (by decide +kernel))) (by decide +kernel)
theorem wd_1776 : Cond.methodLink "FootNotesModel" 351 ⟨"FootNotesModel", "spreads", "(II)Z"⟩ ∈ fn_big := fn_tb (fn_l8 (List.mem_of_getElem? (i := 96) (by decide +kernel))) (by decide +kernel)
theorem wd_1778 : Cond.instanceMethod ⟨"FootNotesModel", "spreads", "(II)Z"⟩ ∈ fn_big := fn_tb (fn_l8 (List.mem_of_getElem? (i := 98) (by decide +kernel))) (by decide +kernel)
theorem wp_140 : Cond.selects "FootNotesModel" ⟨"FootNotesModel", "spreads", "(II)Z"⟩ ⟨"FootNotesModel", "spreads", "(II)Z"⟩ ∈ fn_big := fn_sel (q := (⟨"FootNotesModel", "spreads", "(II)Z"⟩, 51)) 140 (by decide +kernel) (by decide +kernel)
theorem dX12_turnsFrom_68 : decode cX12_turnsFrom 68 = .ok (.iload 4, 2) := by decide +kernel
theorem dX12_turnsFrom_70 : decode cX12_turnsFrom 70 = .ok (.aload_n 0, 1) := by decide +kernel
theorem dX12_turnsFrom_71 : decode cX12_turnsFrom 71 = .ok (.getfield 56, 3) := by decide +kernel
theorem dX12_turnsFrom_74 : decode cX12_turnsFrom 74 = .ok (.iload_n 3, 1) := by decide +kernel
theorem dX12_turnsFrom_75 : decode cX12_turnsFrom 75 = .ok (.iaload, 1) := by decide +kernel
theorem dX12_turnsFrom_76 : decode cX12_turnsFrom 76 = .ok (.if_icmp .ge 36, 3) := by decide +kernel
theorem dX12_turnsFrom_112 : decode cX12_turnsFrom 112 = .ok (.iinc 3 1, 3) := by decide +kernel
theorem dX12_turnsFrom_115 : decode cX12_turnsFrom 115 = .ok (.goto (-60), 3) := by decide +kernel
theorem dX12_turnsFrom_79 : decode cX12_turnsFrom 79 = .ok (.aload_n 0, 1) := by decide +kernel
theorem dX12_turnsFrom_80 : decode cX12_turnsFrom 80 = .ok (.getfield 80, 3) := by decide +kernel
theorem dX12_turnsFrom_83 : decode cX12_turnsFrom 83 = .ok (.bipush 30, 2) := by decide +kernel
theorem dX12_turnsFrom_85 : decode cX12_turnsFrom 85 = .ok (.iload_n 3, 1) := by decide +kernel
theorem dX12_turnsFrom_86 : decode cX12_turnsFrom 86 = .ok (.imul, 1) := by decide +kernel
theorem dX12_turnsFrom_87 : decode cX12_turnsFrom 87 = .ok (.iload 4, 2) := by decide +kernel
theorem dX12_turnsFrom_89 : decode cX12_turnsFrom 89 = .ok (.iadd, 1) := by decide +kernel
theorem dX12_turnsFrom_90 : decode cX12_turnsFrom 90 = .ok (.iaload, 1) := by decide +kernel
theorem dX12_turnsFrom_91 : decode cX12_turnsFrom 91 = .ok (.ldc 154, 2) := by decide +kernel
theorem dX12_turnsFrom_93 : decode cX12_turnsFrom 93 = .ok (.if_icmp .ge 13, 3) := by decide +kernel
theorem dX12_turnsFrom_106 : decode cX12_turnsFrom 106 = .ok (.iinc 4 1, 3) := by decide +kernel
theorem dX12_turnsFrom_109 : decode cX12_turnsFrom 109 = .ok (.goto (-41), 3) := by decide +kernel
theorem dX12_turnsFrom_96 : decode cX12_turnsFrom 96 = .ok (.iload_n 2, 1) := by decide +kernel
theorem dX12_turnsFrom_97 : decode cX12_turnsFrom 97 = .ok (.aload_n 0, 1) := by decide +kernel
theorem dX12_turnsFrom_98 : decode cX12_turnsFrom 98 = .ok (.iload_n 3, 1) := by decide +kernel
theorem dX12_turnsFrom_99 : decode cX12_turnsFrom 99 = .ok (.iload 4, 2) := by decide +kernel
theorem dX12_turnsFrom_101 : decode cX12_turnsFrom 101 = .ok (.invokevirtual 351, 3) := by decide +kernel
theorem dX12_turnsFrom_104 : decode cX12_turnsFrom 104 = .ok (.ior, 1) := by decide +kernel
theorem dX12_turnsFrom_105 : decode cX12_turnsFrom 105 = .ok (.istore_n 2, 1) := by decide +kernel
theorem dX12_turnsFrom_55 : decode cX12_turnsFrom 55 = .ok (.iload_n 3, 1) := by decide +kernel
theorem dX12_turnsFrom_56 : decode cX12_turnsFrom 56 = .ok (.aload_n 0, 1) := by decide +kernel
theorem dX12_turnsFrom_57 : decode cX12_turnsFrom 57 = .ok (.getfield 34, 3) := by decide +kernel
theorem dX12_turnsFrom_60 : decode cX12_turnsFrom 60 = .ok (.iconst 2, 1) := by decide +kernel
theorem dX12_turnsFrom_61 : decode cX12_turnsFrom 61 = .ok (.iaload, 1) := by decide +kernel
theorem dX12_turnsFrom_62 : decode cX12_turnsFrom 62 = .ok (.if_icmp .ge 56, 3) := by decide +kernel
theorem dX12_turnsFrom_118 : decode cX12_turnsFrom 118 = .ok (.goto (-71), 3) := by decide +kernel
theorem dX12_turnsFrom_65 : decode cX12_turnsFrom 65 = .ok (.iconst 0, 1) := by decide +kernel
theorem dX12_turnsFrom_66 : decode cX12_turnsFrom 66 = .ok (.istore 4, 2) := by decide +kernel
theorem dX12_turnsFrom_47 : decode cX12_turnsFrom 47 = .ok (.iload_n 2, 1) := by decide +kernel
theorem dX12_turnsFrom_48 : decode cX12_turnsFrom 48 = .ok (.ifCond .eq 73, 3) := by decide +kernel
theorem dX12_turnsFrom_121 : decode cX12_turnsFrom 121 = .ok (.return_, 1) := by decide +kernel
theorem dX12_turnsFrom_51 : decode cX12_turnsFrom 51 = .ok (.iconst 0, 1) := by decide +kernel
theorem dX12_turnsFrom_52 : decode cX12_turnsFrom 52 = .ok (.istore_n 2, 1) := by decide +kernel
theorem dX12_turnsFrom_53 : decode cX12_turnsFrom 53 = .ok (.iconst 0, 1) := by decide +kernel
theorem dX12_turnsFrom_54 : decode cX12_turnsFrom 54 = .ok (.istore_n 3, 1) := by decide +kernel
theorem dX12_turnsFrom_2 : decode cX12_turnsFrom 2 = .ok (.iload_n 2, 1) := by decide +kernel
theorem dX12_turnsFrom_3 : decode cX12_turnsFrom 3 = .ok (.sipush 150, 3) := by decide +kernel
theorem dX12_turnsFrom_6 : decode cX12_turnsFrom 6 = .ok (.if_icmp .ge 17, 3) := by decide +kernel
theorem dX12_turnsFrom_23 : decode cX12_turnsFrom 23 = .ok (.aload_n 0, 1) := by decide +kernel
theorem dX12_turnsFrom_24 : decode cX12_turnsFrom 24 = .ok (.getfield 80, 3) := by decide +kernel
theorem dX12_turnsFrom_27 : decode cX12_turnsFrom 27 = .ok (.bipush 30, 2) := by decide +kernel
theorem dX12_turnsFrom_29 : decode cX12_turnsFrom 29 = .ok (.aload_n 0, 1) := by decide +kernel
theorem dX12_turnsFrom_30 : decode cX12_turnsFrom 30 = .ok (.getfield 40, 3) := by decide +kernel
theorem dX12_turnsFrom_33 : decode cX12_turnsFrom 33 = .ok (.iload_n 1, 1) := by decide +kernel
theorem dX12_turnsFrom_34 : decode cX12_turnsFrom 34 = .ok (.iaload, 1) := by decide +kernel
theorem dX12_turnsFrom_35 : decode cX12_turnsFrom 35 = .ok (.imul, 1) := by decide +kernel
theorem dX12_turnsFrom_36 : decode cX12_turnsFrom 36 = .ok (.aload_n 0, 1) := by decide +kernel
theorem dX12_turnsFrom_37 : decode cX12_turnsFrom 37 = .ok (.getfield 65, 3) := by decide +kernel
theorem dX12_turnsFrom_40 : decode cX12_turnsFrom 40 = .ok (.iload_n 1, 1) := by decide +kernel
theorem dX12_turnsFrom_41 : decode cX12_turnsFrom 41 = .ok (.iaload, 1) := by decide +kernel
theorem dX12_turnsFrom_42 : decode cX12_turnsFrom 42 = .ok (.iadd, 1) := by decide +kernel
theorem dX12_turnsFrom_43 : decode cX12_turnsFrom 43 = .ok (.iconst 0, 1) := by decide +kernel
theorem dX12_turnsFrom_44 : decode cX12_turnsFrom 44 = .ok (.iastore, 1) := by decide +kernel
theorem dX12_turnsFrom_45 : decode cX12_turnsFrom 45 = .ok (.iconst 1, 1) := by decide +kernel
theorem dX12_turnsFrom_46 : decode cX12_turnsFrom 46 = .ok (.istore_n 2, 1) := by decide +kernel
theorem dX12_turnsFrom_9 : decode cX12_turnsFrom 9 = .ok (.aload_n 0, 1) := by decide +kernel
theorem dX12_turnsFrom_10 : decode cX12_turnsFrom 10 = .ok (.getfield 80, 3) := by decide +kernel
theorem dX12_turnsFrom_13 : decode cX12_turnsFrom 13 = .ok (.iload_n 2, 1) := by decide +kernel
theorem dX12_turnsFrom_14 : decode cX12_turnsFrom 14 = .ok (.ldc 154, 2) := by decide +kernel
theorem dX12_turnsFrom_16 : decode cX12_turnsFrom 16 = .ok (.iastore, 1) := by decide +kernel
theorem dX12_turnsFrom_17 : decode cX12_turnsFrom 17 = .ok (.iinc 2 1, 3) := by decide +kernel
theorem dX12_turnsFrom_20 : decode cX12_turnsFrom 20 = .ok (.goto (-18), 3) := by decide +kernel
theorem dX12_turnsFrom_0 : decode cX12_turnsFrom 0 = .ok (.iconst 0, 1) := by decide +kernel
theorem dX12_turnsFrom_1 : decode cX12_turnsFrom 1 = .ok (.istore_n 2, 1) := by decide +kernel
set_option maxHeartbeats 4000000 in
set_option maxRecDepth 100000 in
theorem k_X12_turnsFrom (l : Launch) (D : va_G) (K : Nat → ClassId) (t : Nat) (t_q : Nat → Nat) (p1 t_x0 t_x6 t_x7 t_x8 t_x9 t_x10 t_x11 t_x12 t_x13 t_x14 t_x15 t_x32 t_x33 t_x34 t_x35 t_x39 t_x40 t_x43 t_x44 t_x48 t_x49 t_x50 : Int) (t_17_c : Nat → Int) (t_18_c : Nat → Int) (t_19_c : Nat → Int) (t_20_c : Nat → Int) (t_21_c : Nat → Int) (t_23_c : Nat → Int) (t_24_c : Nat → Int) (t_25_c : Nat → Int) (t_26_c : Nat → Int) (t_27_c : Nat → Int) (t_28_c : Nat → Int) (t_36_c : Nat → Int) (hp1 : 0 ≤ p1 ∧ p1 ≤ 11) (hi_t : bM12 t_x0 t_x6 t_x7 t_x8 t_x9 t_x10 t_x11 t_x12 t_x13 t_x14 t_x15 t_x32 t_x33 t_x34 t_x35 t_x39 t_x40 t_x43 t_x44 t_x48 t_x49 t_x50) (hc_t_17 : ∀ j : Nat, (j % 8 = 0 → 0 ≤ t_17_c j ∧ t_17_c j ≤ 20) ∧ (j % 8 = 1 → 0 ≤ t_17_c j ∧ t_17_c j ≤ 100) ∧ (j % 8 = 2 → 0 ≤ t_17_c j ∧ t_17_c j ≤ 5) ∧ (j % 8 = 3 → 0 ≤ t_17_c j ∧ t_17_c j ≤ 12) ∧ (j % 8 = 4 → 0 ≤ t_17_c j ∧ t_17_c j ≤ 24) ∧ (j % 8 = 5 → 0 ≤ t_17_c j ∧ t_17_c j ≤ 4095) ∧ (j % 8 = 6 → 0 ≤ t_17_c j ∧ t_17_c j ≤ 31) ∧ (j % 8 = 7 → 0 ≤ t_17_c j ∧ t_17_c j ≤ 40)) (hc_t_18 : ∀ j : Nat, (j % 2 = 0 → 0 ≤ t_18_c j ∧ t_18_c j ≤ 9) ∧ (j % 2 = 1 → 0 ≤ t_18_c j ∧ t_18_c j ≤ 4)) (hc_t_19 : ∀ j : Nat, 0 ≤ t_19_c j ∧ t_19_c j ≤ 4) (hc_t_20 : ∀ j : Nat, (j % 4 = 0 → 0 ≤ t_20_c j ∧ t_20_c j ≤ 11) ∧ (j % 4 = 1 → 0 ≤ t_20_c j ∧ t_20_c j ≤ 4) ∧ (j % 4 = 2 → 0 ≤ t_20_c j ∧ t_20_c j ≤ 29) ∧ (j % 4 = 3 → 0 ≤ t_20_c j ∧ t_20_c j ≤ 1)) (hc_t_21 : ∀ j : Nat, (j % 3 = 0 → 0 ≤ t_21_c j ∧ t_21_c j ≤ 2) ∧ (j % 3 = 1 → 0 ≤ t_21_c j ∧ t_21_c j ≤ 23) ∧ (j % 3 = 2 → 0 ≤ t_21_c j ∧ t_21_c j ≤ 29)) (hc_t_23 : ∀ j : Nat, (-2) ≤ t_23_c j ∧ t_23_c j ≤ 11) (hc_t_24 : ∀ j : Nat, 0 ≤ t_24_c j ∧ t_24_c j ≤ 30) (hc_t_25 : ∀ j : Nat, 0 ≤ t_25_c j ∧ t_25_c j ≤ 30) (hc_t_26 : ∀ j : Nat, (-1) ≤ t_26_c j ∧ t_26_c j ≤ 11) (hc_t_27 : ∀ j : Nat, (-1) ≤ t_27_c j ∧ t_27_c j ≤ 29) (hc_t_28 : ∀ j : Nat, 0 ≤ t_28_c j ∧ t_28_c j ≤ 4095) (hc_t_36 : ∀ j : Nat, 0 ≤ t_36_c j ∧ t_36_c j ≤ 100000) (ti : TI 0 t_17_c t_18_c t_19_c t_20_c t_21_c) (li : LI t_17_c t_19_c t_23_c t_24_c t_26_c t_27_c t_28_c) (pq : 0 ≤ t_27_c (Int.toNat p1) ∧ p1 < t_17_c 3) : fn_CV (S := (Nat → Int) × (Nat → Nat → Int)) l D K yX12_turnsFrom (fn_ws yX12_turnsFrom cX12_turnsFrom 5 none) ({ frames := 12, cells := 0, slots := 0, locals := 300 } : Room) [.ref t, .int (iI p1)] [(t, .inr (12, oX12 t_q t_x0 t_x6 t_x7 t_x8 t_x9 t_x10 t_x11 t_x12 t_x13 t_x14 t_x15 t_x32 t_x33 t_x34 t_x35 t_x39 t_x40 t_x43 t_x44 t_x48 t_x49 t_x50)), ((t_q 17), .inl (K 0, 40, .inl (fun j => iI (t_17_c j)))), ((t_q 18), .inl (K 0, 50, .inl (fun j => iI (t_18_c j)))), ((t_q 19), .inl (K 0, 60, .inl (fun j => iI (t_19_c j)))), ((t_q 20), .inl (K 0, 480, .inl (fun j => iI (t_20_c j)))), ((t_q 21), .inl (K 0, 600, .inl (fun j => iI (t_21_c j)))), ((t_q 23), .inl (K 0, 150, .inl (fun j => iI (t_23_c j)))), ((t_q 24), .inl (K 0, 5, .inl (fun j => iI (t_24_c j)))), ((t_q 25), .inl (K 0, 24, .inl (fun j => iI (t_25_c j)))), ((t_q 26), .inl (K 0, 24, .inl (fun j => iI (t_26_c j)))), ((t_q 27), .inl (K 0, 12, .inl (fun j => iI (t_27_c j)))), ((t_q 28), .inl (K 0, 12, .inl (fun j => iI (t_28_c j)))), ((t_q 36), .inl (K 0, 150, .inl (fun j => iI (t_36_c j))))] (fun u => (∀ b i : Nat, (b : Int) < t_17_c 2 → (i : Int) < t_24_c b → (u.2 0) (30 * b + i) ≤ 49) ∧ (∀ j : Nat, 0 ≤ (u.2 0) j ∧ (u.2 0) j ≤ 100000) ∧ True) (fun u => [(t, .inr (12, oX12 t_q t_x0 t_x6 t_x7 t_x8 t_x9 t_x10 t_x11 t_x12 t_x13 t_x14 t_x15 t_x32 t_x33 t_x34 t_x35 t_x39 t_x40 t_x43 t_x44 t_x48 t_x49 t_x50)), ((t_q 17), .inl (K 0, 40, .inl (fun j => iI (t_17_c j)))), ((t_q 18), .inl (K 0, 50, .inl (fun j => iI (t_18_c j)))), ((t_q 19), .inl (K 0, 60, .inl (fun j => iI (t_19_c j)))), ((t_q 20), .inl (K 0, 480, .inl (fun j => iI (t_20_c j)))), ((t_q 21), .inl (K 0, 600, .inl (fun j => iI (t_21_c j)))), ((t_q 23), .inl (K 0, 150, .inl (fun j => iI (t_23_c j)))), ((t_q 24), .inl (K 0, 5, .inl (fun j => iI (t_24_c j)))), ((t_q 25), .inl (K 0, 24, .inl (fun j => iI (t_25_c j)))), ((t_q 26), .inl (K 0, 24, .inl (fun j => iI (t_26_c j)))), ((t_q 27), .inl (K 0, 12, .inl (fun j => iI (t_27_c j)))), ((t_q 28), .inl (K 0, 12, .inl (fun j => iI (t_28_c j)))), ((t_q 36), .inl (K 0, 150, .inl (fun j => iI ((u.2 0) j))))]) 0 0 := by
  refine g_inV (cc := cX12_turnsFrom) (maxL := 5) (ret := none) (by decide) rfl (Nat.le_of_ble_eq_true rfl) ?_
  intro p e s m below meth c A ls ag Q B hA hP hD hS hl hQ
  obtain ⟨hx, hb, hr, hml, hts, hown, hlocks, hin, hK⟩ := B
  have hown : s.vm.findClass RX12 = some m.cls := hown
  have hts := fun w h => hts w (List.mem_cons_of_mem _ h)
  have hB := HB_of (nt := t_20_c) hc_t_17 hc_t_18 hc_t_21
  have hs0 := (hc_t_17 0).1 (by omega)
  have hs2 := (hc_t_17 2).2.2.1 (by omega)
  have hs3 := (hc_t_17 3).2.2.2.1 (by omega)
  have J47 : ∀ (n : Nat) (x47_2 : Int) (c47_t_36 : Nat → Int) (H : Heap) (locs : List Loc) (ls : Array Slot), (2 * smN c47_t_36 150 + x47_2).toNat < n → (0 ≤ x47_2 ∧ x47_2 ≤ 1 ∧ c47_t_36 (Int.toNat (30 * t_19_c (Int.toNat p1) + t_27_c (Int.toNat p1))) = 0) → (x47_2 = 0 → RXA t_17_c t_24_c c47_t_36 (t_17_c 2)) → (∀ j : Nat, 0 ≤ c47_t_36 j ∧ c47_t_36 j ≤ 100000) → va_P D vwCl [(t, .inr (12, oX12 t_q t_x0 t_x6 t_x7 t_x8 t_x9 t_x10 t_x11 t_x12 t_x13 t_x14 t_x15 t_x32 t_x33 t_x34 t_x35 t_x39 t_x40 t_x43 t_x44 t_x48 t_x49 t_x50)), ((t_q 17), .inl (K 0, 40, .inl (fun j => iI (t_17_c j)))), ((t_q 18), .inl (K 0, 50, .inl (fun j => iI (t_18_c j)))), ((t_q 19), .inl (K 0, 60, .inl (fun j => iI (t_19_c j)))), ((t_q 20), .inl (K 0, 480, .inl (fun j => iI (t_20_c j)))), ((t_q 21), .inl (K 0, 600, .inl (fun j => iI (t_21_c j)))), ((t_q 23), .inl (K 0, 150, .inl (fun j => iI (t_23_c j)))), ((t_q 24), .inl (K 0, 5, .inl (fun j => iI (t_24_c j)))), ((t_q 25), .inl (K 0, 24, .inl (fun j => iI (t_25_c j)))), ((t_q 26), .inl (K 0, 24, .inl (fun j => iI (t_26_c j)))), ((t_q 27), .inl (K 0, 12, .inl (fun j => iI (t_27_c j)))), ((t_q 28), .inl (K 0, 12, .inl (fun j => iI (t_28_c j)))), ((t_q 36), .inl (K 0, 150, .inl (fun j => iI (c47_t_36 j))))] H → va_D A [(t, .inr (12, oX12 t_q t_x0 t_x6 t_x7 t_x8 t_x9 t_x10 t_x11 t_x12 t_x13 t_x14 t_x15 t_x32 t_x33 t_x34 t_x35 t_x39 t_x40 t_x43 t_x44 t_x48 t_x49 t_x50)), ((t_q 17), .inl (K 0, 40, .inl (fun j => iI (t_17_c j)))), ((t_q 18), .inl (K 0, 50, .inl (fun j => iI (t_18_c j)))), ((t_q 19), .inl (K 0, 60, .inl (fun j => iI (t_19_c j)))), ((t_q 20), .inl (K 0, 480, .inl (fun j => iI (t_20_c j)))), ((t_q 21), .inl (K 0, 600, .inl (fun j => iI (t_21_c j)))), ((t_q 23), .inl (K 0, 150, .inl (fun j => iI (t_23_c j)))), ((t_q 24), .inl (K 0, 5, .inl (fun j => iI (t_24_c j)))), ((t_q 25), .inl (K 0, 24, .inl (fun j => iI (t_25_c j)))), ((t_q 26), .inl (K 0, 24, .inl (fun j => iI (t_26_c j)))), ((t_q 27), .inl (K 0, 12, .inl (fun j => iI (t_27_c j)))), ((t_q 28), .inl (K 0, 12, .inl (fun j => iI (t_28_c j)))), ((t_q 36), .inl (K 0, 150, .inl (fun j => iI (c47_t_36 j))))] → va_S A s.heap H locs → lv_has ls 5 [(0, .ref t), (1, .int (iI p1)), (2, .int (iI x47_2))] → W p l e ({ frames := 12, cells := 0, slots := 0, locals := 300 } : Room) s m ag below meth c H locs 0 0 Q (F0 m 47 ls []) := by
    intro n
    induction n with
    | zero =>
      intro x47_2 c47_t_36 H locs ls hm47 hf47 ra hc47_t_36 hP hD hS hl
      exact absurd hm47 (Nat.not_lt_zero _)
    | succ n ih47 =>
      intro x47_2 c47_t_36 H locs ls hm47 hf47 ra hc47_t_36 hP hD hS hl
      have J55 : ∀ (n : Nat) (x55_2 : Int) (x55_3 : Int) (c55_t_36 : Nat → Int) (H : Heap) (locs : List Loc) (ls : Array Slot), (5 - x55_3).toNat < n → (0 ≤ x55_2 ∧ x55_2 ≤ 1 ∧ 0 ≤ x55_3 ∧ x55_3 ≤ 5 ∧ c55_t_36 (Int.toNat (30 * t_19_c (Int.toNat p1) + t_27_c (Int.toNat p1))) = 0 ∧ smN c55_t_36 150 + x55_2 ≤ smN c47_t_36 150 ∧ x47_2 = 1) → (x55_2 = 0 → RXA t_17_c t_24_c c55_t_36 x55_3) → (∀ j : Nat, 0 ≤ c55_t_36 j ∧ c55_t_36 j ≤ 100000) → va_P D vwCl [(t, .inr (12, oX12 t_q t_x0 t_x6 t_x7 t_x8 t_x9 t_x10 t_x11 t_x12 t_x13 t_x14 t_x15 t_x32 t_x33 t_x34 t_x35 t_x39 t_x40 t_x43 t_x44 t_x48 t_x49 t_x50)), ((t_q 17), .inl (K 0, 40, .inl (fun j => iI (t_17_c j)))), ((t_q 18), .inl (K 0, 50, .inl (fun j => iI (t_18_c j)))), ((t_q 19), .inl (K 0, 60, .inl (fun j => iI (t_19_c j)))), ((t_q 20), .inl (K 0, 480, .inl (fun j => iI (t_20_c j)))), ((t_q 21), .inl (K 0, 600, .inl (fun j => iI (t_21_c j)))), ((t_q 23), .inl (K 0, 150, .inl (fun j => iI (t_23_c j)))), ((t_q 24), .inl (K 0, 5, .inl (fun j => iI (t_24_c j)))), ((t_q 25), .inl (K 0, 24, .inl (fun j => iI (t_25_c j)))), ((t_q 26), .inl (K 0, 24, .inl (fun j => iI (t_26_c j)))), ((t_q 27), .inl (K 0, 12, .inl (fun j => iI (t_27_c j)))), ((t_q 28), .inl (K 0, 12, .inl (fun j => iI (t_28_c j)))), ((t_q 36), .inl (K 0, 150, .inl (fun j => iI (c55_t_36 j))))] H → va_D A [(t, .inr (12, oX12 t_q t_x0 t_x6 t_x7 t_x8 t_x9 t_x10 t_x11 t_x12 t_x13 t_x14 t_x15 t_x32 t_x33 t_x34 t_x35 t_x39 t_x40 t_x43 t_x44 t_x48 t_x49 t_x50)), ((t_q 17), .inl (K 0, 40, .inl (fun j => iI (t_17_c j)))), ((t_q 18), .inl (K 0, 50, .inl (fun j => iI (t_18_c j)))), ((t_q 19), .inl (K 0, 60, .inl (fun j => iI (t_19_c j)))), ((t_q 20), .inl (K 0, 480, .inl (fun j => iI (t_20_c j)))), ((t_q 21), .inl (K 0, 600, .inl (fun j => iI (t_21_c j)))), ((t_q 23), .inl (K 0, 150, .inl (fun j => iI (t_23_c j)))), ((t_q 24), .inl (K 0, 5, .inl (fun j => iI (t_24_c j)))), ((t_q 25), .inl (K 0, 24, .inl (fun j => iI (t_25_c j)))), ((t_q 26), .inl (K 0, 24, .inl (fun j => iI (t_26_c j)))), ((t_q 27), .inl (K 0, 12, .inl (fun j => iI (t_27_c j)))), ((t_q 28), .inl (K 0, 12, .inl (fun j => iI (t_28_c j)))), ((t_q 36), .inl (K 0, 150, .inl (fun j => iI (c55_t_36 j))))] → va_S A s.heap H locs → lv_has ls 5 [(0, .ref t), (1, .int (iI p1)), (2, .int (iI x55_2)), (3, .int (iI x55_3))] → W p l e ({ frames := 12, cells := 0, slots := 0, locals := 300 } : Room) s m ag below meth c H locs 0 0 Q (F0 m 55 ls []) := by
        intro n
        induction n with
        | zero =>
          intro x55_2 x55_3 c55_t_36 H locs ls hm55 hf55 ra hc55_t_36 hP hD hS hl
          exact absurd hm55 (Nat.not_lt_zero _)
        | succ n ih55 =>
          intro x55_2 x55_3 c55_t_36 H locs ls hm55 hf55 ra hc55_t_36 hP hD hS hl
          have J68 : ∀ (n : Nat) (x68_2 : Int) (x68_4 : Int) (c68_t_36 : Nat → Int) (H : Heap) (locs : List Loc) (ls : Array Slot), (30 - x68_4).toNat < n → (0 ≤ x68_2 ∧ x68_2 ≤ 1 ∧ 0 ≤ x55_3 ∧ x55_3 ≤ 4 ∧ 0 ≤ x68_4 ∧ x68_4 ≤ 30 ∧ c68_t_36 (Int.toNat (30 * t_19_c (Int.toNat p1) + t_27_c (Int.toNat p1))) = 0 ∧ smN c68_t_36 150 + x68_2 ≤ smN c47_t_36 150 ∧ x47_2 = 1 ∧ x55_3 < t_17_c 2) → (x68_2 = 0 → RXA t_17_c t_24_c c68_t_36 x55_3) → (x68_2 = 0 → RXB t_17_c t_24_c c68_t_36 x55_3 x68_4) → (∀ j : Nat, 0 ≤ c68_t_36 j ∧ c68_t_36 j ≤ 100000) → va_P D vwCl [(t, .inr (12, oX12 t_q t_x0 t_x6 t_x7 t_x8 t_x9 t_x10 t_x11 t_x12 t_x13 t_x14 t_x15 t_x32 t_x33 t_x34 t_x35 t_x39 t_x40 t_x43 t_x44 t_x48 t_x49 t_x50)), ((t_q 17), .inl (K 0, 40, .inl (fun j => iI (t_17_c j)))), ((t_q 18), .inl (K 0, 50, .inl (fun j => iI (t_18_c j)))), ((t_q 19), .inl (K 0, 60, .inl (fun j => iI (t_19_c j)))), ((t_q 20), .inl (K 0, 480, .inl (fun j => iI (t_20_c j)))), ((t_q 21), .inl (K 0, 600, .inl (fun j => iI (t_21_c j)))), ((t_q 23), .inl (K 0, 150, .inl (fun j => iI (t_23_c j)))), ((t_q 24), .inl (K 0, 5, .inl (fun j => iI (t_24_c j)))), ((t_q 25), .inl (K 0, 24, .inl (fun j => iI (t_25_c j)))), ((t_q 26), .inl (K 0, 24, .inl (fun j => iI (t_26_c j)))), ((t_q 27), .inl (K 0, 12, .inl (fun j => iI (t_27_c j)))), ((t_q 28), .inl (K 0, 12, .inl (fun j => iI (t_28_c j)))), ((t_q 36), .inl (K 0, 150, .inl (fun j => iI (c68_t_36 j))))] H → va_D A [(t, .inr (12, oX12 t_q t_x0 t_x6 t_x7 t_x8 t_x9 t_x10 t_x11 t_x12 t_x13 t_x14 t_x15 t_x32 t_x33 t_x34 t_x35 t_x39 t_x40 t_x43 t_x44 t_x48 t_x49 t_x50)), ((t_q 17), .inl (K 0, 40, .inl (fun j => iI (t_17_c j)))), ((t_q 18), .inl (K 0, 50, .inl (fun j => iI (t_18_c j)))), ((t_q 19), .inl (K 0, 60, .inl (fun j => iI (t_19_c j)))), ((t_q 20), .inl (K 0, 480, .inl (fun j => iI (t_20_c j)))), ((t_q 21), .inl (K 0, 600, .inl (fun j => iI (t_21_c j)))), ((t_q 23), .inl (K 0, 150, .inl (fun j => iI (t_23_c j)))), ((t_q 24), .inl (K 0, 5, .inl (fun j => iI (t_24_c j)))), ((t_q 25), .inl (K 0, 24, .inl (fun j => iI (t_25_c j)))), ((t_q 26), .inl (K 0, 24, .inl (fun j => iI (t_26_c j)))), ((t_q 27), .inl (K 0, 12, .inl (fun j => iI (t_27_c j)))), ((t_q 28), .inl (K 0, 12, .inl (fun j => iI (t_28_c j)))), ((t_q 36), .inl (K 0, 150, .inl (fun j => iI (c68_t_36 j))))] → va_S A s.heap H locs → lv_has ls 5 [(0, .ref t), (1, .int (iI p1)), (2, .int (iI x68_2)), (3, .int (iI x55_3)), (4, .int (iI x68_4))] → W p l e ({ frames := 12, cells := 0, slots := 0, locals := 300 } : Room) s m ag below meth c H locs 0 0 Q (F0 m 68 ls []) := by
            intro n
            induction n with
            | zero =>
              intro x68_2 x68_4 c68_t_36 H locs ls hm68 hf68 ra rb hc68_t_36 hP hD hS hl
              exact absurd hm68 (Nat.not_lt_zero _)
            | succ n ih68 =>
              intro x68_2 x68_4 c68_t_36 H locs ls hm68 hf68 ra rb hc68_t_36 hP hD hS hl
              refine lv_iload hx hb dX12_turnsFrom_68 (lv_at hl 4 rfl) ?_
              refine lv_aload_n hx hb dX12_turnsFrom_70 rfl (lv_at hl 0 rfl) ?_
              refine va_get (D := D) (own := RX12) (ci := 12) (v := .ref (t_q 24)) (C := RX12) (T := TX12) (N := 51) hx hb hts inb_X12 hown hK.1 hP 0 rfl rfl 24 (by decide) (hts _ wd_1258) (fun _ h9 => h9) rfl dX12_turnsFrom_71 ?_
              refine lv_iload_n hx hb dX12_turnsFrom_74 rfl (lv_at hl 3 rfl) ?_
              refine g_iald hx hb hK.1 hP 7 0 rfl rfl (by omega) (by omega) (by decide) dX12_turnsFrom_75 ?_
              have y75 : 0 ≤ (t_24_c x55_3.toNat) ∧ (t_24_c x55_3.toNat) ≤ 30 := hc_t_24 x55_3.toNat
              refine g_icmp_ge (tgt := 112) hx hb (by omega) (by omega) dX12_turnsFrom_76 (by decide) (fun c76 => ?_) (fun c76 => ?_)
              · refine lv_iinc (v := iI (x55_3 + 1)) (lv' := [(3, .int (iI (x55_3 + 1))), (0, .ref t), (1, .int (iI p1)), (2, .int (iI x68_2)), (4, .int (iI x68_4))]) hx hb dX12_turnsFrom_112 hl (k := 3) rfl (iI_add _ _) (by decide) rfl (fun ls hl => ?_)
                refine lv_goto (tgt := 55) hx hb dX12_turnsFrom_115 (by decide) ?_
                exact ih55 x68_2 (x55_3 + 1) c68_t_36 _ _ ls (by omega) (by omega) (show x68_2 = 0 → RXA t_17_c t_24_c c68_t_36 (x55_3 + 1) from fun h9 => RXA_next (ra h9) (rb h9) (by omega) (by omega)) hc68_t_36 (hP.sub [0, 1, 2, 3, 4, 5, 6, 7, 8, 9, 10, 11, 12] rfl) (hD.sub [0, 1, 2, 3, 4, 5, 6, 7, 8, 9, 10, 11, 12] (by decide) rfl) hS (lv_sub hl [1, 2, 3, 0] rfl)
              · refine lv_aload_n hx hb dX12_turnsFrom_79 rfl (lv_at hl 0 rfl) ?_
                refine va_get (D := D) (own := RX12) (ci := 12) (v := .ref (t_q 36)) (C := RX12) (T := TX12) (N := 51) hx hb hts inb_X12 hown hK.1 hP 0 rfl rfl 36 (by decide) (hts _ wd_1270) (fun _ h9 => h9) rfl dX12_turnsFrom_80 ?_
                refine lv_bipush (v := iI 30) hx hb dX12_turnsFrom_83 (by decide) ?_
                refine lv_iload_n hx hb dX12_turnsFrom_85 rfl (lv_at hl 3 rfl) ?_
                refine g_imul hx hb dX12_turnsFrom_86 ?_
                refine lv_iload hx hb dX12_turnsFrom_87 (lv_at hl 4 rfl) ?_
                refine g_iadd hx hb dX12_turnsFrom_89 ?_
                refine g_iald hx hb hK.1 hP 12 0 rfl rfl (by omega) (by omega) (by decide) dX12_turnsFrom_90 ?_
                have y90 : 0 ≤ (c68_t_36 ((30 * x55_3 + x68_4).toNat)) ∧ (c68_t_36 ((30 * x55_3 + x68_4).toNat)) ≤ 100000 := hc68_t_36 ((30 * x55_3 + x68_4).toNat)
                refine lv_ldc (own := RX12) (v := 100000) hx hb hown (hts _ wd_1453) dX12_turnsFrom_91 ?_
                refine fn_top (iI 100000) (by decide) ?_
                refine g_icmp_ge (tgt := 106) hx hb (by omega) (by omega) dX12_turnsFrom_93 (by decide) (fun c93 => ?_) (fun c93 => ?_)
                · refine lv_iinc (v := iI (x68_4 + 1)) (lv' := [(4, .int (iI (x68_4 + 1))), (0, .ref t), (1, .int (iI p1)), (2, .int (iI x68_2)), (3, .int (iI x55_3))]) hx hb dX12_turnsFrom_106 hl (k := 4) rfl (iI_add _ _) (by decide) rfl (fun ls hl => ?_)
                  refine lv_goto (tgt := 68) hx hb dX12_turnsFrom_109 (by decide) ?_
                  exact ih68 x68_2 (x68_4 + 1) c68_t_36 _ _ ls (by omega) (by omega) (show x68_2 = 0 → RXA t_17_c t_24_c c68_t_36 x55_3 from by first | assumption | exact fun h9 => by rw [True.intro (by omega)]; exact ra (by omega)) (show x68_2 = 0 → RXB t_17_c t_24_c c68_t_36 x55_3 (x68_4 + 1) from by first | exact fun h9 => RXB_skip (rb h9) (by omega) (by omega) (by omega) | exact fun h9 => by have b9 := True.intro (by omega); have d9 := True.intro (by omega); have n9 := True.intro (by omega); rw [b9] at d9 n9 ⊢; exact RXB_step (rb (by omega)) (by omega) (by omega) d9 n9) hc68_t_36 (hP.sub [0, 1, 2, 3, 4, 5, 6, 7, 8, 9, 10, 11, 12] rfl) (hD.sub [0, 1, 2, 3, 4, 5, 6, 7, 8, 9, 10, 11, 12] (by decide) rfl) hS (lv_sub hl [1, 2, 3, 4, 0] rfl)
                · refine lv_iload_n hx hb dX12_turnsFrom_96 rfl (lv_at hl 2 rfl) ?_
                  refine lv_aload_n hx hb dX12_turnsFrom_97 rfl (lv_at hl 0 rfl) ?_
                  refine lv_iload_n hx hb dX12_turnsFrom_98 rfl (lv_at hl 3 rfl) ?_
                  refine fn_at 99 rfl ?_
                  refine lv_iload hx hb dX12_turnsFrom_99 (lv_at hl 4 rfl) ?_
                  refine fn_goi (wc := [(t, .inr (12, oX12 t_q t_x0 t_x6 t_x7 t_x8 t_x9 t_x10 t_x11 t_x12 t_x13 t_x14 t_x15 t_x32 t_x33 t_x34 t_x35 t_x39 t_x40 t_x43 t_x44 t_x48 t_x49 t_x50)), ((t_q 17), .inl (K 0, 40, .inl (fun j => iI (t_17_c j)))), ((t_q 18), .inl (K 0, 50, .inl (fun j => iI (t_18_c j)))), ((t_q 19), .inl (K 0, 60, .inl (fun j => iI (t_19_c j)))), ((t_q 20), .inl (K 0, 480, .inl (fun j => iI (t_20_c j)))), ((t_q 21), .inl (K 0, 600, .inl (fun j => iI (t_21_c j)))), ((t_q 23), .inl (K 0, 150, .inl (fun j => iI (t_23_c j)))), ((t_q 24), .inl (K 0, 5, .inl (fun j => iI (t_24_c j)))), ((t_q 25), .inl (K 0, 24, .inl (fun j => iI (t_25_c j)))), ((t_q 26), .inl (K 0, 24, .inl (fun j => iI (t_26_c j)))), ((t_q 27), .inl (K 0, 12, .inl (fun j => iI (t_27_c j)))), ((t_q 28), .inl (K 0, 12, .inl (fun j => iI (t_28_c j)))), ((t_q 36), .inl (K 0, 150, .inl (fun j => iI (c68_t_36 j))))]) (wr := []) hK hP hD hS hA [0, 1, 2, 3, 4, 5, 6, 7, 8, 9, 10, 11, 12] [] rfl rfl (by decide) (fun hp => va_runV (C := RX12) (As := [.int (iI x55_3), .int (iI x68_4)]) (rest := [.int (iI x68_2)]) ⟨hx, hb, hml, hown, hts⟩ (k_X12_spreads (l := l) (D := D) (K := K) (t := t) (p1 := x55_3) (p2 := x68_4) (t_q := t_q) (t_x0 := t_x0) (t_x6 := t_x6) (t_x7 := t_x7) (t_x8 := t_x8) (t_x9 := t_x9) (t_x10 := t_x10) (t_x11 := t_x11) (t_x12 := t_x12) (t_x13 := t_x13) (t_x14 := t_x14) (t_x15 := t_x15) (t_x32 := t_x32) (t_x33 := t_x33) (t_x34 := t_x34) (t_x35 := t_x35) (t_x39 := t_x39) (t_x40 := t_x40) (t_x43 := t_x43) (t_x44 := t_x44) (t_x48 := t_x48) (t_x49 := t_x49) (t_x50 := t_x50) (t_17_c := t_17_c) (t_18_c := t_18_c) (t_19_c := t_19_c) (t_20_c := t_20_c) (t_21_c := t_21_c) (t_23_c := t_23_c) (t_24_c := t_24_c) (t_25_c := t_25_c) (t_26_c := t_26_c) (t_27_c := t_27_c) (t_28_c := t_28_c) (t_36_c := c68_t_36) (hp1 := (by omega)) (hp2 := (by omega)) (hi_t := hi_t) (hc_t_17 := hc_t_17) (hc_t_18 := hc_t_18) (hc_t_19 := hc_t_19) (hc_t_20 := hc_t_20) (hc_t_21 := hc_t_21) (hc_t_23 := hc_t_23) (hc_t_24 := hc_t_24) (hc_t_25 := hc_t_25) (hc_t_26 := hc_t_26) (hc_t_27 := hc_t_27) (hc_t_28 := hc_t_28) (hc_t_36 := hc68_t_36) (li := (show LI t_17_c t_19_c t_23_c t_24_c t_26_c t_27_c t_28_c from by assumption)) (pb := (show x55_3 < t_17_c 2 ∧ x68_4 < t_24_c (Int.toNat x55_3) from by omega)) _) (cwV 2 hts (fn_ginV (fn_gin wd_1779) wd_1776 wd_1778 wp_140 wd_13) rfl rfl rfl (by decide +kernel) ⟨Nat.le_of_ble_eq_true rfl, Nat.le_of_ble_eq_true rfl⟩) ⟨fn_blind, va_recv hK.1 hP (ci := 12) (q0 := 0) rfl rfl, hp⟩ rfl rfl hl.1 rfl (lv_room (Nat.le_of_ble_eq_true rfl)) dX12_turnsFrom_101 ⟨Nat.le_of_ble_eq_true rfl, Nat.le_of_ble_eq_true rfl⟩) (fun r101 u101 H locs hwu101 hP hD hS => ?_)
                  obtain ⟨u101a, u101b⟩ := u101
                  obtain ⟨kr101, rfl, hkr101, hqu101_sm0, hqu101_bz0, hqu101_mo0, hqu101_dr0, hqu101_nx0, hu101_00, -⟩ := hwu101
                  have hqu101_sm : smN (u101b 0) 150 + kr101 ≤ smN c68_t_36 150 := hqu101_sm0
                  have hqu101_bz : kr101 = 0 → (u101b 0) = c68_t_36 := hqu101_bz0
                  have hqu101_mo : ∀ j : Nat, (u101b 0) j ≤ c68_t_36 j := hqu101_mo0
                  have hqu101_dr : kr101 = 0 → ∀ o : Nat, (o : Int) < t_17_c 2 → (u101b 0) (30 * o) ≤ (u101b 0) (Int.toNat (30 * x55_3 + x68_4)) + t_17_c 0 := hqu101_dr0
                  have hqu101_nx : kr101 = 0 → x68_4 + 1 < t_24_c (Int.toNat x55_3) → (u101b 0) (Int.toNat (30 * x55_3 + x68_4 + 1)) ≤ (u101b 0) (Int.toNat (30 * x55_3 + x68_4)) + 1 := hqu101_nx0
                  have hu101_0 : ∀ j : Nat, 0 ≤ (u101b 0) j ∧ (u101b 0) j ≤ 100000 := hu101_00
                  clear hqu101_sm0 hqu101_bz0 hqu101_mo0 hqu101_dr0 hqu101_nx0 hu101_00
                  have hP : va_P D vwCl [(t, .inr (12, oX12 t_q t_x0 t_x6 t_x7 t_x8 t_x9 t_x10 t_x11 t_x12 t_x13 t_x14 t_x15 t_x32 t_x33 t_x34 t_x35 t_x39 t_x40 t_x43 t_x44 t_x48 t_x49 t_x50)), ((t_q 17), .inl (K 0, 40, .inl (fun j => iI (t_17_c j)))), ((t_q 18), .inl (K 0, 50, .inl (fun j => iI (t_18_c j)))), ((t_q 19), .inl (K 0, 60, .inl (fun j => iI (t_19_c j)))), ((t_q 20), .inl (K 0, 480, .inl (fun j => iI (t_20_c j)))), ((t_q 21), .inl (K 0, 600, .inl (fun j => iI (t_21_c j)))), ((t_q 23), .inl (K 0, 150, .inl (fun j => iI (t_23_c j)))), ((t_q 24), .inl (K 0, 5, .inl (fun j => iI (t_24_c j)))), ((t_q 25), .inl (K 0, 24, .inl (fun j => iI (t_25_c j)))), ((t_q 26), .inl (K 0, 24, .inl (fun j => iI (t_26_c j)))), ((t_q 27), .inl (K 0, 12, .inl (fun j => iI (t_27_c j)))), ((t_q 28), .inl (K 0, 12, .inl (fun j => iI (t_28_c j)))), ((t_q 36), .inl (K 0, 150, .inl (fun j => iI ((u101b 0) j))))] H := hP
                  have hD : va_D A [(t, .inr (12, oX12 t_q t_x0 t_x6 t_x7 t_x8 t_x9 t_x10 t_x11 t_x12 t_x13 t_x14 t_x15 t_x32 t_x33 t_x34 t_x35 t_x39 t_x40 t_x43 t_x44 t_x48 t_x49 t_x50)), ((t_q 17), .inl (K 0, 40, .inl (fun j => iI (t_17_c j)))), ((t_q 18), .inl (K 0, 50, .inl (fun j => iI (t_18_c j)))), ((t_q 19), .inl (K 0, 60, .inl (fun j => iI (t_19_c j)))), ((t_q 20), .inl (K 0, 480, .inl (fun j => iI (t_20_c j)))), ((t_q 21), .inl (K 0, 600, .inl (fun j => iI (t_21_c j)))), ((t_q 23), .inl (K 0, 150, .inl (fun j => iI (t_23_c j)))), ((t_q 24), .inl (K 0, 5, .inl (fun j => iI (t_24_c j)))), ((t_q 25), .inl (K 0, 24, .inl (fun j => iI (t_25_c j)))), ((t_q 26), .inl (K 0, 24, .inl (fun j => iI (t_26_c j)))), ((t_q 27), .inl (K 0, 12, .inl (fun j => iI (t_27_c j)))), ((t_q 28), .inl (K 0, 12, .inl (fun j => iI (t_28_c j)))), ((t_q 36), .inl (K 0, 150, .inl (fun j => iI ((u101b 0) j))))] := hD
                  have z109a := hqu101_mo (Int.toNat (30 * t_19_c (Int.toNat p1) + t_27_c (Int.toNat p1)))
                  have z109b := hu101_0 (Int.toNat (30 * t_19_c (Int.toNat p1) + t_27_c (Int.toNat p1)))
                  have z109c := hqu101_sm
                  refine lv_ior hx hb dX12_turnsFrom_104 ?_
                  obtain ⟨w104, ew104, hw104⟩ := iI_or1 x68_2 kr101 (by omega) (by omega)
                  refine fn_top (iI w104) ew104 ?_
                  refine lv_istore_n (lv' := [(2, .int (iI w104)), (0, .ref t), (1, .int (iI p1)), (3, .int (iI x55_3)), (4, .int (iI x68_4))]) hx hb dX12_turnsFrom_105 rfl hl (by decide) rfl (fun ls hl => ?_)
                  refine lv_iinc (v := iI (x68_4 + 1)) (lv' := [(4, .int (iI (x68_4 + 1))), (2, .int (iI w104)), (0, .ref t), (1, .int (iI p1)), (3, .int (iI x55_3))]) hx hb dX12_turnsFrom_106 hl (k := 4) rfl (iI_add _ _) (by decide) rfl (fun ls hl => ?_)
                  refine lv_goto (tgt := 68) hx hb dX12_turnsFrom_109 (by decide) ?_
                  exact ih68 w104 (x68_4 + 1) (u101b 0) _ _ ls (by omega) (by omega) (show w104 = 0 → RXA t_17_c t_24_c (u101b 0) x55_3 from by first | assumption | exact fun h9 => by rw [hqu101_bz (by omega)]; exact ra (by omega)) (show w104 = 0 → RXB t_17_c t_24_c (u101b 0) x55_3 (x68_4 + 1) from by first | exact fun h9 => RXB_skip (rb h9) (by omega) (by omega) (by omega) | exact fun h9 => by have b9 := hqu101_bz (by omega); have d9 := hqu101_dr (by omega); have n9 := hqu101_nx (by omega); rw [b9] at d9 n9 ⊢; exact RXB_step (rb (by omega)) (by omega) (by omega) d9 n9) hu101_0 (hP.sub [0, 1, 2, 3, 4, 5, 6, 7, 8, 9, 10, 11, 12] rfl) (hD.sub [0, 1, 2, 3, 4, 5, 6, 7, 8, 9, 10, 11, 12] (by decide) rfl) hS (lv_sub hl [2, 3, 1, 4, 0] rfl)
          refine lv_iload_n hx hb dX12_turnsFrom_55 rfl (lv_at hl 3 rfl) ?_
          refine lv_aload_n hx hb dX12_turnsFrom_56 rfl (lv_at hl 0 rfl) ?_
          refine va_get (D := D) (own := RX12) (ci := 12) (v := .ref (t_q 17)) (C := RX12) (T := TX12) (N := 51) hx hb hts inb_X12 hown hK.1 hP 0 rfl rfl 17 (by decide) (hts _ wd_1251) (fun _ h9 => h9) rfl dX12_turnsFrom_57 ?_
          refine lv_iconst (v := iI 2) hx hb dX12_turnsFrom_60 rfl ?_
          refine g_iald hx hb hK.1 hP 1 0 rfl rfl (by omega) (by omega) (by decide) dX12_turnsFrom_61 ?_
          refine fn_top (iI (t_17_c 2)) rfl ?_
          have y61 : 0 ≤ (t_17_c 2) ∧ (t_17_c 2) ≤ 5 := (hc_t_17 2).2.2.1 (by omega)
          refine g_icmp_ge (tgt := 118) hx hb (by omega) (by omega) dX12_turnsFrom_62 (by decide) (fun c62 => ?_) (fun c62 => ?_)
          · refine lv_goto (tgt := 47) hx hb dX12_turnsFrom_118 (by decide) ?_
            have z118 := smN_nn (fun j => (hc55_t_36 j).1) 150
            exact ih47 x55_2 c55_t_36 _ _ ls (by omega) (by omega) (show x55_2 = 0 → RXA t_17_c t_24_c c55_t_36 (t_17_c 2) from fun h9 => fun c i hc => ra h9 c i (by omega)) hc55_t_36 (hP.sub [0, 1, 2, 3, 4, 5, 6, 7, 8, 9, 10, 11, 12] rfl) (hD.sub [0, 1, 2, 3, 4, 5, 6, 7, 8, 9, 10, 11, 12] (by decide) rfl) hS (lv_sub hl [0, 1, 2] rfl)
          · refine lv_iconst (v := iI 0) hx hb dX12_turnsFrom_65 rfl ?_
            refine lv_istore (lv' := [(4, .int (iI 0)), (0, .ref t), (1, .int (iI p1)), (2, .int (iI x55_2)), (3, .int (iI x55_3))]) hx hb dX12_turnsFrom_66 hl (by decide) rfl (fun ls hl => ?_)
            exact J68 _ x55_2 0 c55_t_36 _ _ ls (Nat.lt_succ_self _) (by omega) (show x55_2 = 0 → RXA t_17_c t_24_c c55_t_36 x55_3 from by assumption) (show x55_2 = 0 → RXB t_17_c t_24_c c55_t_36 x55_3 (0 : Int) from fun _ => RXB_0) hc55_t_36 (hP.sub [0, 1, 2, 3, 4, 5, 6, 7, 8, 9, 10, 11, 12] rfl) (hD.sub [0, 1, 2, 3, 4, 5, 6, 7, 8, 9, 10, 11, 12] (by decide) rfl) hS (lv_sub hl [1, 2, 3, 4, 0] rfl)
      refine lv_iload_n hx hb dX12_turnsFrom_47 rfl (lv_at hl 2 rfl) ?_
      refine g_if_eq (tgt := 121) hx hb (by omega) dX12_turnsFrom_48 (by decide) (fun c48 => ?_) (fun c48 => ?_)
      · rw [hQ]; exact fn_vret hx hb hr hlocks hP hD hS ((fun _ => 0), (fun k => ([c47_t_36] : List (Nat → Int)).getD k (fun _ => 0))) ⟨(show ∀ b i : Nat, (b : Int) < t_17_c 2 → (i : Int) < t_24_c b → c47_t_36 (30 * b + i) ≤ 49 from TB_bound (b0 := t_19_c (Int.toNat p1)) (i0 := t_27_c (Int.toNat p1)) (by have h9 := hc_t_19 (Int.toNat p1); omega) (by have h9 := hc_t_19 (Int.toNat p1); omega) (TI_pg hB ti (by omega) (by omega)).2 (by have h9 := li.2.1 (Int.toNat p1) (by omega); omega) (by omega) (by omega) (fun j => (hc_t_24 j).2) (ra (by omega))), (hc47_t_36), trivial⟩ [0, 1, 2, 3, 4, 5, 6, 7, 8, 9, 10, 11, 12] (by decide) rfl dX12_turnsFrom_121
      · refine lv_iconst (v := iI 0) hx hb dX12_turnsFrom_51 rfl ?_
        refine lv_istore_n (lv' := [(2, .int (iI 0)), (0, .ref t), (1, .int (iI p1))]) hx hb dX12_turnsFrom_52 rfl hl (by decide) rfl (fun ls hl => ?_)
        refine lv_iconst (v := iI 0) hx hb dX12_turnsFrom_53 rfl ?_
        refine lv_istore_n (lv' := [(3, .int (iI 0)), (2, .int (iI 0)), (0, .ref t), (1, .int (iI p1))]) hx hb dX12_turnsFrom_54 rfl hl (by decide) rfl (fun ls hl => ?_)
        exact J55 _ 0 0 c47_t_36 _ _ ls (Nat.lt_succ_self _) (by omega) (show (0 : Int) = 0 → RXA t_17_c t_24_c c47_t_36 (0 : Int) from fun _ => RXA_0) hc47_t_36 (hP.sub [0, 1, 2, 3, 4, 5, 6, 7, 8, 9, 10, 11, 12] rfl) (hD.sub [0, 1, 2, 3, 4, 5, 6, 7, 8, 9, 10, 11, 12] (by decide) rfl) hS (lv_sub hl [2, 3, 1, 0] rfl)
  have J2 : ∀ (n : Nat) (x2_2 : Int) (c2_t_36 : Nat → Int) (H : Heap) (locs : List Loc) (ls : Array Slot), (150 - x2_2).toNat < n → (0 ≤ x2_2 ∧ x2_2 ≤ 150) → (∀ j : Nat, 0 ≤ c2_t_36 j ∧ c2_t_36 j ≤ 100000) → va_P D vwCl [(t, .inr (12, oX12 t_q t_x0 t_x6 t_x7 t_x8 t_x9 t_x10 t_x11 t_x12 t_x13 t_x14 t_x15 t_x32 t_x33 t_x34 t_x35 t_x39 t_x40 t_x43 t_x44 t_x48 t_x49 t_x50)), ((t_q 17), .inl (K 0, 40, .inl (fun j => iI (t_17_c j)))), ((t_q 18), .inl (K 0, 50, .inl (fun j => iI (t_18_c j)))), ((t_q 19), .inl (K 0, 60, .inl (fun j => iI (t_19_c j)))), ((t_q 20), .inl (K 0, 480, .inl (fun j => iI (t_20_c j)))), ((t_q 21), .inl (K 0, 600, .inl (fun j => iI (t_21_c j)))), ((t_q 23), .inl (K 0, 150, .inl (fun j => iI (t_23_c j)))), ((t_q 24), .inl (K 0, 5, .inl (fun j => iI (t_24_c j)))), ((t_q 25), .inl (K 0, 24, .inl (fun j => iI (t_25_c j)))), ((t_q 26), .inl (K 0, 24, .inl (fun j => iI (t_26_c j)))), ((t_q 27), .inl (K 0, 12, .inl (fun j => iI (t_27_c j)))), ((t_q 28), .inl (K 0, 12, .inl (fun j => iI (t_28_c j)))), ((t_q 36), .inl (K 0, 150, .inl (fun j => iI (c2_t_36 j))))] H → va_D A [(t, .inr (12, oX12 t_q t_x0 t_x6 t_x7 t_x8 t_x9 t_x10 t_x11 t_x12 t_x13 t_x14 t_x15 t_x32 t_x33 t_x34 t_x35 t_x39 t_x40 t_x43 t_x44 t_x48 t_x49 t_x50)), ((t_q 17), .inl (K 0, 40, .inl (fun j => iI (t_17_c j)))), ((t_q 18), .inl (K 0, 50, .inl (fun j => iI (t_18_c j)))), ((t_q 19), .inl (K 0, 60, .inl (fun j => iI (t_19_c j)))), ((t_q 20), .inl (K 0, 480, .inl (fun j => iI (t_20_c j)))), ((t_q 21), .inl (K 0, 600, .inl (fun j => iI (t_21_c j)))), ((t_q 23), .inl (K 0, 150, .inl (fun j => iI (t_23_c j)))), ((t_q 24), .inl (K 0, 5, .inl (fun j => iI (t_24_c j)))), ((t_q 25), .inl (K 0, 24, .inl (fun j => iI (t_25_c j)))), ((t_q 26), .inl (K 0, 24, .inl (fun j => iI (t_26_c j)))), ((t_q 27), .inl (K 0, 12, .inl (fun j => iI (t_27_c j)))), ((t_q 28), .inl (K 0, 12, .inl (fun j => iI (t_28_c j)))), ((t_q 36), .inl (K 0, 150, .inl (fun j => iI (c2_t_36 j))))] → va_S A s.heap H locs → lv_has ls 5 [(0, .ref t), (1, .int (iI p1)), (2, .int (iI x2_2))] → W p l e ({ frames := 12, cells := 0, slots := 0, locals := 300 } : Room) s m ag below meth c H locs 0 0 Q (F0 m 2 ls []) := by
    intro n
    induction n with
    | zero =>
      intro x2_2 c2_t_36 H locs ls hm2 hf2 hc2_t_36 hP hD hS hl
      exact absurd hm2 (Nat.not_lt_zero _)
    | succ n ih2 =>
      intro x2_2 c2_t_36 H locs ls hm2 hf2 hc2_t_36 hP hD hS hl
      refine lv_iload_n hx hb dX12_turnsFrom_2 rfl (lv_at hl 2 rfl) ?_
      refine lv_sipush (v := iI 150) hx hb dX12_turnsFrom_3 (by decide) ?_
      refine g_icmp_ge (tgt := 23) hx hb (by omega) (by omega) dX12_turnsFrom_6 (by decide) (fun c6 => ?_) (fun c6 => ?_)
      · refine lv_aload_n hx hb dX12_turnsFrom_23 rfl (lv_at hl 0 rfl) ?_
        refine va_get (D := D) (own := RX12) (ci := 12) (v := .ref (t_q 36)) (C := RX12) (T := TX12) (N := 51) hx hb hts inb_X12 hown hK.1 hP 0 rfl rfl 36 (by decide) (hts _ wd_1270) (fun _ h9 => h9) rfl dX12_turnsFrom_24 ?_
        refine lv_bipush (v := iI 30) hx hb dX12_turnsFrom_27 (by decide) ?_
        refine lv_aload_n hx hb dX12_turnsFrom_29 rfl (lv_at hl 0 rfl) ?_
        refine va_get (D := D) (own := RX12) (ci := 12) (v := .ref (t_q 19)) (C := RX12) (T := TX12) (N := 51) hx hb hts inb_X12 hown hK.1 hP 0 rfl rfl 19 (by decide) (hts _ wd_1253) (fun _ h9 => h9) rfl dX12_turnsFrom_30 ?_
        refine lv_iload_n hx hb dX12_turnsFrom_33 rfl (lv_at hl 1 rfl) ?_
        refine g_iald hx hb hK.1 hP 3 0 rfl rfl (by omega) (by omega) (by decide) dX12_turnsFrom_34 ?_
        have y34 : 0 ≤ (t_19_c p1.toNat) ∧ (t_19_c p1.toNat) ≤ 4 := hc_t_19 p1.toNat
        refine g_imul hx hb dX12_turnsFrom_35 ?_
        refine lv_aload_n hx hb dX12_turnsFrom_36 rfl (lv_at hl 0 rfl) ?_
        refine va_get (D := D) (own := RX12) (ci := 12) (v := .ref (t_q 27)) (C := RX12) (T := TX12) (N := 51) hx hb hts inb_X12 hown hK.1 hP 0 rfl rfl 27 (by decide) (hts _ wd_1261) (fun _ h9 => h9) rfl dX12_turnsFrom_37 ?_
        refine lv_iload_n hx hb dX12_turnsFrom_40 rfl (lv_at hl 1 rfl) ?_
        refine g_iald hx hb hK.1 hP 10 0 rfl rfl (by omega) (by omega) (by decide) dX12_turnsFrom_41 ?_
        have y41 : (-1) ≤ (t_27_c p1.toNat) ∧ (t_27_c p1.toNat) ≤ 29 := hc_t_27 p1.toNat
        refine g_iadd hx hb dX12_turnsFrom_42 ?_
        refine lv_iconst (v := iI 0) hx hb dX12_turnsFrom_43 rfl ?_
        refine g_iast hx hb hK.1 hP hD hS 12 0 rfl rfl (by omega) (by omega) (by decide) dX12_turnsFrom_44 (fun H locs g44 eg44 hP hD hS => ?_)
        have hg44 : ∀ j : Nat, 0 ≤ g44 j ∧ g44 j ≤ 100000 := by rw [eg44]; exact uI_all hc2_t_36 (by omega)
        have hP : va_P D vwCl [(t, .inr (12, oX12 t_q t_x0 t_x6 t_x7 t_x8 t_x9 t_x10 t_x11 t_x12 t_x13 t_x14 t_x15 t_x32 t_x33 t_x34 t_x35 t_x39 t_x40 t_x43 t_x44 t_x48 t_x49 t_x50)), ((t_q 17), .inl (K 0, 40, .inl (fun j => iI (t_17_c j)))), ((t_q 18), .inl (K 0, 50, .inl (fun j => iI (t_18_c j)))), ((t_q 19), .inl (K 0, 60, .inl (fun j => iI (t_19_c j)))), ((t_q 20), .inl (K 0, 480, .inl (fun j => iI (t_20_c j)))), ((t_q 21), .inl (K 0, 600, .inl (fun j => iI (t_21_c j)))), ((t_q 23), .inl (K 0, 150, .inl (fun j => iI (t_23_c j)))), ((t_q 24), .inl (K 0, 5, .inl (fun j => iI (t_24_c j)))), ((t_q 25), .inl (K 0, 24, .inl (fun j => iI (t_25_c j)))), ((t_q 26), .inl (K 0, 24, .inl (fun j => iI (t_26_c j)))), ((t_q 27), .inl (K 0, 12, .inl (fun j => iI (t_27_c j)))), ((t_q 28), .inl (K 0, 12, .inl (fun j => iI (t_28_c j)))), ((t_q 36), .inl (K 0, 150, .inl (fun j => iI (g44 j))))] H := hP
        have hD : va_D A [(t, .inr (12, oX12 t_q t_x0 t_x6 t_x7 t_x8 t_x9 t_x10 t_x11 t_x12 t_x13 t_x14 t_x15 t_x32 t_x33 t_x34 t_x35 t_x39 t_x40 t_x43 t_x44 t_x48 t_x49 t_x50)), ((t_q 17), .inl (K 0, 40, .inl (fun j => iI (t_17_c j)))), ((t_q 18), .inl (K 0, 50, .inl (fun j => iI (t_18_c j)))), ((t_q 19), .inl (K 0, 60, .inl (fun j => iI (t_19_c j)))), ((t_q 20), .inl (K 0, 480, .inl (fun j => iI (t_20_c j)))), ((t_q 21), .inl (K 0, 600, .inl (fun j => iI (t_21_c j)))), ((t_q 23), .inl (K 0, 150, .inl (fun j => iI (t_23_c j)))), ((t_q 24), .inl (K 0, 5, .inl (fun j => iI (t_24_c j)))), ((t_q 25), .inl (K 0, 24, .inl (fun j => iI (t_25_c j)))), ((t_q 26), .inl (K 0, 24, .inl (fun j => iI (t_26_c j)))), ((t_q 27), .inl (K 0, 12, .inl (fun j => iI (t_27_c j)))), ((t_q 28), .inl (K 0, 12, .inl (fun j => iI (t_28_c j)))), ((t_q 36), .inl (K 0, 150, .inl (fun j => iI (g44 j))))] := hD
        refine lv_iconst (v := iI 1) hx hb dX12_turnsFrom_45 rfl ?_
        refine fn_at 46 rfl ?_
        refine lv_istore_n (lv' := [(2, .int (iI 1)), (0, .ref t), (1, .int (iI p1))]) hx hb dX12_turnsFrom_46 rfl hl (by decide) rfl (fun ls hl => ?_)
        have z46 := congrFun eg44 (Int.toNat (30 * t_19_c (Int.toNat p1) + t_27_c (Int.toNat p1)))
        rw [uI_s] at z46
        exact J47 _ 1 g44 _ _ ls (Nat.lt_succ_self _) (by omega) (show (1 : Int) = 0 → RXA t_17_c t_24_c g44 (t_17_c 2) from fun h9 => absurd h9 (by decide)) hg44 (hP.sub [0, 1, 2, 3, 4, 5, 6, 7, 8, 9, 10, 11, 12] rfl) (hD.sub [0, 1, 2, 3, 4, 5, 6, 7, 8, 9, 10, 11, 12] (by decide) rfl) hS (lv_sub hl [1, 2, 0] rfl)
      · refine lv_aload_n hx hb dX12_turnsFrom_9 rfl (lv_at hl 0 rfl) ?_
        refine va_get (D := D) (own := RX12) (ci := 12) (v := .ref (t_q 36)) (C := RX12) (T := TX12) (N := 51) hx hb hts inb_X12 hown hK.1 hP 0 rfl rfl 36 (by decide) (hts _ wd_1270) (fun _ h9 => h9) rfl dX12_turnsFrom_10 ?_
        refine lv_iload_n hx hb dX12_turnsFrom_13 rfl (lv_at hl 2 rfl) ?_
        refine lv_ldc (own := RX12) (v := 100000) hx hb hown (hts _ wd_1453) dX12_turnsFrom_14 ?_
        refine fn_top (iI 100000) (by decide) ?_
        refine g_iast hx hb hK.1 hP hD hS 12 0 rfl rfl (by omega) (by omega) (by decide) dX12_turnsFrom_16 (fun H locs g16 eg16 hP hD hS => ?_)
        have hg16 : ∀ j : Nat, 0 ≤ g16 j ∧ g16 j ≤ 100000 := by rw [eg16]; exact uI_all hc2_t_36 (by omega)
        have hP : va_P D vwCl [(t, .inr (12, oX12 t_q t_x0 t_x6 t_x7 t_x8 t_x9 t_x10 t_x11 t_x12 t_x13 t_x14 t_x15 t_x32 t_x33 t_x34 t_x35 t_x39 t_x40 t_x43 t_x44 t_x48 t_x49 t_x50)), ((t_q 17), .inl (K 0, 40, .inl (fun j => iI (t_17_c j)))), ((t_q 18), .inl (K 0, 50, .inl (fun j => iI (t_18_c j)))), ((t_q 19), .inl (K 0, 60, .inl (fun j => iI (t_19_c j)))), ((t_q 20), .inl (K 0, 480, .inl (fun j => iI (t_20_c j)))), ((t_q 21), .inl (K 0, 600, .inl (fun j => iI (t_21_c j)))), ((t_q 23), .inl (K 0, 150, .inl (fun j => iI (t_23_c j)))), ((t_q 24), .inl (K 0, 5, .inl (fun j => iI (t_24_c j)))), ((t_q 25), .inl (K 0, 24, .inl (fun j => iI (t_25_c j)))), ((t_q 26), .inl (K 0, 24, .inl (fun j => iI (t_26_c j)))), ((t_q 27), .inl (K 0, 12, .inl (fun j => iI (t_27_c j)))), ((t_q 28), .inl (K 0, 12, .inl (fun j => iI (t_28_c j)))), ((t_q 36), .inl (K 0, 150, .inl (fun j => iI (g16 j))))] H := hP
        have hD : va_D A [(t, .inr (12, oX12 t_q t_x0 t_x6 t_x7 t_x8 t_x9 t_x10 t_x11 t_x12 t_x13 t_x14 t_x15 t_x32 t_x33 t_x34 t_x35 t_x39 t_x40 t_x43 t_x44 t_x48 t_x49 t_x50)), ((t_q 17), .inl (K 0, 40, .inl (fun j => iI (t_17_c j)))), ((t_q 18), .inl (K 0, 50, .inl (fun j => iI (t_18_c j)))), ((t_q 19), .inl (K 0, 60, .inl (fun j => iI (t_19_c j)))), ((t_q 20), .inl (K 0, 480, .inl (fun j => iI (t_20_c j)))), ((t_q 21), .inl (K 0, 600, .inl (fun j => iI (t_21_c j)))), ((t_q 23), .inl (K 0, 150, .inl (fun j => iI (t_23_c j)))), ((t_q 24), .inl (K 0, 5, .inl (fun j => iI (t_24_c j)))), ((t_q 25), .inl (K 0, 24, .inl (fun j => iI (t_25_c j)))), ((t_q 26), .inl (K 0, 24, .inl (fun j => iI (t_26_c j)))), ((t_q 27), .inl (K 0, 12, .inl (fun j => iI (t_27_c j)))), ((t_q 28), .inl (K 0, 12, .inl (fun j => iI (t_28_c j)))), ((t_q 36), .inl (K 0, 150, .inl (fun j => iI (g16 j))))] := hD
        refine lv_iinc (v := iI (x2_2 + 1)) (lv' := [(2, .int (iI (x2_2 + 1))), (0, .ref t), (1, .int (iI p1))]) hx hb dX12_turnsFrom_17 hl (k := 2) rfl (iI_add _ _) (by decide) rfl (fun ls hl => ?_)
        refine lv_goto (tgt := 2) hx hb dX12_turnsFrom_20 (by decide) ?_
        exact ih2 (x2_2 + 1) g16 _ _ ls (by omega) (by omega) hg16 (hP.sub [0, 1, 2, 3, 4, 5, 6, 7, 8, 9, 10, 11, 12] rfl) (hD.sub [0, 1, 2, 3, 4, 5, 6, 7, 8, 9, 10, 11, 12] (by decide) rfl) hS (lv_sub hl [1, 2, 0] rfl)
  have hl : lv_has ls 5 [(0, .ref t), (1, .int (iI p1))] := hl
  refine lv_iconst (v := iI 0) hx hb dX12_turnsFrom_0 rfl ?_
  refine lv_istore_n (lv' := [(2, .int (iI 0)), (0, .ref t), (1, .int (iI p1))]) hx hb dX12_turnsFrom_1 rfl hl (by decide) rfl (fun ls hl => ?_)
  exact J2 _ 0 t_36_c _ _ ls (Nat.lt_succ_self _) (by omega) hc_t_36 (hP.sub [0, 1, 2, 3, 4, 5, 6, 7, 8, 9, 10, 11, 12] rfl) (hD.sub [0, 1, 2, 3, 4, 5, 6, 7, 8, 9, 10, 11, 12] (by decide) rfl) hS (lv_sub hl [1, 2, 0] rfl)
theorem dX12_turnsTo_0 : decode cX12_turnsTo 0 = .ok (.aload_n 0, 1) := by decide +kernel
theorem dX12_turnsTo_1 : decode cX12_turnsTo 1 = .ok (.getfield 80, 3) := by decide +kernel
theorem dX12_turnsTo_4 : decode cX12_turnsTo 4 = .ok (.bipush 30, 2) := by decide +kernel
theorem dX12_turnsTo_6 : decode cX12_turnsTo 6 = .ok (.aload_n 0, 1) := by decide +kernel
theorem dX12_turnsTo_7 : decode cX12_turnsTo 7 = .ok (.getfield 40, 3) := by decide +kernel
theorem dX12_turnsTo_10 : decode cX12_turnsTo 10 = .ok (.iload_n 1, 1) := by decide +kernel
theorem dX12_turnsTo_11 : decode cX12_turnsTo 11 = .ok (.iaload, 1) := by decide +kernel
theorem dX12_turnsTo_12 : decode cX12_turnsTo 12 = .ok (.imul, 1) := by decide +kernel
theorem dX12_turnsTo_13 : decode cX12_turnsTo 13 = .ok (.aload_n 0, 1) := by decide +kernel
theorem dX12_turnsTo_14 : decode cX12_turnsTo 14 = .ok (.getfield 65, 3) := by decide +kernel
theorem dX12_turnsTo_17 : decode cX12_turnsTo 17 = .ok (.iload_n 1, 1) := by decide +kernel
theorem dX12_turnsTo_18 : decode cX12_turnsTo 18 = .ok (.iaload, 1) := by decide +kernel
theorem dX12_turnsTo_19 : decode cX12_turnsTo 19 = .ok (.iadd, 1) := by decide +kernel
theorem dX12_turnsTo_20 : decode cX12_turnsTo 20 = .ok (.iaload, 1) := by decide +kernel
theorem dX12_turnsTo_21 : decode cX12_turnsTo 21 = .ok (.ireturn, 1) := by decide +kernel
set_option maxHeartbeats 4000000 in
set_option maxRecDepth 100000 in
theorem k_X12_turnsTo (l : Launch) (D : va_G) (K : Nat → ClassId) (t : Nat) (t_q : Nat → Nat) (p1 t_x0 t_x6 t_x7 t_x8 t_x9 t_x10 t_x11 t_x12 t_x13 t_x14 t_x15 t_x32 t_x33 t_x34 t_x35 t_x39 t_x40 t_x43 t_x44 t_x48 t_x49 t_x50 : Int) (t_19_c : Nat → Int) (t_27_c : Nat → Int) (t_36_c : Nat → Int) (hp1 : 0 ≤ p1 ∧ p1 ≤ 11) (hi_t : bM12 t_x0 t_x6 t_x7 t_x8 t_x9 t_x10 t_x11 t_x12 t_x13 t_x14 t_x15 t_x32 t_x33 t_x34 t_x35 t_x39 t_x40 t_x43 t_x44 t_x48 t_x49 t_x50) (hc_t_19 : ∀ j : Nat, 0 ≤ t_19_c j ∧ t_19_c j ≤ 4) (hc_t_27 : ∀ j : Nat, (-1) ≤ t_27_c j ∧ t_27_c j ≤ 29) (hc_t_36 : ∀ j : Nat, 0 ≤ t_36_c j ∧ t_36_c j ≤ 100000) (pq : 0 ≤ t_27_c (Int.toNat p1)) : fn_CI (S := (Nat → Int) × (Nat → Nat → Int)) l D K yX12_turnsTo (fn_ws yX12_turnsTo cX12_turnsTo 2 (some .int)) ({ frames := 4, cells := 0, slots := 0, locals := 100 } : Room) [.ref t, .int (iI p1)] [(t, .inr (12, oX12 t_q t_x0 t_x6 t_x7 t_x8 t_x9 t_x10 t_x11 t_x12 t_x13 t_x14 t_x15 t_x32 t_x33 t_x34 t_x35 t_x39 t_x40 t_x43 t_x44 t_x48 t_x49 t_x50)), ((t_q 19), .inl (K 0, 60, .inl (fun j => iI (t_19_c j)))), ((t_q 27), .inl (K 0, 12, .inl (fun j => iI (t_27_c j)))), ((t_q 36), .inl (K 0, 150, .inl (fun j => iI (t_36_c j))))] (fun r u => ∃ k : Int, r = iI k ∧ (0 ≤ k ∧ k ≤ 100000) ∧ ((k = t_36_c (Int.toNat (30 * t_19_c (Int.toNat p1) + t_27_c (Int.toNat p1))))) ∧ True) (fun u => [(t, .inr (12, oX12 t_q t_x0 t_x6 t_x7 t_x8 t_x9 t_x10 t_x11 t_x12 t_x13 t_x14 t_x15 t_x32 t_x33 t_x34 t_x35 t_x39 t_x40 t_x43 t_x44 t_x48 t_x49 t_x50)), ((t_q 19), .inl (K 0, 60, .inl (fun j => iI (t_19_c j)))), ((t_q 27), .inl (K 0, 12, .inl (fun j => iI (t_27_c j)))), ((t_q 36), .inl (K 0, 150, .inl (fun j => iI (t_36_c j))))]) 0 0 := by
  refine g_inI (cc := cX12_turnsTo) (maxL := 2) (ret := (some .int)) (by decide) rfl (Nat.le_of_ble_eq_true rfl) ?_
  intro p e s m below meth c A ls ag Q B hA hP hD hS hl hQ
  obtain ⟨hx, hb, hr, hml, hts, hown, hlocks, hin, hK⟩ := B
  have hown : s.vm.findClass RX12 = some m.cls := hown
  have hts := fun w h => hts w (List.mem_cons_of_mem _ h)
  have hl : lv_has ls 2 [(0, .ref t), (1, .int (iI p1))] := hl
  refine lv_aload_n hx hb dX12_turnsTo_0 rfl (lv_at hl 0 rfl) ?_
  refine va_get (D := D) (own := RX12) (ci := 12) (v := .ref (t_q 36)) (C := RX12) (T := TX12) (N := 51) hx hb hts inb_X12 hown hK.1 hP 0 rfl rfl 36 (by decide) (hts _ wd_1270) (fun _ h9 => h9) rfl dX12_turnsTo_1 ?_
  refine lv_bipush (v := iI 30) hx hb dX12_turnsTo_4 (by decide) ?_
  refine lv_aload_n hx hb dX12_turnsTo_6 rfl (lv_at hl 0 rfl) ?_
  refine va_get (D := D) (own := RX12) (ci := 12) (v := .ref (t_q 19)) (C := RX12) (T := TX12) (N := 51) hx hb hts inb_X12 hown hK.1 hP 0 rfl rfl 19 (by decide) (hts _ wd_1253) (fun _ h9 => h9) rfl dX12_turnsTo_7 ?_
  refine lv_iload_n hx hb dX12_turnsTo_10 rfl (lv_at hl 1 rfl) ?_
  refine g_iald hx hb hK.1 hP 1 0 rfl rfl (by omega) (by omega) (by decide) dX12_turnsTo_11 ?_
  have y11 : 0 ≤ (t_19_c p1.toNat) ∧ (t_19_c p1.toNat) ≤ 4 := hc_t_19 p1.toNat
  refine g_imul hx hb dX12_turnsTo_12 ?_
  refine lv_aload_n hx hb dX12_turnsTo_13 rfl (lv_at hl 0 rfl) ?_
  refine va_get (D := D) (own := RX12) (ci := 12) (v := .ref (t_q 27)) (C := RX12) (T := TX12) (N := 51) hx hb hts inb_X12 hown hK.1 hP 0 rfl rfl 27 (by decide) (hts _ wd_1261) (fun _ h9 => h9) rfl dX12_turnsTo_14 ?_
  refine lv_iload_n hx hb dX12_turnsTo_17 rfl (lv_at hl 1 rfl) ?_
  refine g_iald hx hb hK.1 hP 2 0 rfl rfl (by omega) (by omega) (by decide) dX12_turnsTo_18 ?_
  have y18 : (-1) ≤ (t_27_c p1.toNat) ∧ (t_27_c p1.toNat) ≤ 29 := hc_t_27 p1.toNat
  refine g_iadd hx hb dX12_turnsTo_19 ?_
  refine g_iald hx hb hK.1 hP 3 0 rfl rfl (by omega) (by omega) (by decide) dX12_turnsTo_20 ?_
  have y20 : 0 ≤ (t_36_c ((30 * (t_19_c p1.toNat) + (t_27_c p1.toNat)).toNat)) ∧ (t_36_c ((30 * (t_19_c p1.toNat) + (t_27_c p1.toNat)).toNat)) ≤ 100000 := hc_t_36 ((30 * (t_19_c p1.toNat) + (t_27_c p1.toNat)).toNat)
  rw [hQ]; exact fn_iret hx hb hr hlocks rfl hP hD hS ((fun _ => 0), (fun _ _ => 0)) ⟨t_36_c ((30 * (t_19_c p1.toNat) + (t_27_c p1.toNat)).toNat), rfl, by omega, (by show ((t_36_c ((30 * (t_19_c p1.toNat) + (t_27_c p1.toNat)).toNat)) = t_36_c (Int.toNat (30 * t_19_c (Int.toNat p1) + t_27_c (Int.toNat p1)))); omega), trivial⟩ [0, 1, 2, 3] (by decide) rfl dX12_turnsTo_21
theorem wd_1775 : Cond.code ⟨"FootNotesModel", "turnsFrom", "(I)V"⟩ prog_14_method_97_code 5 (Option.none : Option Jvm.ClassFile.FieldType) ∈ fn_big := fn_tb (fn_l8 (List.mem_of_getElem? (i := 95) (by decide +kernel))) (by decide +kernel)
theorem wd_1772 : Cond.methodLink "FootNotesModel" 357 ⟨"FootNotesModel", "turnsFrom", "(I)V"⟩ ∈ fn_big := fn_tb (fn_l8 (List.mem_of_getElem? (i := 92) (by decide +kernel))) (by decide +kernel)
theorem wd_1774 : Cond.instanceMethod ⟨"FootNotesModel", "turnsFrom", "(I)V"⟩ ∈ fn_big := fn_tb (fn_l8 (List.mem_of_getElem? (i := 94) (by decide +kernel))) (by decide +kernel)
theorem wp_139 : Cond.selects "FootNotesModel" ⟨"FootNotesModel", "turnsFrom", "(I)V"⟩ ⟨"FootNotesModel", "turnsFrom", "(I)V"⟩ ∈ fn_big := fn_sel (q := (⟨"FootNotesModel", "turnsFrom", "(I)V"⟩, 51)) 139 (by decide +kernel) (by decide +kernel)
theorem wd_1787 : Cond.code ⟨"FootNotesModel", "turnsTo", "(I)I"⟩ prog_14_method_100_code 2 (Option.some Jvm.ClassFile.FieldType.int) ∈ fn_big := fn_tb (fn_l8 (List.mem_of_getElem? (i := 107) (by decide +kernel))) (by decide +kernel)
theorem wd_1784 : Cond.methodLink "FootNotesModel" 360 ⟨"FootNotesModel", "turnsTo", "(I)I"⟩ ∈ fn_big := fn_tb (fn_l8 (List.mem_of_getElem? (i := 104) (by decide +kernel))) (by decide +kernel)
theorem wd_1786 : Cond.instanceMethod ⟨"FootNotesModel", "turnsTo", "(I)I"⟩ ∈ fn_big := fn_tb (fn_l8 (List.mem_of_getElem? (i := 106) (by decide +kernel))) (by decide +kernel)
theorem wp_142 : Cond.selects "FootNotesModel" ⟨"FootNotesModel", "turnsTo", "(I)I"⟩ ⟨"FootNotesModel", "turnsTo", "(I)I"⟩ ∈ fn_big := fn_sel (q := (⟨"FootNotesModel", "turnsTo", "(I)I"⟩, 51)) 142 (by decide +kernel) (by decide +kernel)
theorem dX12_leaves_0 : decode cX12_leaves 0 = .ok (.aload_n 0, 1) := by decide +kernel
theorem dX12_leaves_1 : decode cX12_leaves 1 = .ok (.iconst 0, 1) := by decide +kernel
theorem dX12_leaves_2 : decode cX12_leaves 2 = .ok (.putfield 104, 3) := by decide +kernel
theorem dX12_leaves_5 : decode cX12_leaves 5 = .ok (.aload_n 0, 1) := by decide +kernel
theorem dX12_leaves_6 : decode cX12_leaves 6 = .ok (.iload_n 1, 1) := by decide +kernel
theorem dX12_leaves_7 : decode cX12_leaves 7 = .ok (.i2l, 1) := by decide +kernel
theorem dX12_leaves_8 : decode cX12_leaves 8 = .ok (.invokevirtual 262, 3) := by decide +kernel
theorem dX12_leaves_11 : decode cX12_leaves 11 = .ok (.ifCond .eq 12, 3) := by decide +kernel
theorem dX12_leaves_23 : decode cX12_leaves 23 = .ok (.bipush (-2), 2) := by decide +kernel
theorem dX12_leaves_25 : decode cX12_leaves 25 = .ok (.ireturn, 1) := by decide +kernel
theorem dX12_leaves_14 : decode cX12_leaves 14 = .ok (.aload_n 0, 1) := by decide +kernel
theorem dX12_leaves_15 : decode cX12_leaves 15 = .ok (.iload_n 2, 1) := by decide +kernel
theorem dX12_leaves_16 : decode cX12_leaves 16 = .ok (.i2l, 1) := by decide +kernel
theorem dX12_leaves_17 : decode cX12_leaves 17 = .ok (.invokevirtual 262, 3) := by decide +kernel
theorem dX12_leaves_20 : decode cX12_leaves 20 = .ok (.ifCond .ne 6, 3) := by decide +kernel
theorem dX12_leaves_26 : decode cX12_leaves 26 = .ok (.aload_n 0, 1) := by decide +kernel
theorem dX12_leaves_27 : decode cX12_leaves 27 = .ok (.invokevirtual 286, 3) := by decide +kernel
theorem dX12_leaves_30 : decode cX12_leaves 30 = .ok (.aload_n 0, 1) := by decide +kernel
theorem dX12_leaves_31 : decode cX12_leaves 31 = .ok (.getfield 65, 3) := by decide +kernel
theorem dX12_leaves_34 : decode cX12_leaves 34 = .ok (.iload_n 1, 1) := by decide +kernel
theorem dX12_leaves_35 : decode cX12_leaves 35 = .ok (.iaload, 1) := by decide +kernel
theorem dX12_leaves_36 : decode cX12_leaves 36 = .ok (.iconst (-1), 1) := by decide +kernel
theorem dX12_leaves_37 : decode cX12_leaves 37 = .ok (.if_icmp .eq 13, 3) := by decide +kernel
theorem dX12_leaves_50 : decode cX12_leaves 50 = .ok (.iconst (-1), 1) := by decide +kernel
theorem dX12_leaves_51 : decode cX12_leaves 51 = .ok (.ireturn, 1) := by decide +kernel
theorem dX12_leaves_40 : decode cX12_leaves 40 = .ok (.aload_n 0, 1) := by decide +kernel
theorem dX12_leaves_41 : decode cX12_leaves 41 = .ok (.getfield 65, 3) := by decide +kernel
theorem dX12_leaves_44 : decode cX12_leaves 44 = .ok (.iload_n 2, 1) := by decide +kernel
theorem dX12_leaves_45 : decode cX12_leaves 45 = .ok (.iaload, 1) := by decide +kernel
theorem dX12_leaves_46 : decode cX12_leaves 46 = .ok (.iconst (-1), 1) := by decide +kernel
theorem dX12_leaves_47 : decode cX12_leaves 47 = .ok (.if_icmp .ne 5, 3) := by decide +kernel
theorem dX12_leaves_52 : decode cX12_leaves 52 = .ok (.aload_n 0, 1) := by decide +kernel
theorem dX12_leaves_53 : decode cX12_leaves 53 = .ok (.iload_n 1, 1) := by decide +kernel
theorem dX12_leaves_54 : decode cX12_leaves 54 = .ok (.invokevirtual 357, 3) := by decide +kernel
theorem dX12_leaves_57 : decode cX12_leaves 57 = .ok (.aload_n 0, 1) := by decide +kernel
theorem dX12_leaves_58 : decode cX12_leaves 58 = .ok (.iload_n 2, 1) := by decide +kernel
theorem dX12_leaves_59 : decode cX12_leaves 59 = .ok (.invokevirtual 360, 3) := by decide +kernel
theorem dX12_leaves_62 : decode cX12_leaves 62 = .ok (.ireturn, 1) := by decide +kernel
set_option maxHeartbeats 4000000 in
set_option maxRecDepth 100000 in
theorem k_X12_leaves (l : Launch) (D : va_G) (K : Nat → ClassId) (t : Nat) (t_q : Nat → Nat) (p1 p2 t_x0 t_x6 t_x7 t_x8 t_x9 t_x10 t_x11 t_x12 t_x13 t_x14 t_x15 t_x32 t_x33 t_x34 t_x35 t_x39 t_x40 t_x43 t_x44 t_x48 t_x49 t_x50 : Int) (t_17_c : Nat → Int) (t_18_c : Nat → Int) (t_19_c : Nat → Int) (t_20_c : Nat → Int) (t_21_c : Nat → Int) (t_23_c : Nat → Int) (t_24_c : Nat → Int) (t_25_c : Nat → Int) (t_26_c : Nat → Int) (t_27_c : Nat → Int) (t_28_c : Nat → Int) (t_36_c : Nat → Int) (hp1 : (-2147483648) ≤ p1 ∧ p1 ≤ 2147483647) (hp2 : (-2147483648) ≤ p2 ∧ p2 ≤ 2147483647) (hi_t : bM12 t_x0 t_x6 t_x7 t_x8 t_x9 t_x10 t_x11 t_x12 t_x13 t_x14 t_x15 t_x32 t_x33 t_x34 t_x35 t_x39 t_x40 t_x43 t_x44 t_x48 t_x49 t_x50) (hc_t_17 : ∀ j : Nat, (j % 8 = 0 → 0 ≤ t_17_c j ∧ t_17_c j ≤ 20) ∧ (j % 8 = 1 → 0 ≤ t_17_c j ∧ t_17_c j ≤ 100) ∧ (j % 8 = 2 → 0 ≤ t_17_c j ∧ t_17_c j ≤ 5) ∧ (j % 8 = 3 → 0 ≤ t_17_c j ∧ t_17_c j ≤ 12) ∧ (j % 8 = 4 → 0 ≤ t_17_c j ∧ t_17_c j ≤ 24) ∧ (j % 8 = 5 → 0 ≤ t_17_c j ∧ t_17_c j ≤ 4095) ∧ (j % 8 = 6 → 0 ≤ t_17_c j ∧ t_17_c j ≤ 31) ∧ (j % 8 = 7 → 0 ≤ t_17_c j ∧ t_17_c j ≤ 40)) (hc_t_18 : ∀ j : Nat, (j % 2 = 0 → 0 ≤ t_18_c j ∧ t_18_c j ≤ 9) ∧ (j % 2 = 1 → 0 ≤ t_18_c j ∧ t_18_c j ≤ 4)) (hc_t_19 : ∀ j : Nat, 0 ≤ t_19_c j ∧ t_19_c j ≤ 4) (hc_t_20 : ∀ j : Nat, (j % 4 = 0 → 0 ≤ t_20_c j ∧ t_20_c j ≤ 11) ∧ (j % 4 = 1 → 0 ≤ t_20_c j ∧ t_20_c j ≤ 4) ∧ (j % 4 = 2 → 0 ≤ t_20_c j ∧ t_20_c j ≤ 29) ∧ (j % 4 = 3 → 0 ≤ t_20_c j ∧ t_20_c j ≤ 1)) (hc_t_21 : ∀ j : Nat, (j % 3 = 0 → 0 ≤ t_21_c j ∧ t_21_c j ≤ 2) ∧ (j % 3 = 1 → 0 ≤ t_21_c j ∧ t_21_c j ≤ 23) ∧ (j % 3 = 2 → 0 ≤ t_21_c j ∧ t_21_c j ≤ 29)) (hc_t_23 : ∀ j : Nat, (-2) ≤ t_23_c j ∧ t_23_c j ≤ 11) (hc_t_24 : ∀ j : Nat, 0 ≤ t_24_c j ∧ t_24_c j ≤ 30) (hc_t_25 : ∀ j : Nat, 0 ≤ t_25_c j ∧ t_25_c j ≤ 30) (hc_t_26 : ∀ j : Nat, (-1) ≤ t_26_c j ∧ t_26_c j ≤ 11) (hc_t_27 : ∀ j : Nat, (-1) ≤ t_27_c j ∧ t_27_c j ≤ 29) (hc_t_28 : ∀ j : Nat, 0 ≤ t_28_c j ∧ t_28_c j ≤ 4095) (hc_t_36 : ∀ j : Nat, 0 ≤ t_36_c j ∧ t_36_c j ≤ 100000) (ti : TI 0 t_17_c t_18_c t_19_c t_20_c t_21_c) : fn_CI (S := (Nat → Int) × (Nat → Nat → Int)) l D K yX12_leaves (fn_ws yX12_leaves cX12_leaves 3 (some .int)) ({ frames := 20, cells := 0, slots := 0, locals := 500 } : Room) [.ref t, .int (iI p1), .int (iI p2)] [(t, .inr (12, oX12 t_q t_x0 t_x6 t_x7 t_x8 t_x9 t_x10 t_x11 t_x12 t_x13 t_x14 t_x15 t_x32 t_x33 t_x34 t_x35 t_x39 t_x40 t_x43 t_x44 t_x48 t_x49 t_x50)), ((t_q 17), .inl (K 0, 40, .inl (fun j => iI (t_17_c j)))), ((t_q 18), .inl (K 0, 50, .inl (fun j => iI (t_18_c j)))), ((t_q 19), .inl (K 0, 60, .inl (fun j => iI (t_19_c j)))), ((t_q 20), .inl (K 0, 480, .inl (fun j => iI (t_20_c j)))), ((t_q 21), .inl (K 0, 600, .inl (fun j => iI (t_21_c j)))), ((t_q 23), .inl (K 0, 150, .inl (fun j => iI (t_23_c j)))), ((t_q 24), .inl (K 0, 5, .inl (fun j => iI (t_24_c j)))), ((t_q 25), .inl (K 0, 24, .inl (fun j => iI (t_25_c j)))), ((t_q 26), .inl (K 0, 24, .inl (fun j => iI (t_26_c j)))), ((t_q 27), .inl (K 0, 12, .inl (fun j => iI (t_27_c j)))), ((t_q 28), .inl (K 0, 12, .inl (fun j => iI (t_28_c j)))), ((t_q 36), .inl (K 0, 150, .inl (fun j => iI (t_36_c j))))] (fun r u => ∃ k : Int, r = iI k ∧ ((-2) ≤ k ∧ k ≤ 100000) ∧ ((-2147483648) ≤ (u.1 0) ∧ (u.1 0) ≤ 2147483647) ∧ (∀ j : Nat, (-2) ≤ (u.2 0) j ∧ (u.2 0) j ≤ 11) ∧ (∀ j : Nat, 0 ≤ (u.2 1) j ∧ (u.2 1) j ≤ 30) ∧ (∀ j : Nat, 0 ≤ (u.2 2) j ∧ (u.2 2) j ≤ 30) ∧ (∀ j : Nat, (-1) ≤ (u.2 3) j ∧ (u.2 3) j ≤ 11) ∧ (∀ j : Nat, (-1) ≤ (u.2 4) j ∧ (u.2 4) j ≤ 29) ∧ (∀ j : Nat, 0 ≤ (u.2 5) j ∧ (u.2 5) j ≤ 4095) ∧ (∀ j : Nat, 0 ≤ (u.2 6) j ∧ (u.2 6) j ≤ 100000) ∧ True) (fun u => [(t, .inr (12, oX12 t_q (u.1 0) t_x6 t_x7 t_x8 t_x9 t_x10 t_x11 t_x12 t_x13 t_x14 t_x15 t_x32 t_x33 t_x34 t_x35 t_x39 t_x40 t_x43 t_x44 t_x48 t_x49 t_x50)), ((t_q 17), .inl (K 0, 40, .inl (fun j => iI (t_17_c j)))), ((t_q 18), .inl (K 0, 50, .inl (fun j => iI (t_18_c j)))), ((t_q 19), .inl (K 0, 60, .inl (fun j => iI (t_19_c j)))), ((t_q 20), .inl (K 0, 480, .inl (fun j => iI (t_20_c j)))), ((t_q 21), .inl (K 0, 600, .inl (fun j => iI (t_21_c j)))), ((t_q 23), .inl (K 0, 150, .inl (fun j => iI ((u.2 0) j)))), ((t_q 24), .inl (K 0, 5, .inl (fun j => iI ((u.2 1) j)))), ((t_q 25), .inl (K 0, 24, .inl (fun j => iI ((u.2 2) j)))), ((t_q 26), .inl (K 0, 24, .inl (fun j => iI ((u.2 3) j)))), ((t_q 27), .inl (K 0, 12, .inl (fun j => iI ((u.2 4) j)))), ((t_q 28), .inl (K 0, 12, .inl (fun j => iI ((u.2 5) j)))), ((t_q 36), .inl (K 0, 150, .inl (fun j => iI ((u.2 6) j))))]) 0 0 := by
  refine g_inI (cc := cX12_leaves) (maxL := 3) (ret := (some .int)) (by decide) rfl (Nat.le_of_ble_eq_true rfl) ?_
  intro p e s m below meth c A ls ag Q B hA hP hD hS hl hQ
  obtain ⟨hx, hb, hr, hml, hts, hown, hlocks, hin, hK⟩ := B
  have hown : s.vm.findClass RX12 = some m.cls := hown
  have hts := fun w h => hts w (List.mem_cons_of_mem _ h)
  have hl : lv_has ls 3 [(0, .ref t), (1, .int (iI p1)), (2, .int (iI p2))] := hl
  refine lv_aload_n hx hb dX12_leaves_0 rfl (lv_at hl 0 rfl) ?_
  refine lv_iconst (v := iI 0) hx hb dX12_leaves_1 rfl ?_
  refine va_put (D := D) (own := RX12) (ci := 12) (v := .int (iI 0)) (ty := .int) (C := RX12) (T := TX12) (N := 51) hx hb hts inb_X12 tyX12 tyX12_ok nmX12 hown hK.1 hP hD hS 0 rfl rfl 0 (by decide) (hts _ wd_1234) (fun _ h9 => h9) rfl (by decide +kernel) rfl rfl (Nat.le_of_ble_eq_true rfl) dX12_leaves_2 (fun H locs hP hD hS => ?_)
  have hP : va_P D vwCl [(t, .inr (12, oX12 t_q 0 t_x6 t_x7 t_x8 t_x9 t_x10 t_x11 t_x12 t_x13 t_x14 t_x15 t_x32 t_x33 t_x34 t_x35 t_x39 t_x40 t_x43 t_x44 t_x48 t_x49 t_x50)), ((t_q 17), .inl (K 0, 40, .inl (fun j => iI (t_17_c j)))), ((t_q 18), .inl (K 0, 50, .inl (fun j => iI (t_18_c j)))), ((t_q 19), .inl (K 0, 60, .inl (fun j => iI (t_19_c j)))), ((t_q 20), .inl (K 0, 480, .inl (fun j => iI (t_20_c j)))), ((t_q 21), .inl (K 0, 600, .inl (fun j => iI (t_21_c j)))), ((t_q 23), .inl (K 0, 150, .inl (fun j => iI (t_23_c j)))), ((t_q 24), .inl (K 0, 5, .inl (fun j => iI (t_24_c j)))), ((t_q 25), .inl (K 0, 24, .inl (fun j => iI (t_25_c j)))), ((t_q 26), .inl (K 0, 24, .inl (fun j => iI (t_26_c j)))), ((t_q 27), .inl (K 0, 12, .inl (fun j => iI (t_27_c j)))), ((t_q 28), .inl (K 0, 12, .inl (fun j => iI (t_28_c j)))), ((t_q 36), .inl (K 0, 150, .inl (fun j => iI (t_36_c j))))] H := hP
  have hD : va_D A [(t, .inr (12, oX12 t_q 0 t_x6 t_x7 t_x8 t_x9 t_x10 t_x11 t_x12 t_x13 t_x14 t_x15 t_x32 t_x33 t_x34 t_x35 t_x39 t_x40 t_x43 t_x44 t_x48 t_x49 t_x50)), ((t_q 17), .inl (K 0, 40, .inl (fun j => iI (t_17_c j)))), ((t_q 18), .inl (K 0, 50, .inl (fun j => iI (t_18_c j)))), ((t_q 19), .inl (K 0, 60, .inl (fun j => iI (t_19_c j)))), ((t_q 20), .inl (K 0, 480, .inl (fun j => iI (t_20_c j)))), ((t_q 21), .inl (K 0, 600, .inl (fun j => iI (t_21_c j)))), ((t_q 23), .inl (K 0, 150, .inl (fun j => iI (t_23_c j)))), ((t_q 24), .inl (K 0, 5, .inl (fun j => iI (t_24_c j)))), ((t_q 25), .inl (K 0, 24, .inl (fun j => iI (t_25_c j)))), ((t_q 26), .inl (K 0, 24, .inl (fun j => iI (t_26_c j)))), ((t_q 27), .inl (K 0, 12, .inl (fun j => iI (t_27_c j)))), ((t_q 28), .inl (K 0, 12, .inl (fun j => iI (t_28_c j)))), ((t_q 36), .inl (K 0, 150, .inl (fun j => iI (t_36_c j))))] := hD
  refine lv_aload_n hx hb dX12_leaves_5 rfl (lv_at hl 0 rfl) ?_
  refine lv_iload_n hx hb dX12_leaves_6 rfl (lv_at hl 1 rfl) ?_
  refine lv_i2l (v := lI p1) hx hb dX12_leaves_7 (iI_2l (by omega)) ?_
  refine fn_goi (wc := [(t, .inr (12, oX12 t_q 0 t_x6 t_x7 t_x8 t_x9 t_x10 t_x11 t_x12 t_x13 t_x14 t_x15 t_x32 t_x33 t_x34 t_x35 t_x39 t_x40 t_x43 t_x44 t_x48 t_x49 t_x50)), ((t_q 17), .inl (K 0, 40, .inl (fun j => iI (t_17_c j))))]) (wr := [((t_q 18), .inl (K 0, 50, .inl (fun j => iI (t_18_c j)))), ((t_q 19), .inl (K 0, 60, .inl (fun j => iI (t_19_c j)))), ((t_q 20), .inl (K 0, 480, .inl (fun j => iI (t_20_c j)))), ((t_q 21), .inl (K 0, 600, .inl (fun j => iI (t_21_c j)))), ((t_q 23), .inl (K 0, 150, .inl (fun j => iI (t_23_c j)))), ((t_q 24), .inl (K 0, 5, .inl (fun j => iI (t_24_c j)))), ((t_q 25), .inl (K 0, 24, .inl (fun j => iI (t_25_c j)))), ((t_q 26), .inl (K 0, 24, .inl (fun j => iI (t_26_c j)))), ((t_q 27), .inl (K 0, 12, .inl (fun j => iI (t_27_c j)))), ((t_q 28), .inl (K 0, 12, .inl (fun j => iI (t_28_c j)))), ((t_q 36), .inl (K 0, 150, .inl (fun j => iI (t_36_c j))))]) hK hP hD hS hA [0, 1] [2, 3, 4, 5, 6, 7, 8, 9, 10, 11, 12] rfl rfl (by decide) (fun hp => va_runV (C := RX12) (As := [.long (lI p1)]) (rest := []) ⟨hx, hb, hml, hown, hts⟩ (k_X12_isPage (l := l) (D := D) (K := K) (t := t) (p1 := p1) (t_q := t_q) (t_x0 := 0) (t_x6 := t_x6) (t_x7 := t_x7) (t_x8 := t_x8) (t_x9 := t_x9) (t_x10 := t_x10) (t_x11 := t_x11) (t_x12 := t_x12) (t_x13 := t_x13) (t_x14 := t_x14) (t_x15 := t_x15) (t_x32 := t_x32) (t_x33 := t_x33) (t_x34 := t_x34) (t_x35 := t_x35) (t_x39 := t_x39) (t_x40 := t_x40) (t_x43 := t_x43) (t_x44 := t_x44) (t_x48 := t_x48) (t_x49 := t_x49) (t_x50 := t_x50) (t_17_c := t_17_c) (hp1 := (by omega)) (hi_t := ⟨(by omega), hi_t.2.1, hi_t.2.2.1, hi_t.2.2.2.1, hi_t.2.2.2.2.1, hi_t.2.2.2.2.2.1, hi_t.2.2.2.2.2.2.1, hi_t.2.2.2.2.2.2.2.1, hi_t.2.2.2.2.2.2.2.2.1, hi_t.2.2.2.2.2.2.2.2.2.1, hi_t.2.2.2.2.2.2.2.2.2.2.1, hi_t.2.2.2.2.2.2.2.2.2.2.2.1, hi_t.2.2.2.2.2.2.2.2.2.2.2.2.1, hi_t.2.2.2.2.2.2.2.2.2.2.2.2.2.1, hi_t.2.2.2.2.2.2.2.2.2.2.2.2.2.2.1, hi_t.2.2.2.2.2.2.2.2.2.2.2.2.2.2.2.1, hi_t.2.2.2.2.2.2.2.2.2.2.2.2.2.2.2.2.1, hi_t.2.2.2.2.2.2.2.2.2.2.2.2.2.2.2.2.2.1, hi_t.2.2.2.2.2.2.2.2.2.2.2.2.2.2.2.2.2.2.1, hi_t.2.2.2.2.2.2.2.2.2.2.2.2.2.2.2.2.2.2.2.1, hi_t.2.2.2.2.2.2.2.2.2.2.2.2.2.2.2.2.2.2.2.2.1, hi_t.2.2.2.2.2.2.2.2.2.2.2.2.2.2.2.2.2.2.2.2.2⟩) (hc_t_17 := hc_t_17) _) (cwV 1 hts (fn_ginV (fn_gin wd_1543) wd_1540 wd_1542 wp_116 wd_13) rfl rfl rfl (by decide +kernel) ⟨Nat.le_of_ble_eq_true rfl, Nat.le_of_ble_eq_true rfl⟩) ⟨fn_blind, va_recv hK.1 hP (ci := 12) (q0 := 0) rfl rfl, hp⟩ rfl rfl hl.1 rfl (lv_room (Nat.le_of_ble_eq_true rfl)) dX12_leaves_8 ⟨Nat.le_of_ble_eq_true rfl, Nat.le_of_ble_eq_true rfl⟩) (fun r8 u8 H locs hwu8 hP hD hS => ?_)
  obtain ⟨u8a, u8b⟩ := u8
  obtain ⟨kr8, rfl, hkr8, hqu80, -⟩ := hwu8
  have hqu8 : (kr8 = 1 → 0 ≤ p1 ∧ p1 ≤ 11 ∧ p1 < t_17_c 3) := hqu80
  clear hqu80
  have hP : va_P D vwCl [((t_q 18), .inl (K 0, 50, .inl (fun j => iI (t_18_c j)))), ((t_q 19), .inl (K 0, 60, .inl (fun j => iI (t_19_c j)))), ((t_q 20), .inl (K 0, 480, .inl (fun j => iI (t_20_c j)))), ((t_q 21), .inl (K 0, 600, .inl (fun j => iI (t_21_c j)))), ((t_q 23), .inl (K 0, 150, .inl (fun j => iI (t_23_c j)))), ((t_q 24), .inl (K 0, 5, .inl (fun j => iI (t_24_c j)))), ((t_q 25), .inl (K 0, 24, .inl (fun j => iI (t_25_c j)))), ((t_q 26), .inl (K 0, 24, .inl (fun j => iI (t_26_c j)))), ((t_q 27), .inl (K 0, 12, .inl (fun j => iI (t_27_c j)))), ((t_q 28), .inl (K 0, 12, .inl (fun j => iI (t_28_c j)))), ((t_q 36), .inl (K 0, 150, .inl (fun j => iI (t_36_c j)))), (t, .inr (12, oX12 t_q 0 t_x6 t_x7 t_x8 t_x9 t_x10 t_x11 t_x12 t_x13 t_x14 t_x15 t_x32 t_x33 t_x34 t_x35 t_x39 t_x40 t_x43 t_x44 t_x48 t_x49 t_x50)), ((t_q 17), .inl (K 0, 40, .inl (fun j => iI (t_17_c j))))] H := hP
  have hD : va_D A [((t_q 18), .inl (K 0, 50, .inl (fun j => iI (t_18_c j)))), ((t_q 19), .inl (K 0, 60, .inl (fun j => iI (t_19_c j)))), ((t_q 20), .inl (K 0, 480, .inl (fun j => iI (t_20_c j)))), ((t_q 21), .inl (K 0, 600, .inl (fun j => iI (t_21_c j)))), ((t_q 23), .inl (K 0, 150, .inl (fun j => iI (t_23_c j)))), ((t_q 24), .inl (K 0, 5, .inl (fun j => iI (t_24_c j)))), ((t_q 25), .inl (K 0, 24, .inl (fun j => iI (t_25_c j)))), ((t_q 26), .inl (K 0, 24, .inl (fun j => iI (t_26_c j)))), ((t_q 27), .inl (K 0, 12, .inl (fun j => iI (t_27_c j)))), ((t_q 28), .inl (K 0, 12, .inl (fun j => iI (t_28_c j)))), ((t_q 36), .inl (K 0, 150, .inl (fun j => iI (t_36_c j)))), (t, .inr (12, oX12 t_q 0 t_x6 t_x7 t_x8 t_x9 t_x10 t_x11 t_x12 t_x13 t_x14 t_x15 t_x32 t_x33 t_x34 t_x35 t_x39 t_x40 t_x43 t_x44 t_x48 t_x49 t_x50)), ((t_q 17), .inl (K 0, 40, .inl (fun j => iI (t_17_c j))))] := hD
  refine g_if_eq (tgt := 23) hx hb (by omega) dX12_leaves_11 (by decide) (fun c11 => ?_) (fun c11 => ?_)
  · refine lv_bipush (v := iI (-2)) hx hb dX12_leaves_23 (by decide) ?_
    rw [hQ]; exact fn_iret hx hb hr hlocks rfl hP hD hS ((fun k => ([0] : List Int).getD k 0), (fun k => ([t_23_c, t_24_c, t_25_c, t_26_c, t_27_c, t_28_c, t_36_c] : List (Nat → Int)).getD k (fun _ => 0))) ⟨(-2), rfl, by omega, (by show (-2147483648) ≤ 0 ∧ 0 ≤ 2147483647; omega), (hc_t_23), (hc_t_24), (hc_t_25), (hc_t_26), (hc_t_27), (hc_t_28), (hc_t_36), trivial⟩ [11, 12, 0, 1, 2, 3, 4, 5, 6, 7, 8, 9, 10] (by decide) rfl dX12_leaves_25
  · refine lv_aload_n hx hb dX12_leaves_14 rfl (lv_at hl 0 rfl) ?_
    refine lv_iload_n hx hb dX12_leaves_15 rfl (lv_at hl 2 rfl) ?_
    refine lv_i2l (v := lI p2) hx hb dX12_leaves_16 (iI_2l (by omega)) ?_
    refine fn_goi (wc := [(t, .inr (12, oX12 t_q 0 t_x6 t_x7 t_x8 t_x9 t_x10 t_x11 t_x12 t_x13 t_x14 t_x15 t_x32 t_x33 t_x34 t_x35 t_x39 t_x40 t_x43 t_x44 t_x48 t_x49 t_x50)), ((t_q 17), .inl (K 0, 40, .inl (fun j => iI (t_17_c j))))]) (wr := [((t_q 18), .inl (K 0, 50, .inl (fun j => iI (t_18_c j)))), ((t_q 19), .inl (K 0, 60, .inl (fun j => iI (t_19_c j)))), ((t_q 20), .inl (K 0, 480, .inl (fun j => iI (t_20_c j)))), ((t_q 21), .inl (K 0, 600, .inl (fun j => iI (t_21_c j)))), ((t_q 23), .inl (K 0, 150, .inl (fun j => iI (t_23_c j)))), ((t_q 24), .inl (K 0, 5, .inl (fun j => iI (t_24_c j)))), ((t_q 25), .inl (K 0, 24, .inl (fun j => iI (t_25_c j)))), ((t_q 26), .inl (K 0, 24, .inl (fun j => iI (t_26_c j)))), ((t_q 27), .inl (K 0, 12, .inl (fun j => iI (t_27_c j)))), ((t_q 28), .inl (K 0, 12, .inl (fun j => iI (t_28_c j)))), ((t_q 36), .inl (K 0, 150, .inl (fun j => iI (t_36_c j))))]) hK hP hD hS hA [11, 12] [0, 1, 2, 3, 4, 5, 6, 7, 8, 9, 10] rfl rfl (by decide) (fun hp => va_runV (C := RX12) (As := [.long (lI p2)]) (rest := []) ⟨hx, hb, hml, hown, hts⟩ (k_X12_isPage (l := l) (D := D) (K := K) (t := t) (p1 := p2) (t_q := t_q) (t_x0 := 0) (t_x6 := t_x6) (t_x7 := t_x7) (t_x8 := t_x8) (t_x9 := t_x9) (t_x10 := t_x10) (t_x11 := t_x11) (t_x12 := t_x12) (t_x13 := t_x13) (t_x14 := t_x14) (t_x15 := t_x15) (t_x32 := t_x32) (t_x33 := t_x33) (t_x34 := t_x34) (t_x35 := t_x35) (t_x39 := t_x39) (t_x40 := t_x40) (t_x43 := t_x43) (t_x44 := t_x44) (t_x48 := t_x48) (t_x49 := t_x49) (t_x50 := t_x50) (t_17_c := t_17_c) (hp1 := (by omega)) (hi_t := ⟨(by omega), hi_t.2.1, hi_t.2.2.1, hi_t.2.2.2.1, hi_t.2.2.2.2.1, hi_t.2.2.2.2.2.1, hi_t.2.2.2.2.2.2.1, hi_t.2.2.2.2.2.2.2.1, hi_t.2.2.2.2.2.2.2.2.1, hi_t.2.2.2.2.2.2.2.2.2.1, hi_t.2.2.2.2.2.2.2.2.2.2.1, hi_t.2.2.2.2.2.2.2.2.2.2.2.1, hi_t.2.2.2.2.2.2.2.2.2.2.2.2.1, hi_t.2.2.2.2.2.2.2.2.2.2.2.2.2.1, hi_t.2.2.2.2.2.2.2.2.2.2.2.2.2.2.1, hi_t.2.2.2.2.2.2.2.2.2.2.2.2.2.2.2.1, hi_t.2.2.2.2.2.2.2.2.2.2.2.2.2.2.2.2.1, hi_t.2.2.2.2.2.2.2.2.2.2.2.2.2.2.2.2.2.1, hi_t.2.2.2.2.2.2.2.2.2.2.2.2.2.2.2.2.2.2.1, hi_t.2.2.2.2.2.2.2.2.2.2.2.2.2.2.2.2.2.2.2.1, hi_t.2.2.2.2.2.2.2.2.2.2.2.2.2.2.2.2.2.2.2.2.1, hi_t.2.2.2.2.2.2.2.2.2.2.2.2.2.2.2.2.2.2.2.2.2⟩) (hc_t_17 := hc_t_17) _) (cwV 1 hts (fn_ginV (fn_gin wd_1543) wd_1540 wd_1542 wp_116 wd_13) rfl rfl rfl (by decide +kernel) ⟨Nat.le_of_ble_eq_true rfl, Nat.le_of_ble_eq_true rfl⟩) ⟨fn_blind, va_recv hK.1 hP (ci := 12) (q0 := 11) rfl rfl, hp⟩ rfl rfl hl.1 rfl (lv_room (Nat.le_of_ble_eq_true rfl)) dX12_leaves_17 ⟨Nat.le_of_ble_eq_true rfl, Nat.le_of_ble_eq_true rfl⟩) (fun r17 u17 H locs hwu17 hP hD hS => ?_)
    obtain ⟨u17a, u17b⟩ := u17
    obtain ⟨kr17, rfl, hkr17, hqu170, -⟩ := hwu17
    have hqu17 : (kr17 = 1 → 0 ≤ p2 ∧ p2 ≤ 11 ∧ p2 < t_17_c 3) := hqu170
    clear hqu170
    have hP : va_P D vwCl [((t_q 18), .inl (K 0, 50, .inl (fun j => iI (t_18_c j)))), ((t_q 19), .inl (K 0, 60, .inl (fun j => iI (t_19_c j)))), ((t_q 20), .inl (K 0, 480, .inl (fun j => iI (t_20_c j)))), ((t_q 21), .inl (K 0, 600, .inl (fun j => iI (t_21_c j)))), ((t_q 23), .inl (K 0, 150, .inl (fun j => iI (t_23_c j)))), ((t_q 24), .inl (K 0, 5, .inl (fun j => iI (t_24_c j)))), ((t_q 25), .inl (K 0, 24, .inl (fun j => iI (t_25_c j)))), ((t_q 26), .inl (K 0, 24, .inl (fun j => iI (t_26_c j)))), ((t_q 27), .inl (K 0, 12, .inl (fun j => iI (t_27_c j)))), ((t_q 28), .inl (K 0, 12, .inl (fun j => iI (t_28_c j)))), ((t_q 36), .inl (K 0, 150, .inl (fun j => iI (t_36_c j)))), (t, .inr (12, oX12 t_q 0 t_x6 t_x7 t_x8 t_x9 t_x10 t_x11 t_x12 t_x13 t_x14 t_x15 t_x32 t_x33 t_x34 t_x35 t_x39 t_x40 t_x43 t_x44 t_x48 t_x49 t_x50)), ((t_q 17), .inl (K 0, 40, .inl (fun j => iI (t_17_c j))))] H := hP
    have hD : va_D A [((t_q 18), .inl (K 0, 50, .inl (fun j => iI (t_18_c j)))), ((t_q 19), .inl (K 0, 60, .inl (fun j => iI (t_19_c j)))), ((t_q 20), .inl (K 0, 480, .inl (fun j => iI (t_20_c j)))), ((t_q 21), .inl (K 0, 600, .inl (fun j => iI (t_21_c j)))), ((t_q 23), .inl (K 0, 150, .inl (fun j => iI (t_23_c j)))), ((t_q 24), .inl (K 0, 5, .inl (fun j => iI (t_24_c j)))), ((t_q 25), .inl (K 0, 24, .inl (fun j => iI (t_25_c j)))), ((t_q 26), .inl (K 0, 24, .inl (fun j => iI (t_26_c j)))), ((t_q 27), .inl (K 0, 12, .inl (fun j => iI (t_27_c j)))), ((t_q 28), .inl (K 0, 12, .inl (fun j => iI (t_28_c j)))), ((t_q 36), .inl (K 0, 150, .inl (fun j => iI (t_36_c j)))), (t, .inr (12, oX12 t_q 0 t_x6 t_x7 t_x8 t_x9 t_x10 t_x11 t_x12 t_x13 t_x14 t_x15 t_x32 t_x33 t_x34 t_x35 t_x39 t_x40 t_x43 t_x44 t_x48 t_x49 t_x50)), ((t_q 17), .inl (K 0, 40, .inl (fun j => iI (t_17_c j))))] := hD
    refine g_if_ne (tgt := 26) hx hb (by omega) dX12_leaves_20 (by decide) (fun c20 => ?_) (fun c20 => ?_)
    · refine lv_aload_n hx hb dX12_leaves_26 rfl (lv_at hl 0 rfl) ?_
      refine fn_gov (wc := [(t, .inr (12, oX12 t_q 0 t_x6 t_x7 t_x8 t_x9 t_x10 t_x11 t_x12 t_x13 t_x14 t_x15 t_x32 t_x33 t_x34 t_x35 t_x39 t_x40 t_x43 t_x44 t_x48 t_x49 t_x50)), ((t_q 17), .inl (K 0, 40, .inl (fun j => iI (t_17_c j)))), ((t_q 18), .inl (K 0, 50, .inl (fun j => iI (t_18_c j)))), ((t_q 19), .inl (K 0, 60, .inl (fun j => iI (t_19_c j)))), ((t_q 20), .inl (K 0, 480, .inl (fun j => iI (t_20_c j)))), ((t_q 21), .inl (K 0, 600, .inl (fun j => iI (t_21_c j)))), ((t_q 23), .inl (K 0, 150, .inl (fun j => iI (t_23_c j)))), ((t_q 24), .inl (K 0, 5, .inl (fun j => iI (t_24_c j)))), ((t_q 25), .inl (K 0, 24, .inl (fun j => iI (t_25_c j)))), ((t_q 26), .inl (K 0, 24, .inl (fun j => iI (t_26_c j)))), ((t_q 27), .inl (K 0, 12, .inl (fun j => iI (t_27_c j)))), ((t_q 28), .inl (K 0, 12, .inl (fun j => iI (t_28_c j))))]) (wr := [((t_q 36), .inl (K 0, 150, .inl (fun j => iI (t_36_c j))))]) hK hP hD hS hA [11, 12, 0, 1, 2, 3, 4, 5, 6, 7, 8, 9] [10] rfl rfl (by decide) (fun hp => va_runV (C := RX12) (As := []) (rest := []) ⟨hx, hb, hml, hown, hts⟩ (k_X12_laysNow (l := l) (D := D) (K := K) (t := t) (t_q := t_q) (t_x0 := 0) (t_x6 := t_x6) (t_x7 := t_x7) (t_x8 := t_x8) (t_x9 := t_x9) (t_x10 := t_x10) (t_x11 := t_x11) (t_x12 := t_x12) (t_x13 := t_x13) (t_x14 := t_x14) (t_x15 := t_x15) (t_x32 := t_x32) (t_x33 := t_x33) (t_x34 := t_x34) (t_x35 := t_x35) (t_x39 := t_x39) (t_x40 := t_x40) (t_x43 := t_x43) (t_x44 := t_x44) (t_x48 := t_x48) (t_x49 := t_x49) (t_x50 := t_x50) (t_17_c := t_17_c) (t_18_c := t_18_c) (t_19_c := t_19_c) (t_20_c := t_20_c) (t_21_c := t_21_c) (t_23_c := t_23_c) (t_24_c := t_24_c) (t_25_c := t_25_c) (t_26_c := t_26_c) (t_27_c := t_27_c) (t_28_c := t_28_c) (hi_t := ⟨(by omega), hi_t.2.1, hi_t.2.2.1, hi_t.2.2.2.1, hi_t.2.2.2.2.1, hi_t.2.2.2.2.2.1, hi_t.2.2.2.2.2.2.1, hi_t.2.2.2.2.2.2.2.1, hi_t.2.2.2.2.2.2.2.2.1, hi_t.2.2.2.2.2.2.2.2.2.1, hi_t.2.2.2.2.2.2.2.2.2.2.1, hi_t.2.2.2.2.2.2.2.2.2.2.2.1, hi_t.2.2.2.2.2.2.2.2.2.2.2.2.1, hi_t.2.2.2.2.2.2.2.2.2.2.2.2.2.1, hi_t.2.2.2.2.2.2.2.2.2.2.2.2.2.2.1, hi_t.2.2.2.2.2.2.2.2.2.2.2.2.2.2.2.1, hi_t.2.2.2.2.2.2.2.2.2.2.2.2.2.2.2.2.1, hi_t.2.2.2.2.2.2.2.2.2.2.2.2.2.2.2.2.2.1, hi_t.2.2.2.2.2.2.2.2.2.2.2.2.2.2.2.2.2.2.1, hi_t.2.2.2.2.2.2.2.2.2.2.2.2.2.2.2.2.2.2.2.1, hi_t.2.2.2.2.2.2.2.2.2.2.2.2.2.2.2.2.2.2.2.2.1, hi_t.2.2.2.2.2.2.2.2.2.2.2.2.2.2.2.2.2.2.2.2.2⟩) (hc_t_17 := hc_t_17) (hc_t_18 := hc_t_18) (hc_t_19 := hc_t_19) (hc_t_20 := hc_t_20) (hc_t_21 := hc_t_21) (hc_t_23 := hc_t_23) (hc_t_24 := hc_t_24) (hc_t_25 := hc_t_25) (hc_t_26 := hc_t_26) (hc_t_27 := hc_t_27) (hc_t_28 := hc_t_28) (ti := (show TI 0 t_17_c t_18_c t_19_c t_20_c t_21_c from by assumption)) _) (cwV 0 hts (fn_ginV (fn_gin wd_1547) wd_1544 wd_1546 wp_117 wd_13) rfl rfl rfl (by decide +kernel) ⟨Nat.le_of_ble_eq_true rfl, Nat.le_of_ble_eq_true rfl⟩) ⟨fn_blind, va_recv hK.1 hP (ci := 12) (q0 := 11) rfl rfl, hp⟩ rfl rfl hl.1 rfl (lv_room (Nat.le_of_ble_eq_true rfl)) dX12_leaves_27 ⟨Nat.le_of_ble_eq_true rfl, Nat.le_of_ble_eq_true rfl⟩) (fun u27 H locs hwu27 hP hD hS => ?_)
      obtain ⟨u27a, u27b⟩ := u27
      obtain ⟨hqu27_li0, hqu27_mn0, hqu27_sy0, hu27_00, hu27_10, hu27_20, hu27_30, hu27_40, hu27_50, -⟩ := hwu27
      have hqu27_li : LI t_17_c t_19_c (u27b 0) (u27b 1) (u27b 3) (u27b 4) (u27b 5) := hqu27_li0
      have hqu27_mn : ∀ b : Nat, (b : Int) < t_17_c 2 → (u27b 1) b = t_18_c (2 * b) + edc t_21_c 0 b (Int.toNat (t_17_c 7)) := hqu27_mn0
      have hqu27_sy : ∀ j : Nat, (j : Int) < t_17_c 4 → (u27b 2) j ≤ 29 := hqu27_sy0
      have hu27_0 : ∀ j : Nat, (-2) ≤ (u27b 0) j ∧ (u27b 0) j ≤ 11 := hu27_00
      have hu27_1 : ∀ j : Nat, 0 ≤ (u27b 1) j ∧ (u27b 1) j ≤ 30 := hu27_10
      have hu27_2 : ∀ j : Nat, 0 ≤ (u27b 2) j ∧ (u27b 2) j ≤ 30 := hu27_20
      have hu27_3 : ∀ j : Nat, (-1) ≤ (u27b 3) j ∧ (u27b 3) j ≤ 11 := hu27_30
      have hu27_4 : ∀ j : Nat, (-1) ≤ (u27b 4) j ∧ (u27b 4) j ≤ 29 := hu27_40
      have hu27_5 : ∀ j : Nat, 0 ≤ (u27b 5) j ∧ (u27b 5) j ≤ 4095 := hu27_50
      clear hqu27_li0 hqu27_mn0 hqu27_sy0 hu27_00 hu27_10 hu27_20 hu27_30 hu27_40 hu27_50
      have hP : va_P D vwCl [((t_q 36), .inl (K 0, 150, .inl (fun j => iI (t_36_c j)))), (t, .inr (12, oX12 t_q 0 t_x6 t_x7 t_x8 t_x9 t_x10 t_x11 t_x12 t_x13 t_x14 t_x15 t_x32 t_x33 t_x34 t_x35 t_x39 t_x40 t_x43 t_x44 t_x48 t_x49 t_x50)), ((t_q 17), .inl (K 0, 40, .inl (fun j => iI (t_17_c j)))), ((t_q 18), .inl (K 0, 50, .inl (fun j => iI (t_18_c j)))), ((t_q 19), .inl (K 0, 60, .inl (fun j => iI (t_19_c j)))), ((t_q 20), .inl (K 0, 480, .inl (fun j => iI (t_20_c j)))), ((t_q 21), .inl (K 0, 600, .inl (fun j => iI (t_21_c j)))), ((t_q 23), .inl (K 0, 150, .inl (fun j => iI ((u27b 0) j)))), ((t_q 24), .inl (K 0, 5, .inl (fun j => iI ((u27b 1) j)))), ((t_q 25), .inl (K 0, 24, .inl (fun j => iI ((u27b 2) j)))), ((t_q 26), .inl (K 0, 24, .inl (fun j => iI ((u27b 3) j)))), ((t_q 27), .inl (K 0, 12, .inl (fun j => iI ((u27b 4) j)))), ((t_q 28), .inl (K 0, 12, .inl (fun j => iI ((u27b 5) j))))] H := hP
      have hD : va_D A [((t_q 36), .inl (K 0, 150, .inl (fun j => iI (t_36_c j)))), (t, .inr (12, oX12 t_q 0 t_x6 t_x7 t_x8 t_x9 t_x10 t_x11 t_x12 t_x13 t_x14 t_x15 t_x32 t_x33 t_x34 t_x35 t_x39 t_x40 t_x43 t_x44 t_x48 t_x49 t_x50)), ((t_q 17), .inl (K 0, 40, .inl (fun j => iI (t_17_c j)))), ((t_q 18), .inl (K 0, 50, .inl (fun j => iI (t_18_c j)))), ((t_q 19), .inl (K 0, 60, .inl (fun j => iI (t_19_c j)))), ((t_q 20), .inl (K 0, 480, .inl (fun j => iI (t_20_c j)))), ((t_q 21), .inl (K 0, 600, .inl (fun j => iI (t_21_c j)))), ((t_q 23), .inl (K 0, 150, .inl (fun j => iI ((u27b 0) j)))), ((t_q 24), .inl (K 0, 5, .inl (fun j => iI ((u27b 1) j)))), ((t_q 25), .inl (K 0, 24, .inl (fun j => iI ((u27b 2) j)))), ((t_q 26), .inl (K 0, 24, .inl (fun j => iI ((u27b 3) j)))), ((t_q 27), .inl (K 0, 12, .inl (fun j => iI ((u27b 4) j)))), ((t_q 28), .inl (K 0, 12, .inl (fun j => iI ((u27b 5) j))))] := hD
      refine lv_aload_n hx hb dX12_leaves_30 rfl (lv_at hl 0 rfl) ?_
      refine va_get (D := D) (own := RX12) (ci := 12) (v := .ref (t_q 27)) (C := RX12) (T := TX12) (N := 51) hx hb hts inb_X12 hown hK.1 hP 1 rfl rfl 27 (by decide) (hts _ wd_1261) (fun _ h9 => h9) rfl dX12_leaves_31 ?_
      refine lv_iload_n hx hb dX12_leaves_34 rfl (lv_at hl 1 rfl) ?_
      refine g_iald hx hb hK.1 hP 11 0 rfl rfl (by omega) (by omega) (by decide) dX12_leaves_35 ?_
      have y35 : (-1) ≤ ((u27b 4) p1.toNat) ∧ ((u27b 4) p1.toNat) ≤ 29 := hu27_4 p1.toNat
      refine fn_at 36 rfl ?_
      refine lv_iconst (v := iI (-1)) hx hb dX12_leaves_36 rfl ?_
      refine g_icmp_eq (tgt := 50) hx hb (by omega) (by omega) dX12_leaves_37 (by decide) (fun c37 => ?_) (fun c37 => ?_)
      · refine lv_iconst (v := iI (-1)) hx hb dX12_leaves_50 rfl ?_
        rw [hQ]; exact fn_iret hx hb hr hlocks rfl hP hD hS ((fun k => ([0] : List Int).getD k 0), (fun k => ([(u27b 0), (u27b 1), (u27b 2), (u27b 3), (u27b 4), (u27b 5), t_36_c] : List (Nat → Int)).getD k (fun _ => 0))) ⟨(-1), rfl, by omega, (by show (-2147483648) ≤ 0 ∧ 0 ≤ 2147483647; omega), (hu27_0), (hu27_1), (hu27_2), (hu27_3), (hu27_4), (hu27_5), (hc_t_36), trivial⟩ [1, 2, 3, 4, 5, 6, 7, 8, 9, 10, 11, 12, 0] (by decide) rfl dX12_leaves_51
      · refine lv_aload_n hx hb dX12_leaves_40 rfl (lv_at hl 0 rfl) ?_
        refine va_get (D := D) (own := RX12) (ci := 12) (v := .ref (t_q 27)) (C := RX12) (T := TX12) (N := 51) hx hb hts inb_X12 hown hK.1 hP 1 rfl rfl 27 (by decide) (hts _ wd_1261) (fun _ h9 => h9) rfl dX12_leaves_41 ?_
        refine lv_iload_n hx hb dX12_leaves_44 rfl (lv_at hl 2 rfl) ?_
        refine g_iald hx hb hK.1 hP 11 0 rfl rfl (by omega) (by omega) (by decide) dX12_leaves_45 ?_
        have y45 : (-1) ≤ ((u27b 4) p2.toNat) ∧ ((u27b 4) p2.toNat) ≤ 29 := hu27_4 p2.toNat
        refine lv_iconst (v := iI (-1)) hx hb dX12_leaves_46 rfl ?_
        refine g_icmp_ne (tgt := 52) hx hb (by omega) (by omega) dX12_leaves_47 (by decide) (fun c47 => ?_) (fun c47 => ?_)
        · refine lv_aload_n hx hb dX12_leaves_52 rfl (lv_at hl 0 rfl) ?_
          refine lv_iload_n hx hb dX12_leaves_53 rfl (lv_at hl 1 rfl) ?_
          refine fn_gov (wc := [(t, .inr (12, oX12 t_q 0 t_x6 t_x7 t_x8 t_x9 t_x10 t_x11 t_x12 t_x13 t_x14 t_x15 t_x32 t_x33 t_x34 t_x35 t_x39 t_x40 t_x43 t_x44 t_x48 t_x49 t_x50)), ((t_q 17), .inl (K 0, 40, .inl (fun j => iI (t_17_c j)))), ((t_q 18), .inl (K 0, 50, .inl (fun j => iI (t_18_c j)))), ((t_q 19), .inl (K 0, 60, .inl (fun j => iI (t_19_c j)))), ((t_q 20), .inl (K 0, 480, .inl (fun j => iI (t_20_c j)))), ((t_q 21), .inl (K 0, 600, .inl (fun j => iI (t_21_c j)))), ((t_q 23), .inl (K 0, 150, .inl (fun j => iI ((u27b 0) j)))), ((t_q 24), .inl (K 0, 5, .inl (fun j => iI ((u27b 1) j)))), ((t_q 25), .inl (K 0, 24, .inl (fun j => iI ((u27b 2) j)))), ((t_q 26), .inl (K 0, 24, .inl (fun j => iI ((u27b 3) j)))), ((t_q 27), .inl (K 0, 12, .inl (fun j => iI ((u27b 4) j)))), ((t_q 28), .inl (K 0, 12, .inl (fun j => iI ((u27b 5) j)))), ((t_q 36), .inl (K 0, 150, .inl (fun j => iI (t_36_c j))))]) (wr := []) hK hP hD hS hA [1, 2, 3, 4, 5, 6, 7, 8, 9, 10, 11, 12, 0] [] rfl rfl (by decide) (fun hp => va_runV (C := RX12) (As := [.int (iI p1)]) (rest := []) ⟨hx, hb, hml, hown, hts⟩ (k_X12_turnsFrom (l := l) (D := D) (K := K) (t := t) (p1 := p1) (t_q := t_q) (t_x0 := 0) (t_x6 := t_x6) (t_x7 := t_x7) (t_x8 := t_x8) (t_x9 := t_x9) (t_x10 := t_x10) (t_x11 := t_x11) (t_x12 := t_x12) (t_x13 := t_x13) (t_x14 := t_x14) (t_x15 := t_x15) (t_x32 := t_x32) (t_x33 := t_x33) (t_x34 := t_x34) (t_x35 := t_x35) (t_x39 := t_x39) (t_x40 := t_x40) (t_x43 := t_x43) (t_x44 := t_x44) (t_x48 := t_x48) (t_x49 := t_x49) (t_x50 := t_x50) (t_17_c := t_17_c) (t_18_c := t_18_c) (t_19_c := t_19_c) (t_20_c := t_20_c) (t_21_c := t_21_c) (t_23_c := (u27b 0)) (t_24_c := (u27b 1)) (t_25_c := (u27b 2)) (t_26_c := (u27b 3)) (t_27_c := (u27b 4)) (t_28_c := (u27b 5)) (t_36_c := t_36_c) (hp1 := (by omega)) (hi_t := ⟨(by omega), hi_t.2.1, hi_t.2.2.1, hi_t.2.2.2.1, hi_t.2.2.2.2.1, hi_t.2.2.2.2.2.1, hi_t.2.2.2.2.2.2.1, hi_t.2.2.2.2.2.2.2.1, hi_t.2.2.2.2.2.2.2.2.1, hi_t.2.2.2.2.2.2.2.2.2.1, hi_t.2.2.2.2.2.2.2.2.2.2.1, hi_t.2.2.2.2.2.2.2.2.2.2.2.1, hi_t.2.2.2.2.2.2.2.2.2.2.2.2.1, hi_t.2.2.2.2.2.2.2.2.2.2.2.2.2.1, hi_t.2.2.2.2.2.2.2.2.2.2.2.2.2.2.1, hi_t.2.2.2.2.2.2.2.2.2.2.2.2.2.2.2.1, hi_t.2.2.2.2.2.2.2.2.2.2.2.2.2.2.2.2.1, hi_t.2.2.2.2.2.2.2.2.2.2.2.2.2.2.2.2.2.1, hi_t.2.2.2.2.2.2.2.2.2.2.2.2.2.2.2.2.2.2.1, hi_t.2.2.2.2.2.2.2.2.2.2.2.2.2.2.2.2.2.2.2.1, hi_t.2.2.2.2.2.2.2.2.2.2.2.2.2.2.2.2.2.2.2.2.1, hi_t.2.2.2.2.2.2.2.2.2.2.2.2.2.2.2.2.2.2.2.2.2⟩) (hc_t_17 := hc_t_17) (hc_t_18 := hc_t_18) (hc_t_19 := hc_t_19) (hc_t_20 := hc_t_20) (hc_t_21 := hc_t_21) (hc_t_23 := hu27_0) (hc_t_24 := hu27_1) (hc_t_25 := hu27_2) (hc_t_26 := hu27_3) (hc_t_27 := hu27_4) (hc_t_28 := hu27_5) (hc_t_36 := hc_t_36) (ti := (show TI 0 t_17_c t_18_c t_19_c t_20_c t_21_c from by assumption)) (li := (show LI t_17_c t_19_c (u27b 0) (u27b 1) (u27b 3) (u27b 4) (u27b 5) from by assumption)) (pq := (show 0 ≤ (u27b 4) (Int.toNat p1) ∧ p1 < t_17_c 3 from by omega)) _) (cwV 1 hts (fn_ginV (fn_gin wd_1775) wd_1772 wd_1774 wp_139 wd_13) rfl rfl rfl (by decide +kernel) ⟨Nat.le_of_ble_eq_true rfl, Nat.le_of_ble_eq_true rfl⟩) ⟨fn_blind, va_recv hK.1 hP (ci := 12) (q0 := 1) rfl rfl, hp⟩ rfl rfl hl.1 rfl (lv_room (Nat.le_of_ble_eq_true rfl)) dX12_leaves_54 ⟨Nat.le_of_ble_eq_true rfl, Nat.le_of_ble_eq_true rfl⟩) (fun u54 H locs hwu54 hP hD hS => ?_)
          obtain ⟨u54a, u54b⟩ := u54
          obtain ⟨hqu54_tb0, hu54_00, -⟩ := hwu54
          have hqu54_tb : ∀ b i : Nat, (b : Int) < t_17_c 2 → (i : Int) < (u27b 1) b → (u54b 0) (30 * b + i) ≤ 49 := hqu54_tb0
          have hu54_0 : ∀ j : Nat, 0 ≤ (u54b 0) j ∧ (u54b 0) j ≤ 100000 := hu54_00
          clear hqu54_tb0 hu54_00
          have hP : va_P D vwCl [(t, .inr (12, oX12 t_q 0 t_x6 t_x7 t_x8 t_x9 t_x10 t_x11 t_x12 t_x13 t_x14 t_x15 t_x32 t_x33 t_x34 t_x35 t_x39 t_x40 t_x43 t_x44 t_x48 t_x49 t_x50)), ((t_q 17), .inl (K 0, 40, .inl (fun j => iI (t_17_c j)))), ((t_q 18), .inl (K 0, 50, .inl (fun j => iI (t_18_c j)))), ((t_q 19), .inl (K 0, 60, .inl (fun j => iI (t_19_c j)))), ((t_q 20), .inl (K 0, 480, .inl (fun j => iI (t_20_c j)))), ((t_q 21), .inl (K 0, 600, .inl (fun j => iI (t_21_c j)))), ((t_q 23), .inl (K 0, 150, .inl (fun j => iI ((u27b 0) j)))), ((t_q 24), .inl (K 0, 5, .inl (fun j => iI ((u27b 1) j)))), ((t_q 25), .inl (K 0, 24, .inl (fun j => iI ((u27b 2) j)))), ((t_q 26), .inl (K 0, 24, .inl (fun j => iI ((u27b 3) j)))), ((t_q 27), .inl (K 0, 12, .inl (fun j => iI ((u27b 4) j)))), ((t_q 28), .inl (K 0, 12, .inl (fun j => iI ((u27b 5) j)))), ((t_q 36), .inl (K 0, 150, .inl (fun j => iI ((u54b 0) j))))] H := hP
          have hD : va_D A [(t, .inr (12, oX12 t_q 0 t_x6 t_x7 t_x8 t_x9 t_x10 t_x11 t_x12 t_x13 t_x14 t_x15 t_x32 t_x33 t_x34 t_x35 t_x39 t_x40 t_x43 t_x44 t_x48 t_x49 t_x50)), ((t_q 17), .inl (K 0, 40, .inl (fun j => iI (t_17_c j)))), ((t_q 18), .inl (K 0, 50, .inl (fun j => iI (t_18_c j)))), ((t_q 19), .inl (K 0, 60, .inl (fun j => iI (t_19_c j)))), ((t_q 20), .inl (K 0, 480, .inl (fun j => iI (t_20_c j)))), ((t_q 21), .inl (K 0, 600, .inl (fun j => iI (t_21_c j)))), ((t_q 23), .inl (K 0, 150, .inl (fun j => iI ((u27b 0) j)))), ((t_q 24), .inl (K 0, 5, .inl (fun j => iI ((u27b 1) j)))), ((t_q 25), .inl (K 0, 24, .inl (fun j => iI ((u27b 2) j)))), ((t_q 26), .inl (K 0, 24, .inl (fun j => iI ((u27b 3) j)))), ((t_q 27), .inl (K 0, 12, .inl (fun j => iI ((u27b 4) j)))), ((t_q 28), .inl (K 0, 12, .inl (fun j => iI ((u27b 5) j)))), ((t_q 36), .inl (K 0, 150, .inl (fun j => iI ((u54b 0) j))))] := hD
          refine lv_aload_n hx hb dX12_leaves_57 rfl (lv_at hl 0 rfl) ?_
          refine lv_iload_n hx hb dX12_leaves_58 rfl (lv_at hl 2 rfl) ?_
          refine fn_goi (wc := [(t, .inr (12, oX12 t_q 0 t_x6 t_x7 t_x8 t_x9 t_x10 t_x11 t_x12 t_x13 t_x14 t_x15 t_x32 t_x33 t_x34 t_x35 t_x39 t_x40 t_x43 t_x44 t_x48 t_x49 t_x50)), ((t_q 19), .inl (K 0, 60, .inl (fun j => iI (t_19_c j)))), ((t_q 27), .inl (K 0, 12, .inl (fun j => iI ((u27b 4) j)))), ((t_q 36), .inl (K 0, 150, .inl (fun j => iI ((u54b 0) j))))]) (wr := [((t_q 17), .inl (K 0, 40, .inl (fun j => iI (t_17_c j)))), ((t_q 18), .inl (K 0, 50, .inl (fun j => iI (t_18_c j)))), ((t_q 20), .inl (K 0, 480, .inl (fun j => iI (t_20_c j)))), ((t_q 21), .inl (K 0, 600, .inl (fun j => iI (t_21_c j)))), ((t_q 23), .inl (K 0, 150, .inl (fun j => iI ((u27b 0) j)))), ((t_q 24), .inl (K 0, 5, .inl (fun j => iI ((u27b 1) j)))), ((t_q 25), .inl (K 0, 24, .inl (fun j => iI ((u27b 2) j)))), ((t_q 26), .inl (K 0, 24, .inl (fun j => iI ((u27b 3) j)))), ((t_q 28), .inl (K 0, 12, .inl (fun j => iI ((u27b 5) j))))]) hK hP hD hS hA [0, 3, 10, 12] [1, 2, 4, 5, 6, 7, 8, 9, 11] rfl rfl (by decide) (fun hp => va_runV (C := RX12) (As := [.int (iI p2)]) (rest := []) ⟨hx, hb, hml, hown, hts⟩ (k_X12_turnsTo (l := l) (D := D) (K := K) (t := t) (p1 := p2) (t_q := t_q) (t_x0 := 0) (t_x6 := t_x6) (t_x7 := t_x7) (t_x8 := t_x8) (t_x9 := t_x9) (t_x10 := t_x10) (t_x11 := t_x11) (t_x12 := t_x12) (t_x13 := t_x13) (t_x14 := t_x14) (t_x15 := t_x15) (t_x32 := t_x32) (t_x33 := t_x33) (t_x34 := t_x34) (t_x35 := t_x35) (t_x39 := t_x39) (t_x40 := t_x40) (t_x43 := t_x43) (t_x44 := t_x44) (t_x48 := t_x48) (t_x49 := t_x49) (t_x50 := t_x50) (t_19_c := t_19_c) (t_27_c := (u27b 4)) (t_36_c := (u54b 0)) (hp1 := (by omega)) (hi_t := ⟨(by omega), hi_t.2.1, hi_t.2.2.1, hi_t.2.2.2.1, hi_t.2.2.2.2.1, hi_t.2.2.2.2.2.1, hi_t.2.2.2.2.2.2.1, hi_t.2.2.2.2.2.2.2.1, hi_t.2.2.2.2.2.2.2.2.1, hi_t.2.2.2.2.2.2.2.2.2.1, hi_t.2.2.2.2.2.2.2.2.2.2.1, hi_t.2.2.2.2.2.2.2.2.2.2.2.1, hi_t.2.2.2.2.2.2.2.2.2.2.2.2.1, hi_t.2.2.2.2.2.2.2.2.2.2.2.2.2.1, hi_t.2.2.2.2.2.2.2.2.2.2.2.2.2.2.1, hi_t.2.2.2.2.2.2.2.2.2.2.2.2.2.2.2.1, hi_t.2.2.2.2.2.2.2.2.2.2.2.2.2.2.2.2.1, hi_t.2.2.2.2.2.2.2.2.2.2.2.2.2.2.2.2.2.1, hi_t.2.2.2.2.2.2.2.2.2.2.2.2.2.2.2.2.2.2.1, hi_t.2.2.2.2.2.2.2.2.2.2.2.2.2.2.2.2.2.2.2.1, hi_t.2.2.2.2.2.2.2.2.2.2.2.2.2.2.2.2.2.2.2.2.1, hi_t.2.2.2.2.2.2.2.2.2.2.2.2.2.2.2.2.2.2.2.2.2⟩) (hc_t_19 := hc_t_19) (hc_t_27 := hu27_4) (hc_t_36 := hu54_0) (pq := (show 0 ≤ (u27b 4) (Int.toNat p2) from by omega)) _) (cwV 1 hts (fn_ginV (fn_gin wd_1787) wd_1784 wd_1786 wp_142 wd_13) rfl rfl rfl (by decide +kernel) ⟨Nat.le_of_ble_eq_true rfl, Nat.le_of_ble_eq_true rfl⟩) ⟨fn_blind, va_recv hK.1 hP (ci := 12) (q0 := 0) rfl rfl, hp⟩ rfl rfl hl.1 rfl (lv_room (Nat.le_of_ble_eq_true rfl)) dX12_leaves_59 ⟨Nat.le_of_ble_eq_true rfl, Nat.le_of_ble_eq_true rfl⟩) (fun r59 u59 H locs hwu59 hP hD hS => ?_)
          obtain ⟨u59a, u59b⟩ := u59
          obtain ⟨kr59, rfl, hkr59, hqu590, -⟩ := hwu59
          have hqu59 : (kr59 = (u54b 0) (Int.toNat (30 * t_19_c (Int.toNat p2) + (u27b 4) (Int.toNat p2)))) := hqu590
          clear hqu590
          have hP : va_P D vwCl [((t_q 17), .inl (K 0, 40, .inl (fun j => iI (t_17_c j)))), ((t_q 18), .inl (K 0, 50, .inl (fun j => iI (t_18_c j)))), ((t_q 20), .inl (K 0, 480, .inl (fun j => iI (t_20_c j)))), ((t_q 21), .inl (K 0, 600, .inl (fun j => iI (t_21_c j)))), ((t_q 23), .inl (K 0, 150, .inl (fun j => iI ((u27b 0) j)))), ((t_q 24), .inl (K 0, 5, .inl (fun j => iI ((u27b 1) j)))), ((t_q 25), .inl (K 0, 24, .inl (fun j => iI ((u27b 2) j)))), ((t_q 26), .inl (K 0, 24, .inl (fun j => iI ((u27b 3) j)))), ((t_q 28), .inl (K 0, 12, .inl (fun j => iI ((u27b 5) j)))), (t, .inr (12, oX12 t_q 0 t_x6 t_x7 t_x8 t_x9 t_x10 t_x11 t_x12 t_x13 t_x14 t_x15 t_x32 t_x33 t_x34 t_x35 t_x39 t_x40 t_x43 t_x44 t_x48 t_x49 t_x50)), ((t_q 19), .inl (K 0, 60, .inl (fun j => iI (t_19_c j)))), ((t_q 27), .inl (K 0, 12, .inl (fun j => iI ((u27b 4) j)))), ((t_q 36), .inl (K 0, 150, .inl (fun j => iI ((u54b 0) j))))] H := hP
          have hD : va_D A [((t_q 17), .inl (K 0, 40, .inl (fun j => iI (t_17_c j)))), ((t_q 18), .inl (K 0, 50, .inl (fun j => iI (t_18_c j)))), ((t_q 20), .inl (K 0, 480, .inl (fun j => iI (t_20_c j)))), ((t_q 21), .inl (K 0, 600, .inl (fun j => iI (t_21_c j)))), ((t_q 23), .inl (K 0, 150, .inl (fun j => iI ((u27b 0) j)))), ((t_q 24), .inl (K 0, 5, .inl (fun j => iI ((u27b 1) j)))), ((t_q 25), .inl (K 0, 24, .inl (fun j => iI ((u27b 2) j)))), ((t_q 26), .inl (K 0, 24, .inl (fun j => iI ((u27b 3) j)))), ((t_q 28), .inl (K 0, 12, .inl (fun j => iI ((u27b 5) j)))), (t, .inr (12, oX12 t_q 0 t_x6 t_x7 t_x8 t_x9 t_x10 t_x11 t_x12 t_x13 t_x14 t_x15 t_x32 t_x33 t_x34 t_x35 t_x39 t_x40 t_x43 t_x44 t_x48 t_x49 t_x50)), ((t_q 19), .inl (K 0, 60, .inl (fun j => iI (t_19_c j)))), ((t_q 27), .inl (K 0, 12, .inl (fun j => iI ((u27b 4) j)))), ((t_q 36), .inl (K 0, 150, .inl (fun j => iI ((u54b 0) j))))] := hD
          rw [hQ]; exact fn_iret hx hb hr hlocks rfl hP hD hS ((fun k => ([0] : List Int).getD k 0), (fun k => ([(u27b 0), (u27b 1), (u27b 2), (u27b 3), (u27b 4), (u27b 5), (u54b 0)] : List (Nat → Int)).getD k (fun _ => 0))) ⟨kr59, rfl, by omega, (by show (-2147483648) ≤ 0 ∧ 0 ≤ 2147483647; omega), (hu27_0), (hu27_1), (hu27_2), (hu27_3), (hu27_4), (hu27_5), (hu54_0), trivial⟩ [9, 0, 1, 10, 2, 3, 4, 5, 6, 7, 11, 8, 12] (by decide) rfl dX12_leaves_62
        · refine lv_iconst (v := iI (-1)) hx hb dX12_leaves_50 rfl ?_
          rw [hQ]; exact fn_iret hx hb hr hlocks rfl hP hD hS ((fun k => ([0] : List Int).getD k 0), (fun k => ([(u27b 0), (u27b 1), (u27b 2), (u27b 3), (u27b 4), (u27b 5), t_36_c] : List (Nat → Int)).getD k (fun _ => 0))) ⟨(-1), rfl, by omega, (by show (-2147483648) ≤ 0 ∧ 0 ≤ 2147483647; omega), (hu27_0), (hu27_1), (hu27_2), (hu27_3), (hu27_4), (hu27_5), (hc_t_36), trivial⟩ [1, 2, 3, 4, 5, 6, 7, 8, 9, 10, 11, 12, 0] (by decide) rfl dX12_leaves_51
    · refine lv_bipush (v := iI (-2)) hx hb dX12_leaves_23 (by decide) ?_
      rw [hQ]; exact fn_iret hx hb hr hlocks rfl hP hD hS ((fun k => ([0] : List Int).getD k 0), (fun k => ([t_23_c, t_24_c, t_25_c, t_26_c, t_27_c, t_28_c, t_36_c] : List (Nat → Int)).getD k (fun _ => 0))) ⟨(-2), rfl, by omega, (by show (-2147483648) ≤ 0 ∧ 0 ≤ 2147483647; omega), (hc_t_23), (hc_t_24), (hc_t_25), (hc_t_26), (hc_t_27), (hc_t_28), (hc_t_36), trivial⟩ [11, 12, 0, 1, 2, 3, 4, 5, 6, 7, 8, 9, 10] (by decide) rfl dX12_leaves_25
theorem wd_1280 : Cond.fieldLink "FootNotesModel" 98 "FootNotesModel" "worthThen" "[I" ∈ fn_big := fn_tb (fn_l6 (List.mem_of_getElem? (i := 80) (by decide +kernel))) (by decide +kernel)
theorem wd_1279 : Cond.fieldLink "FootNotesModel" 95 "FootNotesModel" "worth" "[I" ∈ fn_big := fn_tb (fn_l6 (List.mem_of_getElem? (i := 79) (by decide +kernel))) (by decide +kernel)
theorem dX12_gives_227 : decode cX12_gives 227 = .ok (.istore_n 1, 1) := by decide +kernel
theorem dX12_gives_228 : decode cX12_gives 228 = .ok (.aload_n 0, 1) := by decide +kernel
theorem dX12_gives_229 : decode cX12_gives 229 = .ok (.getfield 95, 3) := by decide +kernel
theorem dX12_gives_232 : decode cX12_gives 232 = .ok (.iload_n 2, 1) := by decide +kernel
theorem dX12_gives_233 : decode cX12_gives 233 = .ok (.aload_n 0, 1) := by decide +kernel
theorem dX12_gives_234 : decode cX12_gives 234 = .ok (.getfield 98, 3) := by decide +kernel
theorem dX12_gives_237 : decode cX12_gives 237 = .ok (.iload_n 2, 1) := by decide +kernel
theorem dX12_gives_238 : decode cX12_gives 238 = .ok (.iaload, 1) := by decide +kernel
theorem dX12_gives_239 : decode cX12_gives 239 = .ok (.iastore, 1) := by decide +kernel
theorem dX12_gives_240 : decode cX12_gives 240 = .ok (.iinc 2 1, 3) := by decide +kernel
theorem dX12_gives_243 : decode cX12_gives 243 = .ok (.goto (-50), 3) := by decide +kernel
theorem dX12_gives_222 : decode cX12_gives 222 = .ok (.iconst 1, 1) := by decide +kernel
theorem dX12_gives_223 : decode cX12_gives 223 = .ok (.goto 4, 3) := by decide +kernel
theorem dX12_gives_193 : decode cX12_gives 193 = .ok (.iload_n 2, 1) := by decide +kernel
theorem dX12_gives_194 : decode cX12_gives 194 = .ok (.aload_n 0, 1) := by decide +kernel
theorem dX12_gives_195 : decode cX12_gives 195 = .ok (.getfield 34, 3) := by decide +kernel
theorem dX12_gives_198 : decode cX12_gives 198 = .ok (.iconst 3, 1) := by decide +kernel
theorem dX12_gives_199 : decode cX12_gives 199 = .ok (.iaload, 1) := by decide +kernel
theorem dX12_gives_200 : decode cX12_gives 200 = .ok (.if_icmp .ge 46, 3) := by decide +kernel
theorem dX12_gives_246 : decode cX12_gives 246 = .ok (.iload_n 1, 1) := by decide +kernel
theorem dX12_gives_247 : decode cX12_gives 247 = .ok (.ireturn, 1) := by decide +kernel
theorem dX12_gives_203 : decode cX12_gives 203 = .ok (.iload_n 1, 1) := by decide +kernel
theorem dX12_gives_204 : decode cX12_gives 204 = .ok (.ifCond .ne 18, 3) := by decide +kernel
theorem dX12_gives_207 : decode cX12_gives 207 = .ok (.aload_n 0, 1) := by decide +kernel
theorem dX12_gives_208 : decode cX12_gives 208 = .ok (.getfield 95, 3) := by decide +kernel
theorem dX12_gives_211 : decode cX12_gives 211 = .ok (.iload_n 2, 1) := by decide +kernel
theorem dX12_gives_212 : decode cX12_gives 212 = .ok (.iaload, 1) := by decide +kernel
theorem dX12_gives_213 : decode cX12_gives 213 = .ok (.aload_n 0, 1) := by decide +kernel
theorem dX12_gives_214 : decode cX12_gives 214 = .ok (.getfield 98, 3) := by decide +kernel
theorem dX12_gives_217 : decode cX12_gives 217 = .ok (.iload_n 2, 1) := by decide +kernel
theorem dX12_gives_218 : decode cX12_gives 218 = .ok (.iaload, 1) := by decide +kernel
theorem dX12_gives_219 : decode cX12_gives 219 = .ok (.if_icmp .eq 7, 3) := by decide +kernel
theorem dX12_gives_226 : decode cX12_gives 226 = .ok (.iconst 0, 1) := by decide +kernel
theorem dX12_gives_158 : decode cX12_gives 158 = .ok (.iinc 4 1, 3) := by decide +kernel
theorem dX12_gives_161 : decode cX12_gives 161 = .ok (.goto (-54), 3) := by decide +kernel
theorem dX12_gives_107 : decode cX12_gives 107 = .ok (.iload 4, 2) := by decide +kernel
theorem dX12_gives_109 : decode cX12_gives 109 = .ok (.aload_n 0, 1) := by decide +kernel
theorem dX12_gives_110 : decode cX12_gives 110 = .ok (.getfield 34, 3) := by decide +kernel
theorem dX12_gives_113 : decode cX12_gives 113 = .ok (.iconst 4, 1) := by decide +kernel
theorem dX12_gives_114 : decode cX12_gives 114 = .ok (.iaload, 1) := by decide +kernel
theorem dX12_gives_115 : decode cX12_gives 115 = .ok (.if_icmp .ge 49, 3) := by decide +kernel
theorem dX12_gives_164 : decode cX12_gives 164 = .ok (.aload_n 0, 1) := by decide +kernel
theorem dX12_gives_165 : decode cX12_gives 165 = .ok (.getfield 98, 3) := by decide +kernel
theorem dX12_gives_168 : decode cX12_gives 168 = .ok (.iload_n 1, 1) := by decide +kernel
theorem dX12_gives_169 : decode cX12_gives 169 = .ok (.dup2, 1) := by decide +kernel
theorem dX12_gives_170 : decode cX12_gives 170 = .ok (.iaload, 1) := by decide +kernel
theorem dX12_gives_171 : decode cX12_gives 171 = .ok (.aload_n 0, 1) := by decide +kernel
theorem dX12_gives_172 : decode cX12_gives 172 = .ok (.getfield 95, 3) := by decide +kernel
theorem dX12_gives_175 : decode cX12_gives 175 = .ok (.iload_n 1, 1) := by decide +kernel
theorem dX12_gives_176 : decode cX12_gives 176 = .ok (.iaload, 1) := by decide +kernel
theorem dX12_gives_177 : decode cX12_gives 177 = .ok (.iload_n 2, 1) := by decide +kernel
theorem dX12_gives_178 : decode cX12_gives 178 = .ok (.iload_n 3, 1) := by decide +kernel
theorem dX12_gives_179 : decode cX12_gives 179 = .ok (.imul, 1) := by decide +kernel
theorem dX12_gives_180 : decode cX12_gives 180 = .ok (.isub, 1) := by decide +kernel
theorem dX12_gives_181 : decode cX12_gives 181 = .ok (.iadd, 1) := by decide +kernel
theorem dX12_gives_182 : decode cX12_gives 182 = .ok (.iastore, 1) := by decide +kernel
theorem dX12_gives_183 : decode cX12_gives 183 = .ok (.iinc 1 1, 3) := by decide +kernel
theorem dX12_gives_186 : decode cX12_gives 186 = .ok (.goto (-159), 3) := by decide +kernel
theorem dX12_gives_118 : decode cX12_gives 118 = .ok (.aload_n 0, 1) := by decide +kernel
theorem dX12_gives_119 : decode cX12_gives 119 = .ok (.getfield 43, 3) := by decide +kernel
theorem dX12_gives_122 : decode cX12_gives 122 = .ok (.iconst 4, 1) := by decide +kernel
theorem dX12_gives_123 : decode cX12_gives 123 = .ok (.iload 4, 2) := by decide +kernel
theorem dX12_gives_125 : decode cX12_gives 125 = .ok (.imul, 1) := by decide +kernel
theorem dX12_gives_126 : decode cX12_gives 126 = .ok (.iaload, 1) := by decide +kernel
theorem dX12_gives_127 : decode cX12_gives 127 = .ok (.iload_n 1, 1) := by decide +kernel
theorem dX12_gives_128 : decode cX12_gives 128 = .ok (.if_icmp .ne 30, 3) := by decide +kernel
theorem dX12_gives_131 : decode cX12_gives 131 = .ok (.aload_n 0, 1) := by decide +kernel
theorem dX12_gives_132 : decode cX12_gives 132 = .ok (.getfield 62, 3) := by decide +kernel
theorem dX12_gives_135 : decode cX12_gives 135 = .ok (.iload 4, 2) := by decide +kernel
theorem dX12_gives_137 : decode cX12_gives 137 = .ok (.iaload, 1) := by decide +kernel
theorem dX12_gives_138 : decode cX12_gives 138 = .ok (.iconst (-1), 1) := by decide +kernel
theorem dX12_gives_139 : decode cX12_gives 139 = .ok (.if_icmp .eq 19, 3) := by decide +kernel
theorem dX12_gives_142 : decode cX12_gives 142 = .ok (.aload_n 0, 1) := by decide +kernel
theorem dX12_gives_143 : decode cX12_gives 143 = .ok (.getfield 98, 3) := by decide +kernel
theorem dX12_gives_146 : decode cX12_gives 146 = .ok (.aload_n 0, 1) := by decide +kernel
theorem dX12_gives_147 : decode cX12_gives 147 = .ok (.getfield 62, 3) := by decide +kernel
theorem dX12_gives_150 : decode cX12_gives 150 = .ok (.iload 4, 2) := by decide +kernel
theorem dX12_gives_152 : decode cX12_gives 152 = .ok (.iaload, 1) := by decide +kernel
theorem dX12_gives_153 : decode cX12_gives 153 = .ok (.dup2, 1) := by decide +kernel
theorem dX12_gives_154 : decode cX12_gives 154 = .ok (.iaload, 1) := by decide +kernel
theorem dX12_gives_155 : decode cX12_gives 155 = .ok (.iload_n 3, 1) := by decide +kernel
theorem dX12_gives_156 : decode cX12_gives 156 = .ok (.iadd, 1) := by decide +kernel
theorem dX12_gives_157 : decode cX12_gives 157 = .ok (.iastore, 1) := by decide +kernel
theorem dX12_gives_103 : decode cX12_gives 103 = .ok (.istore_n 3, 1) := by decide +kernel
theorem dX12_gives_104 : decode cX12_gives 104 = .ok (.iconst 0, 1) := by decide +kernel
theorem dX12_gives_105 : decode cX12_gives 105 = .ok (.istore 4, 2) := by decide +kernel
theorem dX12_gives_79 : decode cX12_gives 79 = .ok (.iadd, 1) := by decide +kernel
theorem dX12_gives_80 : decode cX12_gives 80 = .ok (.istore_n 2, 1) := by decide +kernel
theorem dX12_gives_81 : decode cX12_gives 81 = .ok (.iinc 3 1, 3) := by decide +kernel
theorem dX12_gives_84 : decode cX12_gives 84 = .ok (.goto (-43), 3) := by decide +kernel
theorem dX12_gives_78 : decode cX12_gives 78 = .ok (.iconst 0, 1) := by decide +kernel
theorem dX12_gives_41 : decode cX12_gives 41 = .ok (.iload_n 3, 1) := by decide +kernel
theorem dX12_gives_42 : decode cX12_gives 42 = .ok (.aload_n 0, 1) := by decide +kernel
theorem dX12_gives_43 : decode cX12_gives 43 = .ok (.getfield 34, 3) := by decide +kernel
theorem dX12_gives_46 : decode cX12_gives 46 = .ok (.iconst 4, 1) := by decide +kernel
theorem dX12_gives_47 : decode cX12_gives 47 = .ok (.iaload, 1) := by decide +kernel
theorem dX12_gives_48 : decode cX12_gives 48 = .ok (.if_icmp .ge 39, 3) := by decide +kernel
theorem dX12_gives_87 : decode cX12_gives 87 = .ok (.iload_n 2, 1) := by decide +kernel
theorem dX12_gives_88 : decode cX12_gives 88 = .ok (.ifCond .ne 7, 3) := by decide +kernel
theorem dX12_gives_95 : decode cX12_gives 95 = .ok (.aload_n 0, 1) := by decide +kernel
theorem dX12_gives_96 : decode cX12_gives 96 = .ok (.getfield 95, 3) := by decide +kernel
theorem dX12_gives_99 : decode cX12_gives 99 = .ok (.iload_n 1, 1) := by decide +kernel
theorem dX12_gives_100 : decode cX12_gives 100 = .ok (.iaload, 1) := by decide +kernel
theorem dX12_gives_101 : decode cX12_gives 101 = .ok (.iload_n 2, 1) := by decide +kernel
theorem dX12_gives_102 : decode cX12_gives 102 = .ok (.idiv, 1) := by decide +kernel
theorem dX12_gives_91 : decode cX12_gives 91 = .ok (.iconst 0, 1) := by decide +kernel
theorem dX12_gives_92 : decode cX12_gives 92 = .ok (.goto 11, 3) := by decide +kernel
theorem dX12_gives_51 : decode cX12_gives 51 = .ok (.iload_n 2, 1) := by decide +kernel
theorem dX12_gives_52 : decode cX12_gives 52 = .ok (.aload_n 0, 1) := by decide +kernel
theorem dX12_gives_53 : decode cX12_gives 53 = .ok (.getfield 43, 3) := by decide +kernel
theorem dX12_gives_56 : decode cX12_gives 56 = .ok (.iconst 4, 1) := by decide +kernel
theorem dX12_gives_57 : decode cX12_gives 57 = .ok (.iload_n 3, 1) := by decide +kernel
theorem dX12_gives_58 : decode cX12_gives 58 = .ok (.imul, 1) := by decide +kernel
theorem dX12_gives_59 : decode cX12_gives 59 = .ok (.iaload, 1) := by decide +kernel
theorem dX12_gives_60 : decode cX12_gives 60 = .ok (.iload_n 1, 1) := by decide +kernel
theorem dX12_gives_61 : decode cX12_gives 61 = .ok (.if_icmp .ne 17, 3) := by decide +kernel
theorem dX12_gives_64 : decode cX12_gives 64 = .ok (.aload_n 0, 1) := by decide +kernel
theorem dX12_gives_65 : decode cX12_gives 65 = .ok (.getfield 62, 3) := by decide +kernel
theorem dX12_gives_68 : decode cX12_gives 68 = .ok (.iload_n 3, 1) := by decide +kernel
theorem dX12_gives_69 : decode cX12_gives 69 = .ok (.iaload, 1) := by decide +kernel
theorem dX12_gives_70 : decode cX12_gives 70 = .ok (.iconst (-1), 1) := by decide +kernel
theorem dX12_gives_71 : decode cX12_gives 71 = .ok (.if_icmp .eq 7, 3) := by decide +kernel
theorem dX12_gives_74 : decode cX12_gives 74 = .ok (.iconst 1, 1) := by decide +kernel
theorem dX12_gives_75 : decode cX12_gives 75 = .ok (.goto 4, 3) := by decide +kernel
theorem dX12_gives_27 : decode cX12_gives 27 = .ok (.iload_n 1, 1) := by decide +kernel
theorem dX12_gives_28 : decode cX12_gives 28 = .ok (.aload_n 0, 1) := by decide +kernel
theorem dX12_gives_29 : decode cX12_gives 29 = .ok (.getfield 34, 3) := by decide +kernel
theorem dX12_gives_32 : decode cX12_gives 32 = .ok (.iconst 3, 1) := by decide +kernel
theorem dX12_gives_33 : decode cX12_gives 33 = .ok (.iaload, 1) := by decide +kernel
theorem dX12_gives_34 : decode cX12_gives 34 = .ok (.if_icmp .ge 155, 3) := by decide +kernel
theorem dX12_gives_189 : decode cX12_gives 189 = .ok (.iconst 0, 1) := by decide +kernel
theorem dX12_gives_190 : decode cX12_gives 190 = .ok (.istore_n 1, 1) := by decide +kernel
theorem dX12_gives_191 : decode cX12_gives 191 = .ok (.iconst 0, 1) := by decide +kernel
theorem dX12_gives_192 : decode cX12_gives 192 = .ok (.istore_n 2, 1) := by decide +kernel
theorem dX12_gives_37 : decode cX12_gives 37 = .ok (.iconst 0, 1) := by decide +kernel
theorem dX12_gives_38 : decode cX12_gives 38 = .ok (.istore_n 2, 1) := by decide +kernel
theorem dX12_gives_39 : decode cX12_gives 39 = .ok (.iconst 0, 1) := by decide +kernel
theorem dX12_gives_40 : decode cX12_gives 40 = .ok (.istore_n 3, 1) := by decide +kernel
theorem dX12_gives_2 : decode cX12_gives 2 = .ok (.iload_n 1, 1) := by decide +kernel
theorem dX12_gives_3 : decode cX12_gives 3 = .ok (.aload_n 0, 1) := by decide +kernel
theorem dX12_gives_4 : decode cX12_gives 4 = .ok (.getfield 34, 3) := by decide +kernel
theorem dX12_gives_7 : decode cX12_gives 7 = .ok (.iconst 3, 1) := by decide +kernel
theorem dX12_gives_8 : decode cX12_gives 8 = .ok (.iaload, 1) := by decide +kernel
theorem dX12_gives_9 : decode cX12_gives 9 = .ok (.if_icmp .ge 16, 3) := by decide +kernel
theorem dX12_gives_25 : decode cX12_gives 25 = .ok (.iconst 0, 1) := by decide +kernel
theorem dX12_gives_26 : decode cX12_gives 26 = .ok (.istore_n 1, 1) := by decide +kernel
theorem dX12_gives_12 : decode cX12_gives 12 = .ok (.aload_n 0, 1) := by decide +kernel
theorem dX12_gives_13 : decode cX12_gives 13 = .ok (.getfield 98, 3) := by decide +kernel
theorem dX12_gives_16 : decode cX12_gives 16 = .ok (.iload_n 1, 1) := by decide +kernel
theorem dX12_gives_17 : decode cX12_gives 17 = .ok (.iconst 0, 1) := by decide +kernel
theorem dX12_gives_18 : decode cX12_gives 18 = .ok (.iastore, 1) := by decide +kernel
theorem dX12_gives_19 : decode cX12_gives 19 = .ok (.iinc 1 1, 3) := by decide +kernel
theorem dX12_gives_22 : decode cX12_gives 22 = .ok (.goto (-20), 3) := by decide +kernel
theorem dX12_gives_0 : decode cX12_gives 0 = .ok (.iconst 0, 1) := by decide +kernel
theorem dX12_gives_1 : decode cX12_gives 1 = .ok (.istore_n 1, 1) := by decide +kernel
set_option maxHeartbeats 4000000 in
set_option maxRecDepth 100000 in
theorem k_X12_gives (l : Launch) (D : va_G) (K : Nat → ClassId) (t : Nat) (t_q : Nat → Nat) (t_x0 t_x6 t_x7 t_x8 t_x9 t_x10 t_x11 t_x12 t_x13 t_x14 t_x15 t_x32 t_x33 t_x34 t_x35 t_x39 t_x40 t_x43 t_x44 t_x48 t_x49 t_x50 : Int) (t_17_c : Nat → Int) (t_46_c : Nat → Int) (t_45_c : Nat → Int) (t_20_c : Nat → Int) (t_26_c : Nat → Int) (hi_t : bM12 t_x0 t_x6 t_x7 t_x8 t_x9 t_x10 t_x11 t_x12 t_x13 t_x14 t_x15 t_x32 t_x33 t_x34 t_x35 t_x39 t_x40 t_x43 t_x44 t_x48 t_x49 t_x50) (hc_t_17 : ∀ j : Nat, (j % 8 = 0 → 0 ≤ t_17_c j ∧ t_17_c j ≤ 20) ∧ (j % 8 = 1 → 0 ≤ t_17_c j ∧ t_17_c j ≤ 100) ∧ (j % 8 = 2 → 0 ≤ t_17_c j ∧ t_17_c j ≤ 5) ∧ (j % 8 = 3 → 0 ≤ t_17_c j ∧ t_17_c j ≤ 12) ∧ (j % 8 = 4 → 0 ≤ t_17_c j ∧ t_17_c j ≤ 24) ∧ (j % 8 = 5 → 0 ≤ t_17_c j ∧ t_17_c j ≤ 4095) ∧ (j % 8 = 6 → 0 ≤ t_17_c j ∧ t_17_c j ≤ 31) ∧ (j % 8 = 7 → 0 ≤ t_17_c j ∧ t_17_c j ≤ 40)) (hc_t_46 : ∀ j : Nat, (-2147483648) ≤ t_46_c j ∧ t_46_c j ≤ 2147483647) (hc_t_45 : ∀ j : Nat, (-2147483648) ≤ t_45_c j ∧ t_45_c j ≤ 2147483647) (hc_t_20 : ∀ j : Nat, (j % 4 = 0 → 0 ≤ t_20_c j ∧ t_20_c j ≤ 11) ∧ (j % 4 = 1 → 0 ≤ t_20_c j ∧ t_20_c j ≤ 4) ∧ (j % 4 = 2 → 0 ≤ t_20_c j ∧ t_20_c j ≤ 29) ∧ (j % 4 = 3 → 0 ≤ t_20_c j ∧ t_20_c j ≤ 1)) (hc_t_26 : ∀ j : Nat, (-1) ≤ t_26_c j ∧ t_26_c j ≤ 11) : fn_CI (S := (Nat → Int) × (Nat → Nat → Int)) l D K yX12_gives (fn_ws yX12_gives cX12_gives 5 (some .boolean)) ({ frames := 4, cells := 0, slots := 0, locals := 100 } : Room) [.ref t] [(t, .inr (12, oX12 t_q t_x0 t_x6 t_x7 t_x8 t_x9 t_x10 t_x11 t_x12 t_x13 t_x14 t_x15 t_x32 t_x33 t_x34 t_x35 t_x39 t_x40 t_x43 t_x44 t_x48 t_x49 t_x50)), ((t_q 17), .inl (K 0, 40, .inl (fun j => iI (t_17_c j)))), ((t_q 46), .inl (K 0, 12, .inl (fun j => iI (t_46_c j)))), ((t_q 45), .inl (K 0, 12, .inl (fun j => iI (t_45_c j)))), ((t_q 20), .inl (K 0, 480, .inl (fun j => iI (t_20_c j)))), ((t_q 26), .inl (K 0, 24, .inl (fun j => iI (t_26_c j))))] (fun r u => ∃ k : Int, r = iI k ∧ (0 ≤ k ∧ k ≤ 1) ∧ (∀ j : Nat, (-2147483648) ≤ (u.2 0) j ∧ (u.2 0) j ≤ 2147483647) ∧ (∀ j : Nat, (-2147483648) ≤ (u.2 1) j ∧ (u.2 1) j ≤ 2147483647) ∧ True) (fun u => [(t, .inr (12, oX12 t_q t_x0 t_x6 t_x7 t_x8 t_x9 t_x10 t_x11 t_x12 t_x13 t_x14 t_x15 t_x32 t_x33 t_x34 t_x35 t_x39 t_x40 t_x43 t_x44 t_x48 t_x49 t_x50)), ((t_q 17), .inl (K 0, 40, .inl (fun j => iI (t_17_c j)))), ((t_q 46), .inl (K 0, 12, .inl (fun j => iI ((u.2 1) j)))), ((t_q 45), .inl (K 0, 12, .inl (fun j => iI ((u.2 0) j)))), ((t_q 20), .inl (K 0, 480, .inl (fun j => iI (t_20_c j)))), ((t_q 26), .inl (K 0, 24, .inl (fun j => iI (t_26_c j))))]) 0 0 := by
  refine g_inI (cc := cX12_gives) (maxL := 5) (ret := (some .boolean)) (by decide) rfl (Nat.le_of_ble_eq_true rfl) ?_
  intro p e s m below meth c A ls ag Q B hA hP hD hS hl hQ
  obtain ⟨hx, hb, hr, hml, hts, hown, hlocks, hin, hK⟩ := B
  have hown : s.vm.findClass RX12 = some m.cls := hown
  have hts := fun w h => hts w (List.mem_cons_of_mem _ h)
  have J193 : ∀ (n : Nat) (x193_1 : Int) (x193_2 : Int) (c193_t_46 : Nat → Int) (c193_t_45 : Nat → Int) (H : Heap) (locs : List Loc) (ls : Array Slot), (12 - x193_2).toNat < n → (0 ≤ x193_1 ∧ x193_1 ≤ 1 ∧ 0 ≤ x193_2 ∧ x193_2 ≤ 12) → (∀ j : Nat, (-2147483648) ≤ c193_t_46 j ∧ c193_t_46 j ≤ 2147483647) → (∀ j : Nat, (-2147483648) ≤ c193_t_45 j ∧ c193_t_45 j ≤ 2147483647) → va_P D vwCl [(t, .inr (12, oX12 t_q t_x0 t_x6 t_x7 t_x8 t_x9 t_x10 t_x11 t_x12 t_x13 t_x14 t_x15 t_x32 t_x33 t_x34 t_x35 t_x39 t_x40 t_x43 t_x44 t_x48 t_x49 t_x50)), ((t_q 17), .inl (K 0, 40, .inl (fun j => iI (t_17_c j)))), ((t_q 46), .inl (K 0, 12, .inl (fun j => iI (c193_t_46 j)))), ((t_q 45), .inl (K 0, 12, .inl (fun j => iI (c193_t_45 j)))), ((t_q 20), .inl (K 0, 480, .inl (fun j => iI (t_20_c j)))), ((t_q 26), .inl (K 0, 24, .inl (fun j => iI (t_26_c j))))] H → va_D A [(t, .inr (12, oX12 t_q t_x0 t_x6 t_x7 t_x8 t_x9 t_x10 t_x11 t_x12 t_x13 t_x14 t_x15 t_x32 t_x33 t_x34 t_x35 t_x39 t_x40 t_x43 t_x44 t_x48 t_x49 t_x50)), ((t_q 17), .inl (K 0, 40, .inl (fun j => iI (t_17_c j)))), ((t_q 46), .inl (K 0, 12, .inl (fun j => iI (c193_t_46 j)))), ((t_q 45), .inl (K 0, 12, .inl (fun j => iI (c193_t_45 j)))), ((t_q 20), .inl (K 0, 480, .inl (fun j => iI (t_20_c j)))), ((t_q 26), .inl (K 0, 24, .inl (fun j => iI (t_26_c j))))] → va_S A s.heap H locs → lv_has ls 5 [(0, .ref t), (1, .int (iI x193_1)), (2, .int (iI x193_2))] → W p l e ({ frames := 4, cells := 0, slots := 0, locals := 100 } : Room) s m ag below meth c H locs 0 0 Q (F0 m 193 ls []) := by
    intro n
    induction n with
    | zero =>
      intro x193_1 x193_2 c193_t_46 c193_t_45 H locs ls hm193 hf193 hc193_t_46 hc193_t_45 hP hD hS hl
      exact absurd hm193 (Nat.not_lt_zero _)
    | succ n ih193 =>
      intro x193_1 x193_2 c193_t_46 c193_t_45 H locs ls hm193 hf193 hc193_t_46 hc193_t_45 hP hD hS hl
      have J227 : ∀ (z227_0 : Int) (H : Heap) (locs : List Loc) (ls : Array Slot), (0 ≤ x193_2 ∧ x193_2 ≤ 11 ∧ 0 ≤ z227_0 ∧ z227_0 ≤ 1) → va_P D vwCl [(t, .inr (12, oX12 t_q t_x0 t_x6 t_x7 t_x8 t_x9 t_x10 t_x11 t_x12 t_x13 t_x14 t_x15 t_x32 t_x33 t_x34 t_x35 t_x39 t_x40 t_x43 t_x44 t_x48 t_x49 t_x50)), ((t_q 17), .inl (K 0, 40, .inl (fun j => iI (t_17_c j)))), ((t_q 46), .inl (K 0, 12, .inl (fun j => iI (c193_t_46 j)))), ((t_q 45), .inl (K 0, 12, .inl (fun j => iI (c193_t_45 j)))), ((t_q 20), .inl (K 0, 480, .inl (fun j => iI (t_20_c j)))), ((t_q 26), .inl (K 0, 24, .inl (fun j => iI (t_26_c j))))] H → va_D A [(t, .inr (12, oX12 t_q t_x0 t_x6 t_x7 t_x8 t_x9 t_x10 t_x11 t_x12 t_x13 t_x14 t_x15 t_x32 t_x33 t_x34 t_x35 t_x39 t_x40 t_x43 t_x44 t_x48 t_x49 t_x50)), ((t_q 17), .inl (K 0, 40, .inl (fun j => iI (t_17_c j)))), ((t_q 46), .inl (K 0, 12, .inl (fun j => iI (c193_t_46 j)))), ((t_q 45), .inl (K 0, 12, .inl (fun j => iI (c193_t_45 j)))), ((t_q 20), .inl (K 0, 480, .inl (fun j => iI (t_20_c j)))), ((t_q 26), .inl (K 0, 24, .inl (fun j => iI (t_26_c j))))] → va_S A s.heap H locs → lv_has ls 5 [(0, .ref t), (1, .int (iI x193_1)), (2, .int (iI x193_2))] → W p l e ({ frames := 4, cells := 0, slots := 0, locals := 100 } : Room) s m ag below meth c H locs 0 0 Q (F0 m 227 ls [.int (iI z227_0)]) := by
        intro z227_0 H locs ls hf227 hP hD hS hl
        refine lv_istore_n (lv' := [(1, .int (iI z227_0)), (0, .ref t), (2, .int (iI x193_2))]) hx hb dX12_gives_227 rfl hl (by decide) rfl (fun ls hl => ?_)
        refine lv_aload_n hx hb dX12_gives_228 rfl (lv_at hl 1 rfl) ?_
        refine va_get (D := D) (own := RX12) (ci := 12) (v := .ref (t_q 45)) (C := RX12) (T := TX12) (N := 51) hx hb hts inb_X12 hown hK.1 hP 0 rfl rfl 45 (by decide) (hts _ wd_1279) (fun _ h9 => h9) rfl dX12_gives_229 ?_
        refine lv_iload_n hx hb dX12_gives_232 rfl (lv_at hl 2 rfl) ?_
        refine lv_aload_n hx hb dX12_gives_233 rfl (lv_at hl 1 rfl) ?_
        refine va_get (D := D) (own := RX12) (ci := 12) (v := .ref (t_q 46)) (C := RX12) (T := TX12) (N := 51) hx hb hts inb_X12 hown hK.1 hP 0 rfl rfl 46 (by decide) (hts _ wd_1280) (fun _ h9 => h9) rfl dX12_gives_234 ?_
        refine lv_iload_n hx hb dX12_gives_237 rfl (lv_at hl 2 rfl) ?_
        refine g_iald hx hb hK.1 hP 2 0 rfl rfl (by omega) (by omega) (by decide) dX12_gives_238 ?_
        have y238 : (-2147483648) ≤ (c193_t_46 x193_2.toNat) ∧ (c193_t_46 x193_2.toNat) ≤ 2147483647 := hc193_t_46 x193_2.toNat
        refine g_iast hx hb hK.1 hP hD hS 3 0 rfl rfl (by omega) (by omega) (by decide) dX12_gives_239 (fun H locs g239 eg239 hP hD hS => ?_)
        have hg239 : ∀ j : Nat, (-2147483648) ≤ g239 j ∧ g239 j ≤ 2147483647 := by rw [eg239]; exact uI_all hc193_t_45 (by omega)
        have hP : va_P D vwCl [(t, .inr (12, oX12 t_q t_x0 t_x6 t_x7 t_x8 t_x9 t_x10 t_x11 t_x12 t_x13 t_x14 t_x15 t_x32 t_x33 t_x34 t_x35 t_x39 t_x40 t_x43 t_x44 t_x48 t_x49 t_x50)), ((t_q 17), .inl (K 0, 40, .inl (fun j => iI (t_17_c j)))), ((t_q 46), .inl (K 0, 12, .inl (fun j => iI (c193_t_46 j)))), ((t_q 45), .inl (K 0, 12, .inl (fun j => iI (g239 j)))), ((t_q 20), .inl (K 0, 480, .inl (fun j => iI (t_20_c j)))), ((t_q 26), .inl (K 0, 24, .inl (fun j => iI (t_26_c j))))] H := hP
        have hD : va_D A [(t, .inr (12, oX12 t_q t_x0 t_x6 t_x7 t_x8 t_x9 t_x10 t_x11 t_x12 t_x13 t_x14 t_x15 t_x32 t_x33 t_x34 t_x35 t_x39 t_x40 t_x43 t_x44 t_x48 t_x49 t_x50)), ((t_q 17), .inl (K 0, 40, .inl (fun j => iI (t_17_c j)))), ((t_q 46), .inl (K 0, 12, .inl (fun j => iI (c193_t_46 j)))), ((t_q 45), .inl (K 0, 12, .inl (fun j => iI (g239 j)))), ((t_q 20), .inl (K 0, 480, .inl (fun j => iI (t_20_c j)))), ((t_q 26), .inl (K 0, 24, .inl (fun j => iI (t_26_c j))))] := hD
        refine lv_iinc (v := iI (x193_2 + 1)) (lv' := [(2, .int (iI (x193_2 + 1))), (1, .int (iI z227_0)), (0, .ref t)]) hx hb dX12_gives_240 hl (k := 2) rfl (iI_add _ _) (by decide) rfl (fun ls hl => ?_)
        refine lv_goto (tgt := 193) hx hb dX12_gives_243 (by decide) ?_
        exact ih193 z227_0 (x193_2 + 1) c193_t_46 g239 _ _ ls (by omega) (by omega) hc193_t_46 hg239 (hP.sub [0, 1, 2, 3, 4, 5] rfl) (hD.sub [0, 1, 2, 3, 4, 5] (by decide) rfl) hS (lv_sub hl [2, 1, 0] rfl)
      have J222 : ∀  (H : Heap) (locs : List Loc) (ls : Array Slot), (0 ≤ x193_2 ∧ x193_2 ≤ 11) → va_P D vwCl [(t, .inr (12, oX12 t_q t_x0 t_x6 t_x7 t_x8 t_x9 t_x10 t_x11 t_x12 t_x13 t_x14 t_x15 t_x32 t_x33 t_x34 t_x35 t_x39 t_x40 t_x43 t_x44 t_x48 t_x49 t_x50)), ((t_q 17), .inl (K 0, 40, .inl (fun j => iI (t_17_c j)))), ((t_q 46), .inl (K 0, 12, .inl (fun j => iI (c193_t_46 j)))), ((t_q 45), .inl (K 0, 12, .inl (fun j => iI (c193_t_45 j)))), ((t_q 20), .inl (K 0, 480, .inl (fun j => iI (t_20_c j)))), ((t_q 26), .inl (K 0, 24, .inl (fun j => iI (t_26_c j))))] H → va_D A [(t, .inr (12, oX12 t_q t_x0 t_x6 t_x7 t_x8 t_x9 t_x10 t_x11 t_x12 t_x13 t_x14 t_x15 t_x32 t_x33 t_x34 t_x35 t_x39 t_x40 t_x43 t_x44 t_x48 t_x49 t_x50)), ((t_q 17), .inl (K 0, 40, .inl (fun j => iI (t_17_c j)))), ((t_q 46), .inl (K 0, 12, .inl (fun j => iI (c193_t_46 j)))), ((t_q 45), .inl (K 0, 12, .inl (fun j => iI (c193_t_45 j)))), ((t_q 20), .inl (K 0, 480, .inl (fun j => iI (t_20_c j)))), ((t_q 26), .inl (K 0, 24, .inl (fun j => iI (t_26_c j))))] → va_S A s.heap H locs → lv_has ls 5 [(0, .ref t), (1, .int (iI x193_1)), (2, .int (iI x193_2))] → W p l e ({ frames := 4, cells := 0, slots := 0, locals := 100 } : Room) s m ag below meth c H locs 0 0 Q (F0 m 222 ls []) := by
        intro  H locs ls hf222 hP hD hS hl
        refine lv_iconst (v := iI 1) hx hb dX12_gives_222 rfl ?_
        refine lv_goto (tgt := 227) hx hb dX12_gives_223 (by decide) ?_
        exact J227 1 _ _ ls (by omega) (hP.sub [0, 1, 2, 3, 4, 5] rfl) (hD.sub [0, 1, 2, 3, 4, 5] (by decide) rfl) hS (lv_sub hl [0, 1, 2] rfl)
      refine lv_iload_n hx hb dX12_gives_193 rfl (lv_at hl 2 rfl) ?_
      refine lv_aload_n hx hb dX12_gives_194 rfl (lv_at hl 0 rfl) ?_
      refine va_get (D := D) (own := RX12) (ci := 12) (v := .ref (t_q 17)) (C := RX12) (T := TX12) (N := 51) hx hb hts inb_X12 hown hK.1 hP 0 rfl rfl 17 (by decide) (hts _ wd_1251) (fun _ h9 => h9) rfl dX12_gives_195 ?_
      refine lv_iconst (v := iI 3) hx hb dX12_gives_198 rfl ?_
      refine g_iald hx hb hK.1 hP 1 0 rfl rfl (by omega) (by omega) (by decide) dX12_gives_199 ?_
      refine fn_top (iI (t_17_c 3)) rfl ?_
      have y199 : 0 ≤ (t_17_c 3) ∧ (t_17_c 3) ≤ 12 := (hc_t_17 3).2.2.2.1 (by omega)
      refine g_icmp_ge (tgt := 246) hx hb (by omega) (by omega) dX12_gives_200 (by decide) (fun c200 => ?_) (fun c200 => ?_)
      · refine lv_iload_n hx hb dX12_gives_246 rfl (lv_at hl 1 rfl) ?_
        rw [hQ]; exact fn_iret hx hb hr hlocks (iI_nz (by omega)) hP hD hS ((fun _ => 0), (fun k => ([c193_t_45, c193_t_46] : List (Nat → Int)).getD k (fun _ => 0))) ⟨x193_1, rfl, by omega, (hc193_t_45), (hc193_t_46), trivial⟩ [0, 1, 2, 3, 4, 5] (by decide) rfl dX12_gives_247
      · refine lv_iload_n hx hb dX12_gives_203 rfl (lv_at hl 1 rfl) ?_
        refine g_if_ne (tgt := 222) hx hb (by omega) dX12_gives_204 (by decide) (fun c204 => ?_) (fun c204 => ?_)
        · exact J222  _ _ ls (by omega) (hP.sub [0, 1, 2, 3, 4, 5] rfl) (hD.sub [0, 1, 2, 3, 4, 5] (by decide) rfl) hS (lv_sub hl [0, 1, 2] rfl)
        · refine lv_aload_n hx hb dX12_gives_207 rfl (lv_at hl 0 rfl) ?_
          refine va_get (D := D) (own := RX12) (ci := 12) (v := .ref (t_q 45)) (C := RX12) (T := TX12) (N := 51) hx hb hts inb_X12 hown hK.1 hP 0 rfl rfl 45 (by decide) (hts _ wd_1279) (fun _ h9 => h9) rfl dX12_gives_208 ?_
          refine lv_iload_n hx hb dX12_gives_211 rfl (lv_at hl 2 rfl) ?_
          refine g_iald hx hb hK.1 hP 3 0 rfl rfl (by omega) (by omega) (by decide) dX12_gives_212 ?_
          have y212 : (-2147483648) ≤ (c193_t_45 x193_2.toNat) ∧ (c193_t_45 x193_2.toNat) ≤ 2147483647 := hc193_t_45 x193_2.toNat
          refine lv_aload_n hx hb dX12_gives_213 rfl (lv_at hl 0 rfl) ?_
          refine va_get (D := D) (own := RX12) (ci := 12) (v := .ref (t_q 46)) (C := RX12) (T := TX12) (N := 51) hx hb hts inb_X12 hown hK.1 hP 0 rfl rfl 46 (by decide) (hts _ wd_1280) (fun _ h9 => h9) rfl dX12_gives_214 ?_
          refine lv_iload_n hx hb dX12_gives_217 rfl (lv_at hl 2 rfl) ?_
          refine g_iald hx hb hK.1 hP 2 0 rfl rfl (by omega) (by omega) (by decide) dX12_gives_218 ?_
          have y218 : (-2147483648) ≤ (c193_t_46 x193_2.toNat) ∧ (c193_t_46 x193_2.toNat) ≤ 2147483647 := hc193_t_46 x193_2.toNat
          refine g_icmp_eq (tgt := 226) hx hb (by omega) (by omega) dX12_gives_219 (by decide) (fun c219 => ?_) (fun c219 => ?_)
          · refine lv_iconst (v := iI 0) hx hb dX12_gives_226 rfl ?_
            exact J227 0 _ _ ls (by omega) (hP.sub [0, 1, 2, 3, 4, 5] rfl) (hD.sub [0, 1, 2, 3, 4, 5] (by decide) rfl) hS (lv_sub hl [0, 1, 2] rfl)
          · exact J222  _ _ ls (by omega) (hP.sub [0, 1, 2, 3, 4, 5] rfl) (hD.sub [0, 1, 2, 3, 4, 5] (by decide) rfl) hS (lv_sub hl [0, 1, 2] rfl)
  have J27 : ∀ (n : Nat) (x27_1 : Int) (c27_t_46 : Nat → Int) (H : Heap) (locs : List Loc) (ls : Array Slot), (12 - x27_1).toNat < n → (0 ≤ x27_1 ∧ x27_1 ≤ 12) → (∀ j : Nat, (-2147483648) ≤ c27_t_46 j ∧ c27_t_46 j ≤ 2147483647) → va_P D vwCl [(t, .inr (12, oX12 t_q t_x0 t_x6 t_x7 t_x8 t_x9 t_x10 t_x11 t_x12 t_x13 t_x14 t_x15 t_x32 t_x33 t_x34 t_x35 t_x39 t_x40 t_x43 t_x44 t_x48 t_x49 t_x50)), ((t_q 17), .inl (K 0, 40, .inl (fun j => iI (t_17_c j)))), ((t_q 46), .inl (K 0, 12, .inl (fun j => iI (c27_t_46 j)))), ((t_q 45), .inl (K 0, 12, .inl (fun j => iI (t_45_c j)))), ((t_q 20), .inl (K 0, 480, .inl (fun j => iI (t_20_c j)))), ((t_q 26), .inl (K 0, 24, .inl (fun j => iI (t_26_c j))))] H → va_D A [(t, .inr (12, oX12 t_q t_x0 t_x6 t_x7 t_x8 t_x9 t_x10 t_x11 t_x12 t_x13 t_x14 t_x15 t_x32 t_x33 t_x34 t_x35 t_x39 t_x40 t_x43 t_x44 t_x48 t_x49 t_x50)), ((t_q 17), .inl (K 0, 40, .inl (fun j => iI (t_17_c j)))), ((t_q 46), .inl (K 0, 12, .inl (fun j => iI (c27_t_46 j)))), ((t_q 45), .inl (K 0, 12, .inl (fun j => iI (t_45_c j)))), ((t_q 20), .inl (K 0, 480, .inl (fun j => iI (t_20_c j)))), ((t_q 26), .inl (K 0, 24, .inl (fun j => iI (t_26_c j))))] → va_S A s.heap H locs → lv_has ls 5 [(0, .ref t), (1, .int (iI x27_1))] → W p l e ({ frames := 4, cells := 0, slots := 0, locals := 100 } : Room) s m ag below meth c H locs 0 0 Q (F0 m 27 ls []) := by
    intro n
    induction n with
    | zero =>
      intro x27_1 c27_t_46 H locs ls hm27 hf27 hc27_t_46 hP hD hS hl
      exact absurd hm27 (Nat.not_lt_zero _)
    | succ n ih27 =>
      intro x27_1 c27_t_46 H locs ls hm27 hf27 hc27_t_46 hP hD hS hl
      have J107 : ∀ (n : Nat) (x107_2 : Int) (x107_3 : Int) (x107_4 : Int) (c107_t_46 : Nat → Int) (H : Heap) (locs : List Loc) (ls : Array Slot), (24 - x107_4).toNat < n → (0 ≤ x27_1 ∧ x27_1 ≤ 11 ∧ (-2147483648) ≤ x107_2 ∧ x107_2 ≤ 2147483647 ∧ (-2147483648) ≤ x107_3 ∧ x107_3 ≤ 2147483647 ∧ 0 ≤ x107_4 ∧ x107_4 ≤ 24) → (∀ j : Nat, (-2147483648) ≤ c107_t_46 j ∧ c107_t_46 j ≤ 2147483647) → va_P D vwCl [(t, .inr (12, oX12 t_q t_x0 t_x6 t_x7 t_x8 t_x9 t_x10 t_x11 t_x12 t_x13 t_x14 t_x15 t_x32 t_x33 t_x34 t_x35 t_x39 t_x40 t_x43 t_x44 t_x48 t_x49 t_x50)), ((t_q 17), .inl (K 0, 40, .inl (fun j => iI (t_17_c j)))), ((t_q 46), .inl (K 0, 12, .inl (fun j => iI (c107_t_46 j)))), ((t_q 45), .inl (K 0, 12, .inl (fun j => iI (t_45_c j)))), ((t_q 20), .inl (K 0, 480, .inl (fun j => iI (t_20_c j)))), ((t_q 26), .inl (K 0, 24, .inl (fun j => iI (t_26_c j))))] H → va_D A [(t, .inr (12, oX12 t_q t_x0 t_x6 t_x7 t_x8 t_x9 t_x10 t_x11 t_x12 t_x13 t_x14 t_x15 t_x32 t_x33 t_x34 t_x35 t_x39 t_x40 t_x43 t_x44 t_x48 t_x49 t_x50)), ((t_q 17), .inl (K 0, 40, .inl (fun j => iI (t_17_c j)))), ((t_q 46), .inl (K 0, 12, .inl (fun j => iI (c107_t_46 j)))), ((t_q 45), .inl (K 0, 12, .inl (fun j => iI (t_45_c j)))), ((t_q 20), .inl (K 0, 480, .inl (fun j => iI (t_20_c j)))), ((t_q 26), .inl (K 0, 24, .inl (fun j => iI (t_26_c j))))] → va_S A s.heap H locs → lv_has ls 5 [(0, .ref t), (1, .int (iI x27_1)), (2, .int (iI x107_2)), (3, .int (iI x107_3)), (4, .int (iI x107_4))] → W p l e ({ frames := 4, cells := 0, slots := 0, locals := 100 } : Room) s m ag below meth c H locs 0 0 Q (F0 m 107 ls []) := by
        intro n
        induction n with
        | zero =>
          intro x107_2 x107_3 x107_4 c107_t_46 H locs ls hm107 hf107 hc107_t_46 hP hD hS hl
          exact absurd hm107 (Nat.not_lt_zero _)
        | succ n ih107 =>
          intro x107_2 x107_3 x107_4 c107_t_46 H locs ls hm107 hf107 hc107_t_46 hP hD hS hl
          have J158 : ∀ (c158_t_46 : Nat → Int) (H : Heap) (locs : List Loc) (ls : Array Slot), (0 ≤ x27_1 ∧ x27_1 ≤ 11 ∧ 0 ≤ x107_4 ∧ x107_4 ≤ 23) → (∀ j : Nat, (-2147483648) ≤ c158_t_46 j ∧ c158_t_46 j ≤ 2147483647) → va_P D vwCl [(t, .inr (12, oX12 t_q t_x0 t_x6 t_x7 t_x8 t_x9 t_x10 t_x11 t_x12 t_x13 t_x14 t_x15 t_x32 t_x33 t_x34 t_x35 t_x39 t_x40 t_x43 t_x44 t_x48 t_x49 t_x50)), ((t_q 17), .inl (K 0, 40, .inl (fun j => iI (t_17_c j)))), ((t_q 46), .inl (K 0, 12, .inl (fun j => iI (c158_t_46 j)))), ((t_q 45), .inl (K 0, 12, .inl (fun j => iI (t_45_c j)))), ((t_q 20), .inl (K 0, 480, .inl (fun j => iI (t_20_c j)))), ((t_q 26), .inl (K 0, 24, .inl (fun j => iI (t_26_c j))))] H → va_D A [(t, .inr (12, oX12 t_q t_x0 t_x6 t_x7 t_x8 t_x9 t_x10 t_x11 t_x12 t_x13 t_x14 t_x15 t_x32 t_x33 t_x34 t_x35 t_x39 t_x40 t_x43 t_x44 t_x48 t_x49 t_x50)), ((t_q 17), .inl (K 0, 40, .inl (fun j => iI (t_17_c j)))), ((t_q 46), .inl (K 0, 12, .inl (fun j => iI (c158_t_46 j)))), ((t_q 45), .inl (K 0, 12, .inl (fun j => iI (t_45_c j)))), ((t_q 20), .inl (K 0, 480, .inl (fun j => iI (t_20_c j)))), ((t_q 26), .inl (K 0, 24, .inl (fun j => iI (t_26_c j))))] → va_S A s.heap H locs → lv_has ls 5 [(0, .ref t), (1, .int (iI x27_1)), (2, .int (iI x107_2)), (3, .int (iI x107_3)), (4, .int (iI x107_4))] → W p l e ({ frames := 4, cells := 0, slots := 0, locals := 100 } : Room) s m ag below meth c H locs 0 0 Q (F0 m 158 ls []) := by
            intro c158_t_46 H locs ls hf158 hc158_t_46 hP hD hS hl
            refine lv_iinc (v := iI (x107_4 + 1)) (lv' := [(4, .int (iI (x107_4 + 1))), (0, .ref t), (1, .int (iI x27_1)), (2, .int (iI x107_2)), (3, .int (iI x107_3))]) hx hb dX12_gives_158 hl (k := 4) rfl (iI_add _ _) (by decide) rfl (fun ls hl => ?_)
            refine lv_goto (tgt := 107) hx hb dX12_gives_161 (by decide) ?_
            exact ih107 x107_2 x107_3 (x107_4 + 1) c158_t_46 _ _ ls (by omega) (by omega) hc158_t_46 (hP.sub [0, 1, 2, 3, 4, 5] rfl) (hD.sub [0, 1, 2, 3, 4, 5] (by decide) rfl) hS (lv_sub hl [1, 2, 3, 4, 0] rfl)
          refine lv_iload hx hb dX12_gives_107 (lv_at hl 4 rfl) ?_
          refine lv_aload_n hx hb dX12_gives_109 rfl (lv_at hl 0 rfl) ?_
          refine va_get (D := D) (own := RX12) (ci := 12) (v := .ref (t_q 17)) (C := RX12) (T := TX12) (N := 51) hx hb hts inb_X12 hown hK.1 hP 0 rfl rfl 17 (by decide) (hts _ wd_1251) (fun _ h9 => h9) rfl dX12_gives_110 ?_
          refine lv_iconst (v := iI 4) hx hb dX12_gives_113 rfl ?_
          refine g_iald hx hb hK.1 hP 1 0 rfl rfl (by omega) (by omega) (by decide) dX12_gives_114 ?_
          refine fn_top (iI (t_17_c 4)) rfl ?_
          have y114 : 0 ≤ (t_17_c 4) ∧ (t_17_c 4) ≤ 24 := (hc_t_17 4).2.2.2.2.1 (by omega)
          refine g_icmp_ge (tgt := 164) hx hb (by omega) (by omega) dX12_gives_115 (by decide) (fun c115 => ?_) (fun c115 => ?_)
          · refine lv_aload_n hx hb dX12_gives_164 rfl (lv_at hl 0 rfl) ?_
            refine va_get (D := D) (own := RX12) (ci := 12) (v := .ref (t_q 46)) (C := RX12) (T := TX12) (N := 51) hx hb hts inb_X12 hown hK.1 hP 0 rfl rfl 46 (by decide) (hts _ wd_1280) (fun _ h9 => h9) rfl dX12_gives_165 ?_
            refine lv_iload_n hx hb dX12_gives_168 rfl (lv_at hl 1 rfl) ?_
            refine lv_dup2_11 hx hb dX12_gives_169 rfl rfl ?_
            refine g_iald hx hb hK.1 hP 2 0 rfl rfl (by omega) (by omega) (by decide) dX12_gives_170 ?_
            have y170 : (-2147483648) ≤ (c107_t_46 x27_1.toNat) ∧ (c107_t_46 x27_1.toNat) ≤ 2147483647 := hc107_t_46 x27_1.toNat
            refine lv_aload_n hx hb dX12_gives_171 rfl (lv_at hl 0 rfl) ?_
            refine va_get (D := D) (own := RX12) (ci := 12) (v := .ref (t_q 45)) (C := RX12) (T := TX12) (N := 51) hx hb hts inb_X12 hown hK.1 hP 0 rfl rfl 45 (by decide) (hts _ wd_1279) (fun _ h9 => h9) rfl dX12_gives_172 ?_
            refine lv_iload_n hx hb dX12_gives_175 rfl (lv_at hl 1 rfl) ?_
            refine g_iald hx hb hK.1 hP 3 0 rfl rfl (by omega) (by omega) (by decide) dX12_gives_176 ?_
            have y176 : (-2147483648) ≤ (t_45_c x27_1.toNat) ∧ (t_45_c x27_1.toNat) ≤ 2147483647 := hc_t_45 x27_1.toNat
            refine lv_iload_n hx hb dX12_gives_177 rfl (lv_at hl 2 rfl) ?_
            refine lv_iload_n hx hb dX12_gives_178 rfl (lv_at hl 3 rfl) ?_
            refine g_imul hx hb dX12_gives_179 ?_
            refine g_any (fun w179 hw179 ew179 => ?_)
            refine g_isub hx hb dX12_gives_180 ?_
            refine g_any (fun w180 hw180 ew180 => ?_)
            refine fn_at 181 rfl ?_
            refine g_iadd hx hb dX12_gives_181 ?_
            refine g_any (fun w181 hw181 ew181 => ?_)
            refine g_iast hx hb hK.1 hP hD hS 2 0 rfl rfl (by omega) (by omega) (by decide) dX12_gives_182 (fun H locs g182 eg182 hP hD hS => ?_)
            have hg182 : ∀ j : Nat, (-2147483648) ≤ g182 j ∧ g182 j ≤ 2147483647 := by rw [eg182]; exact uI_all hc107_t_46 (by omega)
            have hP : va_P D vwCl [(t, .inr (12, oX12 t_q t_x0 t_x6 t_x7 t_x8 t_x9 t_x10 t_x11 t_x12 t_x13 t_x14 t_x15 t_x32 t_x33 t_x34 t_x35 t_x39 t_x40 t_x43 t_x44 t_x48 t_x49 t_x50)), ((t_q 17), .inl (K 0, 40, .inl (fun j => iI (t_17_c j)))), ((t_q 46), .inl (K 0, 12, .inl (fun j => iI (g182 j)))), ((t_q 45), .inl (K 0, 12, .inl (fun j => iI (t_45_c j)))), ((t_q 20), .inl (K 0, 480, .inl (fun j => iI (t_20_c j)))), ((t_q 26), .inl (K 0, 24, .inl (fun j => iI (t_26_c j))))] H := hP
            have hD : va_D A [(t, .inr (12, oX12 t_q t_x0 t_x6 t_x7 t_x8 t_x9 t_x10 t_x11 t_x12 t_x13 t_x14 t_x15 t_x32 t_x33 t_x34 t_x35 t_x39 t_x40 t_x43 t_x44 t_x48 t_x49 t_x50)), ((t_q 17), .inl (K 0, 40, .inl (fun j => iI (t_17_c j)))), ((t_q 46), .inl (K 0, 12, .inl (fun j => iI (g182 j)))), ((t_q 45), .inl (K 0, 12, .inl (fun j => iI (t_45_c j)))), ((t_q 20), .inl (K 0, 480, .inl (fun j => iI (t_20_c j)))), ((t_q 26), .inl (K 0, 24, .inl (fun j => iI (t_26_c j))))] := hD
            refine lv_iinc (v := iI (x27_1 + 1)) (lv' := [(1, .int (iI (x27_1 + 1))), (0, .ref t), (2, .int (iI x107_2)), (3, .int (iI x107_3)), (4, .int (iI x107_4))]) hx hb dX12_gives_183 hl (k := 1) rfl (iI_add _ _) (by decide) rfl (fun ls hl => ?_)
            refine lv_goto (tgt := 27) hx hb dX12_gives_186 (by decide) ?_
            exact ih27 (x27_1 + 1) g182 _ _ ls (by omega) (by omega) hg182 (hP.sub [0, 1, 2, 3, 4, 5] rfl) (hD.sub [0, 1, 2, 3, 4, 5] (by decide) rfl) hS (lv_sub hl [1, 0] rfl)
          · refine lv_aload_n hx hb dX12_gives_118 rfl (lv_at hl 0 rfl) ?_
            refine va_get (D := D) (own := RX12) (ci := 12) (v := .ref (t_q 20)) (C := RX12) (T := TX12) (N := 51) hx hb hts inb_X12 hown hK.1 hP 0 rfl rfl 20 (by decide) (hts _ wd_1254) (fun _ h9 => h9) rfl dX12_gives_119 ?_
            refine lv_iconst (v := iI 4) hx hb dX12_gives_122 rfl ?_
            refine lv_iload hx hb dX12_gives_123 (lv_at hl 4 rfl) ?_
            refine g_imul hx hb dX12_gives_125 ?_
            refine g_iald hx hb hK.1 hP 4 0 rfl rfl (by omega) (by omega) (by decide) dX12_gives_126 ?_
            have y126 : 0 ≤ (t_20_c ((4 * x107_4).toNat)) ∧ (t_20_c ((4 * x107_4).toNat)) ≤ 11 := (hc_t_20 ((4 * x107_4).toNat)).1 (by omega)
            refine lv_iload_n hx hb dX12_gives_127 rfl (lv_at hl 1 rfl) ?_
            refine g_icmp_ne (tgt := 158) hx hb (by omega) (by omega) dX12_gives_128 (by decide) (fun c128 => ?_) (fun c128 => ?_)
            · exact J158 c107_t_46 _ _ ls (by omega) hc107_t_46 (hP.sub [0, 1, 2, 3, 4, 5] rfl) (hD.sub [0, 1, 2, 3, 4, 5] (by decide) rfl) hS (lv_sub hl [0, 1, 2, 3, 4] rfl)
            · refine lv_aload_n hx hb dX12_gives_131 rfl (lv_at hl 0 rfl) ?_
              refine va_get (D := D) (own := RX12) (ci := 12) (v := .ref (t_q 26)) (C := RX12) (T := TX12) (N := 51) hx hb hts inb_X12 hown hK.1 hP 0 rfl rfl 26 (by decide) (hts _ wd_1260) (fun _ h9 => h9) rfl dX12_gives_132 ?_
              refine lv_iload hx hb dX12_gives_135 (lv_at hl 4 rfl) ?_
              refine g_iald hx hb hK.1 hP 5 0 rfl rfl (by omega) (by omega) (by decide) dX12_gives_137 ?_
              have y137 : (-1) ≤ (t_26_c x107_4.toNat) ∧ (t_26_c x107_4.toNat) ≤ 11 := hc_t_26 x107_4.toNat
              refine lv_iconst (v := iI (-1)) hx hb dX12_gives_138 rfl ?_
              refine fn_at 139 rfl ?_
              refine g_icmp_eq (tgt := 158) hx hb (by omega) (by omega) dX12_gives_139 (by decide) (fun c139 => ?_) (fun c139 => ?_)
              · exact J158 c107_t_46 _ _ ls (by omega) hc107_t_46 (hP.sub [0, 1, 2, 3, 4, 5] rfl) (hD.sub [0, 1, 2, 3, 4, 5] (by decide) rfl) hS (lv_sub hl [0, 1, 2, 3, 4] rfl)
              · refine lv_aload_n hx hb dX12_gives_142 rfl (lv_at hl 0 rfl) ?_
                refine va_get (D := D) (own := RX12) (ci := 12) (v := .ref (t_q 46)) (C := RX12) (T := TX12) (N := 51) hx hb hts inb_X12 hown hK.1 hP 0 rfl rfl 46 (by decide) (hts _ wd_1280) (fun _ h9 => h9) rfl dX12_gives_143 ?_
                refine lv_aload_n hx hb dX12_gives_146 rfl (lv_at hl 0 rfl) ?_
                refine va_get (D := D) (own := RX12) (ci := 12) (v := .ref (t_q 26)) (C := RX12) (T := TX12) (N := 51) hx hb hts inb_X12 hown hK.1 hP 0 rfl rfl 26 (by decide) (hts _ wd_1260) (fun _ h9 => h9) rfl dX12_gives_147 ?_
                refine lv_iload hx hb dX12_gives_150 (lv_at hl 4 rfl) ?_
                refine g_iald hx hb hK.1 hP 5 0 rfl rfl (by omega) (by omega) (by decide) dX12_gives_152 ?_
                refine lv_dup2_11 hx hb dX12_gives_153 rfl rfl ?_
                refine g_iald hx hb hK.1 hP 2 0 rfl rfl (by omega) (by omega) (by decide) dX12_gives_154 ?_
                have y154 : (-2147483648) ≤ (c107_t_46 ((t_26_c x107_4.toNat).toNat)) ∧ (c107_t_46 ((t_26_c x107_4.toNat).toNat)) ≤ 2147483647 := hc107_t_46 ((t_26_c x107_4.toNat).toNat)
                refine lv_iload_n hx hb dX12_gives_155 rfl (lv_at hl 3 rfl) ?_
                refine g_iadd hx hb dX12_gives_156 ?_
                refine g_any (fun w156 hw156 ew156 => ?_)
                refine g_iast hx hb hK.1 hP hD hS 2 0 rfl rfl (by omega) (by omega) (by decide) dX12_gives_157 (fun H locs g157 eg157 hP hD hS => ?_)
                have hg157 : ∀ j : Nat, (-2147483648) ≤ g157 j ∧ g157 j ≤ 2147483647 := by rw [eg157]; exact uI_all hc107_t_46 (by omega)
                have hP : va_P D vwCl [(t, .inr (12, oX12 t_q t_x0 t_x6 t_x7 t_x8 t_x9 t_x10 t_x11 t_x12 t_x13 t_x14 t_x15 t_x32 t_x33 t_x34 t_x35 t_x39 t_x40 t_x43 t_x44 t_x48 t_x49 t_x50)), ((t_q 17), .inl (K 0, 40, .inl (fun j => iI (t_17_c j)))), ((t_q 46), .inl (K 0, 12, .inl (fun j => iI (g157 j)))), ((t_q 45), .inl (K 0, 12, .inl (fun j => iI (t_45_c j)))), ((t_q 20), .inl (K 0, 480, .inl (fun j => iI (t_20_c j)))), ((t_q 26), .inl (K 0, 24, .inl (fun j => iI (t_26_c j))))] H := hP
                have hD : va_D A [(t, .inr (12, oX12 t_q t_x0 t_x6 t_x7 t_x8 t_x9 t_x10 t_x11 t_x12 t_x13 t_x14 t_x15 t_x32 t_x33 t_x34 t_x35 t_x39 t_x40 t_x43 t_x44 t_x48 t_x49 t_x50)), ((t_q 17), .inl (K 0, 40, .inl (fun j => iI (t_17_c j)))), ((t_q 46), .inl (K 0, 12, .inl (fun j => iI (g157 j)))), ((t_q 45), .inl (K 0, 12, .inl (fun j => iI (t_45_c j)))), ((t_q 20), .inl (K 0, 480, .inl (fun j => iI (t_20_c j)))), ((t_q 26), .inl (K 0, 24, .inl (fun j => iI (t_26_c j))))] := hD
                exact J158 g157 _ _ ls (by omega) hg157 (hP.sub [0, 1, 2, 3, 4, 5] rfl) (hD.sub [0, 1, 2, 3, 4, 5] (by decide) rfl) hS (lv_sub hl [0, 1, 2, 3, 4] rfl)
      have J103 : ∀ (x103_2 : Int) (x103_3 : Int) (z103_0 : Int) (H : Heap) (locs : List Loc) (ls : Array Slot), (0 ≤ x27_1 ∧ x27_1 ≤ 11 ∧ (-2147483648) ≤ x103_2 ∧ x103_2 ≤ 2147483647 ∧ 0 ≤ x103_3 ∧ x103_3 ≤ 24 ∧ (-2147483648) ≤ z103_0 ∧ z103_0 ≤ 2147483647) → va_P D vwCl [(t, .inr (12, oX12 t_q t_x0 t_x6 t_x7 t_x8 t_x9 t_x10 t_x11 t_x12 t_x13 t_x14 t_x15 t_x32 t_x33 t_x34 t_x35 t_x39 t_x40 t_x43 t_x44 t_x48 t_x49 t_x50)), ((t_q 17), .inl (K 0, 40, .inl (fun j => iI (t_17_c j)))), ((t_q 46), .inl (K 0, 12, .inl (fun j => iI (c27_t_46 j)))), ((t_q 45), .inl (K 0, 12, .inl (fun j => iI (t_45_c j)))), ((t_q 20), .inl (K 0, 480, .inl (fun j => iI (t_20_c j)))), ((t_q 26), .inl (K 0, 24, .inl (fun j => iI (t_26_c j))))] H → va_D A [(t, .inr (12, oX12 t_q t_x0 t_x6 t_x7 t_x8 t_x9 t_x10 t_x11 t_x12 t_x13 t_x14 t_x15 t_x32 t_x33 t_x34 t_x35 t_x39 t_x40 t_x43 t_x44 t_x48 t_x49 t_x50)), ((t_q 17), .inl (K 0, 40, .inl (fun j => iI (t_17_c j)))), ((t_q 46), .inl (K 0, 12, .inl (fun j => iI (c27_t_46 j)))), ((t_q 45), .inl (K 0, 12, .inl (fun j => iI (t_45_c j)))), ((t_q 20), .inl (K 0, 480, .inl (fun j => iI (t_20_c j)))), ((t_q 26), .inl (K 0, 24, .inl (fun j => iI (t_26_c j))))] → va_S A s.heap H locs → lv_has ls 5 [(0, .ref t), (1, .int (iI x27_1)), (2, .int (iI x103_2)), (3, .int (iI x103_3))] → W p l e ({ frames := 4, cells := 0, slots := 0, locals := 100 } : Room) s m ag below meth c H locs 0 0 Q (F0 m 103 ls [.int (iI z103_0)]) := by
        intro x103_2 x103_3 z103_0 H locs ls hf103 hP hD hS hl
        refine lv_istore_n (lv' := [(3, .int (iI z103_0)), (0, .ref t), (1, .int (iI x27_1)), (2, .int (iI x103_2))]) hx hb dX12_gives_103 rfl hl (by decide) rfl (fun ls hl => ?_)
        refine lv_iconst (v := iI 0) hx hb dX12_gives_104 rfl ?_
        refine lv_istore (lv' := [(4, .int (iI 0)), (3, .int (iI z103_0)), (0, .ref t), (1, .int (iI x27_1)), (2, .int (iI x103_2))]) hx hb dX12_gives_105 hl (by decide) rfl (fun ls hl => ?_)
        exact J107 _ x103_2 z103_0 0 c27_t_46 _ _ ls (Nat.lt_succ_self _) (by omega) hc27_t_46 (hP.sub [0, 1, 2, 3, 4, 5] rfl) (hD.sub [0, 1, 2, 3, 4, 5] (by decide) rfl) hS (lv_sub hl [2, 3, 4, 1, 0] rfl)
      have J41 : ∀ (n : Nat) (x41_2 : Int) (x41_3 : Int) (H : Heap) (locs : List Loc) (ls : Array Slot), (24 - x41_3).toNat < n → (0 ≤ x27_1 ∧ x27_1 ≤ 11 ∧ (-2147483648) ≤ x41_2 ∧ x41_2 ≤ 2147483647 ∧ 0 ≤ x41_3 ∧ x41_3 ≤ 24) → va_P D vwCl [(t, .inr (12, oX12 t_q t_x0 t_x6 t_x7 t_x8 t_x9 t_x10 t_x11 t_x12 t_x13 t_x14 t_x15 t_x32 t_x33 t_x34 t_x35 t_x39 t_x40 t_x43 t_x44 t_x48 t_x49 t_x50)), ((t_q 17), .inl (K 0, 40, .inl (fun j => iI (t_17_c j)))), ((t_q 46), .inl (K 0, 12, .inl (fun j => iI (c27_t_46 j)))), ((t_q 45), .inl (K 0, 12, .inl (fun j => iI (t_45_c j)))), ((t_q 20), .inl (K 0, 480, .inl (fun j => iI (t_20_c j)))), ((t_q 26), .inl (K 0, 24, .inl (fun j => iI (t_26_c j))))] H → va_D A [(t, .inr (12, oX12 t_q t_x0 t_x6 t_x7 t_x8 t_x9 t_x10 t_x11 t_x12 t_x13 t_x14 t_x15 t_x32 t_x33 t_x34 t_x35 t_x39 t_x40 t_x43 t_x44 t_x48 t_x49 t_x50)), ((t_q 17), .inl (K 0, 40, .inl (fun j => iI (t_17_c j)))), ((t_q 46), .inl (K 0, 12, .inl (fun j => iI (c27_t_46 j)))), ((t_q 45), .inl (K 0, 12, .inl (fun j => iI (t_45_c j)))), ((t_q 20), .inl (K 0, 480, .inl (fun j => iI (t_20_c j)))), ((t_q 26), .inl (K 0, 24, .inl (fun j => iI (t_26_c j))))] → va_S A s.heap H locs → lv_has ls 5 [(0, .ref t), (1, .int (iI x27_1)), (2, .int (iI x41_2)), (3, .int (iI x41_3))] → W p l e ({ frames := 4, cells := 0, slots := 0, locals := 100 } : Room) s m ag below meth c H locs 0 0 Q (F0 m 41 ls []) := by
        intro n
        induction n with
        | zero =>
          intro x41_2 x41_3 H locs ls hm41 hf41 hP hD hS hl
          exact absurd hm41 (Nat.not_lt_zero _)
        | succ n ih41 =>
          intro x41_2 x41_3 H locs ls hm41 hf41 hP hD hS hl
          have J79 : ∀ (z79_1 : Int) (H : Heap) (locs : List Loc) (ls : Array Slot), (0 ≤ x27_1 ∧ x27_1 ≤ 11 ∧ 0 ≤ x41_3 ∧ x41_3 ≤ 23 ∧ 0 ≤ z79_1 ∧ z79_1 ≤ 1) → va_P D vwCl [(t, .inr (12, oX12 t_q t_x0 t_x6 t_x7 t_x8 t_x9 t_x10 t_x11 t_x12 t_x13 t_x14 t_x15 t_x32 t_x33 t_x34 t_x35 t_x39 t_x40 t_x43 t_x44 t_x48 t_x49 t_x50)), ((t_q 17), .inl (K 0, 40, .inl (fun j => iI (t_17_c j)))), ((t_q 46), .inl (K 0, 12, .inl (fun j => iI (c27_t_46 j)))), ((t_q 45), .inl (K 0, 12, .inl (fun j => iI (t_45_c j)))), ((t_q 20), .inl (K 0, 480, .inl (fun j => iI (t_20_c j)))), ((t_q 26), .inl (K 0, 24, .inl (fun j => iI (t_26_c j))))] H → va_D A [(t, .inr (12, oX12 t_q t_x0 t_x6 t_x7 t_x8 t_x9 t_x10 t_x11 t_x12 t_x13 t_x14 t_x15 t_x32 t_x33 t_x34 t_x35 t_x39 t_x40 t_x43 t_x44 t_x48 t_x49 t_x50)), ((t_q 17), .inl (K 0, 40, .inl (fun j => iI (t_17_c j)))), ((t_q 46), .inl (K 0, 12, .inl (fun j => iI (c27_t_46 j)))), ((t_q 45), .inl (K 0, 12, .inl (fun j => iI (t_45_c j)))), ((t_q 20), .inl (K 0, 480, .inl (fun j => iI (t_20_c j)))), ((t_q 26), .inl (K 0, 24, .inl (fun j => iI (t_26_c j))))] → va_S A s.heap H locs → lv_has ls 5 [(0, .ref t), (1, .int (iI x27_1)), (2, .int (iI x41_2)), (3, .int (iI x41_3))] → W p l e ({ frames := 4, cells := 0, slots := 0, locals := 100 } : Room) s m ag below meth c H locs 0 0 Q (F0 m 79 ls [.int (iI z79_1), .int (iI x41_2)]) := by
            intro z79_1 H locs ls hf79 hP hD hS hl
            refine g_iadd hx hb dX12_gives_79 ?_
            refine g_any (fun w79 hw79 ew79 => ?_)
            refine lv_istore_n (lv' := [(2, .int (iI w79)), (0, .ref t), (1, .int (iI x27_1)), (3, .int (iI x41_3))]) hx hb dX12_gives_80 rfl hl (by decide) rfl (fun ls hl => ?_)
            refine lv_iinc (v := iI (x41_3 + 1)) (lv' := [(3, .int (iI (x41_3 + 1))), (2, .int (iI w79)), (0, .ref t), (1, .int (iI x27_1))]) hx hb dX12_gives_81 hl (k := 3) rfl (iI_add _ _) (by decide) rfl (fun ls hl => ?_)
            refine lv_goto (tgt := 41) hx hb dX12_gives_84 (by decide) ?_
            exact ih41 w79 (x41_3 + 1) _ _ ls (by omega) (by omega) (hP.sub [0, 1, 2, 3, 4, 5] rfl) (hD.sub [0, 1, 2, 3, 4, 5] (by decide) rfl) hS (lv_sub hl [2, 3, 1, 0] rfl)
          have J78 : ∀  (H : Heap) (locs : List Loc) (ls : Array Slot), (0 ≤ x27_1 ∧ x27_1 ≤ 11 ∧ 0 ≤ x41_3 ∧ x41_3 ≤ 23) → va_P D vwCl [(t, .inr (12, oX12 t_q t_x0 t_x6 t_x7 t_x8 t_x9 t_x10 t_x11 t_x12 t_x13 t_x14 t_x15 t_x32 t_x33 t_x34 t_x35 t_x39 t_x40 t_x43 t_x44 t_x48 t_x49 t_x50)), ((t_q 17), .inl (K 0, 40, .inl (fun j => iI (t_17_c j)))), ((t_q 46), .inl (K 0, 12, .inl (fun j => iI (c27_t_46 j)))), ((t_q 45), .inl (K 0, 12, .inl (fun j => iI (t_45_c j)))), ((t_q 20), .inl (K 0, 480, .inl (fun j => iI (t_20_c j)))), ((t_q 26), .inl (K 0, 24, .inl (fun j => iI (t_26_c j))))] H → va_D A [(t, .inr (12, oX12 t_q t_x0 t_x6 t_x7 t_x8 t_x9 t_x10 t_x11 t_x12 t_x13 t_x14 t_x15 t_x32 t_x33 t_x34 t_x35 t_x39 t_x40 t_x43 t_x44 t_x48 t_x49 t_x50)), ((t_q 17), .inl (K 0, 40, .inl (fun j => iI (t_17_c j)))), ((t_q 46), .inl (K 0, 12, .inl (fun j => iI (c27_t_46 j)))), ((t_q 45), .inl (K 0, 12, .inl (fun j => iI (t_45_c j)))), ((t_q 20), .inl (K 0, 480, .inl (fun j => iI (t_20_c j)))), ((t_q 26), .inl (K 0, 24, .inl (fun j => iI (t_26_c j))))] → va_S A s.heap H locs → lv_has ls 5 [(0, .ref t), (1, .int (iI x27_1)), (2, .int (iI x41_2)), (3, .int (iI x41_3))] → W p l e ({ frames := 4, cells := 0, slots := 0, locals := 100 } : Room) s m ag below meth c H locs 0 0 Q (F0 m 78 ls [.int (iI x41_2)]) := by
            intro  H locs ls hf78 hP hD hS hl
            refine lv_iconst (v := iI 0) hx hb dX12_gives_78 rfl ?_
            exact J79 0 _ _ ls (by omega) (hP.sub [0, 1, 2, 3, 4, 5] rfl) (hD.sub [0, 1, 2, 3, 4, 5] (by decide) rfl) hS (lv_sub hl [0, 1, 2, 3] rfl)
          refine lv_iload_n hx hb dX12_gives_41 rfl (lv_at hl 3 rfl) ?_
          refine lv_aload_n hx hb dX12_gives_42 rfl (lv_at hl 0 rfl) ?_
          refine va_get (D := D) (own := RX12) (ci := 12) (v := .ref (t_q 17)) (C := RX12) (T := TX12) (N := 51) hx hb hts inb_X12 hown hK.1 hP 0 rfl rfl 17 (by decide) (hts _ wd_1251) (fun _ h9 => h9) rfl dX12_gives_43 ?_
          refine lv_iconst (v := iI 4) hx hb dX12_gives_46 rfl ?_
          refine g_iald hx hb hK.1 hP 1 0 rfl rfl (by omega) (by omega) (by decide) dX12_gives_47 ?_
          refine fn_top (iI (t_17_c 4)) rfl ?_
          have y47 : 0 ≤ (t_17_c 4) ∧ (t_17_c 4) ≤ 24 := (hc_t_17 4).2.2.2.2.1 (by omega)
          refine g_icmp_ge (tgt := 87) hx hb (by omega) (by omega) dX12_gives_48 (by decide) (fun c48 => ?_) (fun c48 => ?_)
          · refine lv_iload_n hx hb dX12_gives_87 rfl (lv_at hl 2 rfl) ?_
            refine g_if_ne (tgt := 95) hx hb (by omega) dX12_gives_88 (by decide) (fun c88 => ?_) (fun c88 => ?_)
            · refine lv_aload_n hx hb dX12_gives_95 rfl (lv_at hl 0 rfl) ?_
              refine va_get (D := D) (own := RX12) (ci := 12) (v := .ref (t_q 45)) (C := RX12) (T := TX12) (N := 51) hx hb hts inb_X12 hown hK.1 hP 0 rfl rfl 45 (by decide) (hts _ wd_1279) (fun _ h9 => h9) rfl dX12_gives_96 ?_
              refine lv_iload_n hx hb dX12_gives_99 rfl (lv_at hl 1 rfl) ?_
              refine g_iald hx hb hK.1 hP 3 0 rfl rfl (by omega) (by omega) (by decide) dX12_gives_100 ?_
              have y100 : (-2147483648) ≤ (t_45_c x27_1.toNat) ∧ (t_45_c x27_1.toNat) ≤ 2147483647 := hc_t_45 x27_1.toNat
              refine lv_iload_n hx hb dX12_gives_101 rfl (lv_at hl 2 rfl) ?_
              refine lv_idiv hx hb dX12_gives_102 (iI_n0 (by omega) (by omega)) ?_
              refine g_any (fun w102 hw102 ew102 => ?_)
              exact J103 x41_2 x41_3 w102 _ _ ls (by omega) (hP.sub [0, 1, 2, 3, 4, 5] rfl) (hD.sub [0, 1, 2, 3, 4, 5] (by decide) rfl) hS (lv_sub hl [0, 1, 2, 3] rfl)
            · refine lv_iconst (v := iI 0) hx hb dX12_gives_91 rfl ?_
              refine lv_goto (tgt := 103) hx hb dX12_gives_92 (by decide) ?_
              exact J103 x41_2 x41_3 0 _ _ ls (by omega) (hP.sub [0, 1, 2, 3, 4, 5] rfl) (hD.sub [0, 1, 2, 3, 4, 5] (by decide) rfl) hS (lv_sub hl [0, 1, 2, 3] rfl)
          · refine lv_iload_n hx hb dX12_gives_51 rfl (lv_at hl 2 rfl) ?_
            refine lv_aload_n hx hb dX12_gives_52 rfl (lv_at hl 0 rfl) ?_
            refine va_get (D := D) (own := RX12) (ci := 12) (v := .ref (t_q 20)) (C := RX12) (T := TX12) (N := 51) hx hb hts inb_X12 hown hK.1 hP 0 rfl rfl 20 (by decide) (hts _ wd_1254) (fun _ h9 => h9) rfl dX12_gives_53 ?_
            refine lv_iconst (v := iI 4) hx hb dX12_gives_56 rfl ?_
            refine lv_iload_n hx hb dX12_gives_57 rfl (lv_at hl 3 rfl) ?_
            refine g_imul hx hb dX12_gives_58 ?_
            refine g_iald hx hb hK.1 hP 4 0 rfl rfl (by omega) (by omega) (by decide) dX12_gives_59 ?_
            have y59 : 0 ≤ (t_20_c ((4 * x41_3).toNat)) ∧ (t_20_c ((4 * x41_3).toNat)) ≤ 11 := (hc_t_20 ((4 * x41_3).toNat)).1 (by omega)
            refine lv_iload_n hx hb dX12_gives_60 rfl (lv_at hl 1 rfl) ?_
            refine g_icmp_ne (tgt := 78) hx hb (by omega) (by omega) dX12_gives_61 (by decide) (fun c61 => ?_) (fun c61 => ?_)
            · exact J78  _ _ ls (by omega) (hP.sub [0, 1, 2, 3, 4, 5] rfl) (hD.sub [0, 1, 2, 3, 4, 5] (by decide) rfl) hS (lv_sub hl [0, 1, 2, 3] rfl)
            · refine lv_aload_n hx hb dX12_gives_64 rfl (lv_at hl 0 rfl) ?_
              refine va_get (D := D) (own := RX12) (ci := 12) (v := .ref (t_q 26)) (C := RX12) (T := TX12) (N := 51) hx hb hts inb_X12 hown hK.1 hP 0 rfl rfl 26 (by decide) (hts _ wd_1260) (fun _ h9 => h9) rfl dX12_gives_65 ?_
              refine lv_iload_n hx hb dX12_gives_68 rfl (lv_at hl 3 rfl) ?_
              refine g_iald hx hb hK.1 hP 5 0 rfl rfl (by omega) (by omega) (by decide) dX12_gives_69 ?_
              have y69 : (-1) ≤ (t_26_c x41_3.toNat) ∧ (t_26_c x41_3.toNat) ≤ 11 := hc_t_26 x41_3.toNat
              refine fn_at 70 rfl ?_
              refine lv_iconst (v := iI (-1)) hx hb dX12_gives_70 rfl ?_
              refine g_icmp_eq (tgt := 78) hx hb (by omega) (by omega) dX12_gives_71 (by decide) (fun c71 => ?_) (fun c71 => ?_)
              · exact J78  _ _ ls (by omega) (hP.sub [0, 1, 2, 3, 4, 5] rfl) (hD.sub [0, 1, 2, 3, 4, 5] (by decide) rfl) hS (lv_sub hl [0, 1, 2, 3] rfl)
              · refine lv_iconst (v := iI 1) hx hb dX12_gives_74 rfl ?_
                refine lv_goto (tgt := 79) hx hb dX12_gives_75 (by decide) ?_
                exact J79 1 _ _ ls (by omega) (hP.sub [0, 1, 2, 3, 4, 5] rfl) (hD.sub [0, 1, 2, 3, 4, 5] (by decide) rfl) hS (lv_sub hl [0, 1, 2, 3] rfl)
      refine lv_iload_n hx hb dX12_gives_27 rfl (lv_at hl 1 rfl) ?_
      refine lv_aload_n hx hb dX12_gives_28 rfl (lv_at hl 0 rfl) ?_
      refine va_get (D := D) (own := RX12) (ci := 12) (v := .ref (t_q 17)) (C := RX12) (T := TX12) (N := 51) hx hb hts inb_X12 hown hK.1 hP 0 rfl rfl 17 (by decide) (hts _ wd_1251) (fun _ h9 => h9) rfl dX12_gives_29 ?_
      refine lv_iconst (v := iI 3) hx hb dX12_gives_32 rfl ?_
      refine g_iald hx hb hK.1 hP 1 0 rfl rfl (by omega) (by omega) (by decide) dX12_gives_33 ?_
      refine fn_top (iI (t_17_c 3)) rfl ?_
      have y33 : 0 ≤ (t_17_c 3) ∧ (t_17_c 3) ≤ 12 := (hc_t_17 3).2.2.2.1 (by omega)
      refine g_icmp_ge (tgt := 189) hx hb (by omega) (by omega) dX12_gives_34 (by decide) (fun c34 => ?_) (fun c34 => ?_)
      · refine lv_iconst (v := iI 0) hx hb dX12_gives_189 rfl ?_
        refine lv_istore_n (lv' := [(1, .int (iI 0)), (0, .ref t)]) hx hb dX12_gives_190 rfl hl (by decide) rfl (fun ls hl => ?_)
        refine lv_iconst (v := iI 0) hx hb dX12_gives_191 rfl ?_
        refine lv_istore_n (lv' := [(2, .int (iI 0)), (1, .int (iI 0)), (0, .ref t)]) hx hb dX12_gives_192 rfl hl (by decide) rfl (fun ls hl => ?_)
        exact J193 _ 0 0 c27_t_46 t_45_c _ _ ls (Nat.lt_succ_self _) (by omega) hc27_t_46 hc_t_45 (hP.sub [0, 1, 2, 3, 4, 5] rfl) (hD.sub [0, 1, 2, 3, 4, 5] (by decide) rfl) hS (lv_sub hl [2, 1, 0] rfl)
      · refine lv_iconst (v := iI 0) hx hb dX12_gives_37 rfl ?_
        refine lv_istore_n (lv' := [(2, .int (iI 0)), (0, .ref t), (1, .int (iI x27_1))]) hx hb dX12_gives_38 rfl hl (by decide) rfl (fun ls hl => ?_)
        refine lv_iconst (v := iI 0) hx hb dX12_gives_39 rfl ?_
        refine lv_istore_n (lv' := [(3, .int (iI 0)), (2, .int (iI 0)), (0, .ref t), (1, .int (iI x27_1))]) hx hb dX12_gives_40 rfl hl (by decide) rfl (fun ls hl => ?_)
        exact J41 _ 0 0 _ _ ls (Nat.lt_succ_self _) (by omega) (hP.sub [0, 1, 2, 3, 4, 5] rfl) (hD.sub [0, 1, 2, 3, 4, 5] (by decide) rfl) hS (lv_sub hl [2, 3, 1, 0] rfl)
  have J2 : ∀ (n : Nat) (x2_1 : Int) (c2_t_46 : Nat → Int) (H : Heap) (locs : List Loc) (ls : Array Slot), (12 - x2_1).toNat < n → (0 ≤ x2_1 ∧ x2_1 ≤ 12) → (∀ j : Nat, (-2147483648) ≤ c2_t_46 j ∧ c2_t_46 j ≤ 2147483647) → va_P D vwCl [(t, .inr (12, oX12 t_q t_x0 t_x6 t_x7 t_x8 t_x9 t_x10 t_x11 t_x12 t_x13 t_x14 t_x15 t_x32 t_x33 t_x34 t_x35 t_x39 t_x40 t_x43 t_x44 t_x48 t_x49 t_x50)), ((t_q 17), .inl (K 0, 40, .inl (fun j => iI (t_17_c j)))), ((t_q 46), .inl (K 0, 12, .inl (fun j => iI (c2_t_46 j)))), ((t_q 45), .inl (K 0, 12, .inl (fun j => iI (t_45_c j)))), ((t_q 20), .inl (K 0, 480, .inl (fun j => iI (t_20_c j)))), ((t_q 26), .inl (K 0, 24, .inl (fun j => iI (t_26_c j))))] H → va_D A [(t, .inr (12, oX12 t_q t_x0 t_x6 t_x7 t_x8 t_x9 t_x10 t_x11 t_x12 t_x13 t_x14 t_x15 t_x32 t_x33 t_x34 t_x35 t_x39 t_x40 t_x43 t_x44 t_x48 t_x49 t_x50)), ((t_q 17), .inl (K 0, 40, .inl (fun j => iI (t_17_c j)))), ((t_q 46), .inl (K 0, 12, .inl (fun j => iI (c2_t_46 j)))), ((t_q 45), .inl (K 0, 12, .inl (fun j => iI (t_45_c j)))), ((t_q 20), .inl (K 0, 480, .inl (fun j => iI (t_20_c j)))), ((t_q 26), .inl (K 0, 24, .inl (fun j => iI (t_26_c j))))] → va_S A s.heap H locs → lv_has ls 5 [(0, .ref t), (1, .int (iI x2_1))] → W p l e ({ frames := 4, cells := 0, slots := 0, locals := 100 } : Room) s m ag below meth c H locs 0 0 Q (F0 m 2 ls []) := by
    intro n
    induction n with
    | zero =>
      intro x2_1 c2_t_46 H locs ls hm2 hf2 hc2_t_46 hP hD hS hl
      exact absurd hm2 (Nat.not_lt_zero _)
    | succ n ih2 =>
      intro x2_1 c2_t_46 H locs ls hm2 hf2 hc2_t_46 hP hD hS hl
      refine lv_iload_n hx hb dX12_gives_2 rfl (lv_at hl 1 rfl) ?_
      refine lv_aload_n hx hb dX12_gives_3 rfl (lv_at hl 0 rfl) ?_
      refine va_get (D := D) (own := RX12) (ci := 12) (v := .ref (t_q 17)) (C := RX12) (T := TX12) (N := 51) hx hb hts inb_X12 hown hK.1 hP 0 rfl rfl 17 (by decide) (hts _ wd_1251) (fun _ h9 => h9) rfl dX12_gives_4 ?_
      refine lv_iconst (v := iI 3) hx hb dX12_gives_7 rfl ?_
      refine g_iald hx hb hK.1 hP 1 0 rfl rfl (by omega) (by omega) (by decide) dX12_gives_8 ?_
      refine fn_top (iI (t_17_c 3)) rfl ?_
      have y8 : 0 ≤ (t_17_c 3) ∧ (t_17_c 3) ≤ 12 := (hc_t_17 3).2.2.2.1 (by omega)
      refine g_icmp_ge (tgt := 25) hx hb (by omega) (by omega) dX12_gives_9 (by decide) (fun c9 => ?_) (fun c9 => ?_)
      · refine lv_iconst (v := iI 0) hx hb dX12_gives_25 rfl ?_
        refine lv_istore_n (lv' := [(1, .int (iI 0)), (0, .ref t)]) hx hb dX12_gives_26 rfl hl (by decide) rfl (fun ls hl => ?_)
        exact J27 _ 0 c2_t_46 _ _ ls (Nat.lt_succ_self _) (by omega) hc2_t_46 (hP.sub [0, 1, 2, 3, 4, 5] rfl) (hD.sub [0, 1, 2, 3, 4, 5] (by decide) rfl) hS (lv_sub hl [1, 0] rfl)
      · refine lv_aload_n hx hb dX12_gives_12 rfl (lv_at hl 0 rfl) ?_
        refine va_get (D := D) (own := RX12) (ci := 12) (v := .ref (t_q 46)) (C := RX12) (T := TX12) (N := 51) hx hb hts inb_X12 hown hK.1 hP 0 rfl rfl 46 (by decide) (hts _ wd_1280) (fun _ h9 => h9) rfl dX12_gives_13 ?_
        refine lv_iload_n hx hb dX12_gives_16 rfl (lv_at hl 1 rfl) ?_
        refine lv_iconst (v := iI 0) hx hb dX12_gives_17 rfl ?_
        refine g_iast hx hb hK.1 hP hD hS 2 0 rfl rfl (by omega) (by omega) (by decide) dX12_gives_18 (fun H locs g18 eg18 hP hD hS => ?_)
        have hg18 : ∀ j : Nat, (-2147483648) ≤ g18 j ∧ g18 j ≤ 2147483647 := by rw [eg18]; exact uI_all hc2_t_46 (by omega)
        have hP : va_P D vwCl [(t, .inr (12, oX12 t_q t_x0 t_x6 t_x7 t_x8 t_x9 t_x10 t_x11 t_x12 t_x13 t_x14 t_x15 t_x32 t_x33 t_x34 t_x35 t_x39 t_x40 t_x43 t_x44 t_x48 t_x49 t_x50)), ((t_q 17), .inl (K 0, 40, .inl (fun j => iI (t_17_c j)))), ((t_q 46), .inl (K 0, 12, .inl (fun j => iI (g18 j)))), ((t_q 45), .inl (K 0, 12, .inl (fun j => iI (t_45_c j)))), ((t_q 20), .inl (K 0, 480, .inl (fun j => iI (t_20_c j)))), ((t_q 26), .inl (K 0, 24, .inl (fun j => iI (t_26_c j))))] H := hP
        have hD : va_D A [(t, .inr (12, oX12 t_q t_x0 t_x6 t_x7 t_x8 t_x9 t_x10 t_x11 t_x12 t_x13 t_x14 t_x15 t_x32 t_x33 t_x34 t_x35 t_x39 t_x40 t_x43 t_x44 t_x48 t_x49 t_x50)), ((t_q 17), .inl (K 0, 40, .inl (fun j => iI (t_17_c j)))), ((t_q 46), .inl (K 0, 12, .inl (fun j => iI (g18 j)))), ((t_q 45), .inl (K 0, 12, .inl (fun j => iI (t_45_c j)))), ((t_q 20), .inl (K 0, 480, .inl (fun j => iI (t_20_c j)))), ((t_q 26), .inl (K 0, 24, .inl (fun j => iI (t_26_c j))))] := hD
        refine lv_iinc (v := iI (x2_1 + 1)) (lv' := [(1, .int (iI (x2_1 + 1))), (0, .ref t)]) hx hb dX12_gives_19 hl (k := 1) rfl (iI_add _ _) (by decide) rfl (fun ls hl => ?_)
        refine lv_goto (tgt := 2) hx hb dX12_gives_22 (by decide) ?_
        exact ih2 (x2_1 + 1) g18 _ _ ls (by omega) (by omega) hg18 (hP.sub [0, 1, 2, 3, 4, 5] rfl) (hD.sub [0, 1, 2, 3, 4, 5] (by decide) rfl) hS (lv_sub hl [1, 0] rfl)
  have hl : lv_has ls 5 [(0, .ref t)] := hl
  refine lv_iconst (v := iI 0) hx hb dX12_gives_0 rfl ?_
  refine lv_istore_n (lv' := [(1, .int (iI 0)), (0, .ref t)]) hx hb dX12_gives_1 rfl hl (by decide) rfl (fun ls hl => ?_)
  exact J2 _ 0 t_46_c _ _ ls (Nat.lt_succ_self _) (by omega) hc_t_46 (hP.sub [0, 1, 2, 3, 4, 5] rfl) (hD.sub [0, 1, 2, 3, 4, 5] (by decide) rfl) hS (lv_sub hl [1, 0] rfl)
theorem wd_1860 : Cond.code ⟨"FootNotesModel", "gives", "()Z"⟩ prog_14_method_117_code 5 (Option.some Jvm.ClassFile.FieldType.boolean) ∈ fn_big := fn_tb (fn_l8 (List.mem_of_getElem? (i := 180) (by decide +kernel))) (by decide +kernel)
theorem wd_1857 : Cond.methodLink "FootNotesModel" 400 ⟨"FootNotesModel", "gives", "()Z"⟩ ∈ fn_big := fn_tb (fn_l8 (List.mem_of_getElem? (i := 177) (by decide +kernel))) (by decide +kernel)
theorem wd_1859 : Cond.instanceMethod ⟨"FootNotesModel", "gives", "()Z"⟩ ∈ fn_big := fn_tb (fn_l8 (List.mem_of_getElem? (i := 179) (by decide +kernel))) (by decide +kernel)
theorem wp_152 : Cond.selects "FootNotesModel" ⟨"FootNotesModel", "gives", "()Z"⟩ ⟨"FootNotesModel", "gives", "()Z"⟩ ∈ fn_big := fn_sel (q := (⟨"FootNotesModel", "gives", "()Z"⟩, 51)) 152 (by decide +kernel) (by decide +kernel)
theorem dX12_laysWorth_33 : decode cX12_laysWorth 33 = .ok (.iload_n 2, 1) := by decide +kernel
theorem dX12_laysWorth_34 : decode cX12_laysWorth 34 = .ok (.iload_n 1, 1) := by decide +kernel
theorem dX12_laysWorth_35 : decode cX12_laysWorth 35 = .ok (.if_icmp .ge 14, 3) := by decide +kernel
theorem dX12_laysWorth_49 : decode cX12_laysWorth 49 = .ok (.return_, 1) := by decide +kernel
theorem dX12_laysWorth_38 : decode cX12_laysWorth 38 = .ok (.aload_n 0, 1) := by decide +kernel
theorem dX12_laysWorth_39 : decode cX12_laysWorth 39 = .ok (.invokevirtual 400, 3) := by decide +kernel
theorem dX12_laysWorth_42 : decode cX12_laysWorth 42 = .ok (.pop, 1) := by decide +kernel
theorem dX12_laysWorth_43 : decode cX12_laysWorth 43 = .ok (.iinc 2 1, 3) := by decide +kernel
theorem dX12_laysWorth_46 : decode cX12_laysWorth 46 = .ok (.goto (-13), 3) := by decide +kernel
theorem dX12_laysWorth_6 : decode cX12_laysWorth 6 = .ok (.iload_n 2, 1) := by decide +kernel
theorem dX12_laysWorth_7 : decode cX12_laysWorth 7 = .ok (.aload_n 0, 1) := by decide +kernel
theorem dX12_laysWorth_8 : decode cX12_laysWorth 8 = .ok (.getfield 34, 3) := by decide +kernel
theorem dX12_laysWorth_11 : decode cX12_laysWorth 11 = .ok (.iconst 3, 1) := by decide +kernel
theorem dX12_laysWorth_12 : decode cX12_laysWorth 12 = .ok (.iaload, 1) := by decide +kernel
theorem dX12_laysWorth_13 : decode cX12_laysWorth 13 = .ok (.if_icmp .ge 18, 3) := by decide +kernel
theorem dX12_laysWorth_31 : decode cX12_laysWorth 31 = .ok (.iconst 0, 1) := by decide +kernel
theorem dX12_laysWorth_32 : decode cX12_laysWorth 32 = .ok (.istore_n 2, 1) := by decide +kernel
theorem dX12_laysWorth_16 : decode cX12_laysWorth 16 = .ok (.aload_n 0, 1) := by decide +kernel
theorem dX12_laysWorth_17 : decode cX12_laysWorth 17 = .ok (.getfield 95, 3) := by decide +kernel
theorem dX12_laysWorth_20 : decode cX12_laysWorth 20 = .ok (.iload_n 2, 1) := by decide +kernel
theorem dX12_laysWorth_21 : decode cX12_laysWorth 21 = .ok (.sipush 1000, 3) := by decide +kernel
theorem dX12_laysWorth_24 : decode cX12_laysWorth 24 = .ok (.iastore, 1) := by decide +kernel
theorem dX12_laysWorth_25 : decode cX12_laysWorth 25 = .ok (.iinc 2 1, 3) := by decide +kernel
theorem dX12_laysWorth_28 : decode cX12_laysWorth 28 = .ok (.goto (-22), 3) := by decide +kernel
theorem dX12_laysWorth_0 : decode cX12_laysWorth 0 = .ok (.aload_n 0, 1) := by decide +kernel
theorem dX12_laysWorth_1 : decode cX12_laysWorth 1 = .ok (.invokevirtual 286, 3) := by decide +kernel
theorem dX12_laysWorth_4 : decode cX12_laysWorth 4 = .ok (.iconst 0, 1) := by decide +kernel
theorem dX12_laysWorth_5 : decode cX12_laysWorth 5 = .ok (.istore_n 2, 1) := by decide +kernel
set_option maxHeartbeats 4000000 in
set_option maxRecDepth 100000 in
theorem k_X12_laysWorth (l : Launch) (D : va_G) (K : Nat → ClassId) (t : Nat) (t_q : Nat → Nat) (p1 t_x0 t_x6 t_x7 t_x8 t_x9 t_x10 t_x11 t_x12 t_x13 t_x14 t_x15 t_x32 t_x33 t_x34 t_x35 t_x39 t_x40 t_x43 t_x44 t_x48 t_x49 t_x50 : Int) (t_17_c : Nat → Int) (t_18_c : Nat → Int) (t_19_c : Nat → Int) (t_20_c : Nat → Int) (t_21_c : Nat → Int) (t_23_c : Nat → Int) (t_24_c : Nat → Int) (t_25_c : Nat → Int) (t_26_c : Nat → Int) (t_27_c : Nat → Int) (t_28_c : Nat → Int) (t_45_c : Nat → Int) (t_46_c : Nat → Int) (hp1 : 0 ≤ p1 ∧ p1 ≤ 40) (hi_t : bM12 t_x0 t_x6 t_x7 t_x8 t_x9 t_x10 t_x11 t_x12 t_x13 t_x14 t_x15 t_x32 t_x33 t_x34 t_x35 t_x39 t_x40 t_x43 t_x44 t_x48 t_x49 t_x50) (hc_t_17 : ∀ j : Nat, (j % 8 = 0 → 0 ≤ t_17_c j ∧ t_17_c j ≤ 20) ∧ (j % 8 = 1 → 0 ≤ t_17_c j ∧ t_17_c j ≤ 100) ∧ (j % 8 = 2 → 0 ≤ t_17_c j ∧ t_17_c j ≤ 5) ∧ (j % 8 = 3 → 0 ≤ t_17_c j ∧ t_17_c j ≤ 12) ∧ (j % 8 = 4 → 0 ≤ t_17_c j ∧ t_17_c j ≤ 24) ∧ (j % 8 = 5 → 0 ≤ t_17_c j ∧ t_17_c j ≤ 4095) ∧ (j % 8 = 6 → 0 ≤ t_17_c j ∧ t_17_c j ≤ 31) ∧ (j % 8 = 7 → 0 ≤ t_17_c j ∧ t_17_c j ≤ 40)) (hc_t_18 : ∀ j : Nat, (j % 2 = 0 → 0 ≤ t_18_c j ∧ t_18_c j ≤ 9) ∧ (j % 2 = 1 → 0 ≤ t_18_c j ∧ t_18_c j ≤ 4)) (hc_t_19 : ∀ j : Nat, 0 ≤ t_19_c j ∧ t_19_c j ≤ 4) (hc_t_20 : ∀ j : Nat, (j % 4 = 0 → 0 ≤ t_20_c j ∧ t_20_c j ≤ 11) ∧ (j % 4 = 1 → 0 ≤ t_20_c j ∧ t_20_c j ≤ 4) ∧ (j % 4 = 2 → 0 ≤ t_20_c j ∧ t_20_c j ≤ 29) ∧ (j % 4 = 3 → 0 ≤ t_20_c j ∧ t_20_c j ≤ 1)) (hc_t_21 : ∀ j : Nat, (j % 3 = 0 → 0 ≤ t_21_c j ∧ t_21_c j ≤ 2) ∧ (j % 3 = 1 → 0 ≤ t_21_c j ∧ t_21_c j ≤ 23) ∧ (j % 3 = 2 → 0 ≤ t_21_c j ∧ t_21_c j ≤ 29)) (hc_t_23 : ∀ j : Nat, (-2) ≤ t_23_c j ∧ t_23_c j ≤ 11) (hc_t_24 : ∀ j : Nat, 0 ≤ t_24_c j ∧ t_24_c j ≤ 30) (hc_t_25 : ∀ j : Nat, 0 ≤ t_25_c j ∧ t_25_c j ≤ 30) (hc_t_26 : ∀ j : Nat, (-1) ≤ t_26_c j ∧ t_26_c j ≤ 11) (hc_t_27 : ∀ j : Nat, (-1) ≤ t_27_c j ∧ t_27_c j ≤ 29) (hc_t_28 : ∀ j : Nat, 0 ≤ t_28_c j ∧ t_28_c j ≤ 4095) (hc_t_45 : ∀ j : Nat, (-2147483648) ≤ t_45_c j ∧ t_45_c j ≤ 2147483647) (hc_t_46 : ∀ j : Nat, (-2147483648) ≤ t_46_c j ∧ t_46_c j ≤ 2147483647) (ti : TI 0 t_17_c t_18_c t_19_c t_20_c t_21_c) : fn_CV (S := (Nat → Int) × (Nat → Nat → Int)) l D K yX12_laysWorth (fn_ws yX12_laysWorth cX12_laysWorth 3 none) ({ frames := 20, cells := 0, slots := 0, locals := 500 } : Room) [.ref t, .int (iI p1)] [(t, .inr (12, oX12 t_q t_x0 t_x6 t_x7 t_x8 t_x9 t_x10 t_x11 t_x12 t_x13 t_x14 t_x15 t_x32 t_x33 t_x34 t_x35 t_x39 t_x40 t_x43 t_x44 t_x48 t_x49 t_x50)), ((t_q 17), .inl (K 0, 40, .inl (fun j => iI (t_17_c j)))), ((t_q 18), .inl (K 0, 50, .inl (fun j => iI (t_18_c j)))), ((t_q 19), .inl (K 0, 60, .inl (fun j => iI (t_19_c j)))), ((t_q 20), .inl (K 0, 480, .inl (fun j => iI (t_20_c j)))), ((t_q 21), .inl (K 0, 600, .inl (fun j => iI (t_21_c j)))), ((t_q 23), .inl (K 0, 150, .inl (fun j => iI (t_23_c j)))), ((t_q 24), .inl (K 0, 5, .inl (fun j => iI (t_24_c j)))), ((t_q 25), .inl (K 0, 24, .inl (fun j => iI (t_25_c j)))), ((t_q 26), .inl (K 0, 24, .inl (fun j => iI (t_26_c j)))), ((t_q 27), .inl (K 0, 12, .inl (fun j => iI (t_27_c j)))), ((t_q 28), .inl (K 0, 12, .inl (fun j => iI (t_28_c j)))), ((t_q 45), .inl (K 0, 12, .inl (fun j => iI (t_45_c j)))), ((t_q 46), .inl (K 0, 12, .inl (fun j => iI (t_46_c j))))] (fun u => (∀ j : Nat, (-2) ≤ (u.2 0) j ∧ (u.2 0) j ≤ 11) ∧ (∀ j : Nat, 0 ≤ (u.2 1) j ∧ (u.2 1) j ≤ 30) ∧ (∀ j : Nat, 0 ≤ (u.2 2) j ∧ (u.2 2) j ≤ 30) ∧ (∀ j : Nat, (-1) ≤ (u.2 3) j ∧ (u.2 3) j ≤ 11) ∧ (∀ j : Nat, (-1) ≤ (u.2 4) j ∧ (u.2 4) j ≤ 29) ∧ (∀ j : Nat, 0 ≤ (u.2 5) j ∧ (u.2 5) j ≤ 4095) ∧ (∀ j : Nat, (-2147483648) ≤ (u.2 6) j ∧ (u.2 6) j ≤ 2147483647) ∧ (∀ j : Nat, (-2147483648) ≤ (u.2 7) j ∧ (u.2 7) j ≤ 2147483647) ∧ True) (fun u => [(t, .inr (12, oX12 t_q t_x0 t_x6 t_x7 t_x8 t_x9 t_x10 t_x11 t_x12 t_x13 t_x14 t_x15 t_x32 t_x33 t_x34 t_x35 t_x39 t_x40 t_x43 t_x44 t_x48 t_x49 t_x50)), ((t_q 17), .inl (K 0, 40, .inl (fun j => iI (t_17_c j)))), ((t_q 18), .inl (K 0, 50, .inl (fun j => iI (t_18_c j)))), ((t_q 19), .inl (K 0, 60, .inl (fun j => iI (t_19_c j)))), ((t_q 20), .inl (K 0, 480, .inl (fun j => iI (t_20_c j)))), ((t_q 21), .inl (K 0, 600, .inl (fun j => iI (t_21_c j)))), ((t_q 23), .inl (K 0, 150, .inl (fun j => iI ((u.2 0) j)))), ((t_q 24), .inl (K 0, 5, .inl (fun j => iI ((u.2 1) j)))), ((t_q 25), .inl (K 0, 24, .inl (fun j => iI ((u.2 2) j)))), ((t_q 26), .inl (K 0, 24, .inl (fun j => iI ((u.2 3) j)))), ((t_q 27), .inl (K 0, 12, .inl (fun j => iI ((u.2 4) j)))), ((t_q 28), .inl (K 0, 12, .inl (fun j => iI ((u.2 5) j)))), ((t_q 45), .inl (K 0, 12, .inl (fun j => iI ((u.2 6) j)))), ((t_q 46), .inl (K 0, 12, .inl (fun j => iI ((u.2 7) j))))]) 0 0 := by
  refine g_inV (cc := cX12_laysWorth) (maxL := 3) (ret := none) (by decide) rfl (Nat.le_of_ble_eq_true rfl) ?_
  intro p e s m below meth c A ls ag Q B hA hP hD hS hl hQ
  obtain ⟨hx, hb, hr, hml, hts, hown, hlocks, hin, hK⟩ := B
  have hown : s.vm.findClass RX12 = some m.cls := hown
  have hts := fun w h => hts w (List.mem_cons_of_mem _ h)
  have J33 : ∀ (n : Nat) (x33_2 : Int) (c33_t_23 : Nat → Int) (c33_t_24 : Nat → Int) (c33_t_25 : Nat → Int) (c33_t_26 : Nat → Int) (c33_t_27 : Nat → Int) (c33_t_28 : Nat → Int) (c33_t_45 : Nat → Int) (c33_t_46 : Nat → Int) (H : Heap) (locs : List Loc) (ls : Array Slot), (40 - x33_2).toNat < n → (0 ≤ x33_2 ∧ x33_2 ≤ 40) → (∀ j : Nat, (-2) ≤ c33_t_23 j ∧ c33_t_23 j ≤ 11) → (∀ j : Nat, 0 ≤ c33_t_24 j ∧ c33_t_24 j ≤ 30) → (∀ j : Nat, 0 ≤ c33_t_25 j ∧ c33_t_25 j ≤ 30) → (∀ j : Nat, (-1) ≤ c33_t_26 j ∧ c33_t_26 j ≤ 11) → (∀ j : Nat, (-1) ≤ c33_t_27 j ∧ c33_t_27 j ≤ 29) → (∀ j : Nat, 0 ≤ c33_t_28 j ∧ c33_t_28 j ≤ 4095) → (∀ j : Nat, (-2147483648) ≤ c33_t_45 j ∧ c33_t_45 j ≤ 2147483647) → (∀ j : Nat, (-2147483648) ≤ c33_t_46 j ∧ c33_t_46 j ≤ 2147483647) → va_P D vwCl [(t, .inr (12, oX12 t_q t_x0 t_x6 t_x7 t_x8 t_x9 t_x10 t_x11 t_x12 t_x13 t_x14 t_x15 t_x32 t_x33 t_x34 t_x35 t_x39 t_x40 t_x43 t_x44 t_x48 t_x49 t_x50)), ((t_q 17), .inl (K 0, 40, .inl (fun j => iI (t_17_c j)))), ((t_q 18), .inl (K 0, 50, .inl (fun j => iI (t_18_c j)))), ((t_q 19), .inl (K 0, 60, .inl (fun j => iI (t_19_c j)))), ((t_q 20), .inl (K 0, 480, .inl (fun j => iI (t_20_c j)))), ((t_q 21), .inl (K 0, 600, .inl (fun j => iI (t_21_c j)))), ((t_q 23), .inl (K 0, 150, .inl (fun j => iI (c33_t_23 j)))), ((t_q 24), .inl (K 0, 5, .inl (fun j => iI (c33_t_24 j)))), ((t_q 25), .inl (K 0, 24, .inl (fun j => iI (c33_t_25 j)))), ((t_q 26), .inl (K 0, 24, .inl (fun j => iI (c33_t_26 j)))), ((t_q 27), .inl (K 0, 12, .inl (fun j => iI (c33_t_27 j)))), ((t_q 28), .inl (K 0, 12, .inl (fun j => iI (c33_t_28 j)))), ((t_q 45), .inl (K 0, 12, .inl (fun j => iI (c33_t_45 j)))), ((t_q 46), .inl (K 0, 12, .inl (fun j => iI (c33_t_46 j))))] H → va_D A [(t, .inr (12, oX12 t_q t_x0 t_x6 t_x7 t_x8 t_x9 t_x10 t_x11 t_x12 t_x13 t_x14 t_x15 t_x32 t_x33 t_x34 t_x35 t_x39 t_x40 t_x43 t_x44 t_x48 t_x49 t_x50)), ((t_q 17), .inl (K 0, 40, .inl (fun j => iI (t_17_c j)))), ((t_q 18), .inl (K 0, 50, .inl (fun j => iI (t_18_c j)))), ((t_q 19), .inl (K 0, 60, .inl (fun j => iI (t_19_c j)))), ((t_q 20), .inl (K 0, 480, .inl (fun j => iI (t_20_c j)))), ((t_q 21), .inl (K 0, 600, .inl (fun j => iI (t_21_c j)))), ((t_q 23), .inl (K 0, 150, .inl (fun j => iI (c33_t_23 j)))), ((t_q 24), .inl (K 0, 5, .inl (fun j => iI (c33_t_24 j)))), ((t_q 25), .inl (K 0, 24, .inl (fun j => iI (c33_t_25 j)))), ((t_q 26), .inl (K 0, 24, .inl (fun j => iI (c33_t_26 j)))), ((t_q 27), .inl (K 0, 12, .inl (fun j => iI (c33_t_27 j)))), ((t_q 28), .inl (K 0, 12, .inl (fun j => iI (c33_t_28 j)))), ((t_q 45), .inl (K 0, 12, .inl (fun j => iI (c33_t_45 j)))), ((t_q 46), .inl (K 0, 12, .inl (fun j => iI (c33_t_46 j))))] → va_S A s.heap H locs → lv_has ls 3 [(0, .ref t), (1, .int (iI p1)), (2, .int (iI x33_2))] → W p l e ({ frames := 20, cells := 0, slots := 0, locals := 500 } : Room) s m ag below meth c H locs 0 0 Q (F0 m 33 ls []) := by
    intro n
    induction n with
    | zero =>
      intro x33_2 c33_t_23 c33_t_24 c33_t_25 c33_t_26 c33_t_27 c33_t_28 c33_t_45 c33_t_46 H locs ls hm33 hf33 hc33_t_23 hc33_t_24 hc33_t_25 hc33_t_26 hc33_t_27 hc33_t_28 hc33_t_45 hc33_t_46 hP hD hS hl
      exact absurd hm33 (Nat.not_lt_zero _)
    | succ n ih33 =>
      intro x33_2 c33_t_23 c33_t_24 c33_t_25 c33_t_26 c33_t_27 c33_t_28 c33_t_45 c33_t_46 H locs ls hm33 hf33 hc33_t_23 hc33_t_24 hc33_t_25 hc33_t_26 hc33_t_27 hc33_t_28 hc33_t_45 hc33_t_46 hP hD hS hl
      refine lv_iload_n hx hb dX12_laysWorth_33 rfl (lv_at hl 2 rfl) ?_
      refine lv_iload_n hx hb dX12_laysWorth_34 rfl (lv_at hl 1 rfl) ?_
      refine g_icmp_ge (tgt := 49) hx hb (by omega) (by omega) dX12_laysWorth_35 (by decide) (fun c35 => ?_) (fun c35 => ?_)
      · rw [hQ]; exact fn_vret hx hb hr hlocks hP hD hS ((fun _ => 0), (fun k => ([c33_t_23, c33_t_24, c33_t_25, c33_t_26, c33_t_27, c33_t_28, c33_t_45, c33_t_46] : List (Nat → Int)).getD k (fun _ => 0))) ⟨(hc33_t_23), (hc33_t_24), (hc33_t_25), (hc33_t_26), (hc33_t_27), (hc33_t_28), (hc33_t_45), (hc33_t_46), trivial⟩ [0, 1, 2, 3, 4, 5, 6, 7, 8, 9, 10, 11, 12, 13] (by decide) rfl dX12_laysWorth_49
      · refine lv_aload_n hx hb dX12_laysWorth_38 rfl (lv_at hl 0 rfl) ?_
        refine fn_goi (wc := [(t, .inr (12, oX12 t_q t_x0 t_x6 t_x7 t_x8 t_x9 t_x10 t_x11 t_x12 t_x13 t_x14 t_x15 t_x32 t_x33 t_x34 t_x35 t_x39 t_x40 t_x43 t_x44 t_x48 t_x49 t_x50)), ((t_q 17), .inl (K 0, 40, .inl (fun j => iI (t_17_c j)))), ((t_q 46), .inl (K 0, 12, .inl (fun j => iI (c33_t_46 j)))), ((t_q 45), .inl (K 0, 12, .inl (fun j => iI (c33_t_45 j)))), ((t_q 20), .inl (K 0, 480, .inl (fun j => iI (t_20_c j)))), ((t_q 26), .inl (K 0, 24, .inl (fun j => iI (c33_t_26 j))))]) (wr := [((t_q 18), .inl (K 0, 50, .inl (fun j => iI (t_18_c j)))), ((t_q 19), .inl (K 0, 60, .inl (fun j => iI (t_19_c j)))), ((t_q 21), .inl (K 0, 600, .inl (fun j => iI (t_21_c j)))), ((t_q 23), .inl (K 0, 150, .inl (fun j => iI (c33_t_23 j)))), ((t_q 24), .inl (K 0, 5, .inl (fun j => iI (c33_t_24 j)))), ((t_q 25), .inl (K 0, 24, .inl (fun j => iI (c33_t_25 j)))), ((t_q 27), .inl (K 0, 12, .inl (fun j => iI (c33_t_27 j)))), ((t_q 28), .inl (K 0, 12, .inl (fun j => iI (c33_t_28 j))))]) hK hP hD hS hA [0, 1, 13, 12, 4, 9] [2, 3, 5, 6, 7, 8, 10, 11] rfl rfl (by decide) (fun hp => va_runV (C := RX12) (As := []) (rest := []) ⟨hx, hb, hml, hown, hts⟩ (k_X12_gives (l := l) (D := D) (K := K) (t := t) (t_q := t_q) (t_x0 := t_x0) (t_x6 := t_x6) (t_x7 := t_x7) (t_x8 := t_x8) (t_x9 := t_x9) (t_x10 := t_x10) (t_x11 := t_x11) (t_x12 := t_x12) (t_x13 := t_x13) (t_x14 := t_x14) (t_x15 := t_x15) (t_x32 := t_x32) (t_x33 := t_x33) (t_x34 := t_x34) (t_x35 := t_x35) (t_x39 := t_x39) (t_x40 := t_x40) (t_x43 := t_x43) (t_x44 := t_x44) (t_x48 := t_x48) (t_x49 := t_x49) (t_x50 := t_x50) (t_17_c := t_17_c) (t_46_c := c33_t_46) (t_45_c := c33_t_45) (t_20_c := t_20_c) (t_26_c := c33_t_26) (hi_t := hi_t) (hc_t_17 := hc_t_17) (hc_t_46 := hc33_t_46) (hc_t_45 := hc33_t_45) (hc_t_20 := hc_t_20) (hc_t_26 := hc33_t_26) _) (cwV 0 hts (fn_ginV (fn_gin wd_1860) wd_1857 wd_1859 wp_152 wd_13) rfl rfl rfl (by decide +kernel) ⟨Nat.le_of_ble_eq_true rfl, Nat.le_of_ble_eq_true rfl⟩) ⟨fn_blind, va_recv hK.1 hP (ci := 12) (q0 := 0) rfl rfl, hp⟩ rfl rfl hl.1 rfl (lv_room (Nat.le_of_ble_eq_true rfl)) dX12_laysWorth_39 ⟨Nat.le_of_ble_eq_true rfl, Nat.le_of_ble_eq_true rfl⟩) (fun r39 u39 H locs hwu39 hP hD hS => ?_)
        obtain ⟨u39a, u39b⟩ := u39
        obtain ⟨kr39, rfl, hkr39, hu39_00, hu39_10, -⟩ := hwu39
        have hu39_0 : ∀ j : Nat, (-2147483648) ≤ (u39b 0) j ∧ (u39b 0) j ≤ 2147483647 := hu39_00
        have hu39_1 : ∀ j : Nat, (-2147483648) ≤ (u39b 1) j ∧ (u39b 1) j ≤ 2147483647 := hu39_10
        clear hu39_00 hu39_10
        have hP : va_P D vwCl [((t_q 18), .inl (K 0, 50, .inl (fun j => iI (t_18_c j)))), ((t_q 19), .inl (K 0, 60, .inl (fun j => iI (t_19_c j)))), ((t_q 21), .inl (K 0, 600, .inl (fun j => iI (t_21_c j)))), ((t_q 23), .inl (K 0, 150, .inl (fun j => iI (c33_t_23 j)))), ((t_q 24), .inl (K 0, 5, .inl (fun j => iI (c33_t_24 j)))), ((t_q 25), .inl (K 0, 24, .inl (fun j => iI (c33_t_25 j)))), ((t_q 27), .inl (K 0, 12, .inl (fun j => iI (c33_t_27 j)))), ((t_q 28), .inl (K 0, 12, .inl (fun j => iI (c33_t_28 j)))), (t, .inr (12, oX12 t_q t_x0 t_x6 t_x7 t_x8 t_x9 t_x10 t_x11 t_x12 t_x13 t_x14 t_x15 t_x32 t_x33 t_x34 t_x35 t_x39 t_x40 t_x43 t_x44 t_x48 t_x49 t_x50)), ((t_q 17), .inl (K 0, 40, .inl (fun j => iI (t_17_c j)))), ((t_q 46), .inl (K 0, 12, .inl (fun j => iI ((u39b 1) j)))), ((t_q 45), .inl (K 0, 12, .inl (fun j => iI ((u39b 0) j)))), ((t_q 20), .inl (K 0, 480, .inl (fun j => iI (t_20_c j)))), ((t_q 26), .inl (K 0, 24, .inl (fun j => iI (c33_t_26 j))))] H := hP
        have hD : va_D A [((t_q 18), .inl (K 0, 50, .inl (fun j => iI (t_18_c j)))), ((t_q 19), .inl (K 0, 60, .inl (fun j => iI (t_19_c j)))), ((t_q 21), .inl (K 0, 600, .inl (fun j => iI (t_21_c j)))), ((t_q 23), .inl (K 0, 150, .inl (fun j => iI (c33_t_23 j)))), ((t_q 24), .inl (K 0, 5, .inl (fun j => iI (c33_t_24 j)))), ((t_q 25), .inl (K 0, 24, .inl (fun j => iI (c33_t_25 j)))), ((t_q 27), .inl (K 0, 12, .inl (fun j => iI (c33_t_27 j)))), ((t_q 28), .inl (K 0, 12, .inl (fun j => iI (c33_t_28 j)))), (t, .inr (12, oX12 t_q t_x0 t_x6 t_x7 t_x8 t_x9 t_x10 t_x11 t_x12 t_x13 t_x14 t_x15 t_x32 t_x33 t_x34 t_x35 t_x39 t_x40 t_x43 t_x44 t_x48 t_x49 t_x50)), ((t_q 17), .inl (K 0, 40, .inl (fun j => iI (t_17_c j)))), ((t_q 46), .inl (K 0, 12, .inl (fun j => iI ((u39b 1) j)))), ((t_q 45), .inl (K 0, 12, .inl (fun j => iI ((u39b 0) j)))), ((t_q 20), .inl (K 0, 480, .inl (fun j => iI (t_20_c j)))), ((t_q 26), .inl (K 0, 24, .inl (fun j => iI (c33_t_26 j))))] := hD
        refine lv_pop hx hb dX12_laysWorth_42 rfl ?_
        refine lv_iinc (v := iI (x33_2 + 1)) (lv' := [(2, .int (iI (x33_2 + 1))), (0, .ref t), (1, .int (iI p1))]) hx hb dX12_laysWorth_43 hl (k := 2) rfl (iI_add _ _) (by decide) rfl (fun ls hl => ?_)
        refine lv_goto (tgt := 33) hx hb dX12_laysWorth_46 (by decide) ?_
        exact ih33 (x33_2 + 1) c33_t_23 c33_t_24 c33_t_25 c33_t_26 c33_t_27 c33_t_28 (u39b 0) (u39b 1) _ _ ls (by omega) (by omega) hc33_t_23 hc33_t_24 hc33_t_25 hc33_t_26 hc33_t_27 hc33_t_28 hu39_0 hu39_1 (hP.sub [8, 9, 0, 1, 12, 2, 3, 4, 5, 13, 6, 7, 11, 10] rfl) (hD.sub [8, 9, 0, 1, 12, 2, 3, 4, 5, 13, 6, 7, 11, 10] (by decide) rfl) hS (lv_sub hl [1, 2, 0] rfl)
  have J6 : ∀ (n : Nat) (x6_2 : Int) (c6_t_23 : Nat → Int) (c6_t_24 : Nat → Int) (c6_t_25 : Nat → Int) (c6_t_26 : Nat → Int) (c6_t_27 : Nat → Int) (c6_t_28 : Nat → Int) (c6_t_45 : Nat → Int) (H : Heap) (locs : List Loc) (ls : Array Slot), (12 - x6_2).toNat < n → (0 ≤ x6_2 ∧ x6_2 ≤ 12) → (∀ j : Nat, (-2) ≤ c6_t_23 j ∧ c6_t_23 j ≤ 11) → (∀ j : Nat, 0 ≤ c6_t_24 j ∧ c6_t_24 j ≤ 30) → (∀ j : Nat, 0 ≤ c6_t_25 j ∧ c6_t_25 j ≤ 30) → (∀ j : Nat, (-1) ≤ c6_t_26 j ∧ c6_t_26 j ≤ 11) → (∀ j : Nat, (-1) ≤ c6_t_27 j ∧ c6_t_27 j ≤ 29) → (∀ j : Nat, 0 ≤ c6_t_28 j ∧ c6_t_28 j ≤ 4095) → (∀ j : Nat, (-2147483648) ≤ c6_t_45 j ∧ c6_t_45 j ≤ 2147483647) → va_P D vwCl [(t, .inr (12, oX12 t_q t_x0 t_x6 t_x7 t_x8 t_x9 t_x10 t_x11 t_x12 t_x13 t_x14 t_x15 t_x32 t_x33 t_x34 t_x35 t_x39 t_x40 t_x43 t_x44 t_x48 t_x49 t_x50)), ((t_q 17), .inl (K 0, 40, .inl (fun j => iI (t_17_c j)))), ((t_q 18), .inl (K 0, 50, .inl (fun j => iI (t_18_c j)))), ((t_q 19), .inl (K 0, 60, .inl (fun j => iI (t_19_c j)))), ((t_q 20), .inl (K 0, 480, .inl (fun j => iI (t_20_c j)))), ((t_q 21), .inl (K 0, 600, .inl (fun j => iI (t_21_c j)))), ((t_q 23), .inl (K 0, 150, .inl (fun j => iI (c6_t_23 j)))), ((t_q 24), .inl (K 0, 5, .inl (fun j => iI (c6_t_24 j)))), ((t_q 25), .inl (K 0, 24, .inl (fun j => iI (c6_t_25 j)))), ((t_q 26), .inl (K 0, 24, .inl (fun j => iI (c6_t_26 j)))), ((t_q 27), .inl (K 0, 12, .inl (fun j => iI (c6_t_27 j)))), ((t_q 28), .inl (K 0, 12, .inl (fun j => iI (c6_t_28 j)))), ((t_q 45), .inl (K 0, 12, .inl (fun j => iI (c6_t_45 j)))), ((t_q 46), .inl (K 0, 12, .inl (fun j => iI (t_46_c j))))] H → va_D A [(t, .inr (12, oX12 t_q t_x0 t_x6 t_x7 t_x8 t_x9 t_x10 t_x11 t_x12 t_x13 t_x14 t_x15 t_x32 t_x33 t_x34 t_x35 t_x39 t_x40 t_x43 t_x44 t_x48 t_x49 t_x50)), ((t_q 17), .inl (K 0, 40, .inl (fun j => iI (t_17_c j)))), ((t_q 18), .inl (K 0, 50, .inl (fun j => iI (t_18_c j)))), ((t_q 19), .inl (K 0, 60, .inl (fun j => iI (t_19_c j)))), ((t_q 20), .inl (K 0, 480, .inl (fun j => iI (t_20_c j)))), ((t_q 21), .inl (K 0, 600, .inl (fun j => iI (t_21_c j)))), ((t_q 23), .inl (K 0, 150, .inl (fun j => iI (c6_t_23 j)))), ((t_q 24), .inl (K 0, 5, .inl (fun j => iI (c6_t_24 j)))), ((t_q 25), .inl (K 0, 24, .inl (fun j => iI (c6_t_25 j)))), ((t_q 26), .inl (K 0, 24, .inl (fun j => iI (c6_t_26 j)))), ((t_q 27), .inl (K 0, 12, .inl (fun j => iI (c6_t_27 j)))), ((t_q 28), .inl (K 0, 12, .inl (fun j => iI (c6_t_28 j)))), ((t_q 45), .inl (K 0, 12, .inl (fun j => iI (c6_t_45 j)))), ((t_q 46), .inl (K 0, 12, .inl (fun j => iI (t_46_c j))))] → va_S A s.heap H locs → lv_has ls 3 [(0, .ref t), (1, .int (iI p1)), (2, .int (iI x6_2))] → W p l e ({ frames := 20, cells := 0, slots := 0, locals := 500 } : Room) s m ag below meth c H locs 0 0 Q (F0 m 6 ls []) := by
    intro n
    induction n with
    | zero =>
      intro x6_2 c6_t_23 c6_t_24 c6_t_25 c6_t_26 c6_t_27 c6_t_28 c6_t_45 H locs ls hm6 hf6 hc6_t_23 hc6_t_24 hc6_t_25 hc6_t_26 hc6_t_27 hc6_t_28 hc6_t_45 hP hD hS hl
      exact absurd hm6 (Nat.not_lt_zero _)
    | succ n ih6 =>
      intro x6_2 c6_t_23 c6_t_24 c6_t_25 c6_t_26 c6_t_27 c6_t_28 c6_t_45 H locs ls hm6 hf6 hc6_t_23 hc6_t_24 hc6_t_25 hc6_t_26 hc6_t_27 hc6_t_28 hc6_t_45 hP hD hS hl
      refine lv_iload_n hx hb dX12_laysWorth_6 rfl (lv_at hl 2 rfl) ?_
      refine lv_aload_n hx hb dX12_laysWorth_7 rfl (lv_at hl 0 rfl) ?_
      refine va_get (D := D) (own := RX12) (ci := 12) (v := .ref (t_q 17)) (C := RX12) (T := TX12) (N := 51) hx hb hts inb_X12 hown hK.1 hP 0 rfl rfl 17 (by decide) (hts _ wd_1251) (fun _ h9 => h9) rfl dX12_laysWorth_8 ?_
      refine lv_iconst (v := iI 3) hx hb dX12_laysWorth_11 rfl ?_
      refine g_iald hx hb hK.1 hP 1 0 rfl rfl (by omega) (by omega) (by decide) dX12_laysWorth_12 ?_
      refine fn_top (iI (t_17_c 3)) rfl ?_
      have y12 : 0 ≤ (t_17_c 3) ∧ (t_17_c 3) ≤ 12 := (hc_t_17 3).2.2.2.1 (by omega)
      refine g_icmp_ge (tgt := 31) hx hb (by omega) (by omega) dX12_laysWorth_13 (by decide) (fun c13 => ?_) (fun c13 => ?_)
      · refine lv_iconst (v := iI 0) hx hb dX12_laysWorth_31 rfl ?_
        refine lv_istore_n (lv' := [(2, .int (iI 0)), (0, .ref t), (1, .int (iI p1))]) hx hb dX12_laysWorth_32 rfl hl (by decide) rfl (fun ls hl => ?_)
        exact J33 _ 0 c6_t_23 c6_t_24 c6_t_25 c6_t_26 c6_t_27 c6_t_28 c6_t_45 t_46_c _ _ ls (Nat.lt_succ_self _) (by omega) hc6_t_23 hc6_t_24 hc6_t_25 hc6_t_26 hc6_t_27 hc6_t_28 hc6_t_45 hc_t_46 (hP.sub [0, 1, 2, 3, 4, 5, 6, 7, 8, 9, 10, 11, 12, 13] rfl) (hD.sub [0, 1, 2, 3, 4, 5, 6, 7, 8, 9, 10, 11, 12, 13] (by decide) rfl) hS (lv_sub hl [1, 2, 0] rfl)
      · refine lv_aload_n hx hb dX12_laysWorth_16 rfl (lv_at hl 0 rfl) ?_
        refine va_get (D := D) (own := RX12) (ci := 12) (v := .ref (t_q 45)) (C := RX12) (T := TX12) (N := 51) hx hb hts inb_X12 hown hK.1 hP 0 rfl rfl 45 (by decide) (hts _ wd_1279) (fun _ h9 => h9) rfl dX12_laysWorth_17 ?_
        refine lv_iload_n hx hb dX12_laysWorth_20 rfl (lv_at hl 2 rfl) ?_
        refine lv_sipush (v := iI 1000) hx hb dX12_laysWorth_21 (by decide) ?_
        refine g_iast hx hb hK.1 hP hD hS 12 0 rfl rfl (by omega) (by omega) (by decide) dX12_laysWorth_24 (fun H locs g24 eg24 hP hD hS => ?_)
        have hg24 : ∀ j : Nat, (-2147483648) ≤ g24 j ∧ g24 j ≤ 2147483647 := by rw [eg24]; exact uI_all hc6_t_45 (by omega)
        have hP : va_P D vwCl [(t, .inr (12, oX12 t_q t_x0 t_x6 t_x7 t_x8 t_x9 t_x10 t_x11 t_x12 t_x13 t_x14 t_x15 t_x32 t_x33 t_x34 t_x35 t_x39 t_x40 t_x43 t_x44 t_x48 t_x49 t_x50)), ((t_q 17), .inl (K 0, 40, .inl (fun j => iI (t_17_c j)))), ((t_q 18), .inl (K 0, 50, .inl (fun j => iI (t_18_c j)))), ((t_q 19), .inl (K 0, 60, .inl (fun j => iI (t_19_c j)))), ((t_q 20), .inl (K 0, 480, .inl (fun j => iI (t_20_c j)))), ((t_q 21), .inl (K 0, 600, .inl (fun j => iI (t_21_c j)))), ((t_q 23), .inl (K 0, 150, .inl (fun j => iI (c6_t_23 j)))), ((t_q 24), .inl (K 0, 5, .inl (fun j => iI (c6_t_24 j)))), ((t_q 25), .inl (K 0, 24, .inl (fun j => iI (c6_t_25 j)))), ((t_q 26), .inl (K 0, 24, .inl (fun j => iI (c6_t_26 j)))), ((t_q 27), .inl (K 0, 12, .inl (fun j => iI (c6_t_27 j)))), ((t_q 28), .inl (K 0, 12, .inl (fun j => iI (c6_t_28 j)))), ((t_q 45), .inl (K 0, 12, .inl (fun j => iI (g24 j)))), ((t_q 46), .inl (K 0, 12, .inl (fun j => iI (t_46_c j))))] H := hP
        have hD : va_D A [(t, .inr (12, oX12 t_q t_x0 t_x6 t_x7 t_x8 t_x9 t_x10 t_x11 t_x12 t_x13 t_x14 t_x15 t_x32 t_x33 t_x34 t_x35 t_x39 t_x40 t_x43 t_x44 t_x48 t_x49 t_x50)), ((t_q 17), .inl (K 0, 40, .inl (fun j => iI (t_17_c j)))), ((t_q 18), .inl (K 0, 50, .inl (fun j => iI (t_18_c j)))), ((t_q 19), .inl (K 0, 60, .inl (fun j => iI (t_19_c j)))), ((t_q 20), .inl (K 0, 480, .inl (fun j => iI (t_20_c j)))), ((t_q 21), .inl (K 0, 600, .inl (fun j => iI (t_21_c j)))), ((t_q 23), .inl (K 0, 150, .inl (fun j => iI (c6_t_23 j)))), ((t_q 24), .inl (K 0, 5, .inl (fun j => iI (c6_t_24 j)))), ((t_q 25), .inl (K 0, 24, .inl (fun j => iI (c6_t_25 j)))), ((t_q 26), .inl (K 0, 24, .inl (fun j => iI (c6_t_26 j)))), ((t_q 27), .inl (K 0, 12, .inl (fun j => iI (c6_t_27 j)))), ((t_q 28), .inl (K 0, 12, .inl (fun j => iI (c6_t_28 j)))), ((t_q 45), .inl (K 0, 12, .inl (fun j => iI (g24 j)))), ((t_q 46), .inl (K 0, 12, .inl (fun j => iI (t_46_c j))))] := hD
        refine lv_iinc (v := iI (x6_2 + 1)) (lv' := [(2, .int (iI (x6_2 + 1))), (0, .ref t), (1, .int (iI p1))]) hx hb dX12_laysWorth_25 hl (k := 2) rfl (iI_add _ _) (by decide) rfl (fun ls hl => ?_)
        refine lv_goto (tgt := 6) hx hb dX12_laysWorth_28 (by decide) ?_
        exact ih6 (x6_2 + 1) c6_t_23 c6_t_24 c6_t_25 c6_t_26 c6_t_27 c6_t_28 g24 _ _ ls (by omega) (by omega) hc6_t_23 hc6_t_24 hc6_t_25 hc6_t_26 hc6_t_27 hc6_t_28 hg24 (hP.sub [0, 1, 2, 3, 4, 5, 6, 7, 8, 9, 10, 11, 12, 13] rfl) (hD.sub [0, 1, 2, 3, 4, 5, 6, 7, 8, 9, 10, 11, 12, 13] (by decide) rfl) hS (lv_sub hl [1, 2, 0] rfl)
  have hl : lv_has ls 3 [(0, .ref t), (1, .int (iI p1))] := hl
  refine lv_aload_n hx hb dX12_laysWorth_0 rfl (lv_at hl 0 rfl) ?_
  refine fn_gov (wc := [(t, .inr (12, oX12 t_q t_x0 t_x6 t_x7 t_x8 t_x9 t_x10 t_x11 t_x12 t_x13 t_x14 t_x15 t_x32 t_x33 t_x34 t_x35 t_x39 t_x40 t_x43 t_x44 t_x48 t_x49 t_x50)), ((t_q 17), .inl (K 0, 40, .inl (fun j => iI (t_17_c j)))), ((t_q 18), .inl (K 0, 50, .inl (fun j => iI (t_18_c j)))), ((t_q 19), .inl (K 0, 60, .inl (fun j => iI (t_19_c j)))), ((t_q 20), .inl (K 0, 480, .inl (fun j => iI (t_20_c j)))), ((t_q 21), .inl (K 0, 600, .inl (fun j => iI (t_21_c j)))), ((t_q 23), .inl (K 0, 150, .inl (fun j => iI (t_23_c j)))), ((t_q 24), .inl (K 0, 5, .inl (fun j => iI (t_24_c j)))), ((t_q 25), .inl (K 0, 24, .inl (fun j => iI (t_25_c j)))), ((t_q 26), .inl (K 0, 24, .inl (fun j => iI (t_26_c j)))), ((t_q 27), .inl (K 0, 12, .inl (fun j => iI (t_27_c j)))), ((t_q 28), .inl (K 0, 12, .inl (fun j => iI (t_28_c j))))]) (wr := [((t_q 45), .inl (K 0, 12, .inl (fun j => iI (t_45_c j)))), ((t_q 46), .inl (K 0, 12, .inl (fun j => iI (t_46_c j))))]) hK hP hD hS hA [0, 1, 2, 3, 4, 5, 6, 7, 8, 9, 10, 11] [12, 13] rfl rfl (by decide) (fun hp => va_runV (C := RX12) (As := []) (rest := []) ⟨hx, hb, hml, hown, hts⟩ (k_X12_laysNow (l := l) (D := D) (K := K) (t := t) (t_q := t_q) (t_x0 := t_x0) (t_x6 := t_x6) (t_x7 := t_x7) (t_x8 := t_x8) (t_x9 := t_x9) (t_x10 := t_x10) (t_x11 := t_x11) (t_x12 := t_x12) (t_x13 := t_x13) (t_x14 := t_x14) (t_x15 := t_x15) (t_x32 := t_x32) (t_x33 := t_x33) (t_x34 := t_x34) (t_x35 := t_x35) (t_x39 := t_x39) (t_x40 := t_x40) (t_x43 := t_x43) (t_x44 := t_x44) (t_x48 := t_x48) (t_x49 := t_x49) (t_x50 := t_x50) (t_17_c := t_17_c) (t_18_c := t_18_c) (t_19_c := t_19_c) (t_20_c := t_20_c) (t_21_c := t_21_c) (t_23_c := t_23_c) (t_24_c := t_24_c) (t_25_c := t_25_c) (t_26_c := t_26_c) (t_27_c := t_27_c) (t_28_c := t_28_c) (hi_t := hi_t) (hc_t_17 := hc_t_17) (hc_t_18 := hc_t_18) (hc_t_19 := hc_t_19) (hc_t_20 := hc_t_20) (hc_t_21 := hc_t_21) (hc_t_23 := hc_t_23) (hc_t_24 := hc_t_24) (hc_t_25 := hc_t_25) (hc_t_26 := hc_t_26) (hc_t_27 := hc_t_27) (hc_t_28 := hc_t_28) (ti := (show TI 0 t_17_c t_18_c t_19_c t_20_c t_21_c from by assumption)) _) (cwV 0 hts (fn_ginV (fn_gin wd_1547) wd_1544 wd_1546 wp_117 wd_13) rfl rfl rfl (by decide +kernel) ⟨Nat.le_of_ble_eq_true rfl, Nat.le_of_ble_eq_true rfl⟩) ⟨fn_blind, va_recv hK.1 hP (ci := 12) (q0 := 0) rfl rfl, hp⟩ rfl rfl hl.1 rfl (lv_room (Nat.le_of_ble_eq_true rfl)) dX12_laysWorth_1 ⟨Nat.le_of_ble_eq_true rfl, Nat.le_of_ble_eq_true rfl⟩) (fun u1 H locs hwu1 hP hD hS => ?_)
  obtain ⟨u1a, u1b⟩ := u1
  obtain ⟨hqu1_li0, hqu1_mn0, hqu1_sy0, hu1_00, hu1_10, hu1_20, hu1_30, hu1_40, hu1_50, -⟩ := hwu1
  have hqu1_li : LI t_17_c t_19_c (u1b 0) (u1b 1) (u1b 3) (u1b 4) (u1b 5) := hqu1_li0
  have hqu1_mn : ∀ b : Nat, (b : Int) < t_17_c 2 → (u1b 1) b = t_18_c (2 * b) + edc t_21_c 0 b (Int.toNat (t_17_c 7)) := hqu1_mn0
  have hqu1_sy : ∀ j : Nat, (j : Int) < t_17_c 4 → (u1b 2) j ≤ 29 := hqu1_sy0
  have hu1_0 : ∀ j : Nat, (-2) ≤ (u1b 0) j ∧ (u1b 0) j ≤ 11 := hu1_00
  have hu1_1 : ∀ j : Nat, 0 ≤ (u1b 1) j ∧ (u1b 1) j ≤ 30 := hu1_10
  have hu1_2 : ∀ j : Nat, 0 ≤ (u1b 2) j ∧ (u1b 2) j ≤ 30 := hu1_20
  have hu1_3 : ∀ j : Nat, (-1) ≤ (u1b 3) j ∧ (u1b 3) j ≤ 11 := hu1_30
  have hu1_4 : ∀ j : Nat, (-1) ≤ (u1b 4) j ∧ (u1b 4) j ≤ 29 := hu1_40
  have hu1_5 : ∀ j : Nat, 0 ≤ (u1b 5) j ∧ (u1b 5) j ≤ 4095 := hu1_50
  clear hqu1_li0 hqu1_mn0 hqu1_sy0 hu1_00 hu1_10 hu1_20 hu1_30 hu1_40 hu1_50
  have hP : va_P D vwCl [((t_q 45), .inl (K 0, 12, .inl (fun j => iI (t_45_c j)))), ((t_q 46), .inl (K 0, 12, .inl (fun j => iI (t_46_c j)))), (t, .inr (12, oX12 t_q t_x0 t_x6 t_x7 t_x8 t_x9 t_x10 t_x11 t_x12 t_x13 t_x14 t_x15 t_x32 t_x33 t_x34 t_x35 t_x39 t_x40 t_x43 t_x44 t_x48 t_x49 t_x50)), ((t_q 17), .inl (K 0, 40, .inl (fun j => iI (t_17_c j)))), ((t_q 18), .inl (K 0, 50, .inl (fun j => iI (t_18_c j)))), ((t_q 19), .inl (K 0, 60, .inl (fun j => iI (t_19_c j)))), ((t_q 20), .inl (K 0, 480, .inl (fun j => iI (t_20_c j)))), ((t_q 21), .inl (K 0, 600, .inl (fun j => iI (t_21_c j)))), ((t_q 23), .inl (K 0, 150, .inl (fun j => iI ((u1b 0) j)))), ((t_q 24), .inl (K 0, 5, .inl (fun j => iI ((u1b 1) j)))), ((t_q 25), .inl (K 0, 24, .inl (fun j => iI ((u1b 2) j)))), ((t_q 26), .inl (K 0, 24, .inl (fun j => iI ((u1b 3) j)))), ((t_q 27), .inl (K 0, 12, .inl (fun j => iI ((u1b 4) j)))), ((t_q 28), .inl (K 0, 12, .inl (fun j => iI ((u1b 5) j))))] H := hP
  have hD : va_D A [((t_q 45), .inl (K 0, 12, .inl (fun j => iI (t_45_c j)))), ((t_q 46), .inl (K 0, 12, .inl (fun j => iI (t_46_c j)))), (t, .inr (12, oX12 t_q t_x0 t_x6 t_x7 t_x8 t_x9 t_x10 t_x11 t_x12 t_x13 t_x14 t_x15 t_x32 t_x33 t_x34 t_x35 t_x39 t_x40 t_x43 t_x44 t_x48 t_x49 t_x50)), ((t_q 17), .inl (K 0, 40, .inl (fun j => iI (t_17_c j)))), ((t_q 18), .inl (K 0, 50, .inl (fun j => iI (t_18_c j)))), ((t_q 19), .inl (K 0, 60, .inl (fun j => iI (t_19_c j)))), ((t_q 20), .inl (K 0, 480, .inl (fun j => iI (t_20_c j)))), ((t_q 21), .inl (K 0, 600, .inl (fun j => iI (t_21_c j)))), ((t_q 23), .inl (K 0, 150, .inl (fun j => iI ((u1b 0) j)))), ((t_q 24), .inl (K 0, 5, .inl (fun j => iI ((u1b 1) j)))), ((t_q 25), .inl (K 0, 24, .inl (fun j => iI ((u1b 2) j)))), ((t_q 26), .inl (K 0, 24, .inl (fun j => iI ((u1b 3) j)))), ((t_q 27), .inl (K 0, 12, .inl (fun j => iI ((u1b 4) j)))), ((t_q 28), .inl (K 0, 12, .inl (fun j => iI ((u1b 5) j))))] := hD
  refine lv_iconst (v := iI 0) hx hb dX12_laysWorth_4 rfl ?_
  refine lv_istore_n (lv' := [(2, .int (iI 0)), (0, .ref t), (1, .int (iI p1))]) hx hb dX12_laysWorth_5 rfl hl (by decide) rfl (fun ls hl => ?_)
  exact J6 _ 0 (u1b 0) (u1b 1) (u1b 2) (u1b 3) (u1b 4) (u1b 5) t_45_c _ _ ls (Nat.lt_succ_self _) (by omega) hu1_0 hu1_1 hu1_2 hu1_3 hu1_4 hu1_5 hc_t_45 (hP.sub [2, 3, 4, 5, 6, 7, 8, 9, 10, 11, 12, 13, 0, 1] rfl) (hD.sub [2, 3, 4, 5, 6, 7, 8, 9, 10, 11, 12, 13, 0, 1] (by decide) rfl) hS (lv_sub hl [1, 2, 0] rfl)
