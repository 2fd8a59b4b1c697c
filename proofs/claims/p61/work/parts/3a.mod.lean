theorem dX12_in_0 : decode cX12_in 0 = .ok (.lload_n 0, 1) := by decide +kernel
theorem dX12_in_1 : decode cX12_in 1 = .ok (.lload_n 2, 1) := by decide +kernel
theorem dX12_in_2 : decode cX12_in 2 = .ok (.lcmp, 1) := by decide +kernel
theorem dX12_in_3 : decode cX12_in 3 = .ok (.ifCond .lt 14, 3) := by decide +kernel
theorem dX12_in_17 : decode cX12_in 17 = .ok (.iconst 0, 1) := by decide +kernel
theorem dX12_in_18 : decode cX12_in 18 = .ok (.ireturn, 1) := by decide +kernel
theorem dX12_in_6 : decode cX12_in 6 = .ok (.lload_n 0, 1) := by decide +kernel
theorem dX12_in_7 : decode cX12_in 7 = .ok (.lload 4, 2) := by decide +kernel
theorem dX12_in_9 : decode cX12_in 9 = .ok (.lcmp, 1) := by decide +kernel
theorem dX12_in_10 : decode cX12_in 10 = .ok (.ifCond .gt 7, 3) := by decide +kernel
theorem dX12_in_13 : decode cX12_in 13 = .ok (.iconst 1, 1) := by decide +kernel
theorem dX12_in_14 : decode cX12_in 14 = .ok (.goto 4, 3) := by decide +kernel
set_option maxHeartbeats 4000000 in
set_option maxRecDepth 100000 in
theorem k_X12_in (l : Launch) (D : va_G) (K : Nat → ClassId) (p1 p2 p3 : Int) (hp1 : (-9223372036854775808) ≤ p1 ∧ p1 ≤ 9223372036854775807) (hp2 : (-9223372036854775808) ≤ p2 ∧ p2 ≤ 9223372036854775807) (hp3 : (-9223372036854775808) ≤ p3 ∧ p3 ≤ 9223372036854775807) : fn_CI (S := (Nat → Int) × (Nat → Nat → Int)) l D K yX12_in (fn_ws yX12_in cX12_in 6 (some .boolean)) ({ frames := 4, cells := 0, slots := 0, locals := 100 } : Room) [.long (lI p1), .long (lI p2), .long (lI p3)] [] (fun r u => ∃ k : Int, r = iI k ∧ (0 ≤ k ∧ k ≤ 1) ∧ ((k = 1 → p2 ≤ p1 ∧ p1 ≤ p3) ∧ (k = 0 → p1 < p2 ∨ p3 < p1)) ∧ True) (fun u => []) 0 0 := by
  refine g_inI (cc := cX12_in) (maxL := 6) (ret := (some .boolean)) (by decide) rfl (Nat.le_of_ble_eq_true rfl) ?_
  intro p e s m below meth c A ls ag Q B hA hP hD hS hl hQ
  obtain ⟨hx, hb, hr, hml, hts, hown, hlocks, hin, hK⟩ := B
  have hown : s.vm.findClass RX12 = some m.cls := hown
  have hts := fun w h => hts w (List.mem_cons_of_mem _ h)
  have hl : lv_has ls 6 [(0, .long (lI p1)), (2, .long (lI p2)), (4, .long (lI p3))] := hl
  refine lv_lload_n hx hb dX12_in_0 rfl (lv_at hl 0 rfl) ?_
  refine lv_lload_n hx hb dX12_in_1 rfl (lv_at hl 1 rfl) ?_
  refine W.lcmp hx hb dX12_in_2 ?_
  refine g_lif_lt (tgt := 17) hx hb (by omega) (by omega) dX12_in_3 (by decide) (fun c3 => ?_) (fun c3 => ?_)
  · refine lv_iconst (v := iI 0) hx hb dX12_in_17 rfl ?_
    rw [hQ]; exact fn_iret hx hb hr hlocks (iI_nz (by omega)) hP hD hS ((fun _ => 0), (fun _ _ => 0)) ⟨0, rfl, by omega, (by show ((0 : Int) = 1 → p2 ≤ p1 ∧ p1 ≤ p3) ∧ ((0 : Int) = 0 → p1 < p2 ∨ p3 < p1); omega), trivial⟩ [] (by decide) rfl dX12_in_18
  · refine lv_lload_n hx hb dX12_in_6 rfl (lv_at hl 0 rfl) ?_
    refine lv_lload hx hb dX12_in_7 (lv_at hl 2 rfl) ?_
    refine W.lcmp hx hb dX12_in_9 ?_
    refine g_lif_gt (tgt := 17) hx hb (by omega) (by omega) dX12_in_10 (by decide) (fun c10 => ?_) (fun c10 => ?_)
    · refine lv_iconst (v := iI 0) hx hb dX12_in_17 rfl ?_
      rw [hQ]; exact fn_iret hx hb hr hlocks (iI_nz (by omega)) hP hD hS ((fun _ => 0), (fun _ _ => 0)) ⟨0, rfl, by omega, (by show ((0 : Int) = 1 → p2 ≤ p1 ∧ p1 ≤ p3) ∧ ((0 : Int) = 0 → p1 < p2 ∨ p3 < p1); omega), trivial⟩ [] (by decide) rfl dX12_in_18
    · refine lv_iconst (v := iI 1) hx hb dX12_in_13 rfl ?_
      refine lv_goto (tgt := 18) hx hb dX12_in_14 (by decide) ?_
      rw [hQ]; exact fn_iret hx hb hr hlocks (iI_nz (by omega)) hP hD hS ((fun _ => 0), (fun _ _ => 0)) ⟨1, rfl, by omega, (by show ((1 : Int) = 1 → p2 ≤ p1 ∧ p1 ≤ p3) ∧ ((1 : Int) = 0 → p1 < p2 ∨ p3 < p1); omega), trivial⟩ [] (by decide) rfl dX12_in_18
theorem wd_1395 : Cond.constantLong "FootNotesModel" 107 (3 : Int64) ∈ fn_big := fn_tb (fn_l6 (List.mem_of_getElem? (i := 195) (by decide +kernel))) (by decide +kernel)
theorem wd_1398 : Cond.code ⟨"FootNotesModel", "in", "(JJJ)Z"⟩ prog_14_method_3_code 6 (Option.some Jvm.ClassFile.FieldType.boolean) ∈ fn_big := fn_tb (fn_l6 (List.mem_of_getElem? (i := 198) (by decide +kernel))) (by decide +kernel)
theorem wd_13 : Cond.initialized "FootNotesModel" ∈ fn_big := fn_tb (fn_l1 (List.mem_of_getElem? (i := 13) (by decide +kernel))) (by decide +kernel)
theorem wd_1396 : Cond.methodLink "FootNotesModel" 109 ⟨"FootNotesModel", "in", "(JJJ)Z"⟩ ∈ fn_big := fn_tb (fn_l6 (List.mem_of_getElem? (i := 196) (by decide +kernel))) (by decide +kernel)
theorem wd_1397 : Cond.static ⟨"FootNotesModel", "in", "(JJJ)Z"⟩ ∈ fn_big := fn_tb (fn_l6 (List.mem_of_getElem? (i := 197) (by decide +kernel))) (by decide +kernel)
theorem dX12_isSlot_0 : decode cX12_isSlot 0 = .ok (.iload_n 0, 1) := by decide +kernel
theorem dX12_isSlot_1 : decode cX12_isSlot 1 = .ok (.i2l, 1) := by decide +kernel
theorem dX12_isSlot_2 : decode cX12_isSlot 2 = .ok (.lconst 0, 1) := by decide +kernel
theorem dX12_isSlot_3 : decode cX12_isSlot 3 = .ok (.ldc2_w 107, 3) := by decide +kernel
theorem dX12_isSlot_6 : decode cX12_isSlot 6 = .ok (.invokestatic 109, 3) := by decide +kernel
theorem dX12_isSlot_9 : decode cX12_isSlot 9 = .ok (.ireturn, 1) := by decide +kernel
set_option maxHeartbeats 4000000 in
set_option maxRecDepth 100000 in
theorem k_X12_isSlot (l : Launch) (D : va_G) (K : Nat → ClassId) (p1 : Int) (hp1 : (-2147483648) ≤ p1 ∧ p1 ≤ 2147483647) : fn_CI (S := (Nat → Int) × (Nat → Nat → Int)) l D K yX12_isSlot (fn_ws yX12_isSlot cX12_isSlot 1 (some .boolean)) ({ frames := 8, cells := 0, slots := 0, locals := 200 } : Room) [.int (iI p1)] [] (fun r u => ∃ k : Int, r = iI k ∧ (0 ≤ k ∧ k ≤ 1) ∧ ((k = 1 → 0 ≤ p1 ∧ p1 ≤ 3) ∧ (k = 0 → p1 < 0 ∨ 3 < p1)) ∧ True) (fun u => []) 0 0 := by
  refine g_inI (cc := cX12_isSlot) (maxL := 1) (ret := (some .boolean)) (by decide) rfl (Nat.le_of_ble_eq_true rfl) ?_
  intro p e s m below meth c A ls ag Q B hA hP hD hS hl hQ
  obtain ⟨hx, hb, hr, hml, hts, hown, hlocks, hin, hK⟩ := B
  have hown : s.vm.findClass RX12 = some m.cls := hown
  have hts := fun w h => hts w (List.mem_cons_of_mem _ h)
  have hl : lv_has ls 1 [(0, .int (iI p1))] := hl
  refine lv_iload_n hx hb dX12_isSlot_0 rfl (lv_at hl 0 rfl) ?_
  refine lv_i2l (v := lI p1) hx hb dX12_isSlot_1 (iI_2l (by omega)) ?_
  refine lv_lconst (v := lI 0) hx hb dX12_isSlot_2 (by decide) ?_
  refine lv_ldc2 (own := RX12) (v := 3) hx hb hown (hts _ wd_1395) dX12_isSlot_3 ?_
  refine fn_topl (lI 3) (by decide) ?_
  refine fn_goi (wc := []) (wr := []) hK hP hD hS hA [] [] rfl rfl (by decide) (fun hp => va_runS (As := [.long (lI p1), .long (lI 0), .long (lI 3)]) (rest := []) ⟨hx, hb, hml, hown, hts⟩ (k_X12_in (l := l) (D := D) (K := K) (p1 := p1) (p2 := 0) (p3 := 3) (hp1 := (by omega)) (hp2 := (by omega)) (hp3 := (by omega)) _) (va_cwS 3 hts (fn_ginS (fn_gin wd_1398) wd_1396 wd_1397 wd_13) rfl rfl rfl (by decide +kernel) ⟨Nat.le_of_ble_eq_true rfl, Nat.le_of_ble_eq_true rfl⟩) ⟨fn_blind, hp⟩ rfl rfl hl.1 rfl (lv_room (Nat.le_of_ble_eq_true rfl)) dX12_isSlot_6 ⟨Nat.le_of_ble_eq_true rfl, Nat.le_of_ble_eq_true rfl⟩) (fun r6 u6 H locs hwu6 hP hD hS => ?_)
  obtain ⟨u6a, u6b⟩ := u6
  obtain ⟨kr6, rfl, hkr6, hqu60, -⟩ := hwu6
  have hqu6 : (kr6 = 1 → (0 : Int) ≤ p1 ∧ p1 ≤ (3 : Int)) ∧ (kr6 = 0 → p1 < (0 : Int) ∨ (3 : Int) < p1) := hqu60
  clear hqu60
  have hP : va_P D vwCl [] H := hP
  have hD : va_D A [] := hD
  rw [hQ]; exact fn_iret hx hb hr hlocks (iI_nz (by omega)) hP hD hS ((fun _ => 0), (fun _ _ => 0)) ⟨kr6, rfl, by omega, (by show (kr6 = 1 → 0 ≤ p1 ∧ p1 ≤ 3) ∧ (kr6 = 0 → p1 < 0 ∨ 3 < p1); omega), trivial⟩ [] (by decide) rfl dX12_isSlot_9
theorem wd_1234 : Cond.fieldLink "FootNotesModel" 104 "FootNotesModel" "thrown" "I" ∈ fn_big := fn_tb (fn_l6 (List.mem_of_getElem? (i := 34) (by decide +kernel))) (by decide +kernel)
theorem wd_1235 : Cond.fieldLink "FootNotesModel" 7 "FootNotesModel" "width" "[I" ∈ fn_big := fn_tb (fn_l6 (List.mem_of_getElem? (i := 35) (by decide +kernel))) (by decide +kernel)
theorem wd_1236 : Cond.fieldLink "FootNotesModel" 13 "FootNotesModel" "many" "[I" ∈ fn_big := fn_tb (fn_l6 (List.mem_of_getElem? (i := 36) (by decide +kernel))) (by decide +kernel)
theorem wd_1237 : Cond.fieldLink "FootNotesModel" 16 "FootNotesModel" "cells" "[J" ∈ fn_big := fn_tb (fn_l6 (List.mem_of_getElem? (i := 37) (by decide +kernel))) (by decide +kernel)
theorem wd_1394 : Cond.code ⟨"FootNotesModel", "isSlot", "(I)Z"⟩ prog_14_method_4_code 1 (Option.some Jvm.ClassFile.FieldType.boolean) ∈ fn_big := fn_tb (fn_l6 (List.mem_of_getElem? (i := 194) (by decide +kernel))) (by decide +kernel)
theorem wd_1392 : Cond.methodLink "FootNotesModel" 113 ⟨"FootNotesModel", "isSlot", "(I)Z"⟩ ∈ fn_big := fn_tb (fn_l6 (List.mem_of_getElem? (i := 192) (by decide +kernel))) (by decide +kernel)
theorem wd_1393 : Cond.static ⟨"FootNotesModel", "isSlot", "(I)Z"⟩ ∈ fn_big := fn_tb (fn_l6 (List.mem_of_getElem? (i := 193) (by decide +kernel))) (by decide +kernel)
theorem dX12_row_57 : decode cX12_row 57 = .ok (.iload 4, 2) := by decide +kernel
theorem dX12_row_59 : decode cX12_row 59 = .ok (.iload_n 3, 1) := by decide +kernel
theorem dX12_row_60 : decode cX12_row 60 = .ok (.if_icmp .ge 22, 3) := by decide +kernel
theorem dX12_row_82 : decode cX12_row 82 = .ok (.iconst 0, 1) := by decide +kernel
theorem dX12_row_83 : decode cX12_row 83 = .ok (.ireturn, 1) := by decide +kernel
theorem dX12_row_63 : decode cX12_row 63 = .ok (.aload_n 0, 1) := by decide +kernel
theorem dX12_row_64 : decode cX12_row 64 = .ok (.getfield 16, 3) := by decide +kernel
theorem dX12_row_67 : decode cX12_row 67 = .ok (.bipush 60, 2) := by decide +kernel
theorem dX12_row_69 : decode cX12_row 69 = .ok (.iload_n 1, 1) := by decide +kernel
theorem dX12_row_70 : decode cX12_row 70 = .ok (.imul, 1) := by decide +kernel
theorem dX12_row_71 : decode cX12_row 71 = .ok (.iload 4, 2) := by decide +kernel
theorem dX12_row_73 : decode cX12_row 73 = .ok (.iadd, 1) := by decide +kernel
theorem dX12_row_74 : decode cX12_row 74 = .ok (.lconst 0, 1) := by decide +kernel
theorem dX12_row_75 : decode cX12_row 75 = .ok (.lastore, 1) := by decide +kernel
theorem dX12_row_76 : decode cX12_row 76 = .ok (.iinc 4 1, 3) := by decide +kernel
theorem dX12_row_79 : decode cX12_row 79 = .ok (.goto (-22), 3) := by decide +kernel
theorem dX12_row_0 : decode cX12_row 0 = .ok (.aload_n 0, 1) := by decide +kernel
theorem dX12_row_1 : decode cX12_row 1 = .ok (.iconst 0, 1) := by decide +kernel
theorem dX12_row_2 : decode cX12_row 2 = .ok (.putfield 104, 3) := by decide +kernel
theorem dX12_row_5 : decode cX12_row 5 = .ok (.iload_n 1, 1) := by decide +kernel
theorem dX12_row_6 : decode cX12_row 6 = .ok (.invokestatic 113, 3) := by decide +kernel
theorem dX12_row_9 : decode cX12_row 9 = .ok (.ifCond .eq 21, 3) := by decide +kernel
theorem dX12_row_30 : decode cX12_row 30 = .ok (.bipush (-2), 2) := by decide +kernel
theorem dX12_row_32 : decode cX12_row 32 = .ok (.ireturn, 1) := by decide +kernel
theorem dX12_row_12 : decode cX12_row 12 = .ok (.iload_n 2, 1) := by decide +kernel
theorem dX12_row_13 : decode cX12_row 13 = .ok (.i2l, 1) := by decide +kernel
theorem dX12_row_14 : decode cX12_row 14 = .ok (.lconst 0, 1) := by decide +kernel
theorem dX12_row_15 : decode cX12_row 15 = .ok (.ldc2_w 107, 3) := by decide +kernel
theorem dX12_row_18 : decode cX12_row 18 = .ok (.invokestatic 109, 3) := by decide +kernel
theorem dX12_row_21 : decode cX12_row 21 = .ok (.ifCond .eq 9, 3) := by decide +kernel
theorem dX12_row_24 : decode cX12_row 24 = .ok (.iload_n 3, 1) := by decide +kernel
theorem dX12_row_25 : decode cX12_row 25 = .ok (.bipush 60, 2) := by decide +kernel
theorem dX12_row_27 : decode cX12_row 27 = .ok (.if_icmp .le 6, 3) := by decide +kernel
theorem dX12_row_33 : decode cX12_row 33 = .ok (.iload_n 3, 1) := by decide +kernel
theorem dX12_row_34 : decode cX12_row 34 = .ok (.ifCond .ge 6, 3) := by decide +kernel
theorem dX12_row_40 : decode cX12_row 40 = .ok (.aload_n 0, 1) := by decide +kernel
theorem dX12_row_41 : decode cX12_row 41 = .ok (.getfield 7, 3) := by decide +kernel
theorem dX12_row_44 : decode cX12_row 44 = .ok (.iload_n 1, 1) := by decide +kernel
theorem dX12_row_45 : decode cX12_row 45 = .ok (.iload_n 2, 1) := by decide +kernel
theorem dX12_row_46 : decode cX12_row 46 = .ok (.iastore, 1) := by decide +kernel
theorem dX12_row_47 : decode cX12_row 47 = .ok (.aload_n 0, 1) := by decide +kernel
theorem dX12_row_48 : decode cX12_row 48 = .ok (.getfield 13, 3) := by decide +kernel
theorem dX12_row_51 : decode cX12_row 51 = .ok (.iload_n 1, 1) := by decide +kernel
theorem dX12_row_52 : decode cX12_row 52 = .ok (.iload_n 3, 1) := by decide +kernel
theorem dX12_row_53 : decode cX12_row 53 = .ok (.iastore, 1) := by decide +kernel
theorem dX12_row_54 : decode cX12_row 54 = .ok (.iconst 0, 1) := by decide +kernel
theorem dX12_row_55 : decode cX12_row 55 = .ok (.istore 4, 2) := by decide +kernel
theorem dX12_row_37 : decode cX12_row 37 = .ok (.bipush (-3), 2) := by decide +kernel
theorem dX12_row_39 : decode cX12_row 39 = .ok (.ireturn, 1) := by decide +kernel
set_option maxHeartbeats 4000000 in
set_option maxRecDepth 100000 in
theorem k_X12_row (l : Launch) (D : va_G) (K : Nat → ClassId) (t : Nat) (t_q : Nat → Nat) (p1 p2 p3 t_x0 t_x6 t_x7 t_x8 t_x9 t_x10 t_x11 t_x12 t_x13 t_x14 t_x15 t_x32 t_x33 t_x34 t_x35 t_x39 t_x40 t_x43 t_x44 t_x48 t_x49 t_x50 : Int) (t_1_c : Nat → Int) (t_2_c : Nat → Int) (t_3_c : Nat → Int) (hp1 : (-2147483648) ≤ p1 ∧ p1 ≤ 2147483647) (hp2 : (-2147483648) ≤ p2 ∧ p2 ≤ 2147483647) (hp3 : (-2147483648) ≤ p3 ∧ p3 ≤ 2147483647) (hi_t : bM12 t_x0 t_x6 t_x7 t_x8 t_x9 t_x10 t_x11 t_x12 t_x13 t_x14 t_x15 t_x32 t_x33 t_x34 t_x35 t_x39 t_x40 t_x43 t_x44 t_x48 t_x49 t_x50) (hc_t_1 : ∀ j : Nat, (-1) ≤ t_1_c j ∧ t_1_c j ≤ 3) (hc_t_2 : ∀ j : Nat, 0 ≤ t_2_c j ∧ t_2_c j ≤ 60) (hc_t_3 : ∀ j : Nat, (-9223372036854775808) ≤ t_3_c j ∧ t_3_c j ≤ 9223372036854775807) : fn_CI (S := (Nat → Int) × (Nat → Nat → Int)) l D K yX12_row (fn_ws yX12_row cX12_row 5 (some .int)) ({ frames := 12, cells := 0, slots := 0, locals := 300 } : Room) [.ref t, .int (iI p1), .int (iI p2), .int (iI p3)] [(t, .inr (12, oX12 t_q t_x0 t_x6 t_x7 t_x8 t_x9 t_x10 t_x11 t_x12 t_x13 t_x14 t_x15 t_x32 t_x33 t_x34 t_x35 t_x39 t_x40 t_x43 t_x44 t_x48 t_x49 t_x50)), ((t_q 1), .inl (K 0, 4, .inl (fun j => iI (t_1_c j)))), ((t_q 2), .inl (K 0, 4, .inl (fun j => iI (t_2_c j)))), ((t_q 3), .inl (K 3, 240, .inr (.inl (fun j => lI (t_3_c j)))))] (fun r u => ∃ k : Int, r = iI k ∧ ((-3) ≤ k ∧ k ≤ 0) ∧ ((-2147483648) ≤ (u.1 0) ∧ (u.1 0) ≤ 2147483647) ∧ (∀ j : Nat, (-1) ≤ (u.2 0) j ∧ (u.2 0) j ≤ 3) ∧ (∀ j : Nat, 0 ≤ (u.2 1) j ∧ (u.2 1) j ≤ 60) ∧ (∀ j : Nat, (-9223372036854775808) ≤ (u.2 2) j ∧ (u.2 2) j ≤ 9223372036854775807) ∧ True) (fun u => [(t, .inr (12, oX12 t_q (u.1 0) t_x6 t_x7 t_x8 t_x9 t_x10 t_x11 t_x12 t_x13 t_x14 t_x15 t_x32 t_x33 t_x34 t_x35 t_x39 t_x40 t_x43 t_x44 t_x48 t_x49 t_x50)), ((t_q 1), .inl (K 0, 4, .inl (fun j => iI ((u.2 0) j)))), ((t_q 2), .inl (K 0, 4, .inl (fun j => iI ((u.2 1) j)))), ((t_q 3), .inl (K 3, 240, .inr (.inl (fun j => lI ((u.2 2) j)))))]) 0 0 := by
  refine g_inI (cc := cX12_row) (maxL := 5) (ret := (some .int)) (by decide) rfl (Nat.le_of_ble_eq_true rfl) ?_
  intro p e s m below meth c A ls ag Q B hA hP hD hS hl hQ
  obtain ⟨hx, hb, hr, hml, hts, hown, hlocks, hin, hK⟩ := B
  have hown : s.vm.findClass RX12 = some m.cls := hown
  have hts := fun w h => hts w (List.mem_cons_of_mem _ h)
  have J57 : ∀ (n : Nat) (x57_4 : Int) (c57_t_1 : Nat → Int) (c57_t_2 : Nat → Int) (c57_t_3 : Nat → Int) (H : Heap) (locs : List Loc) (ls : Array Slot), (60 - x57_4).toNat < n → (0 ≤ p1 ∧ p1 ≤ 3 ∧ 0 ≤ p2 ∧ p2 ≤ 3 ∧ 0 ≤ p3 ∧ p3 ≤ 60 ∧ 0 ≤ x57_4 ∧ x57_4 ≤ 60) → (∀ j : Nat, (-1) ≤ c57_t_1 j ∧ c57_t_1 j ≤ 3) → (∀ j : Nat, 0 ≤ c57_t_2 j ∧ c57_t_2 j ≤ 60) → (∀ j : Nat, (-9223372036854775808) ≤ c57_t_3 j ∧ c57_t_3 j ≤ 9223372036854775807) → va_P D vwCl [(t, .inr (12, oX12 t_q 0 t_x6 t_x7 t_x8 t_x9 t_x10 t_x11 t_x12 t_x13 t_x14 t_x15 t_x32 t_x33 t_x34 t_x35 t_x39 t_x40 t_x43 t_x44 t_x48 t_x49 t_x50)), ((t_q 1), .inl (K 0, 4, .inl (fun j => iI (c57_t_1 j)))), ((t_q 2), .inl (K 0, 4, .inl (fun j => iI (c57_t_2 j)))), ((t_q 3), .inl (K 3, 240, .inr (.inl (fun j => lI (c57_t_3 j)))))] H → va_D A [(t, .inr (12, oX12 t_q 0 t_x6 t_x7 t_x8 t_x9 t_x10 t_x11 t_x12 t_x13 t_x14 t_x15 t_x32 t_x33 t_x34 t_x35 t_x39 t_x40 t_x43 t_x44 t_x48 t_x49 t_x50)), ((t_q 1), .inl (K 0, 4, .inl (fun j => iI (c57_t_1 j)))), ((t_q 2), .inl (K 0, 4, .inl (fun j => iI (c57_t_2 j)))), ((t_q 3), .inl (K 3, 240, .inr (.inl (fun j => lI (c57_t_3 j)))))] → va_S A s.heap H locs → lv_has ls 5 [(0, .ref t), (1, .int (iI p1)), (2, .int (iI p2)), (3, .int (iI p3)), (4, .int (iI x57_4))] → W p l e ({ frames := 12, cells := 0, slots := 0, locals := 300 } : Room) s m ag below meth c H locs 0 0 Q (F0 m 57 ls []) := by
    intro n
    induction n with
    | zero =>
      intro x57_4 c57_t_1 c57_t_2 c57_t_3 H locs ls hm57 hf57 hc57_t_1 hc57_t_2 hc57_t_3 hP hD hS hl
      exact absurd hm57 (Nat.not_lt_zero _)
    | succ n ih57 =>
      intro x57_4 c57_t_1 c57_t_2 c57_t_3 H locs ls hm57 hf57 hc57_t_1 hc57_t_2 hc57_t_3 hP hD hS hl
      refine lv_iload hx hb dX12_row_57 (lv_at hl 4 rfl) ?_
      refine lv_iload_n hx hb dX12_row_59 rfl (lv_at hl 3 rfl) ?_
      refine g_icmp_ge (tgt := 82) hx hb (by omega) (by omega) dX12_row_60 (by decide) (fun c60 => ?_) (fun c60 => ?_)
      · refine lv_iconst (v := iI 0) hx hb dX12_row_82 rfl ?_
        rw [hQ]; exact fn_iret hx hb hr hlocks rfl hP hD hS ((fun k => ([0] : List Int).getD k 0), (fun k => ([c57_t_1, c57_t_2, c57_t_3] : List (Nat → Int)).getD k (fun _ => 0))) ⟨0, rfl, by omega, (by show (-2147483648) ≤ 0 ∧ 0 ≤ 2147483647; omega), (hc57_t_1), (hc57_t_2), (hc57_t_3), trivial⟩ [0, 1, 2, 3] (by decide) rfl dX12_row_83
      · refine lv_aload_n hx hb dX12_row_63 rfl (lv_at hl 0 rfl) ?_
        refine va_get (D := D) (own := RX12) (ci := 12) (v := .ref (t_q 3)) (C := RX12) (T := TX12) (N := 51) hx hb hts inb_X12 hown hK.1 hP 0 rfl rfl 3 (by decide) (hts _ wd_1237) (fun _ h9 => h9) rfl dX12_row_64 ?_
        refine lv_bipush (v := iI 60) hx hb dX12_row_67 (by decide) ?_
        refine lv_iload_n hx hb dX12_row_69 rfl (lv_at hl 1 rfl) ?_
        refine g_imul hx hb dX12_row_70 ?_
        refine lv_iload hx hb dX12_row_71 (lv_at hl 4 rfl) ?_
        refine g_iadd hx hb dX12_row_73 ?_
        refine lv_lconst (v := lI 0) hx hb dX12_row_74 (by decide) ?_
        refine g_last hx hb hK.1 hP hD hS 3 3 rfl rfl (by omega) (by omega) (by decide) dX12_row_75 (fun H locs g75 eg75 hP hD hS => ?_)
        have hg75 : ∀ j : Nat, (-9223372036854775808) ≤ g75 j ∧ g75 j ≤ 9223372036854775807 := by rw [eg75]; exact uI_all hc57_t_3 (by omega)
        have hP : va_P D vwCl [(t, .inr (12, oX12 t_q 0 t_x6 t_x7 t_x8 t_x9 t_x10 t_x11 t_x12 t_x13 t_x14 t_x15 t_x32 t_x33 t_x34 t_x35 t_x39 t_x40 t_x43 t_x44 t_x48 t_x49 t_x50)), ((t_q 1), .inl (K 0, 4, .inl (fun j => iI (c57_t_1 j)))), ((t_q 2), .inl (K 0, 4, .inl (fun j => iI (c57_t_2 j)))), ((t_q 3), .inl (K 3, 240, .inr (.inl (fun j => lI (g75 j)))))] H := hP
        have hD : va_D A [(t, .inr (12, oX12 t_q 0 t_x6 t_x7 t_x8 t_x9 t_x10 t_x11 t_x12 t_x13 t_x14 t_x15 t_x32 t_x33 t_x34 t_x35 t_x39 t_x40 t_x43 t_x44 t_x48 t_x49 t_x50)), ((t_q 1), .inl (K 0, 4, .inl (fun j => iI (c57_t_1 j)))), ((t_q 2), .inl (K 0, 4, .inl (fun j => iI (c57_t_2 j)))), ((t_q 3), .inl (K 3, 240, .inr (.inl (fun j => lI (g75 j)))))] := hD
        refine lv_iinc (v := iI (x57_4 + 1)) (lv' := [(4, .int (iI (x57_4 + 1))), (0, .ref t), (1, .int (iI p1)), (2, .int (iI p2)), (3, .int (iI p3))]) hx hb dX12_row_76 hl (k := 4) rfl (iI_add _ _) (by decide) rfl (fun ls hl => ?_)
        refine lv_goto (tgt := 57) hx hb dX12_row_79 (by decide) ?_
        exact ih57 (x57_4 + 1) c57_t_1 c57_t_2 g75 _ _ ls (by omega) (by omega) hc57_t_1 hc57_t_2 hg75 (hP.sub [0, 1, 2, 3] rfl) (hD.sub [0, 1, 2, 3] (by decide) rfl) hS (lv_sub hl [1, 2, 3, 4, 0] rfl)
  have hl : lv_has ls 5 [(0, .ref t), (1, .int (iI p1)), (2, .int (iI p2)), (3, .int (iI p3))] := hl
  refine lv_aload_n hx hb dX12_row_0 rfl (lv_at hl 0 rfl) ?_
  refine lv_iconst (v := iI 0) hx hb dX12_row_1 rfl ?_
  refine va_put (D := D) (own := RX12) (ci := 12) (v := .int (iI 0)) (ty := .int) (C := RX12) (T := TX12) (N := 51) hx hb hts inb_X12 tyX12 tyX12_ok nmX12 hown hK.1 hP hD hS 0 rfl rfl 0 (by decide) (hts _ wd_1234) (fun _ h9 => h9) rfl (by decide +kernel) rfl rfl (Nat.le_of_ble_eq_true rfl) dX12_row_2 (fun H locs hP hD hS => ?_)
  have hP : va_P D vwCl [(t, .inr (12, oX12 t_q 0 t_x6 t_x7 t_x8 t_x9 t_x10 t_x11 t_x12 t_x13 t_x14 t_x15 t_x32 t_x33 t_x34 t_x35 t_x39 t_x40 t_x43 t_x44 t_x48 t_x49 t_x50)), ((t_q 1), .inl (K 0, 4, .inl (fun j => iI (t_1_c j)))), ((t_q 2), .inl (K 0, 4, .inl (fun j => iI (t_2_c j)))), ((t_q 3), .inl (K 3, 240, .inr (.inl (fun j => lI (t_3_c j)))))] H := hP
  have hD : va_D A [(t, .inr (12, oX12 t_q 0 t_x6 t_x7 t_x8 t_x9 t_x10 t_x11 t_x12 t_x13 t_x14 t_x15 t_x32 t_x33 t_x34 t_x35 t_x39 t_x40 t_x43 t_x44 t_x48 t_x49 t_x50)), ((t_q 1), .inl (K 0, 4, .inl (fun j => iI (t_1_c j)))), ((t_q 2), .inl (K 0, 4, .inl (fun j => iI (t_2_c j)))), ((t_q 3), .inl (K 3, 240, .inr (.inl (fun j => lI (t_3_c j)))))] := hD
  refine lv_iload_n hx hb dX12_row_5 rfl (lv_at hl 1 rfl) ?_
  refine fn_goi (wc := []) (wr := [(t, .inr (12, oX12 t_q 0 t_x6 t_x7 t_x8 t_x9 t_x10 t_x11 t_x12 t_x13 t_x14 t_x15 t_x32 t_x33 t_x34 t_x35 t_x39 t_x40 t_x43 t_x44 t_x48 t_x49 t_x50)), ((t_q 1), .inl (K 0, 4, .inl (fun j => iI (t_1_c j)))), ((t_q 2), .inl (K 0, 4, .inl (fun j => iI (t_2_c j)))), ((t_q 3), .inl (K 3, 240, .inr (.inl (fun j => lI (t_3_c j)))))]) hK hP hD hS hA [] [0, 1, 2, 3] rfl rfl (by decide) (fun hp => va_runS (As := [.int (iI p1)]) (rest := []) ⟨hx, hb, hml, hown, hts⟩ (k_X12_isSlot (l := l) (D := D) (K := K) (p1 := p1) (hp1 := (by omega)) _) (va_cwS 1 hts (fn_ginS (fn_gin wd_1394) wd_1392 wd_1393 wd_13) rfl rfl rfl (by decide +kernel) ⟨Nat.le_of_ble_eq_true rfl, Nat.le_of_ble_eq_true rfl⟩) ⟨fn_blind, hp⟩ rfl rfl hl.1 rfl (lv_room (Nat.le_of_ble_eq_true rfl)) dX12_row_6 ⟨Nat.le_of_ble_eq_true rfl, Nat.le_of_ble_eq_true rfl⟩) (fun r6 u6 H locs hwu6 hP hD hS => ?_)
  obtain ⟨u6a, u6b⟩ := u6
  obtain ⟨kr6, rfl, hkr6, hqu60, -⟩ := hwu6
  have hqu6 : (kr6 = 1 → 0 ≤ p1 ∧ p1 ≤ 3) ∧ (kr6 = 0 → p1 < 0 ∨ 3 < p1) := hqu60
  clear hqu60
  have hP : va_P D vwCl [(t, .inr (12, oX12 t_q 0 t_x6 t_x7 t_x8 t_x9 t_x10 t_x11 t_x12 t_x13 t_x14 t_x15 t_x32 t_x33 t_x34 t_x35 t_x39 t_x40 t_x43 t_x44 t_x48 t_x49 t_x50)), ((t_q 1), .inl (K 0, 4, .inl (fun j => iI (t_1_c j)))), ((t_q 2), .inl (K 0, 4, .inl (fun j => iI (t_2_c j)))), ((t_q 3), .inl (K 3, 240, .inr (.inl (fun j => lI (t_3_c j)))))] H := hP
  have hD : va_D A [(t, .inr (12, oX12 t_q 0 t_x6 t_x7 t_x8 t_x9 t_x10 t_x11 t_x12 t_x13 t_x14 t_x15 t_x32 t_x33 t_x34 t_x35 t_x39 t_x40 t_x43 t_x44 t_x48 t_x49 t_x50)), ((t_q 1), .inl (K 0, 4, .inl (fun j => iI (t_1_c j)))), ((t_q 2), .inl (K 0, 4, .inl (fun j => iI (t_2_c j)))), ((t_q 3), .inl (K 3, 240, .inr (.inl (fun j => lI (t_3_c j)))))] := hD
  refine g_if_eq (tgt := 30) hx hb (by omega) dX12_row_9 (by decide) (fun c9 => ?_) (fun c9 => ?_)
  · refine lv_bipush (v := iI (-2)) hx hb dX12_row_30 (by decide) ?_
    rw [hQ]; exact fn_iret hx hb hr hlocks rfl hP hD hS ((fun k => ([0] : List Int).getD k 0), (fun k => ([t_1_c, t_2_c, t_3_c] : List (Nat → Int)).getD k (fun _ => 0))) ⟨(-2), rfl, by omega, (by show (-2147483648) ≤ 0 ∧ 0 ≤ 2147483647; omega), (hc_t_1), (hc_t_2), (hc_t_3), trivial⟩ [0, 1, 2, 3] (by decide) rfl dX12_row_32
  · refine lv_iload_n hx hb dX12_row_12 rfl (lv_at hl 2 rfl) ?_
    refine lv_i2l (v := lI p2) hx hb dX12_row_13 (iI_2l (by omega)) ?_
    refine lv_lconst (v := lI 0) hx hb dX12_row_14 (by decide) ?_
    refine lv_ldc2 (own := RX12) (v := 3) hx hb hown (hts _ wd_1395) dX12_row_15 ?_
    refine fn_topl (lI 3) (by decide) ?_
    refine fn_goi (wc := []) (wr := [(t, .inr (12, oX12 t_q 0 t_x6 t_x7 t_x8 t_x9 t_x10 t_x11 t_x12 t_x13 t_x14 t_x15 t_x32 t_x33 t_x34 t_x35 t_x39 t_x40 t_x43 t_x44 t_x48 t_x49 t_x50)), ((t_q 1), .inl (K 0, 4, .inl (fun j => iI (t_1_c j)))), ((t_q 2), .inl (K 0, 4, .inl (fun j => iI (t_2_c j)))), ((t_q 3), .inl (K 3, 240, .inr (.inl (fun j => lI (t_3_c j)))))]) hK hP hD hS hA [] [0, 1, 2, 3] rfl rfl (by decide) (fun hp => va_runS (As := [.long (lI p2), .long (lI 0), .long (lI 3)]) (rest := []) ⟨hx, hb, hml, hown, hts⟩ (k_X12_in (l := l) (D := D) (K := K) (p1 := p2) (p2 := 0) (p3 := 3) (hp1 := (by omega)) (hp2 := (by omega)) (hp3 := (by omega)) _) (va_cwS 3 hts (fn_ginS (fn_gin wd_1398) wd_1396 wd_1397 wd_13) rfl rfl rfl (by decide +kernel) ⟨Nat.le_of_ble_eq_true rfl, Nat.le_of_ble_eq_true rfl⟩) ⟨fn_blind, hp⟩ rfl rfl hl.1 rfl (lv_room (Nat.le_of_ble_eq_true rfl)) dX12_row_18 ⟨Nat.le_of_ble_eq_true rfl, Nat.le_of_ble_eq_true rfl⟩) (fun r18 u18 H locs hwu18 hP hD hS => ?_)
    obtain ⟨u18a, u18b⟩ := u18
    obtain ⟨kr18, rfl, hkr18, hqu180, -⟩ := hwu18
    have hqu18 : (kr18 = 1 → (0 : Int) ≤ p2 ∧ p2 ≤ (3 : Int)) ∧ (kr18 = 0 → p2 < (0 : Int) ∨ (3 : Int) < p2) := hqu180
    clear hqu180
    have hP : va_P D vwCl [(t, .inr (12, oX12 t_q 0 t_x6 t_x7 t_x8 t_x9 t_x10 t_x11 t_x12 t_x13 t_x14 t_x15 t_x32 t_x33 t_x34 t_x35 t_x39 t_x40 t_x43 t_x44 t_x48 t_x49 t_x50)), ((t_q 1), .inl (K 0, 4, .inl (fun j => iI (t_1_c j)))), ((t_q 2), .inl (K 0, 4, .inl (fun j => iI (t_2_c j)))), ((t_q 3), .inl (K 3, 240, .inr (.inl (fun j => lI (t_3_c j)))))] H := hP
    have hD : va_D A [(t, .inr (12, oX12 t_q 0 t_x6 t_x7 t_x8 t_x9 t_x10 t_x11 t_x12 t_x13 t_x14 t_x15 t_x32 t_x33 t_x34 t_x35 t_x39 t_x40 t_x43 t_x44 t_x48 t_x49 t_x50)), ((t_q 1), .inl (K 0, 4, .inl (fun j => iI (t_1_c j)))), ((t_q 2), .inl (K 0, 4, .inl (fun j => iI (t_2_c j)))), ((t_q 3), .inl (K 3, 240, .inr (.inl (fun j => lI (t_3_c j)))))] := hD
    refine g_if_eq (tgt := 30) hx hb (by omega) dX12_row_21 (by decide) (fun c21 => ?_) (fun c21 => ?_)
    · refine lv_bipush (v := iI (-2)) hx hb dX12_row_30 (by decide) ?_
      rw [hQ]; exact fn_iret hx hb hr hlocks rfl hP hD hS ((fun k => ([0] : List Int).getD k 0), (fun k => ([t_1_c, t_2_c, t_3_c] : List (Nat → Int)).getD k (fun _ => 0))) ⟨(-2), rfl, by omega, (by show (-2147483648) ≤ 0 ∧ 0 ≤ 2147483647; omega), (hc_t_1), (hc_t_2), (hc_t_3), trivial⟩ [0, 1, 2, 3] (by decide) rfl dX12_row_32
    · refine lv_iload_n hx hb dX12_row_24 rfl (lv_at hl 3 rfl) ?_
      refine lv_bipush (v := iI 60) hx hb dX12_row_25 (by decide) ?_
      refine g_icmp_le (tgt := 33) hx hb (by omega) (by omega) dX12_row_27 (by decide) (fun c27 => ?_) (fun c27 => ?_)
      · refine lv_iload_n hx hb dX12_row_33 rfl (lv_at hl 3 rfl) ?_
        refine g_if_ge (tgt := 40) hx hb (by omega) dX12_row_34 (by decide) (fun c34 => ?_) (fun c34 => ?_)
        · refine lv_aload_n hx hb dX12_row_40 rfl (lv_at hl 0 rfl) ?_
          refine va_get (D := D) (own := RX12) (ci := 12) (v := .ref (t_q 1)) (C := RX12) (T := TX12) (N := 51) hx hb hts inb_X12 hown hK.1 hP 0 rfl rfl 1 (by decide) (hts _ wd_1235) (fun _ h9 => h9) rfl dX12_row_41 ?_
          refine fn_at 44 rfl ?_
          refine lv_iload_n hx hb dX12_row_44 rfl (lv_at hl 1 rfl) ?_
          refine lv_iload_n hx hb dX12_row_45 rfl (lv_at hl 2 rfl) ?_
          refine g_iast hx hb hK.1 hP hD hS 1 0 rfl rfl (by omega) (by omega) (by decide) dX12_row_46 (fun H locs g46 eg46 hP hD hS => ?_)
          have hg46 : ∀ j : Nat, (-1) ≤ g46 j ∧ g46 j ≤ 3 := by rw [eg46]; exact uI_all hc_t_1 (by omega)
          have hP : va_P D vwCl [(t, .inr (12, oX12 t_q 0 t_x6 t_x7 t_x8 t_x9 t_x10 t_x11 t_x12 t_x13 t_x14 t_x15 t_x32 t_x33 t_x34 t_x35 t_x39 t_x40 t_x43 t_x44 t_x48 t_x49 t_x50)), ((t_q 1), .inl (K 0, 4, .inl (fun j => iI (g46 j)))), ((t_q 2), .inl (K 0, 4, .inl (fun j => iI (t_2_c j)))), ((t_q 3), .inl (K 3, 240, .inr (.inl (fun j => lI (t_3_c j)))))] H := hP
          have hD : va_D A [(t, .inr (12, oX12 t_q 0 t_x6 t_x7 t_x8 t_x9 t_x10 t_x11 t_x12 t_x13 t_x14 t_x15 t_x32 t_x33 t_x34 t_x35 t_x39 t_x40 t_x43 t_x44 t_x48 t_x49 t_x50)), ((t_q 1), .inl (K 0, 4, .inl (fun j => iI (g46 j)))), ((t_q 2), .inl (K 0, 4, .inl (fun j => iI (t_2_c j)))), ((t_q 3), .inl (K 3, 240, .inr (.inl (fun j => lI (t_3_c j)))))] := hD
          refine lv_aload_n hx hb dX12_row_47 rfl (lv_at hl 0 rfl) ?_
          refine va_get (D := D) (own := RX12) (ci := 12) (v := .ref (t_q 2)) (C := RX12) (T := TX12) (N := 51) hx hb hts inb_X12 hown hK.1 hP 0 rfl rfl 2 (by decide) (hts _ wd_1236) (fun _ h9 => h9) rfl dX12_row_48 ?_
          refine lv_iload_n hx hb dX12_row_51 rfl (lv_at hl 1 rfl) ?_
          refine lv_iload_n hx hb dX12_row_52 rfl (lv_at hl 3 rfl) ?_
          refine g_iast hx hb hK.1 hP hD hS 2 0 rfl rfl (by omega) (by omega) (by decide) dX12_row_53 (fun H locs g53 eg53 hP hD hS => ?_)
          have hg53 : ∀ j : Nat, 0 ≤ g53 j ∧ g53 j ≤ 60 := by rw [eg53]; exact uI_all hc_t_2 (by omega)
          have hP : va_P D vwCl [(t, .inr (12, oX12 t_q 0 t_x6 t_x7 t_x8 t_x9 t_x10 t_x11 t_x12 t_x13 t_x14 t_x15 t_x32 t_x33 t_x34 t_x35 t_x39 t_x40 t_x43 t_x44 t_x48 t_x49 t_x50)), ((t_q 1), .inl (K 0, 4, .inl (fun j => iI (g46 j)))), ((t_q 2), .inl (K 0, 4, .inl (fun j => iI (g53 j)))), ((t_q 3), .inl (K 3, 240, .inr (.inl (fun j => lI (t_3_c j)))))] H := hP
          have hD : va_D A [(t, .inr (12, oX12 t_q 0 t_x6 t_x7 t_x8 t_x9 t_x10 t_x11 t_x12 t_x13 t_x14 t_x15 t_x32 t_x33 t_x34 t_x35 t_x39 t_x40 t_x43 t_x44 t_x48 t_x49 t_x50)), ((t_q 1), .inl (K 0, 4, .inl (fun j => iI (g46 j)))), ((t_q 2), .inl (K 0, 4, .inl (fun j => iI (g53 j)))), ((t_q 3), .inl (K 3, 240, .inr (.inl (fun j => lI (t_3_c j)))))] := hD
          refine lv_iconst (v := iI 0) hx hb dX12_row_54 rfl ?_
          refine lv_istore (lv' := [(4, .int (iI 0)), (0, .ref t), (1, .int (iI p1)), (2, .int (iI p2)), (3, .int (iI p3))]) hx hb dX12_row_55 hl (by decide) rfl (fun ls hl => ?_)
          exact J57 _ 0 g46 g53 t_3_c _ _ ls (Nat.lt_succ_self _) (by omega) hg46 hg53 hc_t_3 (hP.sub [0, 1, 2, 3] rfl) (hD.sub [0, 1, 2, 3] (by decide) rfl) hS (lv_sub hl [1, 2, 3, 4, 0] rfl)
        · refine lv_bipush (v := iI (-3)) hx hb dX12_row_37 (by decide) ?_
          rw [hQ]; exact fn_iret hx hb hr hlocks rfl hP hD hS ((fun k => ([0] : List Int).getD k 0), (fun k => ([t_1_c, t_2_c, t_3_c] : List (Nat → Int)).getD k (fun _ => 0))) ⟨(-3), rfl, by omega, (by show (-2147483648) ≤ 0 ∧ 0 ≤ 2147483647; omega), (hc_t_1), (hc_t_2), (hc_t_3), trivial⟩ [0, 1, 2, 3] (by decide) rfl dX12_row_39
      · refine lv_bipush (v := iI (-2)) hx hb dX12_row_30 (by decide) ?_
        rw [hQ]; exact fn_iret hx hb hr hlocks rfl hP hD hS ((fun k => ([0] : List Int).getD k 0), (fun k => ([t_1_c, t_2_c, t_3_c] : List (Nat → Int)).getD k (fun _ => 0))) ⟨(-2), rfl, by omega, (by show (-2147483648) ≤ 0 ∧ 0 ≤ 2147483647; omega), (hc_t_1), (hc_t_2), (hc_t_3), trivial⟩ [0, 1, 2, 3] (by decide) rfl dX12_row_32
theorem dX12_cut_0 : decode cX12_cut 0 = .ok (.iload_n 2, 1) := by decide +kernel
theorem dX12_cut_1 : decode cX12_cut 1 = .ok (.ifCond .ne 10, 3) := by decide +kernel
theorem dX12_cut_11 : decode cX12_cut 11 = .ok (.iload_n 2, 1) := by decide +kernel
theorem dX12_cut_12 : decode cX12_cut 12 = .ok (.iconst 1, 1) := by decide +kernel
theorem dX12_cut_13 : decode cX12_cut 13 = .ok (.if_icmp .ne 10, 3) := by decide +kernel
theorem dX12_cut_23 : decode cX12_cut 23 = .ok (.iload_n 2, 1) := by decide +kernel
theorem dX12_cut_24 : decode cX12_cut 24 = .ok (.iconst 2, 1) := by decide +kernel
theorem dX12_cut_25 : decode cX12_cut 25 = .ok (.if_icmp .ne 9, 3) := by decide +kernel
theorem dX12_cut_34 : decode cX12_cut 34 = .ok (.lload_n 0, 1) := by decide +kernel
theorem dX12_cut_35 : decode cX12_cut 35 = .ok (.lreturn, 1) := by decide +kernel
theorem dX12_cut_28 : decode cX12_cut 28 = .ok (.lload_n 0, 1) := by decide +kernel
theorem dX12_cut_29 : decode cX12_cut 29 = .ok (.l2i, 1) := by decide +kernel
theorem dX12_cut_30 : decode cX12_cut 30 = .ok (.i2l, 1) := by decide +kernel
theorem dX12_cut_31 : decode cX12_cut 31 = .ok (.goto 4, 3) := by decide +kernel
theorem dX12_cut_16 : decode cX12_cut 16 = .ok (.lload_n 0, 1) := by decide +kernel
theorem dX12_cut_17 : decode cX12_cut 17 = .ok (.l2i, 1) := by decide +kernel
theorem dX12_cut_18 : decode cX12_cut 18 = .ok (.i2s, 1) := by decide +kernel
theorem dX12_cut_19 : decode cX12_cut 19 = .ok (.i2l, 1) := by decide +kernel
theorem dX12_cut_20 : decode cX12_cut 20 = .ok (.goto 15, 3) := by decide +kernel
theorem dX12_cut_4 : decode cX12_cut 4 = .ok (.lload_n 0, 1) := by decide +kernel
theorem dX12_cut_5 : decode cX12_cut 5 = .ok (.l2i, 1) := by decide +kernel
theorem dX12_cut_6 : decode cX12_cut 6 = .ok (.i2b, 1) := by decide +kernel
theorem dX12_cut_7 : decode cX12_cut 7 = .ok (.i2l, 1) := by decide +kernel
theorem dX12_cut_8 : decode cX12_cut 8 = .ok (.goto 27, 3) := by decide +kernel
set_option maxHeartbeats 4000000 in
set_option maxRecDepth 100000 in
theorem k_X12_cut (l : Launch) (D : va_G) (K : Nat → ClassId) (p1 p2 : Int) (hp1 : (-9223372036854775808) ≤ p1 ∧ p1 ≤ 9223372036854775807) (hp2 : (-2147483648) ≤ p2 ∧ p2 ≤ 2147483647) : fn_CL (S := (Nat → Int) × (Nat → Nat → Int)) l D K yX12_cut (fn_ws yX12_cut cX12_cut 3 (some .long)) ({ frames := 4, cells := 0, slots := 0, locals := 100 } : Room) [.long (lI p1), .int (iI p2)] [] (fun r u => ∃ k : Int, r = lI k ∧ ((-9223372036854775808) ≤ k ∧ k ≤ 9223372036854775807) ∧ True) (fun u => []) 0 0 := by
  refine g_inL (cc := cX12_cut) (maxL := 3) (ret := (some .long)) (by decide) rfl (Nat.le_of_ble_eq_true rfl) ?_
  intro p e s m below meth c A ls ag Q B hA hP hD hS hl hQ
  obtain ⟨hx, hb, hr, hml, hts, hown, hlocks, hin, hK⟩ := B
  have hown : s.vm.findClass RX12 = some m.cls := hown
  have hts := fun w h => hts w (List.mem_cons_of_mem _ h)
  have hl : lv_has ls 3 [(0, .long (lI p1)), (2, .int (iI p2))] := hl
  refine lv_iload_n hx hb dX12_cut_0 rfl (lv_at hl 1 rfl) ?_
  refine g_if_ne (tgt := 11) hx hb (by omega) dX12_cut_1 (by decide) (fun c1 => ?_) (fun c1 => ?_)
  · refine lv_iload_n hx hb dX12_cut_11 rfl (lv_at hl 1 rfl) ?_
    refine lv_iconst (v := iI 1) hx hb dX12_cut_12 rfl ?_
    refine g_icmp_ne (tgt := 23) hx hb (by omega) (by omega) dX12_cut_13 (by decide) (fun c13 => ?_) (fun c13 => ?_)
    · refine lv_iload_n hx hb dX12_cut_23 rfl (lv_at hl 1 rfl) ?_
      refine lv_iconst (v := iI 2) hx hb dX12_cut_24 rfl ?_
      refine g_icmp_ne (tgt := 34) hx hb (by omega) (by omega) dX12_cut_25 (by decide) (fun c25 => ?_) (fun c25 => ?_)
      · refine lv_lload_n hx hb dX12_cut_34 rfl (lv_at hl 0 rfl) ?_
        rw [hQ]; exact fn_lret hx hb hr hlocks hP hD hS ((fun _ => 0), (fun _ _ => 0)) ⟨p1, rfl, by omega, trivial⟩ [] (by decide) rfl dX12_cut_35
      · refine lv_lload_n hx hb dX12_cut_28 rfl (lv_at hl 0 rfl) ?_
        refine lv_l2i hx hb dX12_cut_29 rfl ?_
        refine g_any (fun w29 hw29 ew29 => ?_)
        refine lv_i2l (v := lI w29) hx hb dX12_cut_30 (iI_2l (by omega)) ?_
        refine lv_goto (tgt := 35) hx hb dX12_cut_31 (by decide) ?_
        rw [hQ]; exact fn_lret hx hb hr hlocks hP hD hS ((fun _ => 0), (fun _ _ => 0)) ⟨w29, rfl, by omega, trivial⟩ [] (by decide) rfl dX12_cut_35
    · refine lv_lload_n hx hb dX12_cut_16 rfl (lv_at hl 0 rfl) ?_
      refine lv_l2i hx hb dX12_cut_17 rfl ?_
      refine g_any (fun w17 hw17 ew17 => ?_)
      refine lv_i2s hx hb dX12_cut_18 rfl ?_
      obtain ⟨w18, ew18, hw18⟩ := iI_i2s w17
      refine fn_top (iI w18) ew18 ?_
      refine lv_i2l (v := lI w18) hx hb dX12_cut_19 (iI_2l (by omega)) ?_
      refine lv_goto (tgt := 35) hx hb dX12_cut_20 (by decide) ?_
      rw [hQ]; exact fn_lret hx hb hr hlocks hP hD hS ((fun _ => 0), (fun _ _ => 0)) ⟨w18, rfl, by omega, trivial⟩ [] (by decide) rfl dX12_cut_35
  · refine lv_lload_n hx hb dX12_cut_4 rfl (lv_at hl 0 rfl) ?_
    refine lv_l2i hx hb dX12_cut_5 rfl ?_
    refine g_any (fun w5 hw5 ew5 => ?_)
    refine lv_i2b hx hb dX12_cut_6 rfl ?_
    obtain ⟨w6, ew6, hw6⟩ := iI_i2b w5
    refine fn_top (iI w6) ew6 ?_
    refine lv_i2l (v := lI w6) hx hb dX12_cut_7 (iI_2l (by omega)) ?_
    refine lv_goto (tgt := 35) hx hb dX12_cut_8 (by decide) ?_
    rw [hQ]; exact fn_lret hx hb hr hlocks hP hD hS ((fun _ => 0), (fun _ _ => 0)) ⟨w6, rfl, by omega, trivial⟩ [] (by decide) rfl dX12_cut_35
theorem wd_1405 : Cond.code ⟨"FootNotesModel", "cut", "(JI)J"⟩ prog_14_method_6_code 3 (Option.some Jvm.ClassFile.FieldType.long) ∈ fn_big := fn_tb (fn_l6 (List.mem_of_getElem? (i := 205) (by decide +kernel))) (by decide +kernel)
theorem wd_1403 : Cond.methodLink "FootNotesModel" 117 ⟨"FootNotesModel", "cut", "(JI)J"⟩ ∈ fn_big := fn_tb (fn_l6 (List.mem_of_getElem? (i := 203) (by decide +kernel))) (by decide +kernel)
theorem wd_1404 : Cond.static ⟨"FootNotesModel", "cut", "(JI)J"⟩ ∈ fn_big := fn_tb (fn_l6 (List.mem_of_getElem? (i := 204) (by decide +kernel))) (by decide +kernel)
theorem dX12_write_0 : decode cX12_write 0 = .ok (.aload_n 0, 1) := by decide +kernel
theorem dX12_write_1 : decode cX12_write 1 = .ok (.iconst 0, 1) := by decide +kernel
theorem dX12_write_2 : decode cX12_write 2 = .ok (.putfield 104, 3) := by decide +kernel
theorem dX12_write_5 : decode cX12_write 5 = .ok (.iload_n 1, 1) := by decide +kernel
theorem dX12_write_6 : decode cX12_write 6 = .ok (.invokestatic 113, 3) := by decide +kernel
theorem dX12_write_9 : decode cX12_write 9 = .ok (.ifCond .ne 6, 3) := by decide +kernel
theorem dX12_write_15 : decode cX12_write 15 = .ok (.aload_n 0, 1) := by decide +kernel
theorem dX12_write_16 : decode cX12_write 16 = .ok (.getfield 7, 3) := by decide +kernel
theorem dX12_write_19 : decode cX12_write 19 = .ok (.iload_n 1, 1) := by decide +kernel
theorem dX12_write_20 : decode cX12_write 20 = .ok (.iaload, 1) := by decide +kernel
theorem dX12_write_21 : decode cX12_write 21 = .ok (.iconst (-1), 1) := by decide +kernel
theorem dX12_write_22 : decode cX12_write 22 = .ok (.if_icmp .ne 6, 3) := by decide +kernel
theorem dX12_write_28 : decode cX12_write 28 = .ok (.iload_n 2, 1) := by decide +kernel
theorem dX12_write_29 : decode cX12_write 29 = .ok (.i2l, 1) := by decide +kernel
theorem dX12_write_30 : decode cX12_write 30 = .ok (.lconst 0, 1) := by decide +kernel
theorem dX12_write_31 : decode cX12_write 31 = .ok (.aload_n 0, 1) := by decide +kernel
theorem dX12_write_32 : decode cX12_write 32 = .ok (.getfield 13, 3) := by decide +kernel
theorem dX12_write_35 : decode cX12_write 35 = .ok (.iload_n 1, 1) := by decide +kernel
theorem dX12_write_36 : decode cX12_write 36 = .ok (.iaload, 1) := by decide +kernel
theorem dX12_write_37 : decode cX12_write 37 = .ok (.iconst 1, 1) := by decide +kernel
theorem dX12_write_38 : decode cX12_write 38 = .ok (.isub, 1) := by decide +kernel
theorem dX12_write_39 : decode cX12_write 39 = .ok (.i2l, 1) := by decide +kernel
theorem dX12_write_40 : decode cX12_write 40 = .ok (.invokestatic 109, 3) := by decide +kernel
theorem dX12_write_43 : decode cX12_write 43 = .ok (.ifCond .ne 6, 3) := by decide +kernel
theorem dX12_write_49 : decode cX12_write 49 = .ok (.aload_n 0, 1) := by decide +kernel
theorem dX12_write_50 : decode cX12_write 50 = .ok (.getfield 16, 3) := by decide +kernel
theorem dX12_write_53 : decode cX12_write 53 = .ok (.bipush 60, 2) := by decide +kernel
theorem dX12_write_55 : decode cX12_write 55 = .ok (.iload_n 1, 1) := by decide +kernel
theorem dX12_write_56 : decode cX12_write 56 = .ok (.imul, 1) := by decide +kernel
theorem dX12_write_57 : decode cX12_write 57 = .ok (.iload_n 2, 1) := by decide +kernel
theorem dX12_write_58 : decode cX12_write 58 = .ok (.iadd, 1) := by decide +kernel
theorem dX12_write_59 : decode cX12_write 59 = .ok (.lload_n 3, 1) := by decide +kernel
theorem dX12_write_60 : decode cX12_write 60 = .ok (.aload_n 0, 1) := by decide +kernel
theorem dX12_write_61 : decode cX12_write 61 = .ok (.getfield 7, 3) := by decide +kernel
theorem dX12_write_64 : decode cX12_write 64 = .ok (.iload_n 1, 1) := by decide +kernel
theorem dX12_write_65 : decode cX12_write 65 = .ok (.iaload, 1) := by decide +kernel
theorem dX12_write_66 : decode cX12_write 66 = .ok (.invokestatic 117, 3) := by decide +kernel
theorem dX12_write_69 : decode cX12_write 69 = .ok (.lastore, 1) := by decide +kernel
theorem dX12_write_70 : decode cX12_write 70 = .ok (.iconst 0, 1) := by decide +kernel
theorem dX12_write_71 : decode cX12_write 71 = .ok (.ireturn, 1) := by decide +kernel
theorem dX12_write_46 : decode cX12_write 46 = .ok (.bipush (-7), 2) := by decide +kernel
theorem dX12_write_48 : decode cX12_write 48 = .ok (.ireturn, 1) := by decide +kernel
theorem dX12_write_25 : decode cX12_write 25 = .ok (.bipush (-6), 2) := by decide +kernel
theorem dX12_write_27 : decode cX12_write 27 = .ok (.ireturn, 1) := by decide +kernel
theorem dX12_write_12 : decode cX12_write 12 = .ok (.bipush (-2), 2) := by decide +kernel
theorem dX12_write_14 : decode cX12_write 14 = .ok (.ireturn, 1) := by decide +kernel
set_option maxHeartbeats 4000000 in
set_option maxRecDepth 100000 in
theorem k_X12_write (l : Launch) (D : va_G) (K : Nat → ClassId) (t : Nat) (t_q : Nat → Nat) (p1 p2 p3 t_x0 t_x6 t_x7 t_x8 t_x9 t_x10 t_x11 t_x12 t_x13 t_x14 t_x15 t_x32 t_x33 t_x34 t_x35 t_x39 t_x40 t_x43 t_x44 t_x48 t_x49 t_x50 : Int) (t_1_c : Nat → Int) (t_2_c : Nat → Int) (t_3_c : Nat → Int) (hp1 : (-2147483648) ≤ p1 ∧ p1 ≤ 2147483647) (hp2 : (-2147483648) ≤ p2 ∧ p2 ≤ 2147483647) (hp3 : (-9223372036854775808) ≤ p3 ∧ p3 ≤ 9223372036854775807) (hi_t : bM12 t_x0 t_x6 t_x7 t_x8 t_x9 t_x10 t_x11 t_x12 t_x13 t_x14 t_x15 t_x32 t_x33 t_x34 t_x35 t_x39 t_x40 t_x43 t_x44 t_x48 t_x49 t_x50) (hc_t_1 : ∀ j : Nat, (-1) ≤ t_1_c j ∧ t_1_c j ≤ 3) (hc_t_2 : ∀ j : Nat, 0 ≤ t_2_c j ∧ t_2_c j ≤ 60) (hc_t_3 : ∀ j : Nat, (-9223372036854775808) ≤ t_3_c j ∧ t_3_c j ≤ 9223372036854775807) : fn_CI (S := (Nat → Int) × (Nat → Nat → Int)) l D K yX12_write (fn_ws yX12_write cX12_write 5 (some .int)) ({ frames := 12, cells := 0, slots := 0, locals := 300 } : Room) [.ref t, .int (iI p1), .int (iI p2), .long (lI p3)] [(t, .inr (12, oX12 t_q t_x0 t_x6 t_x7 t_x8 t_x9 t_x10 t_x11 t_x12 t_x13 t_x14 t_x15 t_x32 t_x33 t_x34 t_x35 t_x39 t_x40 t_x43 t_x44 t_x48 t_x49 t_x50)), ((t_q 1), .inl (K 0, 4, .inl (fun j => iI (t_1_c j)))), ((t_q 2), .inl (K 0, 4, .inl (fun j => iI (t_2_c j)))), ((t_q 3), .inl (K 3, 240, .inr (.inl (fun j => lI (t_3_c j)))))] (fun r u => ∃ k : Int, r = iI k ∧ ((-7) ≤ k ∧ k ≤ 0) ∧ ((-2147483648) ≤ (u.1 0) ∧ (u.1 0) ≤ 2147483647) ∧ (∀ j : Nat, (-9223372036854775808) ≤ (u.2 0) j ∧ (u.2 0) j ≤ 9223372036854775807) ∧ True) (fun u => [(t, .inr (12, oX12 t_q (u.1 0) t_x6 t_x7 t_x8 t_x9 t_x10 t_x11 t_x12 t_x13 t_x14 t_x15 t_x32 t_x33 t_x34 t_x35 t_x39 t_x40 t_x43 t_x44 t_x48 t_x49 t_x50)), ((t_q 1), .inl (K 0, 4, .inl (fun j => iI (t_1_c j)))), ((t_q 2), .inl (K 0, 4, .inl (fun j => iI (t_2_c j)))), ((t_q 3), .inl (K 3, 240, .inr (.inl (fun j => lI ((u.2 0) j)))))]) 0 0 := by
  refine g_inI (cc := cX12_write) (maxL := 5) (ret := (some .int)) (by decide) rfl (Nat.le_of_ble_eq_true rfl) ?_
  intro p e s m below meth c A ls ag Q B hA hP hD hS hl hQ
  obtain ⟨hx, hb, hr, hml, hts, hown, hlocks, hin, hK⟩ := B
  have hown : s.vm.findClass RX12 = some m.cls := hown
  have hts := fun w h => hts w (List.mem_cons_of_mem _ h)
  have hl : lv_has ls 5 [(0, .ref t), (1, .int (iI p1)), (2, .int (iI p2)), (3, .long (lI p3))] := hl
  refine lv_aload_n hx hb dX12_write_0 rfl (lv_at hl 0 rfl) ?_
  refine lv_iconst (v := iI 0) hx hb dX12_write_1 rfl ?_
  refine va_put (D := D) (own := RX12) (ci := 12) (v := .int (iI 0)) (ty := .int) (C := RX12) (T := TX12) (N := 51) hx hb hts inb_X12 tyX12 tyX12_ok nmX12 hown hK.1 hP hD hS 0 rfl rfl 0 (by decide) (hts _ wd_1234) (fun _ h9 => h9) rfl (by decide +kernel) rfl rfl (Nat.le_of_ble_eq_true rfl) dX12_write_2 (fun H locs hP hD hS => ?_)
  have hP : va_P D vwCl [(t, .inr (12, oX12 t_q 0 t_x6 t_x7 t_x8 t_x9 t_x10 t_x11 t_x12 t_x13 t_x14 t_x15 t_x32 t_x33 t_x34 t_x35 t_x39 t_x40 t_x43 t_x44 t_x48 t_x49 t_x50)), ((t_q 1), .inl (K 0, 4, .inl (fun j => iI (t_1_c j)))), ((t_q 2), .inl (K 0, 4, .inl (fun j => iI (t_2_c j)))), ((t_q 3), .inl (K 3, 240, .inr (.inl (fun j => lI (t_3_c j)))))] H := hP
  have hD : va_D A [(t, .inr (12, oX12 t_q 0 t_x6 t_x7 t_x8 t_x9 t_x10 t_x11 t_x12 t_x13 t_x14 t_x15 t_x32 t_x33 t_x34 t_x35 t_x39 t_x40 t_x43 t_x44 t_x48 t_x49 t_x50)), ((t_q 1), .inl (K 0, 4, .inl (fun j => iI (t_1_c j)))), ((t_q 2), .inl (K 0, 4, .inl (fun j => iI (t_2_c j)))), ((t_q 3), .inl (K 3, 240, .inr (.inl (fun j => lI (t_3_c j)))))] := hD
  refine lv_iload_n hx hb dX12_write_5 rfl (lv_at hl 1 rfl) ?_
  refine fn_goi (wc := []) (wr := [(t, .inr (12, oX12 t_q 0 t_x6 t_x7 t_x8 t_x9 t_x10 t_x11 t_x12 t_x13 t_x14 t_x15 t_x32 t_x33 t_x34 t_x35 t_x39 t_x40 t_x43 t_x44 t_x48 t_x49 t_x50)), ((t_q 1), .inl (K 0, 4, .inl (fun j => iI (t_1_c j)))), ((t_q 2), .inl (K 0, 4, .inl (fun j => iI (t_2_c j)))), ((t_q 3), .inl (K 3, 240, .inr (.inl (fun j => lI (t_3_c j)))))]) hK hP hD hS hA [] [0, 1, 2, 3] rfl rfl (by decide) (fun hp => va_runS (As := [.int (iI p1)]) (rest := []) ⟨hx, hb, hml, hown, hts⟩ (k_X12_isSlot (l := l) (D := D) (K := K) (p1 := p1) (hp1 := (by omega)) _) (va_cwS 1 hts (fn_ginS (fn_gin wd_1394) wd_1392 wd_1393 wd_13) rfl rfl rfl (by decide +kernel) ⟨Nat.le_of_ble_eq_true rfl, Nat.le_of_ble_eq_true rfl⟩) ⟨fn_blind, hp⟩ rfl rfl hl.1 rfl (lv_room (Nat.le_of_ble_eq_true rfl)) dX12_write_6 ⟨Nat.le_of_ble_eq_true rfl, Nat.le_of_ble_eq_true rfl⟩) (fun r6 u6 H locs hwu6 hP hD hS => ?_)
  obtain ⟨u6a, u6b⟩ := u6
  obtain ⟨kr6, rfl, hkr6, hqu60, -⟩ := hwu6
  have hqu6 : (kr6 = 1 → 0 ≤ p1 ∧ p1 ≤ 3) ∧ (kr6 = 0 → p1 < 0 ∨ 3 < p1) := hqu60
  clear hqu60
  have hP : va_P D vwCl [(t, .inr (12, oX12 t_q 0 t_x6 t_x7 t_x8 t_x9 t_x10 t_x11 t_x12 t_x13 t_x14 t_x15 t_x32 t_x33 t_x34 t_x35 t_x39 t_x40 t_x43 t_x44 t_x48 t_x49 t_x50)), ((t_q 1), .inl (K 0, 4, .inl (fun j => iI (t_1_c j)))), ((t_q 2), .inl (K 0, 4, .inl (fun j => iI (t_2_c j)))), ((t_q 3), .inl (K 3, 240, .inr (.inl (fun j => lI (t_3_c j)))))] H := hP
  have hD : va_D A [(t, .inr (12, oX12 t_q 0 t_x6 t_x7 t_x8 t_x9 t_x10 t_x11 t_x12 t_x13 t_x14 t_x15 t_x32 t_x33 t_x34 t_x35 t_x39 t_x40 t_x43 t_x44 t_x48 t_x49 t_x50)), ((t_q 1), .inl (K 0, 4, .inl (fun j => iI (t_1_c j)))), ((t_q 2), .inl (K 0, 4, .inl (fun j => iI (t_2_c j)))), ((t_q 3), .inl (K 3, 240, .inr (.inl (fun j => lI (t_3_c j)))))] := hD
  refine g_if_ne (tgt := 15) hx hb (by omega) dX12_write_9 (by decide) (fun c9 => ?_) (fun c9 => ?_)
  · refine lv_aload_n hx hb dX12_write_15 rfl (lv_at hl 0 rfl) ?_
    refine va_get (D := D) (own := RX12) (ci := 12) (v := .ref (t_q 1)) (C := RX12) (T := TX12) (N := 51) hx hb hts inb_X12 hown hK.1 hP 0 rfl rfl 1 (by decide) (hts _ wd_1235) (fun _ h9 => h9) rfl dX12_write_16 ?_
    refine lv_iload_n hx hb dX12_write_19 rfl (lv_at hl 1 rfl) ?_
    refine g_iald hx hb hK.1 hP 1 0 rfl rfl (by omega) (by omega) (by decide) dX12_write_20 ?_
    have y20 : (-1) ≤ (t_1_c p1.toNat) ∧ (t_1_c p1.toNat) ≤ 3 := hc_t_1 p1.toNat
    refine lv_iconst (v := iI (-1)) hx hb dX12_write_21 rfl ?_
    refine g_icmp_ne (tgt := 28) hx hb (by omega) (by omega) dX12_write_22 (by decide) (fun c22 => ?_) (fun c22 => ?_)
    · refine lv_iload_n hx hb dX12_write_28 rfl (lv_at hl 2 rfl) ?_
      refine lv_i2l (v := lI p2) hx hb dX12_write_29 (iI_2l (by omega)) ?_
      refine lv_lconst (v := lI 0) hx hb dX12_write_30 (by decide) ?_
      refine lv_aload_n hx hb dX12_write_31 rfl (lv_at hl 0 rfl) ?_
      refine va_get (D := D) (own := RX12) (ci := 12) (v := .ref (t_q 2)) (C := RX12) (T := TX12) (N := 51) hx hb hts inb_X12 hown hK.1 hP 0 rfl rfl 2 (by decide) (hts _ wd_1236) (fun _ h9 => h9) rfl dX12_write_32 ?_
      refine lv_iload_n hx hb dX12_write_35 rfl (lv_at hl 1 rfl) ?_
      refine g_iald hx hb hK.1 hP 2 0 rfl rfl (by omega) (by omega) (by decide) dX12_write_36 ?_
      have y36 : 0 ≤ (t_2_c p1.toNat) ∧ (t_2_c p1.toNat) ≤ 60 := hc_t_2 p1.toNat
      refine fn_at 37 rfl ?_
      refine lv_iconst (v := iI 1) hx hb dX12_write_37 rfl ?_
      refine g_isub hx hb dX12_write_38 ?_
      refine lv_i2l (v := lI (t_2_c p1.toNat - 1)) hx hb dX12_write_39 (iI_2l (by omega)) ?_
      refine fn_goi (wc := []) (wr := [(t, .inr (12, oX12 t_q 0 t_x6 t_x7 t_x8 t_x9 t_x10 t_x11 t_x12 t_x13 t_x14 t_x15 t_x32 t_x33 t_x34 t_x35 t_x39 t_x40 t_x43 t_x44 t_x48 t_x49 t_x50)), ((t_q 1), .inl (K 0, 4, .inl (fun j => iI (t_1_c j)))), ((t_q 2), .inl (K 0, 4, .inl (fun j => iI (t_2_c j)))), ((t_q 3), .inl (K 3, 240, .inr (.inl (fun j => lI (t_3_c j)))))]) hK hP hD hS hA [] [0, 1, 2, 3] rfl rfl (by decide) (fun hp => va_runS (As := [.long (lI p2), .long (lI 0), .long (lI (t_2_c p1.toNat - 1))]) (rest := []) ⟨hx, hb, hml, hown, hts⟩ (k_X12_in (l := l) (D := D) (K := K) (p1 := p2) (p2 := 0) (p3 := (t_2_c p1.toNat - 1)) (hp1 := (by omega)) (hp2 := (by omega)) (hp3 := (by omega)) _) (va_cwS 3 hts (fn_ginS (fn_gin wd_1398) wd_1396 wd_1397 wd_13) rfl rfl rfl (by decide +kernel) ⟨Nat.le_of_ble_eq_true rfl, Nat.le_of_ble_eq_true rfl⟩) ⟨fn_blind, hp⟩ rfl rfl hl.1 rfl (lv_room (Nat.le_of_ble_eq_true rfl)) dX12_write_40 ⟨Nat.le_of_ble_eq_true rfl, Nat.le_of_ble_eq_true rfl⟩) (fun r40 u40 H locs hwu40 hP hD hS => ?_)
      obtain ⟨u40a, u40b⟩ := u40
      obtain ⟨kr40, rfl, hkr40, hqu400, -⟩ := hwu40
      have hqu40 : (kr40 = 1 → (0 : Int) ≤ p2 ∧ p2 ≤ (t_2_c p1.toNat - 1)) ∧ (kr40 = 0 → p2 < (0 : Int) ∨ (t_2_c p1.toNat - 1) < p2) := hqu400
      clear hqu400
      have hP : va_P D vwCl [(t, .inr (12, oX12 t_q 0 t_x6 t_x7 t_x8 t_x9 t_x10 t_x11 t_x12 t_x13 t_x14 t_x15 t_x32 t_x33 t_x34 t_x35 t_x39 t_x40 t_x43 t_x44 t_x48 t_x49 t_x50)), ((t_q 1), .inl (K 0, 4, .inl (fun j => iI (t_1_c j)))), ((t_q 2), .inl (K 0, 4, .inl (fun j => iI (t_2_c j)))), ((t_q 3), .inl (K 3, 240, .inr (.inl (fun j => lI (t_3_c j)))))] H := hP
      have hD : va_D A [(t, .inr (12, oX12 t_q 0 t_x6 t_x7 t_x8 t_x9 t_x10 t_x11 t_x12 t_x13 t_x14 t_x15 t_x32 t_x33 t_x34 t_x35 t_x39 t_x40 t_x43 t_x44 t_x48 t_x49 t_x50)), ((t_q 1), .inl (K 0, 4, .inl (fun j => iI (t_1_c j)))), ((t_q 2), .inl (K 0, 4, .inl (fun j => iI (t_2_c j)))), ((t_q 3), .inl (K 3, 240, .inr (.inl (fun j => lI (t_3_c j)))))] := hD
      refine g_if_ne (tgt := 49) hx hb (by omega) dX12_write_43 (by decide) (fun c43 => ?_) (fun c43 => ?_)
      · refine lv_aload_n hx hb dX12_write_49 rfl (lv_at hl 0 rfl) ?_
        refine va_get (D := D) (own := RX12) (ci := 12) (v := .ref (t_q 3)) (C := RX12) (T := TX12) (N := 51) hx hb hts inb_X12 hown hK.1 hP 0 rfl rfl 3 (by decide) (hts _ wd_1237) (fun _ h9 => h9) rfl dX12_write_50 ?_
        refine lv_bipush (v := iI 60) hx hb dX12_write_53 (by decide) ?_
        refine lv_iload_n hx hb dX12_write_55 rfl (lv_at hl 1 rfl) ?_
        refine g_imul hx hb dX12_write_56 ?_
        refine lv_iload_n hx hb dX12_write_57 rfl (lv_at hl 2 rfl) ?_
        refine g_iadd hx hb dX12_write_58 ?_
        refine lv_lload_n hx hb dX12_write_59 rfl (lv_at hl 3 rfl) ?_
        refine lv_aload_n hx hb dX12_write_60 rfl (lv_at hl 0 rfl) ?_
        refine va_get (D := D) (own := RX12) (ci := 12) (v := .ref (t_q 1)) (C := RX12) (T := TX12) (N := 51) hx hb hts inb_X12 hown hK.1 hP 0 rfl rfl 1 (by decide) (hts _ wd_1235) (fun _ h9 => h9) rfl dX12_write_61 ?_
        refine lv_iload_n hx hb dX12_write_64 rfl (lv_at hl 1 rfl) ?_
        refine g_iald hx hb hK.1 hP 1 0 rfl rfl (by omega) (by omega) (by decide) dX12_write_65 ?_
        refine fn_gol (wc := []) (wr := [(t, .inr (12, oX12 t_q 0 t_x6 t_x7 t_x8 t_x9 t_x10 t_x11 t_x12 t_x13 t_x14 t_x15 t_x32 t_x33 t_x34 t_x35 t_x39 t_x40 t_x43 t_x44 t_x48 t_x49 t_x50)), ((t_q 1), .inl (K 0, 4, .inl (fun j => iI (t_1_c j)))), ((t_q 2), .inl (K 0, 4, .inl (fun j => iI (t_2_c j)))), ((t_q 3), .inl (K 3, 240, .inr (.inl (fun j => lI (t_3_c j)))))]) hK hP hD hS hA [] [0, 1, 2, 3] rfl rfl (by decide) (fun hp => va_runS (As := [.long (lI p3), .int (iI (t_1_c p1.toNat))]) (rest := [.int (iI (60 * p1 + p2)), .ref (t_q 3)]) ⟨hx, hb, hml, hown, hts⟩ (k_X12_cut (l := l) (D := D) (K := K) (p1 := p3) (p2 := (t_1_c p1.toNat)) (hp1 := (by omega)) (hp2 := (by omega)) _) (va_cwS 2 hts (fn_ginS (fn_gin wd_1405) wd_1403 wd_1404 wd_13) rfl rfl rfl (by decide +kernel) ⟨Nat.le_of_ble_eq_true rfl, Nat.le_of_ble_eq_true rfl⟩) ⟨fn_blind, hp⟩ rfl rfl hl.1 rfl (lv_room (Nat.le_of_ble_eq_true rfl)) dX12_write_66 ⟨Nat.le_of_ble_eq_true rfl, Nat.le_of_ble_eq_true rfl⟩) (fun r66 u66 H locs hwu66 hP hD hS => ?_)
        obtain ⟨u66a, u66b⟩ := u66
        obtain ⟨kr66, rfl, hkr66, -⟩ := hwu66
        have hP : va_P D vwCl [(t, .inr (12, oX12 t_q 0 t_x6 t_x7 t_x8 t_x9 t_x10 t_x11 t_x12 t_x13 t_x14 t_x15 t_x32 t_x33 t_x34 t_x35 t_x39 t_x40 t_x43 t_x44 t_x48 t_x49 t_x50)), ((t_q 1), .inl (K 0, 4, .inl (fun j => iI (t_1_c j)))), ((t_q 2), .inl (K 0, 4, .inl (fun j => iI (t_2_c j)))), ((t_q 3), .inl (K 3, 240, .inr (.inl (fun j => lI (t_3_c j)))))] H := hP
        have hD : va_D A [(t, .inr (12, oX12 t_q 0 t_x6 t_x7 t_x8 t_x9 t_x10 t_x11 t_x12 t_x13 t_x14 t_x15 t_x32 t_x33 t_x34 t_x35 t_x39 t_x40 t_x43 t_x44 t_x48 t_x49 t_x50)), ((t_q 1), .inl (K 0, 4, .inl (fun j => iI (t_1_c j)))), ((t_q 2), .inl (K 0, 4, .inl (fun j => iI (t_2_c j)))), ((t_q 3), .inl (K 3, 240, .inr (.inl (fun j => lI (t_3_c j)))))] := hD
        refine g_last hx hb hK.1 hP hD hS 3 3 rfl rfl (by omega) (by omega) (by decide) dX12_write_69 (fun H locs g69 eg69 hP hD hS => ?_)
        have hg69 : ∀ j : Nat, (-9223372036854775808) ≤ g69 j ∧ g69 j ≤ 9223372036854775807 := by rw [eg69]; exact uI_all hc_t_3 (by omega)
        have hP : va_P D vwCl [(t, .inr (12, oX12 t_q 0 t_x6 t_x7 t_x8 t_x9 t_x10 t_x11 t_x12 t_x13 t_x14 t_x15 t_x32 t_x33 t_x34 t_x35 t_x39 t_x40 t_x43 t_x44 t_x48 t_x49 t_x50)), ((t_q 1), .inl (K 0, 4, .inl (fun j => iI (t_1_c j)))), ((t_q 2), .inl (K 0, 4, .inl (fun j => iI (t_2_c j)))), ((t_q 3), .inl (K 3, 240, .inr (.inl (fun j => lI (g69 j)))))] H := hP
        have hD : va_D A [(t, .inr (12, oX12 t_q 0 t_x6 t_x7 t_x8 t_x9 t_x10 t_x11 t_x12 t_x13 t_x14 t_x15 t_x32 t_x33 t_x34 t_x35 t_x39 t_x40 t_x43 t_x44 t_x48 t_x49 t_x50)), ((t_q 1), .inl (K 0, 4, .inl (fun j => iI (t_1_c j)))), ((t_q 2), .inl (K 0, 4, .inl (fun j => iI (t_2_c j)))), ((t_q 3), .inl (K 3, 240, .inr (.inl (fun j => lI (g69 j)))))] := hD
        refine lv_iconst (v := iI 0) hx hb dX12_write_70 rfl ?_
        refine fn_at 71 rfl ?_
        rw [hQ]; exact fn_iret hx hb hr hlocks rfl hP hD hS ((fun k => ([0] : List Int).getD k 0), (fun k => ([g69] : List (Nat → Int)).getD k (fun _ => 0))) ⟨0, rfl, by omega, (by show (-2147483648) ≤ 0 ∧ 0 ≤ 2147483647; omega), (hg69), trivial⟩ [0, 1, 2, 3] (by decide) rfl dX12_write_71
      · refine lv_bipush (v := iI (-7)) hx hb dX12_write_46 (by decide) ?_
        rw [hQ]; exact fn_iret hx hb hr hlocks rfl hP hD hS ((fun k => ([0] : List Int).getD k 0), (fun k => ([t_3_c] : List (Nat → Int)).getD k (fun _ => 0))) ⟨(-7), rfl, by omega, (by show (-2147483648) ≤ 0 ∧ 0 ≤ 2147483647; omega), (hc_t_3), trivial⟩ [0, 1, 2, 3] (by decide) rfl dX12_write_48
    · refine lv_bipush (v := iI (-6)) hx hb dX12_write_25 (by decide) ?_
      rw [hQ]; exact fn_iret hx hb hr hlocks rfl hP hD hS ((fun k => ([0] : List Int).getD k 0), (fun k => ([t_3_c] : List (Nat → Int)).getD k (fun _ => 0))) ⟨(-6), rfl, by omega, (by show (-2147483648) ≤ 0 ∧ 0 ≤ 2147483647; omega), (hc_t_3), trivial⟩ [0, 1, 2, 3] (by decide) rfl dX12_write_27
  · refine lv_bipush (v := iI (-2)) hx hb dX12_write_12 (by decide) ?_
    rw [hQ]; exact fn_iret hx hb hr hlocks rfl hP hD hS ((fun k => ([0] : List Int).getD k 0), (fun k => ([t_3_c] : List (Nat → Int)).getD k (fun _ => 0))) ⟨(-2), rfl, by omega, (by show (-2147483648) ≤ 0 ∧ 0 ≤ 2147483647; omega), (hc_t_3), trivial⟩ [0, 1, 2, 3] (by decide) rfl dX12_write_14
theorem wd_1238 : Cond.fieldLink "FootNotesModel" 20 "FootNotesModel" "moved" "[J" ∈ fn_big := fn_tb (fn_l6 (List.mem_of_getElem? (i := 38) (by decide +kernel))) (by decide +kernel)
theorem dX12_paste_155 : decode cX12_paste 155 = .ok (.iload 6, 2) := by decide +kernel
theorem dX12_paste_157 : decode cX12_paste 157 = .ok (.iload 5, 2) := by decide +kernel
theorem dX12_paste_159 : decode cX12_paste 159 = .ok (.if_icmp .ge 31, 3) := by decide +kernel
theorem dX12_paste_190 : decode cX12_paste 190 = .ok (.iconst 0, 1) := by decide +kernel
theorem dX12_paste_191 : decode cX12_paste 191 = .ok (.ireturn, 1) := by decide +kernel
theorem dX12_paste_162 : decode cX12_paste 162 = .ok (.aload_n 0, 1) := by decide +kernel
theorem dX12_paste_163 : decode cX12_paste 163 = .ok (.getfield 16, 3) := by decide +kernel
theorem dX12_paste_166 : decode cX12_paste 166 = .ok (.bipush 60, 2) := by decide +kernel
theorem dX12_paste_168 : decode cX12_paste 168 = .ok (.iload_n 3, 1) := by decide +kernel
theorem dX12_paste_169 : decode cX12_paste 169 = .ok (.imul, 1) := by decide +kernel
theorem dX12_paste_170 : decode cX12_paste 170 = .ok (.iload 4, 2) := by decide +kernel
theorem dX12_paste_172 : decode cX12_paste 172 = .ok (.iadd, 1) := by decide +kernel
theorem dX12_paste_173 : decode cX12_paste 173 = .ok (.iload 6, 2) := by decide +kernel
theorem dX12_paste_175 : decode cX12_paste 175 = .ok (.iadd, 1) := by decide +kernel
theorem dX12_paste_176 : decode cX12_paste 176 = .ok (.aload_n 0, 1) := by decide +kernel
theorem dX12_paste_177 : decode cX12_paste 177 = .ok (.getfield 20, 3) := by decide +kernel
theorem dX12_paste_180 : decode cX12_paste 180 = .ok (.iload 6, 2) := by decide +kernel
theorem dX12_paste_182 : decode cX12_paste 182 = .ok (.laload, 1) := by decide +kernel
theorem dX12_paste_183 : decode cX12_paste 183 = .ok (.lastore, 1) := by decide +kernel
theorem dX12_paste_184 : decode cX12_paste 184 = .ok (.iinc 6 1, 3) := by decide +kernel
theorem dX12_paste_187 : decode cX12_paste 187 = .ok (.goto (-32), 3) := by decide +kernel
theorem dX12_paste_118 : decode cX12_paste 118 = .ok (.iload 6, 2) := by decide +kernel
theorem dX12_paste_120 : decode cX12_paste 120 = .ok (.iload 5, 2) := by decide +kernel
theorem dX12_paste_122 : decode cX12_paste 122 = .ok (.if_icmp .ge 30, 3) := by decide +kernel
theorem dX12_paste_152 : decode cX12_paste 152 = .ok (.iconst 0, 1) := by decide +kernel
theorem dX12_paste_153 : decode cX12_paste 153 = .ok (.istore 6, 2) := by decide +kernel
theorem dX12_paste_125 : decode cX12_paste 125 = .ok (.aload_n 0, 1) := by decide +kernel
theorem dX12_paste_126 : decode cX12_paste 126 = .ok (.getfield 20, 3) := by decide +kernel
theorem dX12_paste_129 : decode cX12_paste 129 = .ok (.iload 6, 2) := by decide +kernel
theorem dX12_paste_131 : decode cX12_paste 131 = .ok (.aload_n 0, 1) := by decide +kernel
theorem dX12_paste_132 : decode cX12_paste 132 = .ok (.getfield 16, 3) := by decide +kernel
theorem dX12_paste_135 : decode cX12_paste 135 = .ok (.bipush 60, 2) := by decide +kernel
theorem dX12_paste_137 : decode cX12_paste 137 = .ok (.iload_n 1, 1) := by decide +kernel
theorem dX12_paste_138 : decode cX12_paste 138 = .ok (.imul, 1) := by decide +kernel
theorem dX12_paste_139 : decode cX12_paste 139 = .ok (.iload_n 2, 1) := by decide +kernel
theorem dX12_paste_140 : decode cX12_paste 140 = .ok (.iadd, 1) := by decide +kernel
theorem dX12_paste_141 : decode cX12_paste 141 = .ok (.iload 6, 2) := by decide +kernel
theorem dX12_paste_143 : decode cX12_paste 143 = .ok (.iadd, 1) := by decide +kernel
theorem dX12_paste_144 : decode cX12_paste 144 = .ok (.laload, 1) := by decide +kernel
theorem dX12_paste_145 : decode cX12_paste 145 = .ok (.lastore, 1) := by decide +kernel
theorem dX12_paste_146 : decode cX12_paste 146 = .ok (.iinc 6 1, 3) := by decide +kernel
theorem dX12_paste_149 : decode cX12_paste 149 = .ok (.goto (-31), 3) := by decide +kernel
theorem dX12_paste_0 : decode cX12_paste 0 = .ok (.aload_n 0, 1) := by decide +kernel
theorem dX12_paste_1 : decode cX12_paste 1 = .ok (.iconst 0, 1) := by decide +kernel
theorem dX12_paste_2 : decode cX12_paste 2 = .ok (.putfield 104, 3) := by decide +kernel
theorem dX12_paste_5 : decode cX12_paste 5 = .ok (.iload_n 1, 1) := by decide +kernel
theorem dX12_paste_6 : decode cX12_paste 6 = .ok (.invokestatic 113, 3) := by decide +kernel
theorem dX12_paste_9 : decode cX12_paste 9 = .ok (.ifCond .eq 10, 3) := by decide +kernel
theorem dX12_paste_19 : decode cX12_paste 19 = .ok (.bipush (-2), 2) := by decide +kernel
theorem dX12_paste_21 : decode cX12_paste 21 = .ok (.ireturn, 1) := by decide +kernel
theorem dX12_paste_12 : decode cX12_paste 12 = .ok (.iload_n 3, 1) := by decide +kernel
theorem dX12_paste_13 : decode cX12_paste 13 = .ok (.invokestatic 113, 3) := by decide +kernel
theorem dX12_paste_16 : decode cX12_paste 16 = .ok (.ifCond .ne 6, 3) := by decide +kernel
theorem dX12_paste_22 : decode cX12_paste 22 = .ok (.aload_n 0, 1) := by decide +kernel
theorem dX12_paste_23 : decode cX12_paste 23 = .ok (.getfield 7, 3) := by decide +kernel
theorem dX12_paste_26 : decode cX12_paste 26 = .ok (.iload_n 1, 1) := by decide +kernel
theorem dX12_paste_27 : decode cX12_paste 27 = .ok (.iaload, 1) := by decide +kernel
theorem dX12_paste_28 : decode cX12_paste 28 = .ok (.iconst (-1), 1) := by decide +kernel
theorem dX12_paste_29 : decode cX12_paste 29 = .ok (.if_icmp .eq 13, 3) := by decide +kernel
theorem dX12_paste_42 : decode cX12_paste 42 = .ok (.bipush (-6), 2) := by decide +kernel
theorem dX12_paste_44 : decode cX12_paste 44 = .ok (.ireturn, 1) := by decide +kernel
theorem dX12_paste_32 : decode cX12_paste 32 = .ok (.aload_n 0, 1) := by decide +kernel
theorem dX12_paste_33 : decode cX12_paste 33 = .ok (.getfield 7, 3) := by decide +kernel
theorem dX12_paste_36 : decode cX12_paste 36 = .ok (.iload_n 3, 1) := by decide +kernel
theorem dX12_paste_37 : decode cX12_paste 37 = .ok (.iaload, 1) := by decide +kernel
theorem dX12_paste_38 : decode cX12_paste 38 = .ok (.iconst (-1), 1) := by decide +kernel
theorem dX12_paste_39 : decode cX12_paste 39 = .ok (.if_icmp .ne 6, 3) := by decide +kernel
theorem dX12_paste_45 : decode cX12_paste 45 = .ok (.aload_n 0, 1) := by decide +kernel
theorem dX12_paste_46 : decode cX12_paste 46 = .ok (.getfield 7, 3) := by decide +kernel
theorem dX12_paste_49 : decode cX12_paste 49 = .ok (.iload_n 1, 1) := by decide +kernel
theorem dX12_paste_50 : decode cX12_paste 50 = .ok (.iaload, 1) := by decide +kernel
theorem dX12_paste_51 : decode cX12_paste 51 = .ok (.aload_n 0, 1) := by decide +kernel
theorem dX12_paste_52 : decode cX12_paste 52 = .ok (.getfield 7, 3) := by decide +kernel
theorem dX12_paste_55 : decode cX12_paste 55 = .ok (.iload_n 3, 1) := by decide +kernel
theorem dX12_paste_56 : decode cX12_paste 56 = .ok (.iaload, 1) := by decide +kernel
theorem dX12_paste_57 : decode cX12_paste 57 = .ok (.if_icmp .eq 6, 3) := by decide +kernel
theorem dX12_paste_63 : decode cX12_paste 63 = .ok (.iload_n 2, 1) := by decide +kernel
theorem dX12_paste_64 : decode cX12_paste 64 = .ok (.ifCond .lt 48, 3) := by decide +kernel
theorem dX12_paste_112 : decode cX12_paste 112 = .ok (.bipush (-7), 2) := by decide +kernel
theorem dX12_paste_114 : decode cX12_paste 114 = .ok (.ireturn, 1) := by decide +kernel
theorem dX12_paste_67 : decode cX12_paste 67 = .ok (.iload 4, 2) := by decide +kernel
theorem dX12_paste_69 : decode cX12_paste 69 = .ok (.ifCond .lt 43, 3) := by decide +kernel
theorem dX12_paste_72 : decode cX12_paste 72 = .ok (.iload 5, 2) := by decide +kernel
theorem dX12_paste_74 : decode cX12_paste 74 = .ok (.ifCond .lt 38, 3) := by decide +kernel
theorem dX12_paste_77 : decode cX12_paste 77 = .ok (.iload_n 2, 1) := by decide +kernel
theorem dX12_paste_78 : decode cX12_paste 78 = .ok (.i2l, 1) := by decide +kernel
theorem dX12_paste_79 : decode cX12_paste 79 = .ok (.iload 5, 2) := by decide +kernel
theorem dX12_paste_81 : decode cX12_paste 81 = .ok (.i2l, 1) := by decide +kernel
theorem dX12_paste_82 : decode cX12_paste 82 = .ok (.ladd, 1) := by decide +kernel
theorem dX12_paste_83 : decode cX12_paste 83 = .ok (.aload_n 0, 1) := by decide +kernel
theorem dX12_paste_84 : decode cX12_paste 84 = .ok (.getfield 13, 3) := by decide +kernel
theorem dX12_paste_87 : decode cX12_paste 87 = .ok (.iload_n 1, 1) := by decide +kernel
theorem dX12_paste_88 : decode cX12_paste 88 = .ok (.iaload, 1) := by decide +kernel
theorem dX12_paste_89 : decode cX12_paste 89 = .ok (.i2l, 1) := by decide +kernel
theorem dX12_paste_90 : decode cX12_paste 90 = .ok (.lcmp, 1) := by decide +kernel
theorem dX12_paste_91 : decode cX12_paste 91 = .ok (.ifCond .gt 21, 3) := by decide +kernel
theorem dX12_paste_94 : decode cX12_paste 94 = .ok (.iload 4, 2) := by decide +kernel
theorem dX12_paste_96 : decode cX12_paste 96 = .ok (.i2l, 1) := by decide +kernel
theorem dX12_paste_97 : decode cX12_paste 97 = .ok (.iload 5, 2) := by decide +kernel
theorem dX12_paste_99 : decode cX12_paste 99 = .ok (.i2l, 1) := by decide +kernel
theorem dX12_paste_100 : decode cX12_paste 100 = .ok (.ladd, 1) := by decide +kernel
theorem dX12_paste_101 : decode cX12_paste 101 = .ok (.aload_n 0, 1) := by decide +kernel
theorem dX12_paste_102 : decode cX12_paste 102 = .ok (.getfield 13, 3) := by decide +kernel
theorem dX12_paste_105 : decode cX12_paste 105 = .ok (.iload_n 3, 1) := by decide +kernel
theorem dX12_paste_106 : decode cX12_paste 106 = .ok (.iaload, 1) := by decide +kernel
theorem dX12_paste_107 : decode cX12_paste 107 = .ok (.i2l, 1) := by decide +kernel
theorem dX12_paste_108 : decode cX12_paste 108 = .ok (.lcmp, 1) := by decide +kernel
theorem dX12_paste_109 : decode cX12_paste 109 = .ok (.ifCond .le 6, 3) := by decide +kernel
theorem dX12_paste_115 : decode cX12_paste 115 = .ok (.iconst 0, 1) := by decide +kernel
theorem dX12_paste_116 : decode cX12_paste 116 = .ok (.istore 6, 2) := by decide +kernel
theorem dX12_paste_60 : decode cX12_paste 60 = .ok (.bipush (-8), 2) := by decide +kernel
theorem dX12_paste_62 : decode cX12_paste 62 = .ok (.ireturn, 1) := by decide +kernel
set_option maxHeartbeats 4000000 in
set_option maxRecDepth 100000 in
theorem k_X12_paste (l : Launch) (D : va_G) (K : Nat → ClassId) (t : Nat) (t_q : Nat → Nat) (p1 p2 p3 p4 p5 t_x0 t_x6 t_x7 t_x8 t_x9 t_x10 t_x11 t_x12 t_x13 t_x14 t_x15 t_x32 t_x33 t_x34 t_x35 t_x39 t_x40 t_x43 t_x44 t_x48 t_x49 t_x50 : Int) (t_1_c : Nat → Int) (t_2_c : Nat → Int) (t_3_c : Nat → Int) (t_4_c : Nat → Int) (hp1 : (-2147483648) ≤ p1 ∧ p1 ≤ 2147483647) (hp2 : (-2147483648) ≤ p2 ∧ p2 ≤ 2147483647) (hp3 : (-2147483648) ≤ p3 ∧ p3 ≤ 2147483647) (hp4 : (-2147483648) ≤ p4 ∧ p4 ≤ 2147483647) (hp5 : (-2147483648) ≤ p5 ∧ p5 ≤ 2147483647) (hi_t : bM12 t_x0 t_x6 t_x7 t_x8 t_x9 t_x10 t_x11 t_x12 t_x13 t_x14 t_x15 t_x32 t_x33 t_x34 t_x35 t_x39 t_x40 t_x43 t_x44 t_x48 t_x49 t_x50) (hc_t_1 : ∀ j : Nat, (-1) ≤ t_1_c j ∧ t_1_c j ≤ 3) (hc_t_2 : ∀ j : Nat, 0 ≤ t_2_c j ∧ t_2_c j ≤ 60) (hc_t_3 : ∀ j : Nat, (-9223372036854775808) ≤ t_3_c j ∧ t_3_c j ≤ 9223372036854775807) (hc_t_4 : ∀ j : Nat, (-9223372036854775808) ≤ t_4_c j ∧ t_4_c j ≤ 9223372036854775807) : fn_CI (S := (Nat → Int) × (Nat → Nat → Int)) l D K yX12_paste (fn_ws yX12_paste cX12_paste 7 (some .int)) ({ frames := 12, cells := 0, slots := 0, locals := 300 } : Room) [.ref t, .int (iI p1), .int (iI p2), .int (iI p3), .int (iI p4), .int (iI p5)] [(t, .inr (12, oX12 t_q t_x0 t_x6 t_x7 t_x8 t_x9 t_x10 t_x11 t_x12 t_x13 t_x14 t_x15 t_x32 t_x33 t_x34 t_x35 t_x39 t_x40 t_x43 t_x44 t_x48 t_x49 t_x50)), ((t_q 1), .inl (K 0, 4, .inl (fun j => iI (t_1_c j)))), ((t_q 2), .inl (K 0, 4, .inl (fun j => iI (t_2_c j)))), ((t_q 3), .inl (K 3, 240, .inr (.inl (fun j => lI (t_3_c j))))), ((t_q 4), .inl (K 3, 60, .inr (.inl (fun j => lI (t_4_c j)))))] (fun r u => ∃ k : Int, r = iI k ∧ ((-8) ≤ k ∧ k ≤ 0) ∧ ((-2147483648) ≤ (u.1 0) ∧ (u.1 0) ≤ 2147483647) ∧ (∀ j : Nat, (-9223372036854775808) ≤ (u.2 0) j ∧ (u.2 0) j ≤ 9223372036854775807) ∧ (∀ j : Nat, (-9223372036854775808) ≤ (u.2 1) j ∧ (u.2 1) j ≤ 9223372036854775807) ∧ True) (fun u => [(t, .inr (12, oX12 t_q (u.1 0) t_x6 t_x7 t_x8 t_x9 t_x10 t_x11 t_x12 t_x13 t_x14 t_x15 t_x32 t_x33 t_x34 t_x35 t_x39 t_x40 t_x43 t_x44 t_x48 t_x49 t_x50)), ((t_q 1), .inl (K 0, 4, .inl (fun j => iI (t_1_c j)))), ((t_q 2), .inl (K 0, 4, .inl (fun j => iI (t_2_c j)))), ((t_q 3), .inl (K 3, 240, .inr (.inl (fun j => lI ((u.2 0) j))))), ((t_q 4), .inl (K 3, 60, .inr (.inl (fun j => lI ((u.2 1) j)))))]) 0 0 := by
  refine g_inI (cc := cX12_paste) (maxL := 7) (ret := (some .int)) (by decide) rfl (Nat.le_of_ble_eq_true rfl) ?_
  intro p e s m below meth c A ls ag Q B hA hP hD hS hl hQ
  obtain ⟨hx, hb, hr, hml, hts, hown, hlocks, hin, hK⟩ := B
  have hown : s.vm.findClass RX12 = some m.cls := hown
  have hts := fun w h => hts w (List.mem_cons_of_mem _ h)
  have J155 : ∀ (n : Nat) (x155_6 : Int) (c155_t_3 : Nat → Int) (c155_t_4 : Nat → Int) (H : Heap) (locs : List Loc) (ls : Array Slot), (60 - x155_6).toNat < n → (0 ≤ p1 ∧ p1 ≤ 3 ∧ 0 ≤ p2 ∧ p2 ≤ 60 ∧ 0 ≤ p3 ∧ p3 ≤ 3 ∧ 0 ≤ p4 ∧ p4 ≤ 60 ∧ 0 ≤ p5 ∧ p5 ≤ 60 ∧ 0 ≤ x155_6 ∧ x155_6 ≤ 60 ∧ p2 + p5 ≤ 60 ∧ p4 + p5 ≤ 60 ∧ x155_6 ≤ p5) → (∀ j : Nat, (-9223372036854775808) ≤ c155_t_3 j ∧ c155_t_3 j ≤ 9223372036854775807) → (∀ j : Nat, (-9223372036854775808) ≤ c155_t_4 j ∧ c155_t_4 j ≤ 9223372036854775807) → va_P D vwCl [(t, .inr (12, oX12 t_q 0 t_x6 t_x7 t_x8 t_x9 t_x10 t_x11 t_x12 t_x13 t_x14 t_x15 t_x32 t_x33 t_x34 t_x35 t_x39 t_x40 t_x43 t_x44 t_x48 t_x49 t_x50)), ((t_q 1), .inl (K 0, 4, .inl (fun j => iI (t_1_c j)))), ((t_q 2), .inl (K 0, 4, .inl (fun j => iI (t_2_c j)))), ((t_q 3), .inl (K 3, 240, .inr (.inl (fun j => lI (c155_t_3 j))))), ((t_q 4), .inl (K 3, 60, .inr (.inl (fun j => lI (c155_t_4 j)))))] H → va_D A [(t, .inr (12, oX12 t_q 0 t_x6 t_x7 t_x8 t_x9 t_x10 t_x11 t_x12 t_x13 t_x14 t_x15 t_x32 t_x33 t_x34 t_x35 t_x39 t_x40 t_x43 t_x44 t_x48 t_x49 t_x50)), ((t_q 1), .inl (K 0, 4, .inl (fun j => iI (t_1_c j)))), ((t_q 2), .inl (K 0, 4, .inl (fun j => iI (t_2_c j)))), ((t_q 3), .inl (K 3, 240, .inr (.inl (fun j => lI (c155_t_3 j))))), ((t_q 4), .inl (K 3, 60, .inr (.inl (fun j => lI (c155_t_4 j)))))] → va_S A s.heap H locs → lv_has ls 7 [(0, .ref t), (1, .int (iI p1)), (2, .int (iI p2)), (3, .int (iI p3)), (4, .int (iI p4)), (5, .int (iI p5)), (6, .int (iI x155_6))] → W p l e ({ frames := 12, cells := 0, slots := 0, locals := 300 } : Room) s m ag below meth c H locs 0 0 Q (F0 m 155 ls []) := by
    intro n
    induction n with
    | zero =>
      intro x155_6 c155_t_3 c155_t_4 H locs ls hm155 hf155 hc155_t_3 hc155_t_4 hP hD hS hl
      exact absurd hm155 (Nat.not_lt_zero _)
    | succ n ih155 =>
      intro x155_6 c155_t_3 c155_t_4 H locs ls hm155 hf155 hc155_t_3 hc155_t_4 hP hD hS hl
      refine lv_iload hx hb dX12_paste_155 (lv_at hl 6 rfl) ?_
      refine lv_iload hx hb dX12_paste_157 (lv_at hl 5 rfl) ?_
      refine g_icmp_ge (tgt := 190) hx hb (by omega) (by omega) dX12_paste_159 (by decide) (fun c159 => ?_) (fun c159 => ?_)
      · refine lv_iconst (v := iI 0) hx hb dX12_paste_190 rfl ?_
        rw [hQ]; exact fn_iret hx hb hr hlocks rfl hP hD hS ((fun k => ([0] : List Int).getD k 0), (fun k => ([c155_t_3, c155_t_4] : List (Nat → Int)).getD k (fun _ => 0))) ⟨0, rfl, by omega, (by show (-2147483648) ≤ 0 ∧ 0 ≤ 2147483647; omega), (hc155_t_3), (hc155_t_4), trivial⟩ [0, 1, 2, 3, 4] (by decide) rfl dX12_paste_191
      · refine lv_aload_n hx hb dX12_paste_162 rfl (lv_at hl 0 rfl) ?_
        refine va_get (D := D) (own := RX12) (ci := 12) (v := .ref (t_q 3)) (C := RX12) (T := TX12) (N := 51) hx hb hts inb_X12 hown hK.1 hP 0 rfl rfl 3 (by decide) (hts _ wd_1237) (fun _ h9 => h9) rfl dX12_paste_163 ?_
        refine lv_bipush (v := iI 60) hx hb dX12_paste_166 (by decide) ?_
        refine lv_iload_n hx hb dX12_paste_168 rfl (lv_at hl 3 rfl) ?_
        refine g_imul hx hb dX12_paste_169 ?_
        refine lv_iload hx hb dX12_paste_170 (lv_at hl 4 rfl) ?_
        refine g_iadd hx hb dX12_paste_172 ?_
        refine lv_iload hx hb dX12_paste_173 (lv_at hl 6 rfl) ?_
        refine g_iadd hx hb dX12_paste_175 ?_
        refine lv_aload_n hx hb dX12_paste_176 rfl (lv_at hl 0 rfl) ?_
        refine va_get (D := D) (own := RX12) (ci := 12) (v := .ref (t_q 4)) (C := RX12) (T := TX12) (N := 51) hx hb hts inb_X12 hown hK.1 hP 0 rfl rfl 4 (by decide) (hts _ wd_1238) (fun _ h9 => h9) rfl dX12_paste_177 ?_
        refine lv_iload hx hb dX12_paste_180 (lv_at hl 6 rfl) ?_
        refine g_lald hx hb hK.1 hP 4 3 rfl rfl (by omega) (by omega) (by decide) dX12_paste_182 ?_
        have y182 : (-9223372036854775808) ≤ (c155_t_4 x155_6.toNat) ∧ (c155_t_4 x155_6.toNat) ≤ 9223372036854775807 := hc155_t_4 x155_6.toNat
        refine g_last hx hb hK.1 hP hD hS 3 3 rfl rfl (by omega) (by omega) (by decide) dX12_paste_183 (fun H locs g183 eg183 hP hD hS => ?_)
        have hg183 : ∀ j : Nat, (-9223372036854775808) ≤ g183 j ∧ g183 j ≤ 9223372036854775807 := by rw [eg183]; exact uI_all hc155_t_3 (by omega)
        have hP : va_P D vwCl [(t, .inr (12, oX12 t_q 0 t_x6 t_x7 t_x8 t_x9 t_x10 t_x11 t_x12 t_x13 t_x14 t_x15 t_x32 t_x33 t_x34 t_x35 t_x39 t_x40 t_x43 t_x44 t_x48 t_x49 t_x50)), ((t_q 1), .inl (K 0, 4, .inl (fun j => iI (t_1_c j)))), ((t_q 2), .inl (K 0, 4, .inl (fun j => iI (t_2_c j)))), ((t_q 3), .inl (K 3, 240, .inr (.inl (fun j => lI (g183 j))))), ((t_q 4), .inl (K 3, 60, .inr (.inl (fun j => lI (c155_t_4 j)))))] H := hP
        have hD : va_D A [(t, .inr (12, oX12 t_q 0 t_x6 t_x7 t_x8 t_x9 t_x10 t_x11 t_x12 t_x13 t_x14 t_x15 t_x32 t_x33 t_x34 t_x35 t_x39 t_x40 t_x43 t_x44 t_x48 t_x49 t_x50)), ((t_q 1), .inl (K 0, 4, .inl (fun j => iI (t_1_c j)))), ((t_q 2), .inl (K 0, 4, .inl (fun j => iI (t_2_c j)))), ((t_q 3), .inl (K 3, 240, .inr (.inl (fun j => lI (g183 j))))), ((t_q 4), .inl (K 3, 60, .inr (.inl (fun j => lI (c155_t_4 j)))))] := hD
        refine lv_iinc (v := iI (x155_6 + 1)) (lv' := [(6, .int (iI (x155_6 + 1))), (0, .ref t), (1, .int (iI p1)), (2, .int (iI p2)), (3, .int (iI p3)), (4, .int (iI p4)), (5, .int (iI p5))]) hx hb dX12_paste_184 hl (k := 6) rfl (iI_add _ _) (by decide) rfl (fun ls hl => ?_)
        refine lv_goto (tgt := 155) hx hb dX12_paste_187 (by decide) ?_
        exact ih155 (x155_6 + 1) g183 c155_t_4 _ _ ls (by omega) (by omega) hg183 hc155_t_4 (hP.sub [0, 1, 2, 3, 4] rfl) (hD.sub [0, 1, 2, 3, 4] (by decide) rfl) hS (lv_sub hl [1, 2, 3, 4, 5, 6, 0] rfl)
  have J118 : ∀ (n : Nat) (x118_6 : Int) (c118_t_4 : Nat → Int) (H : Heap) (locs : List Loc) (ls : Array Slot), (60 - x118_6).toNat < n → (0 ≤ p1 ∧ p1 ≤ 3 ∧ 0 ≤ p2 ∧ p2 ≤ 60 ∧ 0 ≤ p3 ∧ p3 ≤ 3 ∧ 0 ≤ p4 ∧ p4 ≤ 60 ∧ 0 ≤ p5 ∧ p5 ≤ 60 ∧ 0 ≤ x118_6 ∧ x118_6 ≤ 60 ∧ p2 + p5 ≤ 60 ∧ p4 + p5 ≤ 60 ∧ x118_6 ≤ p5) → (∀ j : Nat, (-9223372036854775808) ≤ c118_t_4 j ∧ c118_t_4 j ≤ 9223372036854775807) → va_P D vwCl [(t, .inr (12, oX12 t_q 0 t_x6 t_x7 t_x8 t_x9 t_x10 t_x11 t_x12 t_x13 t_x14 t_x15 t_x32 t_x33 t_x34 t_x35 t_x39 t_x40 t_x43 t_x44 t_x48 t_x49 t_x50)), ((t_q 1), .inl (K 0, 4, .inl (fun j => iI (t_1_c j)))), ((t_q 2), .inl (K 0, 4, .inl (fun j => iI (t_2_c j)))), ((t_q 3), .inl (K 3, 240, .inr (.inl (fun j => lI (t_3_c j))))), ((t_q 4), .inl (K 3, 60, .inr (.inl (fun j => lI (c118_t_4 j)))))] H → va_D A [(t, .inr (12, oX12 t_q 0 t_x6 t_x7 t_x8 t_x9 t_x10 t_x11 t_x12 t_x13 t_x14 t_x15 t_x32 t_x33 t_x34 t_x35 t_x39 t_x40 t_x43 t_x44 t_x48 t_x49 t_x50)), ((t_q 1), .inl (K 0, 4, .inl (fun j => iI (t_1_c j)))), ((t_q 2), .inl (K 0, 4, .inl (fun j => iI (t_2_c j)))), ((t_q 3), .inl (K 3, 240, .inr (.inl (fun j => lI (t_3_c j))))), ((t_q 4), .inl (K 3, 60, .inr (.inl (fun j => lI (c118_t_4 j)))))] → va_S A s.heap H locs → lv_has ls 7 [(0, .ref t), (1, .int (iI p1)), (2, .int (iI p2)), (3, .int (iI p3)), (4, .int (iI p4)), (5, .int (iI p5)), (6, .int (iI x118_6))] → W p l e ({ frames := 12, cells := 0, slots := 0, locals := 300 } : Room) s m ag below meth c H locs 0 0 Q (F0 m 118 ls []) := by
    intro n
    induction n with
    | zero =>
      intro x118_6 c118_t_4 H locs ls hm118 hf118 hc118_t_4 hP hD hS hl
      exact absurd hm118 (Nat.not_lt_zero _)
    | succ n ih118 =>
      intro x118_6 c118_t_4 H locs ls hm118 hf118 hc118_t_4 hP hD hS hl
      refine lv_iload hx hb dX12_paste_118 (lv_at hl 6 rfl) ?_
      refine lv_iload hx hb dX12_paste_120 (lv_at hl 5 rfl) ?_
      refine g_icmp_ge (tgt := 152) hx hb (by omega) (by omega) dX12_paste_122 (by decide) (fun c122 => ?_) (fun c122 => ?_)
      · refine lv_iconst (v := iI 0) hx hb dX12_paste_152 rfl ?_
        refine lv_istore (lv' := [(6, .int (iI 0)), (0, .ref t), (1, .int (iI p1)), (2, .int (iI p2)), (3, .int (iI p3)), (4, .int (iI p4)), (5, .int (iI p5))]) hx hb dX12_paste_153 hl (by decide) rfl (fun ls hl => ?_)
        exact J155 _ 0 t_3_c c118_t_4 _ _ ls (Nat.lt_succ_self _) (by omega) hc_t_3 hc118_t_4 (hP.sub [0, 1, 2, 3, 4] rfl) (hD.sub [0, 1, 2, 3, 4] (by decide) rfl) hS (lv_sub hl [1, 2, 3, 4, 5, 6, 0] rfl)
      · refine lv_aload_n hx hb dX12_paste_125 rfl (lv_at hl 0 rfl) ?_
        refine va_get (D := D) (own := RX12) (ci := 12) (v := .ref (t_q 4)) (C := RX12) (T := TX12) (N := 51) hx hb hts inb_X12 hown hK.1 hP 0 rfl rfl 4 (by decide) (hts _ wd_1238) (fun _ h9 => h9) rfl dX12_paste_126 ?_
        refine lv_iload hx hb dX12_paste_129 (lv_at hl 6 rfl) ?_
        refine lv_aload_n hx hb dX12_paste_131 rfl (lv_at hl 0 rfl) ?_
        refine va_get (D := D) (own := RX12) (ci := 12) (v := .ref (t_q 3)) (C := RX12) (T := TX12) (N := 51) hx hb hts inb_X12 hown hK.1 hP 0 rfl rfl 3 (by decide) (hts _ wd_1237) (fun _ h9 => h9) rfl dX12_paste_132 ?_
        refine lv_bipush (v := iI 60) hx hb dX12_paste_135 (by decide) ?_
        refine lv_iload_n hx hb dX12_paste_137 rfl (lv_at hl 1 rfl) ?_
        refine g_imul hx hb dX12_paste_138 ?_
        refine lv_iload_n hx hb dX12_paste_139 rfl (lv_at hl 2 rfl) ?_
        refine g_iadd hx hb dX12_paste_140 ?_
        refine lv_iload hx hb dX12_paste_141 (lv_at hl 6 rfl) ?_
        refine g_iadd hx hb dX12_paste_143 ?_
        refine g_lald hx hb hK.1 hP 3 3 rfl rfl (by omega) (by omega) (by decide) dX12_paste_144 ?_
        have y144 : (-9223372036854775808) ≤ (t_3_c ((60 * p1 + p2 + x118_6).toNat)) ∧ (t_3_c ((60 * p1 + p2 + x118_6).toNat)) ≤ 9223372036854775807 := hc_t_3 ((60 * p1 + p2 + x118_6).toNat)
        refine g_last hx hb hK.1 hP hD hS 4 3 rfl rfl (by omega) (by omega) (by decide) dX12_paste_145 (fun H locs g145 eg145 hP hD hS => ?_)
        have hg145 : ∀ j : Nat, (-9223372036854775808) ≤ g145 j ∧ g145 j ≤ 9223372036854775807 := by rw [eg145]; exact uI_all hc118_t_4 (by omega)
        have hP : va_P D vwCl [(t, .inr (12, oX12 t_q 0 t_x6 t_x7 t_x8 t_x9 t_x10 t_x11 t_x12 t_x13 t_x14 t_x15 t_x32 t_x33 t_x34 t_x35 t_x39 t_x40 t_x43 t_x44 t_x48 t_x49 t_x50)), ((t_q 1), .inl (K 0, 4, .inl (fun j => iI (t_1_c j)))), ((t_q 2), .inl (K 0, 4, .inl (fun j => iI (t_2_c j)))), ((t_q 3), .inl (K 3, 240, .inr (.inl (fun j => lI (t_3_c j))))), ((t_q 4), .inl (K 3, 60, .inr (.inl (fun j => lI (g145 j)))))] H := hP
        have hD : va_D A [(t, .inr (12, oX12 t_q 0 t_x6 t_x7 t_x8 t_x9 t_x10 t_x11 t_x12 t_x13 t_x14 t_x15 t_x32 t_x33 t_x34 t_x35 t_x39 t_x40 t_x43 t_x44 t_x48 t_x49 t_x50)), ((t_q 1), .inl (K 0, 4, .inl (fun j => iI (t_1_c j)))), ((t_q 2), .inl (K 0, 4, .inl (fun j => iI (t_2_c j)))), ((t_q 3), .inl (K 3, 240, .inr (.inl (fun j => lI (t_3_c j))))), ((t_q 4), .inl (K 3, 60, .inr (.inl (fun j => lI (g145 j)))))] := hD
        refine lv_iinc (v := iI (x118_6 + 1)) (lv' := [(6, .int (iI (x118_6 + 1))), (0, .ref t), (1, .int (iI p1)), (2, .int (iI p2)), (3, .int (iI p3)), (4, .int (iI p4)), (5, .int (iI p5))]) hx hb dX12_paste_146 hl (k := 6) rfl (iI_add _ _) (by decide) rfl (fun ls hl => ?_)
        refine lv_goto (tgt := 118) hx hb dX12_paste_149 (by decide) ?_
        exact ih118 (x118_6 + 1) g145 _ _ ls (by omega) (by omega) hg145 (hP.sub [0, 1, 2, 3, 4] rfl) (hD.sub [0, 1, 2, 3, 4] (by decide) rfl) hS (lv_sub hl [1, 2, 3, 4, 5, 6, 0] rfl)
  have hl : lv_has ls 7 [(0, .ref t), (1, .int (iI p1)), (2, .int (iI p2)), (3, .int (iI p3)), (4, .int (iI p4)), (5, .int (iI p5))] := hl
  refine lv_aload_n hx hb dX12_paste_0 rfl (lv_at hl 0 rfl) ?_
  refine lv_iconst (v := iI 0) hx hb dX12_paste_1 rfl ?_
  refine va_put (D := D) (own := RX12) (ci := 12) (v := .int (iI 0)) (ty := .int) (C := RX12) (T := TX12) (N := 51) hx hb hts inb_X12 tyX12 tyX12_ok nmX12 hown hK.1 hP hD hS 0 rfl rfl 0 (by decide) (hts _ wd_1234) (fun _ h9 => h9) rfl (by decide +kernel) rfl rfl (Nat.le_of_ble_eq_true rfl) dX12_paste_2 (fun H locs hP hD hS => ?_)
  have hP : va_P D vwCl [(t, .inr (12, oX12 t_q 0 t_x6 t_x7 t_x8 t_x9 t_x10 t_x11 t_x12 t_x13 t_x14 t_x15 t_x32 t_x33 t_x34 t_x35 t_x39 t_x40 t_x43 t_x44 t_x48 t_x49 t_x50)), ((t_q 1), .inl (K 0, 4, .inl (fun j => iI (t_1_c j)))), ((t_q 2), .inl (K 0, 4, .inl (fun j => iI (t_2_c j)))), ((t_q 3), .inl (K 3, 240, .inr (.inl (fun j => lI (t_3_c j))))), ((t_q 4), .inl (K 3, 60, .inr (.inl (fun j => lI (t_4_c j)))))] H := hP
  have hD : va_D A [(t, .inr (12, oX12 t_q 0 t_x6 t_x7 t_x8 t_x9 t_x10 t_x11 t_x12 t_x13 t_x14 t_x15 t_x32 t_x33 t_x34 t_x35 t_x39 t_x40 t_x43 t_x44 t_x48 t_x49 t_x50)), ((t_q 1), .inl (K 0, 4, .inl (fun j => iI (t_1_c j)))), ((t_q 2), .inl (K 0, 4, .inl (fun j => iI (t_2_c j)))), ((t_q 3), .inl (K 3, 240, .inr (.inl (fun j => lI (t_3_c j))))), ((t_q 4), .inl (K 3, 60, .inr (.inl (fun j => lI (t_4_c j)))))] := hD
  refine lv_iload_n hx hb dX12_paste_5 rfl (lv_at hl 1 rfl) ?_
  refine fn_goi (wc := []) (wr := [(t, .inr (12, oX12 t_q 0 t_x6 t_x7 t_x8 t_x9 t_x10 t_x11 t_x12 t_x13 t_x14 t_x15 t_x32 t_x33 t_x34 t_x35 t_x39 t_x40 t_x43 t_x44 t_x48 t_x49 t_x50)), ((t_q 1), .inl (K 0, 4, .inl (fun j => iI (t_1_c j)))), ((t_q 2), .inl (K 0, 4, .inl (fun j => iI (t_2_c j)))), ((t_q 3), .inl (K 3, 240, .inr (.inl (fun j => lI (t_3_c j))))), ((t_q 4), .inl (K 3, 60, .inr (.inl (fun j => lI (t_4_c j)))))]) hK hP hD hS hA [] [0, 1, 2, 3, 4] rfl rfl (by decide) (fun hp => va_runS (As := [.int (iI p1)]) (rest := []) ⟨hx, hb, hml, hown, hts⟩ (k_X12_isSlot (l := l) (D := D) (K := K) (p1 := p1) (hp1 := (by omega)) _) (va_cwS 1 hts (fn_ginS (fn_gin wd_1394) wd_1392 wd_1393 wd_13) rfl rfl rfl (by decide +kernel) ⟨Nat.le_of_ble_eq_true rfl, Nat.le_of_ble_eq_true rfl⟩) ⟨fn_blind, hp⟩ rfl rfl hl.1 rfl (lv_room (Nat.le_of_ble_eq_true rfl)) dX12_paste_6 ⟨Nat.le_of_ble_eq_true rfl, Nat.le_of_ble_eq_true rfl⟩) (fun r6 u6 H locs hwu6 hP hD hS => ?_)
  obtain ⟨u6a, u6b⟩ := u6
  obtain ⟨kr6, rfl, hkr6, hqu60, -⟩ := hwu6
  have hqu6 : (kr6 = 1 → 0 ≤ p1 ∧ p1 ≤ 3) ∧ (kr6 = 0 → p1 < 0 ∨ 3 < p1) := hqu60
  clear hqu60
  have hP : va_P D vwCl [(t, .inr (12, oX12 t_q 0 t_x6 t_x7 t_x8 t_x9 t_x10 t_x11 t_x12 t_x13 t_x14 t_x15 t_x32 t_x33 t_x34 t_x35 t_x39 t_x40 t_x43 t_x44 t_x48 t_x49 t_x50)), ((t_q 1), .inl (K 0, 4, .inl (fun j => iI (t_1_c j)))), ((t_q 2), .inl (K 0, 4, .inl (fun j => iI (t_2_c j)))), ((t_q 3), .inl (K 3, 240, .inr (.inl (fun j => lI (t_3_c j))))), ((t_q 4), .inl (K 3, 60, .inr (.inl (fun j => lI (t_4_c j)))))] H := hP
  have hD : va_D A [(t, .inr (12, oX12 t_q 0 t_x6 t_x7 t_x8 t_x9 t_x10 t_x11 t_x12 t_x13 t_x14 t_x15 t_x32 t_x33 t_x34 t_x35 t_x39 t_x40 t_x43 t_x44 t_x48 t_x49 t_x50)), ((t_q 1), .inl (K 0, 4, .inl (fun j => iI (t_1_c j)))), ((t_q 2), .inl (K 0, 4, .inl (fun j => iI (t_2_c j)))), ((t_q 3), .inl (K 3, 240, .inr (.inl (fun j => lI (t_3_c j))))), ((t_q 4), .inl (K 3, 60, .inr (.inl (fun j => lI (t_4_c j)))))] := hD
  refine g_if_eq (tgt := 19) hx hb (by omega) dX12_paste_9 (by decide) (fun c9 => ?_) (fun c9 => ?_)
  · refine lv_bipush (v := iI (-2)) hx hb dX12_paste_19 (by decide) ?_
    rw [hQ]; exact fn_iret hx hb hr hlocks rfl hP hD hS ((fun k => ([0] : List Int).getD k 0), (fun k => ([t_3_c, t_4_c] : List (Nat → Int)).getD k (fun _ => 0))) ⟨(-2), rfl, by omega, (by show (-2147483648) ≤ 0 ∧ 0 ≤ 2147483647; omega), (hc_t_3), (hc_t_4), trivial⟩ [0, 1, 2, 3, 4] (by decide) rfl dX12_paste_21
  · refine lv_iload_n hx hb dX12_paste_12 rfl (lv_at hl 3 rfl) ?_
    refine fn_goi (wc := []) (wr := [(t, .inr (12, oX12 t_q 0 t_x6 t_x7 t_x8 t_x9 t_x10 t_x11 t_x12 t_x13 t_x14 t_x15 t_x32 t_x33 t_x34 t_x35 t_x39 t_x40 t_x43 t_x44 t_x48 t_x49 t_x50)), ((t_q 1), .inl (K 0, 4, .inl (fun j => iI (t_1_c j)))), ((t_q 2), .inl (K 0, 4, .inl (fun j => iI (t_2_c j)))), ((t_q 3), .inl (K 3, 240, .inr (.inl (fun j => lI (t_3_c j))))), ((t_q 4), .inl (K 3, 60, .inr (.inl (fun j => lI (t_4_c j)))))]) hK hP hD hS hA [] [0, 1, 2, 3, 4] rfl rfl (by decide) (fun hp => va_runS (As := [.int (iI p3)]) (rest := []) ⟨hx, hb, hml, hown, hts⟩ (k_X12_isSlot (l := l) (D := D) (K := K) (p1 := p3) (hp1 := (by omega)) _) (va_cwS 1 hts (fn_ginS (fn_gin wd_1394) wd_1392 wd_1393 wd_13) rfl rfl rfl (by decide +kernel) ⟨Nat.le_of_ble_eq_true rfl, Nat.le_of_ble_eq_true rfl⟩) ⟨fn_blind, hp⟩ rfl rfl hl.1 rfl (lv_room (Nat.le_of_ble_eq_true rfl)) dX12_paste_13 ⟨Nat.le_of_ble_eq_true rfl, Nat.le_of_ble_eq_true rfl⟩) (fun r13 u13 H locs hwu13 hP hD hS => ?_)
    obtain ⟨u13a, u13b⟩ := u13
    obtain ⟨kr13, rfl, hkr13, hqu130, -⟩ := hwu13
    have hqu13 : (kr13 = 1 → 0 ≤ p3 ∧ p3 ≤ 3) ∧ (kr13 = 0 → p3 < 0 ∨ 3 < p3) := hqu130
    clear hqu130
    have hP : va_P D vwCl [(t, .inr (12, oX12 t_q 0 t_x6 t_x7 t_x8 t_x9 t_x10 t_x11 t_x12 t_x13 t_x14 t_x15 t_x32 t_x33 t_x34 t_x35 t_x39 t_x40 t_x43 t_x44 t_x48 t_x49 t_x50)), ((t_q 1), .inl (K 0, 4, .inl (fun j => iI (t_1_c j)))), ((t_q 2), .inl (K 0, 4, .inl (fun j => iI (t_2_c j)))), ((t_q 3), .inl (K 3, 240, .inr (.inl (fun j => lI (t_3_c j))))), ((t_q 4), .inl (K 3, 60, .inr (.inl (fun j => lI (t_4_c j)))))] H := hP
    have hD : va_D A [(t, .inr (12, oX12 t_q 0 t_x6 t_x7 t_x8 t_x9 t_x10 t_x11 t_x12 t_x13 t_x14 t_x15 t_x32 t_x33 t_x34 t_x35 t_x39 t_x40 t_x43 t_x44 t_x48 t_x49 t_x50)), ((t_q 1), .inl (K 0, 4, .inl (fun j => iI (t_1_c j)))), ((t_q 2), .inl (K 0, 4, .inl (fun j => iI (t_2_c j)))), ((t_q 3), .inl (K 3, 240, .inr (.inl (fun j => lI (t_3_c j))))), ((t_q 4), .inl (K 3, 60, .inr (.inl (fun j => lI (t_4_c j)))))] := hD
    refine g_if_ne (tgt := 22) hx hb (by omega) dX12_paste_16 (by decide) (fun c16 => ?_) (fun c16 => ?_)
    · refine lv_aload_n hx hb dX12_paste_22 rfl (lv_at hl 0 rfl) ?_
      refine va_get (D := D) (own := RX12) (ci := 12) (v := .ref (t_q 1)) (C := RX12) (T := TX12) (N := 51) hx hb hts inb_X12 hown hK.1 hP 0 rfl rfl 1 (by decide) (hts _ wd_1235) (fun _ h9 => h9) rfl dX12_paste_23 ?_
      refine lv_iload_n hx hb dX12_paste_26 rfl (lv_at hl 1 rfl) ?_
      refine g_iald hx hb hK.1 hP 1 0 rfl rfl (by omega) (by omega) (by decide) dX12_paste_27 ?_
      have y27 : (-1) ≤ (t_1_c p1.toNat) ∧ (t_1_c p1.toNat) ≤ 3 := hc_t_1 p1.toNat
      refine lv_iconst (v := iI (-1)) hx hb dX12_paste_28 rfl ?_
      refine g_icmp_eq (tgt := 42) hx hb (by omega) (by omega) dX12_paste_29 (by decide) (fun c29 => ?_) (fun c29 => ?_)
      · refine lv_bipush (v := iI (-6)) hx hb dX12_paste_42 (by decide) ?_
        rw [hQ]; exact fn_iret hx hb hr hlocks rfl hP hD hS ((fun k => ([0] : List Int).getD k 0), (fun k => ([t_3_c, t_4_c] : List (Nat → Int)).getD k (fun _ => 0))) ⟨(-6), rfl, by omega, (by show (-2147483648) ≤ 0 ∧ 0 ≤ 2147483647; omega), (hc_t_3), (hc_t_4), trivial⟩ [0, 1, 2, 3, 4] (by decide) rfl dX12_paste_44
      · refine lv_aload_n hx hb dX12_paste_32 rfl (lv_at hl 0 rfl) ?_
        refine va_get (D := D) (own := RX12) (ci := 12) (v := .ref (t_q 1)) (C := RX12) (T := TX12) (N := 51) hx hb hts inb_X12 hown hK.1 hP 0 rfl rfl 1 (by decide) (hts _ wd_1235) (fun _ h9 => h9) rfl dX12_paste_33 ?_
        refine lv_iload_n hx hb dX12_paste_36 rfl (lv_at hl 3 rfl) ?_
        refine g_iald hx hb hK.1 hP 1 0 rfl rfl (by omega) (by omega) (by decide) dX12_paste_37 ?_
        have y37 : (-1) ≤ (t_1_c p3.toNat) ∧ (t_1_c p3.toNat) ≤ 3 := hc_t_1 p3.toNat
        refine fn_at 38 rfl ?_
        refine lv_iconst (v := iI (-1)) hx hb dX12_paste_38 rfl ?_
        refine g_icmp_ne (tgt := 45) hx hb (by omega) (by omega) dX12_paste_39 (by decide) (fun c39 => ?_) (fun c39 => ?_)
        · refine lv_aload_n hx hb dX12_paste_45 rfl (lv_at hl 0 rfl) ?_
          refine va_get (D := D) (own := RX12) (ci := 12) (v := .ref (t_q 1)) (C := RX12) (T := TX12) (N := 51) hx hb hts inb_X12 hown hK.1 hP 0 rfl rfl 1 (by decide) (hts _ wd_1235) (fun _ h9 => h9) rfl dX12_paste_46 ?_
          refine lv_iload_n hx hb dX12_paste_49 rfl (lv_at hl 1 rfl) ?_
          refine g_iald hx hb hK.1 hP 1 0 rfl rfl (by omega) (by omega) (by decide) dX12_paste_50 ?_
          refine lv_aload_n hx hb dX12_paste_51 rfl (lv_at hl 0 rfl) ?_
          refine va_get (D := D) (own := RX12) (ci := 12) (v := .ref (t_q 1)) (C := RX12) (T := TX12) (N := 51) hx hb hts inb_X12 hown hK.1 hP 0 rfl rfl 1 (by decide) (hts _ wd_1235) (fun _ h9 => h9) rfl dX12_paste_52 ?_
          refine lv_iload_n hx hb dX12_paste_55 rfl (lv_at hl 3 rfl) ?_
          refine g_iald hx hb hK.1 hP 1 0 rfl rfl (by omega) (by omega) (by decide) dX12_paste_56 ?_
          refine g_icmp_eq (tgt := 63) hx hb (by omega) (by omega) dX12_paste_57 (by decide) (fun c57 => ?_) (fun c57 => ?_)
          · refine lv_iload_n hx hb dX12_paste_63 rfl (lv_at hl 2 rfl) ?_
            refine g_if_lt (tgt := 112) hx hb (by omega) dX12_paste_64 (by decide) (fun c64 => ?_) (fun c64 => ?_)
            · refine lv_bipush (v := iI (-7)) hx hb dX12_paste_112 (by decide) ?_
              rw [hQ]; exact fn_iret hx hb hr hlocks rfl hP hD hS ((fun k => ([0] : List Int).getD k 0), (fun k => ([t_3_c, t_4_c] : List (Nat → Int)).getD k (fun _ => 0))) ⟨(-7), rfl, by omega, (by show (-2147483648) ≤ 0 ∧ 0 ≤ 2147483647; omega), (hc_t_3), (hc_t_4), trivial⟩ [0, 1, 2, 3, 4] (by decide) rfl dX12_paste_114
            · refine lv_iload hx hb dX12_paste_67 (lv_at hl 4 rfl) ?_
              refine g_if_lt (tgt := 112) hx hb (by omega) dX12_paste_69 (by decide) (fun c69 => ?_) (fun c69 => ?_)
              · refine lv_bipush (v := iI (-7)) hx hb dX12_paste_112 (by decide) ?_
                rw [hQ]; exact fn_iret hx hb hr hlocks rfl hP hD hS ((fun k => ([0] : List Int).getD k 0), (fun k => ([t_3_c, t_4_c] : List (Nat → Int)).getD k (fun _ => 0))) ⟨(-7), rfl, by omega, (by show (-2147483648) ≤ 0 ∧ 0 ≤ 2147483647; omega), (hc_t_3), (hc_t_4), trivial⟩ [0, 1, 2, 3, 4] (by decide) rfl dX12_paste_114
              · refine lv_iload hx hb dX12_paste_72 (lv_at hl 5 rfl) ?_
                refine g_if_lt (tgt := 112) hx hb (by omega) dX12_paste_74 (by decide) (fun c74 => ?_) (fun c74 => ?_)
                · refine lv_bipush (v := iI (-7)) hx hb dX12_paste_112 (by decide) ?_
                  rw [hQ]; exact fn_iret hx hb hr hlocks rfl hP hD hS ((fun k => ([0] : List Int).getD k 0), (fun k => ([t_3_c, t_4_c] : List (Nat → Int)).getD k (fun _ => 0))) ⟨(-7), rfl, by omega, (by show (-2147483648) ≤ 0 ∧ 0 ≤ 2147483647; omega), (hc_t_3), (hc_t_4), trivial⟩ [0, 1, 2, 3, 4] (by decide) rfl dX12_paste_114
                · refine lv_iload_n hx hb dX12_paste_77 rfl (lv_at hl 2 rfl) ?_
                  refine lv_i2l (v := lI p2) hx hb dX12_paste_78 (iI_2l (by omega)) ?_
                  refine lv_iload hx hb dX12_paste_79 (lv_at hl 5 rfl) ?_
                  refine fn_at 81 rfl ?_
                  refine lv_i2l (v := lI p5) hx hb dX12_paste_81 (iI_2l (by omega)) ?_
                  refine g_ladd hx hb dX12_paste_82 ?_
                  refine lv_aload_n hx hb dX12_paste_83 rfl (lv_at hl 0 rfl) ?_
                  refine va_get (D := D) (own := RX12) (ci := 12) (v := .ref (t_q 2)) (C := RX12) (T := TX12) (N := 51) hx hb hts inb_X12 hown hK.1 hP 0 rfl rfl 2 (by decide) (hts _ wd_1236) (fun _ h9 => h9) rfl dX12_paste_84 ?_
                  refine lv_iload_n hx hb dX12_paste_87 rfl (lv_at hl 1 rfl) ?_
                  refine g_iald hx hb hK.1 hP 2 0 rfl rfl (by omega) (by omega) (by decide) dX12_paste_88 ?_
                  have y88 : 0 ≤ (t_2_c p1.toNat) ∧ (t_2_c p1.toNat) ≤ 60 := hc_t_2 p1.toNat
                  refine lv_i2l (v := lI (t_2_c p1.toNat)) hx hb dX12_paste_89 (iI_2l (by omega)) ?_
                  refine W.lcmp hx hb dX12_paste_90 ?_
                  refine g_lif_gt (tgt := 112) hx hb (by omega) (by omega) dX12_paste_91 (by decide) (fun c91 => ?_) (fun c91 => ?_)
                  · refine lv_bipush (v := iI (-7)) hx hb dX12_paste_112 (by decide) ?_
                    rw [hQ]; exact fn_iret hx hb hr hlocks rfl hP hD hS ((fun k => ([0] : List Int).getD k 0), (fun k => ([t_3_c, t_4_c] : List (Nat → Int)).getD k (fun _ => 0))) ⟨(-7), rfl, by omega, (by show (-2147483648) ≤ 0 ∧ 0 ≤ 2147483647; omega), (hc_t_3), (hc_t_4), trivial⟩ [0, 1, 2, 3, 4] (by decide) rfl dX12_paste_114
                  · refine lv_iload hx hb dX12_paste_94 (lv_at hl 4 rfl) ?_
                    refine lv_i2l (v := lI p4) hx hb dX12_paste_96 (iI_2l (by omega)) ?_
                    refine lv_iload hx hb dX12_paste_97 (lv_at hl 5 rfl) ?_
                    refine lv_i2l (v := lI p5) hx hb dX12_paste_99 (iI_2l (by omega)) ?_
                    refine g_ladd hx hb dX12_paste_100 ?_
                    refine lv_aload_n hx hb dX12_paste_101 rfl (lv_at hl 0 rfl) ?_
                    refine va_get (D := D) (own := RX12) (ci := 12) (v := .ref (t_q 2)) (C := RX12) (T := TX12) (N := 51) hx hb hts inb_X12 hown hK.1 hP 0 rfl rfl 2 (by decide) (hts _ wd_1236) (fun _ h9 => h9) rfl dX12_paste_102 ?_
                    refine lv_iload_n hx hb dX12_paste_105 rfl (lv_at hl 3 rfl) ?_
                    refine g_iald hx hb hK.1 hP 2 0 rfl rfl (by omega) (by omega) (by decide) dX12_paste_106 ?_
                    have y106 : 0 ≤ (t_2_c p3.toNat) ∧ (t_2_c p3.toNat) ≤ 60 := hc_t_2 p3.toNat
                    refine lv_i2l (v := lI (t_2_c p3.toNat)) hx hb dX12_paste_107 (iI_2l (by omega)) ?_
                    refine W.lcmp hx hb dX12_paste_108 ?_
                    refine g_lif_le (tgt := 115) hx hb (by omega) (by omega) dX12_paste_109 (by decide) (fun c109 => ?_) (fun c109 => ?_)
                    · refine lv_iconst (v := iI 0) hx hb dX12_paste_115 rfl ?_
                      refine fn_at 116 rfl ?_
                      refine lv_istore (lv' := [(6, .int (iI 0)), (0, .ref t), (1, .int (iI p1)), (2, .int (iI p2)), (3, .int (iI p3)), (4, .int (iI p4)), (5, .int (iI p5))]) hx hb dX12_paste_116 hl (by decide) rfl (fun ls hl => ?_)
                      exact J118 _ 0 t_4_c _ _ ls (Nat.lt_succ_self _) (by omega) hc_t_4 (hP.sub [0, 1, 2, 3, 4] rfl) (hD.sub [0, 1, 2, 3, 4] (by decide) rfl) hS (lv_sub hl [1, 2, 3, 4, 5, 6, 0] rfl)
                    · refine lv_bipush (v := iI (-7)) hx hb dX12_paste_112 (by decide) ?_
                      refine fn_at 114 rfl ?_
                      rw [hQ]; exact fn_iret hx hb hr hlocks rfl hP hD hS ((fun k => ([0] : List Int).getD k 0), (fun k => ([t_3_c, t_4_c] : List (Nat → Int)).getD k (fun _ => 0))) ⟨(-7), rfl, by omega, (by show (-2147483648) ≤ 0 ∧ 0 ≤ 2147483647; omega), (hc_t_3), (hc_t_4), trivial⟩ [0, 1, 2, 3, 4] (by decide) rfl dX12_paste_114
          · refine lv_bipush (v := iI (-8)) hx hb dX12_paste_60 (by decide) ?_
            rw [hQ]; exact fn_iret hx hb hr hlocks rfl hP hD hS ((fun k => ([0] : List Int).getD k 0), (fun k => ([t_3_c, t_4_c] : List (Nat → Int)).getD k (fun _ => 0))) ⟨(-8), rfl, by omega, (by show (-2147483648) ≤ 0 ∧ 0 ≤ 2147483647; omega), (hc_t_3), (hc_t_4), trivial⟩ [0, 1, 2, 3, 4] (by decide) rfl dX12_paste_62
        · refine lv_bipush (v := iI (-6)) hx hb dX12_paste_42 (by decide) ?_
          rw [hQ]; exact fn_iret hx hb hr hlocks rfl hP hD hS ((fun k => ([0] : List Int).getD k 0), (fun k => ([t_3_c, t_4_c] : List (Nat → Int)).getD k (fun _ => 0))) ⟨(-6), rfl, by omega, (by show (-2147483648) ≤ 0 ∧ 0 ≤ 2147483647; omega), (hc_t_3), (hc_t_4), trivial⟩ [0, 1, 2, 3, 4] (by decide) rfl dX12_paste_44
    · refine lv_bipush (v := iI (-2)) hx hb dX12_paste_19 (by decide) ?_
      rw [hQ]; exact fn_iret hx hb hr hlocks rfl hP hD hS ((fun k => ([0] : List Int).getD k 0), (fun k => ([t_3_c, t_4_c] : List (Nat → Int)).getD k (fun _ => 0))) ⟨(-2), rfl, by omega, (by show (-2147483648) ≤ 0 ∧ 0 ≤ 2147483647; omega), (hc_t_3), (hc_t_4), trivial⟩ [0, 1, 2, 3, 4] (by decide) rfl dX12_paste_21
theorem wd_1239 : Cond.fieldLink "FootNotesModel" 23 "FootNotesModel" "tape" "[B" ∈ fn_big := fn_tb (fn_l6 (List.mem_of_getElem? (i := 39) (by decide +kernel))) (by decide +kernel)
theorem wd_1240 : Cond.fieldLink "FootNotesModel" 121 "FootNotesModel" "taped" "I" ∈ fn_big := fn_tb (fn_l6 (List.mem_of_getElem? (i := 40) (by decide +kernel))) (by decide +kernel)
theorem dX12_four_3 : decode cX12_four 3 = .ok (.iload_n 2, 1) := by decide +kernel
theorem dX12_four_4 : decode cX12_four 4 = .ok (.ifCond .lt 32, 3) := by decide +kernel
theorem dX12_four_36 : decode cX12_four 36 = .ok (.return_, 1) := by decide +kernel
theorem dX12_four_7 : decode cX12_four 7 = .ok (.aload_n 0, 1) := by decide +kernel
theorem dX12_four_8 : decode cX12_four 8 = .ok (.getfield 23, 3) := by decide +kernel
theorem dX12_four_11 : decode cX12_four 11 = .ok (.aload_n 0, 1) := by decide +kernel
theorem dX12_four_12 : decode cX12_four 12 = .ok (.getfield 121, 3) := by decide +kernel
theorem dX12_four_15 : decode cX12_four 15 = .ok (.iload_n 1, 1) := by decide +kernel
theorem dX12_four_16 : decode cX12_four 16 = .ok (.iload_n 2, 1) := by decide +kernel
theorem dX12_four_17 : decode cX12_four 17 = .ok (.ishr, 1) := by decide +kernel
theorem dX12_four_18 : decode cX12_four 18 = .ok (.i2b, 1) := by decide +kernel
theorem dX12_four_19 : decode cX12_four 19 = .ok (.bastore, 1) := by decide +kernel
theorem dX12_four_20 : decode cX12_four 20 = .ok (.aload_n 0, 1) := by decide +kernel
theorem dX12_four_21 : decode cX12_four 21 = .ok (.dup, 1) := by decide +kernel
theorem dX12_four_22 : decode cX12_four 22 = .ok (.getfield 121, 3) := by decide +kernel
theorem dX12_four_25 : decode cX12_four 25 = .ok (.iconst 1, 1) := by decide +kernel
theorem dX12_four_26 : decode cX12_four 26 = .ok (.iadd, 1) := by decide +kernel
theorem dX12_four_27 : decode cX12_four 27 = .ok (.putfield 121, 3) := by decide +kernel
theorem dX12_four_30 : decode cX12_four 30 = .ok (.iinc 2 (-8), 3) := by decide +kernel
theorem dX12_four_33 : decode cX12_four 33 = .ok (.goto (-30), 3) := by decide +kernel
theorem dX12_four_0 : decode cX12_four 0 = .ok (.bipush 24, 2) := by decide +kernel
theorem dX12_four_2 : decode cX12_four 2 = .ok (.istore_n 2, 1) := by decide +kernel
set_option maxHeartbeats 4000000 in
set_option maxRecDepth 100000 in
theorem k_X12_four (l : Launch) (D : va_G) (K : Nat → ClassId) (t : Nat) (t_q : Nat → Nat) (p1 t_x0 t_x6 t_x7 t_x8 t_x9 t_x10 t_x11 t_x12 t_x13 t_x14 t_x15 t_x32 t_x33 t_x34 t_x35 t_x39 t_x40 t_x43 t_x44 t_x48 t_x49 t_x50 : Int) (t_5_c : Nat → Int) (hp1 : (-2147483648) ≤ p1 ∧ p1 ≤ 2147483647) (hi_t : bM12 t_x0 t_x6 t_x7 t_x8 t_x9 t_x10 t_x11 t_x12 t_x13 t_x14 t_x15 t_x32 t_x33 t_x34 t_x35 t_x39 t_x40 t_x43 t_x44 t_x48 t_x49 t_x50) (hc_t_5 : ∀ j : Nat, (-128) ≤ t_5_c j ∧ t_5_c j ≤ 127) (tp : t_x6 + 4 ≤ 1400) : fn_CV (S := (Nat → Int) × (Nat → Nat → Int)) l D K yX12_four (fn_ws yX12_four cX12_four 3 none) ({ frames := 4, cells := 0, slots := 0, locals := 100 } : Room) [.ref t, .int (iI p1)] [(t, .inr (12, oX12 t_q t_x0 t_x6 t_x7 t_x8 t_x9 t_x10 t_x11 t_x12 t_x13 t_x14 t_x15 t_x32 t_x33 t_x34 t_x35 t_x39 t_x40 t_x43 t_x44 t_x48 t_x49 t_x50)), ((t_q 5), .inl (K 1, 1400, .inl (fun j => iI (t_5_c j))))] (fun u => (0 ≤ (u.1 0) ∧ (u.1 0) ≤ 1400 ∧ ((u.1 0) = t_x6 + 4)) ∧ (∀ j : Nat, (-128) ≤ (u.2 0) j ∧ (u.2 0) j ≤ 127) ∧ True) (fun u => [(t, .inr (12, oX12 t_q t_x0 (u.1 0) t_x7 t_x8 t_x9 t_x10 t_x11 t_x12 t_x13 t_x14 t_x15 t_x32 t_x33 t_x34 t_x35 t_x39 t_x40 t_x43 t_x44 t_x48 t_x49 t_x50)), ((t_q 5), .inl (K 1, 1400, .inl (fun j => iI ((u.2 0) j))))]) 0 0 := by
  refine g_inV (cc := cX12_four) (maxL := 3) (ret := none) (by decide) rfl (Nat.le_of_ble_eq_true rfl) ?_
  intro p e s m below meth c A ls ag Q B hA hP hD hS hl hQ
  obtain ⟨hx, hb, hr, hml, hts, hown, hlocks, hin, hK⟩ := B
  have hown : s.vm.findClass RX12 = some m.cls := hown
  have hts := fun w h => hts w (List.mem_cons_of_mem _ h)
  have J3 : ∀ (n : Nat) (x3_2 : Int) (f3_t_6 : Int) (c3_t_5 : Nat → Int) (H : Heap) (locs : List Loc) (ls : Array Slot), (x3_2 - (-8)).toNat < n → ((-8) ≤ x3_2 ∧ x3_2 ≤ 24 ∧ 0 ≤ f3_t_6 ∧ f3_t_6 ≤ 1400 ∧ 8 * (f3_t_6 - t_x6) = 24 - x3_2 ∧ t_x6 + 4 ≤ 1400 ∧ 0 ≤ t_x6 ∧ (x3_2 = 24 ∨ x3_2 = 16 ∨ x3_2 = 8 ∨ x3_2 = 0 ∨ x3_2 = -8)) → (∀ j : Nat, (-128) ≤ c3_t_5 j ∧ c3_t_5 j ≤ 127) → va_P D vwCl [(t, .inr (12, oX12 t_q t_x0 f3_t_6 t_x7 t_x8 t_x9 t_x10 t_x11 t_x12 t_x13 t_x14 t_x15 t_x32 t_x33 t_x34 t_x35 t_x39 t_x40 t_x43 t_x44 t_x48 t_x49 t_x50)), ((t_q 5), .inl (K 1, 1400, .inl (fun j => iI (c3_t_5 j))))] H → va_D A [(t, .inr (12, oX12 t_q t_x0 f3_t_6 t_x7 t_x8 t_x9 t_x10 t_x11 t_x12 t_x13 t_x14 t_x15 t_x32 t_x33 t_x34 t_x35 t_x39 t_x40 t_x43 t_x44 t_x48 t_x49 t_x50)), ((t_q 5), .inl (K 1, 1400, .inl (fun j => iI (c3_t_5 j))))] → va_S A s.heap H locs → lv_has ls 3 [(0, .ref t), (1, .int (iI p1)), (2, .int (iI x3_2))] → W p l e ({ frames := 4, cells := 0, slots := 0, locals := 100 } : Room) s m ag below meth c H locs 0 0 Q (F0 m 3 ls []) := by
    intro n
    induction n with
    | zero =>
      intro x3_2 f3_t_6 c3_t_5 H locs ls hm3 hf3 hc3_t_5 hP hD hS hl
      exact absurd hm3 (Nat.not_lt_zero _)
    | succ n ih3 =>
      intro x3_2 f3_t_6 c3_t_5 H locs ls hm3 hf3 hc3_t_5 hP hD hS hl
      refine lv_iload_n hx hb dX12_four_3 rfl (lv_at hl 2 rfl) ?_
      refine g_if_lt (tgt := 36) hx hb (by omega) dX12_four_4 (by decide) (fun c4 => ?_) (fun c4 => ?_)
      · rw [hQ]; exact fn_vret hx hb hr hlocks hP hD hS ((fun k => ([f3_t_6] : List Int).getD k 0), (fun k => ([c3_t_5] : List (Nat → Int)).getD k (fun _ => 0))) ⟨(by show 0 ≤ f3_t_6 ∧ f3_t_6 ≤ 1400 ∧ (f3_t_6 = t_x6 + 4); omega), (hc3_t_5), trivial⟩ [0, 1] (by decide) rfl dX12_four_36
      · refine lv_aload_n hx hb dX12_four_7 rfl (lv_at hl 0 rfl) ?_
        refine va_get (D := D) (own := RX12) (ci := 12) (v := .ref (t_q 5)) (C := RX12) (T := TX12) (N := 51) hx hb hts inb_X12 hown hK.1 hP 0 rfl rfl 5 (by decide) (hts _ wd_1239) (fun _ h9 => h9) rfl dX12_four_8 ?_
        refine lv_aload_n hx hb dX12_four_11 rfl (lv_at hl 0 rfl) ?_
        refine va_get (D := D) (own := RX12) (ci := 12) (v := .int (iI f3_t_6)) (C := RX12) (T := TX12) (N := 51) hx hb hts inb_X12 hown hK.1 hP 0 rfl rfl 6 (by decide) (hts _ wd_1240) (fun _ h9 => h9) rfl dX12_four_12 ?_
        refine lv_iload_n hx hb dX12_four_15 rfl (lv_at hl 1 rfl) ?_
        refine lv_iload_n hx hb dX12_four_16 rfl (lv_at hl 2 rfl) ?_
        refine lv_ishr hx hb dX12_four_17 ?_
        refine g_any (fun w17 hw17 ew17 => ?_)
        refine lv_i2b hx hb dX12_four_18 rfl ?_
        obtain ⟨w18, ew18, hw18⟩ := iI_i2b w17
        refine fn_top (iI w18) ew18 ?_
        refine g_bast hx hb hK.1 hP hD hS 1 1 rfl rfl (by omega) (by omega) (by decide) (by omega) dX12_four_19 (fun H locs g19 eg19 hP hD hS => ?_)
        have hg19 : ∀ j : Nat, (-128) ≤ g19 j ∧ g19 j ≤ 127 := by rw [eg19]; exact uI_all hc3_t_5 (by omega)
        have hP : va_P D vwCl [(t, .inr (12, oX12 t_q t_x0 f3_t_6 t_x7 t_x8 t_x9 t_x10 t_x11 t_x12 t_x13 t_x14 t_x15 t_x32 t_x33 t_x34 t_x35 t_x39 t_x40 t_x43 t_x44 t_x48 t_x49 t_x50)), ((t_q 5), .inl (K 1, 1400, .inl (fun j => iI (g19 j))))] H := hP
        have hD : va_D A [(t, .inr (12, oX12 t_q t_x0 f3_t_6 t_x7 t_x8 t_x9 t_x10 t_x11 t_x12 t_x13 t_x14 t_x15 t_x32 t_x33 t_x34 t_x35 t_x39 t_x40 t_x43 t_x44 t_x48 t_x49 t_x50)), ((t_q 5), .inl (K 1, 1400, .inl (fun j => iI (g19 j))))] := hD
        refine lv_aload_n hx hb dX12_four_20 rfl (lv_at hl 0 rfl) ?_
        refine lv_dup hx hb dX12_four_21 rfl ?_
        refine va_get (D := D) (own := RX12) (ci := 12) (v := .int (iI f3_t_6)) (C := RX12) (T := TX12) (N := 51) hx hb hts inb_X12 hown hK.1 hP 0 rfl rfl 6 (by decide) (hts _ wd_1240) (fun _ h9 => h9) rfl dX12_four_22 ?_
        refine lv_iconst (v := iI 1) hx hb dX12_four_25 rfl ?_
        refine g_iadd hx hb dX12_four_26 ?_
        refine va_put (D := D) (own := RX12) (ci := 12) (v := .int (iI (f3_t_6 + 1))) (ty := .int) (C := RX12) (T := TX12) (N := 51) hx hb hts inb_X12 tyX12 tyX12_ok nmX12 hown hK.1 hP hD hS 0 rfl rfl 6 (by decide) (hts _ wd_1240) (fun _ h9 => h9) rfl (by decide +kernel) rfl rfl (Nat.le_of_ble_eq_true rfl) dX12_four_27 (fun H locs hP hD hS => ?_)
        have hP : va_P D vwCl [(t, .inr (12, oX12 t_q t_x0 (f3_t_6 + 1) t_x7 t_x8 t_x9 t_x10 t_x11 t_x12 t_x13 t_x14 t_x15 t_x32 t_x33 t_x34 t_x35 t_x39 t_x40 t_x43 t_x44 t_x48 t_x49 t_x50)), ((t_q 5), .inl (K 1, 1400, .inl (fun j => iI (g19 j))))] H := hP
        have hD : va_D A [(t, .inr (12, oX12 t_q t_x0 (f3_t_6 + 1) t_x7 t_x8 t_x9 t_x10 t_x11 t_x12 t_x13 t_x14 t_x15 t_x32 t_x33 t_x34 t_x35 t_x39 t_x40 t_x43 t_x44 t_x48 t_x49 t_x50)), ((t_q 5), .inl (K 1, 1400, .inl (fun j => iI (g19 j))))] := hD
        refine lv_iinc (v := iI (x3_2 + (-8))) (lv' := [(2, .int (iI (x3_2 + (-8)))), (0, .ref t), (1, .int (iI p1))]) hx hb dX12_four_30 hl (k := 2) rfl (iI_add _ _) (by decide) rfl (fun ls hl => ?_)
        refine lv_goto (tgt := 3) hx hb dX12_four_33 (by decide) ?_
        exact ih3 (x3_2 + (-8)) (f3_t_6 + 1) g19 _ _ ls (by omega) (by omega) hg19 (hP.sub [0, 1] rfl) (hD.sub [0, 1] (by decide) rfl) hS (lv_sub hl [1, 2, 0] rfl)
  have hl : lv_has ls 3 [(0, .ref t), (1, .int (iI p1))] := hl
  refine lv_bipush (v := iI 24) hx hb dX12_four_0 (by decide) ?_
  refine lv_istore_n (lv' := [(2, .int (iI 24)), (0, .ref t), (1, .int (iI p1))]) hx hb dX12_four_2 rfl hl (by decide) rfl (fun ls hl => ?_)
  have y3_1 : 0 ≤ t_x6 ∧ t_x6 ≤ 1400 := hi_t.2.1
  exact J3 _ 24 t_x6 t_5_c _ _ ls (Nat.lt_succ_self _) (by omega) hc_t_5 (hP.sub [0, 1] rfl) (hD.sub [0, 1] (by decide) rfl) hS (lv_sub hl [1, 2, 0] rfl)
theorem wd_1417 : Cond.code ⟨"FootNotesModel", "four", "(I)V"⟩ prog_14_method_10_code 3 (Option.none : Option Jvm.ClassFile.FieldType) ∈ fn_big := fn_tb (fn_l6 (List.mem_of_getElem? (i := 217) (by decide +kernel))) (by decide +kernel)
theorem wd_1414 : Cond.methodLink "FootNotesModel" 124 ⟨"FootNotesModel", "four", "(I)V"⟩ ∈ fn_big := fn_tb (fn_l6 (List.mem_of_getElem? (i := 214) (by decide +kernel))) (by decide +kernel)
theorem wd_1416 : Cond.instanceMethod ⟨"FootNotesModel", "four", "(I)V"⟩ ∈ fn_big := fn_tb (fn_l6 (List.mem_of_getElem? (i := 216) (by decide +kernel))) (by decide +kernel)
theorem wp_94 : Cond.selects "FootNotesModel" ⟨"FootNotesModel", "four", "(I)V"⟩ ⟨"FootNotesModel", "four", "(I)V"⟩ ∈ fn_big := fn_sel (q := (⟨"FootNotesModel", "four", "(I)V"⟩, 51)) 94 (by decide +kernel) (by decide +kernel)
theorem dX12_feed_0 : decode cX12_feed 0 = .ok (.aload_n 0, 1) := by decide +kernel
theorem dX12_feed_1 : decode cX12_feed 1 = .ok (.iconst 0, 1) := by decide +kernel
theorem dX12_feed_2 : decode cX12_feed 2 = .ok (.putfield 104, 3) := by decide +kernel
theorem dX12_feed_5 : decode cX12_feed 5 = .ok (.aload_n 0, 1) := by decide +kernel
theorem dX12_feed_6 : decode cX12_feed 6 = .ok (.getfield 121, 3) := by decide +kernel
theorem dX12_feed_9 : decode cX12_feed 9 = .ok (.bipush 20, 2) := by decide +kernel
theorem dX12_feed_11 : decode cX12_feed 11 = .ok (.iadd, 1) := by decide +kernel
theorem dX12_feed_12 : decode cX12_feed 12 = .ok (.sipush 1400, 3) := by decide +kernel
theorem dX12_feed_15 : decode cX12_feed 15 = .ok (.if_icmp .le 5, 3) := by decide +kernel
theorem dX12_feed_20 : decode cX12_feed 20 = .ok (.aload_n 0, 1) := by decide +kernel
theorem dX12_feed_21 : decode cX12_feed 21 = .ok (.iload_n 1, 1) := by decide +kernel
theorem dX12_feed_22 : decode cX12_feed 22 = .ok (.invokevirtual 124, 3) := by decide +kernel
theorem dX12_feed_25 : decode cX12_feed 25 = .ok (.aload_n 0, 1) := by decide +kernel
theorem dX12_feed_26 : decode cX12_feed 26 = .ok (.iload_n 2, 1) := by decide +kernel
theorem dX12_feed_27 : decode cX12_feed 27 = .ok (.invokevirtual 124, 3) := by decide +kernel
theorem dX12_feed_30 : decode cX12_feed 30 = .ok (.aload_n 0, 1) := by decide +kernel
theorem dX12_feed_31 : decode cX12_feed 31 = .ok (.iload_n 3, 1) := by decide +kernel
theorem dX12_feed_32 : decode cX12_feed 32 = .ok (.invokevirtual 124, 3) := by decide +kernel
theorem dX12_feed_35 : decode cX12_feed 35 = .ok (.aload_n 0, 1) := by decide +kernel
theorem dX12_feed_36 : decode cX12_feed 36 = .ok (.iload 4, 2) := by decide +kernel
theorem dX12_feed_38 : decode cX12_feed 38 = .ok (.invokevirtual 124, 3) := by decide +kernel
theorem dX12_feed_41 : decode cX12_feed 41 = .ok (.aload_n 0, 1) := by decide +kernel
theorem dX12_feed_42 : decode cX12_feed 42 = .ok (.iload 5, 2) := by decide +kernel
theorem dX12_feed_44 : decode cX12_feed 44 = .ok (.invokevirtual 124, 3) := by decide +kernel
theorem dX12_feed_47 : decode cX12_feed 47 = .ok (.aload_n 0, 1) := by decide +kernel
theorem dX12_feed_48 : decode cX12_feed 48 = .ok (.getfield 121, 3) := by decide +kernel
theorem dX12_feed_51 : decode cX12_feed 51 = .ok (.ireturn, 1) := by decide +kernel
theorem dX12_feed_18 : decode cX12_feed 18 = .ok (.iconst (-1), 1) := by decide +kernel
theorem dX12_feed_19 : decode cX12_feed 19 = .ok (.ireturn, 1) := by decide +kernel
set_option maxHeartbeats 4000000 in
set_option maxRecDepth 100000 in
theorem k_X12_feed (l : Launch) (D : va_G) (K : Nat → ClassId) (t : Nat) (t_q : Nat → Nat) (p1 p2 p3 p4 p5 t_x0 t_x6 t_x7 t_x8 t_x9 t_x10 t_x11 t_x12 t_x13 t_x14 t_x15 t_x32 t_x33 t_x34 t_x35 t_x39 t_x40 t_x43 t_x44 t_x48 t_x49 t_x50 : Int) (t_5_c : Nat → Int) (hp1 : (-2147483648) ≤ p1 ∧ p1 ≤ 2147483647) (hp2 : (-2147483648) ≤ p2 ∧ p2 ≤ 2147483647) (hp3 : (-2147483648) ≤ p3 ∧ p3 ≤ 2147483647) (hp4 : (-2147483648) ≤ p4 ∧ p4 ≤ 2147483647) (hp5 : (-2147483648) ≤ p5 ∧ p5 ≤ 2147483647) (hi_t : bM12 t_x0 t_x6 t_x7 t_x8 t_x9 t_x10 t_x11 t_x12 t_x13 t_x14 t_x15 t_x32 t_x33 t_x34 t_x35 t_x39 t_x40 t_x43 t_x44 t_x48 t_x49 t_x50) (hc_t_5 : ∀ j : Nat, (-128) ≤ t_5_c j ∧ t_5_c j ≤ 127) : fn_CI (S := (Nat → Int) × (Nat → Nat → Int)) l D K yX12_feed (fn_ws yX12_feed cX12_feed 6 (some .int)) ({ frames := 8, cells := 0, slots := 0, locals := 200 } : Room) [.ref t, .int (iI p1), .int (iI p2), .int (iI p3), .int (iI p4), .int (iI p5)] [(t, .inr (12, oX12 t_q t_x0 t_x6 t_x7 t_x8 t_x9 t_x10 t_x11 t_x12 t_x13 t_x14 t_x15 t_x32 t_x33 t_x34 t_x35 t_x39 t_x40 t_x43 t_x44 t_x48 t_x49 t_x50)), ((t_q 5), .inl (K 1, 1400, .inl (fun j => iI (t_5_c j))))] (fun r u => ∃ k : Int, r = iI k ∧ ((-1) ≤ k ∧ k ≤ 1400) ∧ ((-2147483648) ≤ (u.1 0) ∧ (u.1 0) ≤ 2147483647 ∧ 0 ≤ (u.1 1) ∧ (u.1 1) ≤ 1400) ∧ (∀ j : Nat, (-128) ≤ (u.2 0) j ∧ (u.2 0) j ≤ 127) ∧ True) (fun u => [(t, .inr (12, oX12 t_q (u.1 0) (u.1 1) t_x7 t_x8 t_x9 t_x10 t_x11 t_x12 t_x13 t_x14 t_x15 t_x32 t_x33 t_x34 t_x35 t_x39 t_x40 t_x43 t_x44 t_x48 t_x49 t_x50)), ((t_q 5), .inl (K 1, 1400, .inl (fun j => iI ((u.2 0) j))))]) 0 0 := by
  refine g_inI (cc := cX12_feed) (maxL := 6) (ret := (some .int)) (by decide) rfl (Nat.le_of_ble_eq_true rfl) ?_
  intro p e s m below meth c A ls ag Q B hA hP hD hS hl hQ
  obtain ⟨hx, hb, hr, hml, hts, hown, hlocks, hin, hK⟩ := B
  have hown : s.vm.findClass RX12 = some m.cls := hown
  have hts := fun w h => hts w (List.mem_cons_of_mem _ h)
  have hl : lv_has ls 6 [(0, .ref t), (1, .int (iI p1)), (2, .int (iI p2)), (3, .int (iI p3)), (4, .int (iI p4)), (5, .int (iI p5))] := hl
  refine lv_aload_n hx hb dX12_feed_0 rfl (lv_at hl 0 rfl) ?_
  refine lv_iconst (v := iI 0) hx hb dX12_feed_1 rfl ?_
  refine va_put (D := D) (own := RX12) (ci := 12) (v := .int (iI 0)) (ty := .int) (C := RX12) (T := TX12) (N := 51) hx hb hts inb_X12 tyX12 tyX12_ok nmX12 hown hK.1 hP hD hS 0 rfl rfl 0 (by decide) (hts _ wd_1234) (fun _ h9 => h9) rfl (by decide +kernel) rfl rfl (Nat.le_of_ble_eq_true rfl) dX12_feed_2 (fun H locs hP hD hS => ?_)
  have hP : va_P D vwCl [(t, .inr (12, oX12 t_q 0 t_x6 t_x7 t_x8 t_x9 t_x10 t_x11 t_x12 t_x13 t_x14 t_x15 t_x32 t_x33 t_x34 t_x35 t_x39 t_x40 t_x43 t_x44 t_x48 t_x49 t_x50)), ((t_q 5), .inl (K 1, 1400, .inl (fun j => iI (t_5_c j))))] H := hP
  have hD : va_D A [(t, .inr (12, oX12 t_q 0 t_x6 t_x7 t_x8 t_x9 t_x10 t_x11 t_x12 t_x13 t_x14 t_x15 t_x32 t_x33 t_x34 t_x35 t_x39 t_x40 t_x43 t_x44 t_x48 t_x49 t_x50)), ((t_q 5), .inl (K 1, 1400, .inl (fun j => iI (t_5_c j))))] := hD
  refine lv_aload_n hx hb dX12_feed_5 rfl (lv_at hl 0 rfl) ?_
  refine va_get (D := D) (own := RX12) (ci := 12) (v := .int (iI t_x6)) (C := RX12) (T := TX12) (N := 51) hx hb hts inb_X12 hown hK.1 hP 0 rfl rfl 6 (by decide) (hts _ wd_1240) (fun _ h9 => h9) rfl dX12_feed_6 ?_
  have y6_1 : 0 ≤ t_x6 ∧ t_x6 ≤ 1400 := hi_t.2.1
  refine lv_bipush (v := iI 20) hx hb dX12_feed_9 (by decide) ?_
  refine g_iadd hx hb dX12_feed_11 ?_
  refine lv_sipush (v := iI 1400) hx hb dX12_feed_12 (by decide) ?_
  refine g_icmp_le (tgt := 20) hx hb (by omega) (by omega) dX12_feed_15 (by decide) (fun c15 => ?_) (fun c15 => ?_)
  · refine lv_aload_n hx hb dX12_feed_20 rfl (lv_at hl 0 rfl) ?_
    refine lv_iload_n hx hb dX12_feed_21 rfl (lv_at hl 1 rfl) ?_
    refine fn_gov (wc := [(t, .inr (12, oX12 t_q 0 t_x6 t_x7 t_x8 t_x9 t_x10 t_x11 t_x12 t_x13 t_x14 t_x15 t_x32 t_x33 t_x34 t_x35 t_x39 t_x40 t_x43 t_x44 t_x48 t_x49 t_x50)), ((t_q 5), .inl (K 1, 1400, .inl (fun j => iI (t_5_c j))))]) (wr := []) hK hP hD hS hA [0, 1] [] rfl rfl (by decide) (fun hp => va_runV (C := RX12) (As := [.int (iI p1)]) (rest := []) ⟨hx, hb, hml, hown, hts⟩ (k_X12_four (l := l) (D := D) (K := K) (t := t) (p1 := p1) (t_q := t_q) (t_x0 := 0) (t_x6 := t_x6) (t_x7 := t_x7) (t_x8 := t_x8) (t_x9 := t_x9) (t_x10 := t_x10) (t_x11 := t_x11) (t_x12 := t_x12) (t_x13 := t_x13) (t_x14 := t_x14) (t_x15 := t_x15) (t_x32 := t_x32) (t_x33 := t_x33) (t_x34 := t_x34) (t_x35 := t_x35) (t_x39 := t_x39) (t_x40 := t_x40) (t_x43 := t_x43) (t_x44 := t_x44) (t_x48 := t_x48) (t_x49 := t_x49) (t_x50 := t_x50) (t_5_c := t_5_c) (hp1 := (by omega)) (hi_t := ⟨(by omega), hi_t.2.1, hi_t.2.2.1, hi_t.2.2.2.1, hi_t.2.2.2.2.1, hi_t.2.2.2.2.2.1, hi_t.2.2.2.2.2.2.1, hi_t.2.2.2.2.2.2.2.1, hi_t.2.2.2.2.2.2.2.2.1, hi_t.2.2.2.2.2.2.2.2.2.1, hi_t.2.2.2.2.2.2.2.2.2.2.1, hi_t.2.2.2.2.2.2.2.2.2.2.2.1, hi_t.2.2.2.2.2.2.2.2.2.2.2.2.1, hi_t.2.2.2.2.2.2.2.2.2.2.2.2.2.1, hi_t.2.2.2.2.2.2.2.2.2.2.2.2.2.2.1, hi_t.2.2.2.2.2.2.2.2.2.2.2.2.2.2.2.1, hi_t.2.2.2.2.2.2.2.2.2.2.2.2.2.2.2.2.1, hi_t.2.2.2.2.2.2.2.2.2.2.2.2.2.2.2.2.2.1, hi_t.2.2.2.2.2.2.2.2.2.2.2.2.2.2.2.2.2.2.1, hi_t.2.2.2.2.2.2.2.2.2.2.2.2.2.2.2.2.2.2.2.1, hi_t.2.2.2.2.2.2.2.2.2.2.2.2.2.2.2.2.2.2.2.2.1, hi_t.2.2.2.2.2.2.2.2.2.2.2.2.2.2.2.2.2.2.2.2.2⟩) (hc_t_5 := hc_t_5) (tp := (show t_x6 + 4 ≤ 1400 from by omega)) _) (cwV 1 hts (fn_ginV (fn_gin wd_1417) wd_1414 wd_1416 wp_94 wd_13) rfl rfl rfl (by decide +kernel) ⟨Nat.le_of_ble_eq_true rfl, Nat.le_of_ble_eq_true rfl⟩) ⟨fn_blind, va_recv hK.1 hP (ci := 12) (q0 := 0) rfl rfl, hp⟩ rfl rfl hl.1 rfl (lv_room (Nat.le_of_ble_eq_true rfl)) dX12_feed_22 ⟨Nat.le_of_ble_eq_true rfl, Nat.le_of_ble_eq_true rfl⟩) (fun u22 H locs hwu22 hP hD hS => ?_)
    obtain ⟨u22a, u22b⟩ := u22
    obtain ⟨hqu220, hu22_00, -⟩ := hwu22
    have hqu22 : 0 ≤ (u22a 0) ∧ (u22a 0) ≤ 1400 ∧ ((u22a 0) = t_x6 + 4) := hqu220
    have hu22_0 : ∀ j : Nat, (-128) ≤ (u22b 0) j ∧ (u22b 0) j ≤ 127 := hu22_00
    clear hqu220 hu22_00
    have hP : va_P D vwCl [(t, .inr (12, oX12 t_q 0 (u22a 0) t_x7 t_x8 t_x9 t_x10 t_x11 t_x12 t_x13 t_x14 t_x15 t_x32 t_x33 t_x34 t_x35 t_x39 t_x40 t_x43 t_x44 t_x48 t_x49 t_x50)), ((t_q 5), .inl (K 1, 1400, .inl (fun j => iI ((u22b 0) j))))] H := hP
    have hD : va_D A [(t, .inr (12, oX12 t_q 0 (u22a 0) t_x7 t_x8 t_x9 t_x10 t_x11 t_x12 t_x13 t_x14 t_x15 t_x32 t_x33 t_x34 t_x35 t_x39 t_x40 t_x43 t_x44 t_x48 t_x49 t_x50)), ((t_q 5), .inl (K 1, 1400, .inl (fun j => iI ((u22b 0) j))))] := hD
    refine lv_aload_n hx hb dX12_feed_25 rfl (lv_at hl 0 rfl) ?_
    refine lv_iload_n hx hb dX12_feed_26 rfl (lv_at hl 2 rfl) ?_
    refine fn_gov (wc := [(t, .inr (12, oX12 t_q 0 (u22a 0) t_x7 t_x8 t_x9 t_x10 t_x11 t_x12 t_x13 t_x14 t_x15 t_x32 t_x33 t_x34 t_x35 t_x39 t_x40 t_x43 t_x44 t_x48 t_x49 t_x50)), ((t_q 5), .inl (K 1, 1400, .inl (fun j => iI ((u22b 0) j))))]) (wr := []) hK hP hD hS hA [0, 1] [] rfl rfl (by decide) (fun hp => va_runV (C := RX12) (As := [.int (iI p2)]) (rest := []) ⟨hx, hb, hml, hown, hts⟩ (k_X12_four (l := l) (D := D) (K := K) (t := t) (p1 := p2) (t_q := t_q) (t_x0 := 0) (t_x6 := (u22a 0)) (t_x7 := t_x7) (t_x8 := t_x8) (t_x9 := t_x9) (t_x10 := t_x10) (t_x11 := t_x11) (t_x12 := t_x12) (t_x13 := t_x13) (t_x14 := t_x14) (t_x15 := t_x15) (t_x32 := t_x32) (t_x33 := t_x33) (t_x34 := t_x34) (t_x35 := t_x35) (t_x39 := t_x39) (t_x40 := t_x40) (t_x43 := t_x43) (t_x44 := t_x44) (t_x48 := t_x48) (t_x49 := t_x49) (t_x50 := t_x50) (t_5_c := (u22b 0)) (hp1 := (by omega)) (hi_t := ⟨(by omega), (by omega), hi_t.2.2.1, hi_t.2.2.2.1, hi_t.2.2.2.2.1, hi_t.2.2.2.2.2.1, hi_t.2.2.2.2.2.2.1, hi_t.2.2.2.2.2.2.2.1, hi_t.2.2.2.2.2.2.2.2.1, hi_t.2.2.2.2.2.2.2.2.2.1, hi_t.2.2.2.2.2.2.2.2.2.2.1, hi_t.2.2.2.2.2.2.2.2.2.2.2.1, hi_t.2.2.2.2.2.2.2.2.2.2.2.2.1, hi_t.2.2.2.2.2.2.2.2.2.2.2.2.2.1, hi_t.2.2.2.2.2.2.2.2.2.2.2.2.2.2.1, hi_t.2.2.2.2.2.2.2.2.2.2.2.2.2.2.2.1, hi_t.2.2.2.2.2.2.2.2.2.2.2.2.2.2.2.2.1, hi_t.2.2.2.2.2.2.2.2.2.2.2.2.2.2.2.2.2.1, hi_t.2.2.2.2.2.2.2.2.2.2.2.2.2.2.2.2.2.2.1, hi_t.2.2.2.2.2.2.2.2.2.2.2.2.2.2.2.2.2.2.2.1, hi_t.2.2.2.2.2.2.2.2.2.2.2.2.2.2.2.2.2.2.2.2.1, hi_t.2.2.2.2.2.2.2.2.2.2.2.2.2.2.2.2.2.2.2.2.2⟩) (hc_t_5 := hu22_0) (tp := (show (u22a 0) + 4 ≤ 1400 from by omega)) _) (cwV 1 hts (fn_ginV (fn_gin wd_1417) wd_1414 wd_1416 wp_94 wd_13) rfl rfl rfl (by decide +kernel) ⟨Nat.le_of_ble_eq_true rfl, Nat.le_of_ble_eq_true rfl⟩) ⟨fn_blind, va_recv hK.1 hP (ci := 12) (q0 := 0) rfl rfl, hp⟩ rfl rfl hl.1 rfl (lv_room (Nat.le_of_ble_eq_true rfl)) dX12_feed_27 ⟨Nat.le_of_ble_eq_true rfl, Nat.le_of_ble_eq_true rfl⟩) (fun u27 H locs hwu27 hP hD hS => ?_)
    obtain ⟨u27a, u27b⟩ := u27
    obtain ⟨hqu270, hu27_00, -⟩ := hwu27
    have hqu27 : 0 ≤ (u27a 0) ∧ (u27a 0) ≤ 1400 ∧ ((u27a 0) = (u22a 0) + 4) := hqu270
    have hu27_0 : ∀ j : Nat, (-128) ≤ (u27b 0) j ∧ (u27b 0) j ≤ 127 := hu27_00
    clear hqu270 hu27_00
    have hP : va_P D vwCl [(t, .inr (12, oX12 t_q 0 (u27a 0) t_x7 t_x8 t_x9 t_x10 t_x11 t_x12 t_x13 t_x14 t_x15 t_x32 t_x33 t_x34 t_x35 t_x39 t_x40 t_x43 t_x44 t_x48 t_x49 t_x50)), ((t_q 5), .inl (K 1, 1400, .inl (fun j => iI ((u27b 0) j))))] H := hP
    have hD : va_D A [(t, .inr (12, oX12 t_q 0 (u27a 0) t_x7 t_x8 t_x9 t_x10 t_x11 t_x12 t_x13 t_x14 t_x15 t_x32 t_x33 t_x34 t_x35 t_x39 t_x40 t_x43 t_x44 t_x48 t_x49 t_x50)), ((t_q 5), .inl (K 1, 1400, .inl (fun j => iI ((u27b 0) j))))] := hD
    refine lv_aload_n hx hb dX12_feed_30 rfl (lv_at hl 0 rfl) ?_
    refine lv_iload_n hx hb dX12_feed_31 rfl (lv_at hl 3 rfl) ?_
    refine fn_gov (wc := [(t, .inr (12, oX12 t_q 0 (u27a 0) t_x7 t_x8 t_x9 t_x10 t_x11 t_x12 t_x13 t_x14 t_x15 t_x32 t_x33 t_x34 t_x35 t_x39 t_x40 t_x43 t_x44 t_x48 t_x49 t_x50)), ((t_q 5), .inl (K 1, 1400, .inl (fun j => iI ((u27b 0) j))))]) (wr := []) hK hP hD hS hA [0, 1] [] rfl rfl (by decide) (fun hp => va_runV (C := RX12) (As := [.int (iI p3)]) (rest := []) ⟨hx, hb, hml, hown, hts⟩ (k_X12_four (l := l) (D := D) (K := K) (t := t) (p1 := p3) (t_q := t_q) (t_x0 := 0) (t_x6 := (u27a 0)) (t_x7 := t_x7) (t_x8 := t_x8) (t_x9 := t_x9) (t_x10 := t_x10) (t_x11 := t_x11) (t_x12 := t_x12) (t_x13 := t_x13) (t_x14 := t_x14) (t_x15 := t_x15) (t_x32 := t_x32) (t_x33 := t_x33) (t_x34 := t_x34) (t_x35 := t_x35) (t_x39 := t_x39) (t_x40 := t_x40) (t_x43 := t_x43) (t_x44 := t_x44) (t_x48 := t_x48) (t_x49 := t_x49) (t_x50 := t_x50) (t_5_c := (u27b 0)) (hp1 := (by omega)) (hi_t := ⟨(by omega), (by omega), hi_t.2.2.1, hi_t.2.2.2.1, hi_t.2.2.2.2.1, hi_t.2.2.2.2.2.1, hi_t.2.2.2.2.2.2.1, hi_t.2.2.2.2.2.2.2.1, hi_t.2.2.2.2.2.2.2.2.1, hi_t.2.2.2.2.2.2.2.2.2.1, hi_t.2.2.2.2.2.2.2.2.2.2.1, hi_t.2.2.2.2.2.2.2.2.2.2.2.1, hi_t.2.2.2.2.2.2.2.2.2.2.2.2.1, hi_t.2.2.2.2.2.2.2.2.2.2.2.2.2.1, hi_t.2.2.2.2.2.2.2.2.2.2.2.2.2.2.1, hi_t.2.2.2.2.2.2.2.2.2.2.2.2.2.2.2.1, hi_t.2.2.2.2.2.2.2.2.2.2.2.2.2.2.2.2.1, hi_t.2.2.2.2.2.2.2.2.2.2.2.2.2.2.2.2.2.1, hi_t.2.2.2.2.2.2.2.2.2.2.2.2.2.2.2.2.2.2.1, hi_t.2.2.2.2.2.2.2.2.2.2.2.2.2.2.2.2.2.2.2.1, hi_t.2.2.2.2.2.2.2.2.2.2.2.2.2.2.2.2.2.2.2.2.1, hi_t.2.2.2.2.2.2.2.2.2.2.2.2.2.2.2.2.2.2.2.2.2⟩) (hc_t_5 := hu27_0) (tp := (show (u27a 0) + 4 ≤ 1400 from by omega)) _) (cwV 1 hts (fn_ginV (fn_gin wd_1417) wd_1414 wd_1416 wp_94 wd_13) rfl rfl rfl (by decide +kernel) ⟨Nat.le_of_ble_eq_true rfl, Nat.le_of_ble_eq_true rfl⟩) ⟨fn_blind, va_recv hK.1 hP (ci := 12) (q0 := 0) rfl rfl, hp⟩ rfl rfl hl.1 rfl (lv_room (Nat.le_of_ble_eq_true rfl)) dX12_feed_32 ⟨Nat.le_of_ble_eq_true rfl, Nat.le_of_ble_eq_true rfl⟩) (fun u32 H locs hwu32 hP hD hS => ?_)
    obtain ⟨u32a, u32b⟩ := u32
    obtain ⟨hqu320, hu32_00, -⟩ := hwu32
    have hqu32 : 0 ≤ (u32a 0) ∧ (u32a 0) ≤ 1400 ∧ ((u32a 0) = (u27a 0) + 4) := hqu320
    have hu32_0 : ∀ j : Nat, (-128) ≤ (u32b 0) j ∧ (u32b 0) j ≤ 127 := hu32_00
    clear hqu320 hu32_00
    have hP : va_P D vwCl [(t, .inr (12, oX12 t_q 0 (u32a 0) t_x7 t_x8 t_x9 t_x10 t_x11 t_x12 t_x13 t_x14 t_x15 t_x32 t_x33 t_x34 t_x35 t_x39 t_x40 t_x43 t_x44 t_x48 t_x49 t_x50)), ((t_q 5), .inl (K 1, 1400, .inl (fun j => iI ((u32b 0) j))))] H := hP
    have hD : va_D A [(t, .inr (12, oX12 t_q 0 (u32a 0) t_x7 t_x8 t_x9 t_x10 t_x11 t_x12 t_x13 t_x14 t_x15 t_x32 t_x33 t_x34 t_x35 t_x39 t_x40 t_x43 t_x44 t_x48 t_x49 t_x50)), ((t_q 5), .inl (K 1, 1400, .inl (fun j => iI ((u32b 0) j))))] := hD
    refine lv_aload_n hx hb dX12_feed_35 rfl (lv_at hl 0 rfl) ?_
    refine fn_at 36 rfl ?_
    refine lv_iload hx hb dX12_feed_36 (lv_at hl 4 rfl) ?_
    refine fn_gov (wc := [(t, .inr (12, oX12 t_q 0 (u32a 0) t_x7 t_x8 t_x9 t_x10 t_x11 t_x12 t_x13 t_x14 t_x15 t_x32 t_x33 t_x34 t_x35 t_x39 t_x40 t_x43 t_x44 t_x48 t_x49 t_x50)), ((t_q 5), .inl (K 1, 1400, .inl (fun j => iI ((u32b 0) j))))]) (wr := []) hK hP hD hS hA [0, 1] [] rfl rfl (by decide) (fun hp => va_runV (C := RX12) (As := [.int (iI p4)]) (rest := []) ⟨hx, hb, hml, hown, hts⟩ (k_X12_four (l := l) (D := D) (K := K) (t := t) (p1 := p4) (t_q := t_q) (t_x0 := 0) (t_x6 := (u32a 0)) (t_x7 := t_x7) (t_x8 := t_x8) (t_x9 := t_x9) (t_x10 := t_x10) (t_x11 := t_x11) (t_x12 := t_x12) (t_x13 := t_x13) (t_x14 := t_x14) (t_x15 := t_x15) (t_x32 := t_x32) (t_x33 := t_x33) (t_x34 := t_x34) (t_x35 := t_x35) (t_x39 := t_x39) (t_x40 := t_x40) (t_x43 := t_x43) (t_x44 := t_x44) (t_x48 := t_x48) (t_x49 := t_x49) (t_x50 := t_x50) (t_5_c := (u32b 0)) (hp1 := (by omega)) (hi_t := ⟨(by omega), (by omega), hi_t.2.2.1, hi_t.2.2.2.1, hi_t.2.2.2.2.1, hi_t.2.2.2.2.2.1, hi_t.2.2.2.2.2.2.1, hi_t.2.2.2.2.2.2.2.1, hi_t.2.2.2.2.2.2.2.2.1, hi_t.2.2.2.2.2.2.2.2.2.1, hi_t.2.2.2.2.2.2.2.2.2.2.1, hi_t.2.2.2.2.2.2.2.2.2.2.2.1, hi_t.2.2.2.2.2.2.2.2.2.2.2.2.1, hi_t.2.2.2.2.2.2.2.2.2.2.2.2.2.1, hi_t.2.2.2.2.2.2.2.2.2.2.2.2.2.2.1, hi_t.2.2.2.2.2.2.2.2.2.2.2.2.2.2.2.1, hi_t.2.2.2.2.2.2.2.2.2.2.2.2.2.2.2.2.1, hi_t.2.2.2.2.2.2.2.2.2.2.2.2.2.2.2.2.2.1, hi_t.2.2.2.2.2.2.2.2.2.2.2.2.2.2.2.2.2.2.1, hi_t.2.2.2.2.2.2.2.2.2.2.2.2.2.2.2.2.2.2.2.1, hi_t.2.2.2.2.2.2.2.2.2.2.2.2.2.2.2.2.2.2.2.2.1, hi_t.2.2.2.2.2.2.2.2.2.2.2.2.2.2.2.2.2.2.2.2.2⟩) (hc_t_5 := hu32_0) (tp := (show (u32a 0) + 4 ≤ 1400 from by omega)) _) (cwV 1 hts (fn_ginV (fn_gin wd_1417) wd_1414 wd_1416 wp_94 wd_13) rfl rfl rfl (by decide +kernel) ⟨Nat.le_of_ble_eq_true rfl, Nat.le_of_ble_eq_true rfl⟩) ⟨fn_blind, va_recv hK.1 hP (ci := 12) (q0 := 0) rfl rfl, hp⟩ rfl rfl hl.1 rfl (lv_room (Nat.le_of_ble_eq_true rfl)) dX12_feed_38 ⟨Nat.le_of_ble_eq_true rfl, Nat.le_of_ble_eq_true rfl⟩) (fun u38 H locs hwu38 hP hD hS => ?_)
    obtain ⟨u38a, u38b⟩ := u38
    obtain ⟨hqu380, hu38_00, -⟩ := hwu38
    have hqu38 : 0 ≤ (u38a 0) ∧ (u38a 0) ≤ 1400 ∧ ((u38a 0) = (u32a 0) + 4) := hqu380
    have hu38_0 : ∀ j : Nat, (-128) ≤ (u38b 0) j ∧ (u38b 0) j ≤ 127 := hu38_00
    clear hqu380 hu38_00
    have hP : va_P D vwCl [(t, .inr (12, oX12 t_q 0 (u38a 0) t_x7 t_x8 t_x9 t_x10 t_x11 t_x12 t_x13 t_x14 t_x15 t_x32 t_x33 t_x34 t_x35 t_x39 t_x40 t_x43 t_x44 t_x48 t_x49 t_x50)), ((t_q 5), .inl (K 1, 1400, .inl (fun j => iI ((u38b 0) j))))] H := hP
    have hD : va_D A [(t, .inr (12, oX12 t_q 0 (u38a 0) t_x7 t_x8 t_x9 t_x10 t_x11 t_x12 t_x13 t_x14 t_x15 t_x32 t_x33 t_x34 t_x35 t_x39 t_x40 t_x43 t_x44 t_x48 t_x49 t_x50)), ((t_q 5), .inl (K 1, 1400, .inl (fun j => iI ((u38b 0) j))))] := hD
    refine lv_aload_n hx hb dX12_feed_41 rfl (lv_at hl 0 rfl) ?_
    refine lv_iload hx hb dX12_feed_42 (lv_at hl 5 rfl) ?_
    refine fn_gov (wc := [(t, .inr (12, oX12 t_q 0 (u38a 0) t_x7 t_x8 t_x9 t_x10 t_x11 t_x12 t_x13 t_x14 t_x15 t_x32 t_x33 t_x34 t_x35 t_x39 t_x40 t_x43 t_x44 t_x48 t_x49 t_x50)), ((t_q 5), .inl (K 1, 1400, .inl (fun j => iI ((u38b 0) j))))]) (wr := []) hK hP hD hS hA [0, 1] [] rfl rfl (by decide) (fun hp => va_runV (C := RX12) (As := [.int (iI p5)]) (rest := []) ⟨hx, hb, hml, hown, hts⟩ (k_X12_four (l := l) (D := D) (K := K) (t := t) (p1 := p5) (t_q := t_q) (t_x0 := 0) (t_x6 := (u38a 0)) (t_x7 := t_x7) (t_x8 := t_x8) (t_x9 := t_x9) (t_x10 := t_x10) (t_x11 := t_x11) (t_x12 := t_x12) (t_x13 := t_x13) (t_x14 := t_x14) (t_x15 := t_x15) (t_x32 := t_x32) (t_x33 := t_x33) (t_x34 := t_x34) (t_x35 := t_x35) (t_x39 := t_x39) (t_x40 := t_x40) (t_x43 := t_x43) (t_x44 := t_x44) (t_x48 := t_x48) (t_x49 := t_x49) (t_x50 := t_x50) (t_5_c := (u38b 0)) (hp1 := (by omega)) (hi_t := ⟨(by omega), (by omega), hi_t.2.2.1, hi_t.2.2.2.1, hi_t.2.2.2.2.1, hi_t.2.2.2.2.2.1, hi_t.2.2.2.2.2.2.1, hi_t.2.2.2.2.2.2.2.1, hi_t.2.2.2.2.2.2.2.2.1, hi_t.2.2.2.2.2.2.2.2.2.1, hi_t.2.2.2.2.2.2.2.2.2.2.1, hi_t.2.2.2.2.2.2.2.2.2.2.2.1, hi_t.2.2.2.2.2.2.2.2.2.2.2.2.1, hi_t.2.2.2.2.2.2.2.2.2.2.2.2.2.1, hi_t.2.2.2.2.2.2.2.2.2.2.2.2.2.2.1, hi_t.2.2.2.2.2.2.2.2.2.2.2.2.2.2.2.1, hi_t.2.2.2.2.2.2.2.2.2.2.2.2.2.2.2.2.1, hi_t.2.2.2.2.2.2.2.2.2.2.2.2.2.2.2.2.2.1, hi_t.2.2.2.2.2.2.2.2.2.2.2.2.2.2.2.2.2.2.1, hi_t.2.2.2.2.2.2.2.2.2.2.2.2.2.2.2.2.2.2.2.1, hi_t.2.2.2.2.2.2.2.2.2.2.2.2.2.2.2.2.2.2.2.2.1, hi_t.2.2.2.2.2.2.2.2.2.2.2.2.2.2.2.2.2.2.2.2.2⟩) (hc_t_5 := hu38_0) (tp := (show (u38a 0) + 4 ≤ 1400 from by omega)) _) (cwV 1 hts (fn_ginV (fn_gin wd_1417) wd_1414 wd_1416 wp_94 wd_13) rfl rfl rfl (by decide +kernel) ⟨Nat.le_of_ble_eq_true rfl, Nat.le_of_ble_eq_true rfl⟩) ⟨fn_blind, va_recv hK.1 hP (ci := 12) (q0 := 0) rfl rfl, hp⟩ rfl rfl hl.1 rfl (lv_room (Nat.le_of_ble_eq_true rfl)) dX12_feed_44 ⟨Nat.le_of_ble_eq_true rfl, Nat.le_of_ble_eq_true rfl⟩) (fun u44 H locs hwu44 hP hD hS => ?_)
    obtain ⟨u44a, u44b⟩ := u44
    obtain ⟨hqu440, hu44_00, -⟩ := hwu44
    have hqu44 : 0 ≤ (u44a 0) ∧ (u44a 0) ≤ 1400 ∧ ((u44a 0) = (u38a 0) + 4) := hqu440
    have hu44_0 : ∀ j : Nat, (-128) ≤ (u44b 0) j ∧ (u44b 0) j ≤ 127 := hu44_00
    clear hqu440 hu44_00
    have hP : va_P D vwCl [(t, .inr (12, oX12 t_q 0 (u44a 0) t_x7 t_x8 t_x9 t_x10 t_x11 t_x12 t_x13 t_x14 t_x15 t_x32 t_x33 t_x34 t_x35 t_x39 t_x40 t_x43 t_x44 t_x48 t_x49 t_x50)), ((t_q 5), .inl (K 1, 1400, .inl (fun j => iI ((u44b 0) j))))] H := hP
    have hD : va_D A [(t, .inr (12, oX12 t_q 0 (u44a 0) t_x7 t_x8 t_x9 t_x10 t_x11 t_x12 t_x13 t_x14 t_x15 t_x32 t_x33 t_x34 t_x35 t_x39 t_x40 t_x43 t_x44 t_x48 t_x49 t_x50)), ((t_q 5), .inl (K 1, 1400, .inl (fun j => iI ((u44b 0) j))))] := hD
    refine lv_aload_n hx hb dX12_feed_47 rfl (lv_at hl 0 rfl) ?_
    refine va_get (D := D) (own := RX12) (ci := 12) (v := .int (iI (u44a 0))) (C := RX12) (T := TX12) (N := 51) hx hb hts inb_X12 hown hK.1 hP 0 rfl rfl 6 (by decide) (hts _ wd_1240) (fun _ h9 => h9) rfl dX12_feed_48 ?_
    rw [hQ]; exact fn_iret hx hb hr hlocks rfl hP hD hS ((fun k => ([0, (u44a 0)] : List Int).getD k 0), (fun k => ([(u44b 0)] : List (Nat → Int)).getD k (fun _ => 0))) ⟨(u44a 0), rfl, by omega, (by show (-2147483648) ≤ 0 ∧ 0 ≤ 2147483647 ∧ 0 ≤ (u44a 0) ∧ (u44a 0) ≤ 1400; omega), (hu44_0), trivial⟩ [0, 1] (by decide) rfl dX12_feed_51
  · refine lv_iconst (v := iI (-1)) hx hb dX12_feed_18 rfl ?_
    rw [hQ]; exact fn_iret hx hb hr hlocks rfl hP hD hS ((fun k => ([0, t_x6] : List Int).getD k 0), (fun k => ([t_5_c] : List (Nat → Int)).getD k (fun _ => 0))) ⟨(-1), rfl, by omega, (by show (-2147483648) ≤ 0 ∧ 0 ≤ 2147483647 ∧ 0 ≤ t_x6 ∧ t_x6 ≤ 1400; omega), (hc_t_5), trivial⟩ [0, 1] (by decide) rfl dX12_feed_19
theorem dX12_end_0 : decode cX12_end 0 = .ok (.aload_n 0, 1) := by decide +kernel
theorem dX12_end_1 : decode cX12_end 1 = .ok (.iconst 0, 1) := by decide +kernel
theorem dX12_end_2 : decode cX12_end 2 = .ok (.putfield 104, 3) := by decide +kernel
theorem dX12_end_5 : decode cX12_end 5 = .ok (.iload_n 1, 1) := by decide +kernel
theorem dX12_end_6 : decode cX12_end 6 = .ok (.i2l, 1) := by decide +kernel
theorem dX12_end_7 : decode cX12_end 7 = .ok (.lconst 0, 1) := by decide +kernel
theorem dX12_end_8 : decode cX12_end 8 = .ok (.aload_n 0, 1) := by decide +kernel
theorem dX12_end_9 : decode cX12_end 9 = .ok (.getfield 121, 3) := by decide +kernel
theorem dX12_end_12 : decode cX12_end 12 = .ok (.i2l, 1) := by decide +kernel
theorem dX12_end_13 : decode cX12_end 13 = .ok (.invokestatic 109, 3) := by decide +kernel
theorem dX12_end_16 : decode cX12_end 16 = .ok (.ifCond .ne 5, 3) := by decide +kernel
theorem dX12_end_21 : decode cX12_end 21 = .ok (.aload_n 0, 1) := by decide +kernel
theorem dX12_end_22 : decode cX12_end 22 = .ok (.iload_n 1, 1) := by decide +kernel
theorem dX12_end_23 : decode cX12_end 23 = .ok (.putfield 121, 3) := by decide +kernel
theorem dX12_end_26 : decode cX12_end 26 = .ok (.iload_n 1, 1) := by decide +kernel
theorem dX12_end_27 : decode cX12_end 27 = .ok (.ireturn, 1) := by decide +kernel
theorem dX12_end_19 : decode cX12_end 19 = .ok (.iconst (-1), 1) := by decide +kernel
theorem dX12_end_20 : decode cX12_end 20 = .ok (.ireturn, 1) := by decide +kernel
set_option maxHeartbeats 4000000 in
set_option maxRecDepth 100000 in
theorem k_X12_end (l : Launch) (D : va_G) (K : Nat → ClassId) (t : Nat) (t_q : Nat → Nat) (p1 t_x0 t_x6 t_x7 t_x8 t_x9 t_x10 t_x11 t_x12 t_x13 t_x14 t_x15 t_x32 t_x33 t_x34 t_x35 t_x39 t_x40 t_x43 t_x44 t_x48 t_x49 t_x50 : Int) (hp1 : (-2147483648) ≤ p1 ∧ p1 ≤ 2147483647) (hi_t : bM12 t_x0 t_x6 t_x7 t_x8 t_x9 t_x10 t_x11 t_x12 t_x13 t_x14 t_x15 t_x32 t_x33 t_x34 t_x35 t_x39 t_x40 t_x43 t_x44 t_x48 t_x49 t_x50) : fn_CI (S := (Nat → Int) × (Nat → Nat → Int)) l D K yX12_end (fn_ws yX12_end cX12_end 2 (some .int)) ({ frames := 8, cells := 0, slots := 0, locals := 200 } : Room) [.ref t, .int (iI p1)] [(t, .inr (12, oX12 t_q t_x0 t_x6 t_x7 t_x8 t_x9 t_x10 t_x11 t_x12 t_x13 t_x14 t_x15 t_x32 t_x33 t_x34 t_x35 t_x39 t_x40 t_x43 t_x44 t_x48 t_x49 t_x50))] (fun r u => ∃ k : Int, r = iI k ∧ ((-1) ≤ k ∧ k ≤ 1400) ∧ ((-2147483648) ≤ (u.1 0) ∧ (u.1 0) ≤ 2147483647 ∧ 0 ≤ (u.1 1) ∧ (u.1 1) ≤ 1400) ∧ True) (fun u => [(t, .inr (12, oX12 t_q (u.1 0) (u.1 1) t_x7 t_x8 t_x9 t_x10 t_x11 t_x12 t_x13 t_x14 t_x15 t_x32 t_x33 t_x34 t_x35 t_x39 t_x40 t_x43 t_x44 t_x48 t_x49 t_x50))]) 0 0 := by
  refine g_inI (cc := cX12_end) (maxL := 2) (ret := (some .int)) (by decide) rfl (Nat.le_of_ble_eq_true rfl) ?_
  intro p e s m below meth c A ls ag Q B hA hP hD hS hl hQ
  obtain ⟨hx, hb, hr, hml, hts, hown, hlocks, hin, hK⟩ := B
  have hown : s.vm.findClass RX12 = some m.cls := hown
  have hts := fun w h => hts w (List.mem_cons_of_mem _ h)
  have hl : lv_has ls 2 [(0, .ref t), (1, .int (iI p1))] := hl
  refine lv_aload_n hx hb dX12_end_0 rfl (lv_at hl 0 rfl) ?_
  refine lv_iconst (v := iI 0) hx hb dX12_end_1 rfl ?_
  refine va_put (D := D) (own := RX12) (ci := 12) (v := .int (iI 0)) (ty := .int) (C := RX12) (T := TX12) (N := 51) hx hb hts inb_X12 tyX12 tyX12_ok nmX12 hown hK.1 hP hD hS 0 rfl rfl 0 (by decide) (hts _ wd_1234) (fun _ h9 => h9) rfl (by decide +kernel) rfl rfl (Nat.le_of_ble_eq_true rfl) dX12_end_2 (fun H locs hP hD hS => ?_)
  have hP : va_P D vwCl [(t, .inr (12, oX12 t_q 0 t_x6 t_x7 t_x8 t_x9 t_x10 t_x11 t_x12 t_x13 t_x14 t_x15 t_x32 t_x33 t_x34 t_x35 t_x39 t_x40 t_x43 t_x44 t_x48 t_x49 t_x50))] H := hP
  have hD : va_D A [(t, .inr (12, oX12 t_q 0 t_x6 t_x7 t_x8 t_x9 t_x10 t_x11 t_x12 t_x13 t_x14 t_x15 t_x32 t_x33 t_x34 t_x35 t_x39 t_x40 t_x43 t_x44 t_x48 t_x49 t_x50))] := hD
  refine lv_iload_n hx hb dX12_end_5 rfl (lv_at hl 1 rfl) ?_
  refine lv_i2l (v := lI p1) hx hb dX12_end_6 (iI_2l (by omega)) ?_
  refine lv_lconst (v := lI 0) hx hb dX12_end_7 (by decide) ?_
  refine lv_aload_n hx hb dX12_end_8 rfl (lv_at hl 0 rfl) ?_
  refine va_get (D := D) (own := RX12) (ci := 12) (v := .int (iI t_x6)) (C := RX12) (T := TX12) (N := 51) hx hb hts inb_X12 hown hK.1 hP 0 rfl rfl 6 (by decide) (hts _ wd_1240) (fun _ h9 => h9) rfl dX12_end_9 ?_
  have y9_1 : 0 ≤ t_x6 ∧ t_x6 ≤ 1400 := hi_t.2.1
  refine lv_i2l (v := lI t_x6) hx hb dX12_end_12 (iI_2l (by omega)) ?_
  refine fn_goi (wc := []) (wr := [(t, .inr (12, oX12 t_q 0 t_x6 t_x7 t_x8 t_x9 t_x10 t_x11 t_x12 t_x13 t_x14 t_x15 t_x32 t_x33 t_x34 t_x35 t_x39 t_x40 t_x43 t_x44 t_x48 t_x49 t_x50))]) hK hP hD hS hA [] [0] rfl rfl (by decide) (fun hp => va_runS (As := [.long (lI p1), .long (lI 0), .long (lI t_x6)]) (rest := []) ⟨hx, hb, hml, hown, hts⟩ (k_X12_in (l := l) (D := D) (K := K) (p1 := p1) (p2 := 0) (p3 := t_x6) (hp1 := (by omega)) (hp2 := (by omega)) (hp3 := (by omega)) _) (va_cwS 3 hts (fn_ginS (fn_gin wd_1398) wd_1396 wd_1397 wd_13) rfl rfl rfl (by decide +kernel) ⟨Nat.le_of_ble_eq_true rfl, Nat.le_of_ble_eq_true rfl⟩) ⟨fn_blind, hp⟩ rfl rfl hl.1 rfl (lv_room (Nat.le_of_ble_eq_true rfl)) dX12_end_13 ⟨Nat.le_of_ble_eq_true rfl, Nat.le_of_ble_eq_true rfl⟩) (fun r13 u13 H locs hwu13 hP hD hS => ?_)
  obtain ⟨u13a, u13b⟩ := u13
  obtain ⟨kr13, rfl, hkr13, hqu130, -⟩ := hwu13
  have hqu13 : (kr13 = 1 → (0 : Int) ≤ p1 ∧ p1 ≤ t_x6) ∧ (kr13 = 0 → p1 < (0 : Int) ∨ t_x6 < p1) := hqu130
  clear hqu130
  have hP : va_P D vwCl [(t, .inr (12, oX12 t_q 0 t_x6 t_x7 t_x8 t_x9 t_x10 t_x11 t_x12 t_x13 t_x14 t_x15 t_x32 t_x33 t_x34 t_x35 t_x39 t_x40 t_x43 t_x44 t_x48 t_x49 t_x50))] H := hP
  have hD : va_D A [(t, .inr (12, oX12 t_q 0 t_x6 t_x7 t_x8 t_x9 t_x10 t_x11 t_x12 t_x13 t_x14 t_x15 t_x32 t_x33 t_x34 t_x35 t_x39 t_x40 t_x43 t_x44 t_x48 t_x49 t_x50))] := hD
  refine g_if_ne (tgt := 21) hx hb (by omega) dX12_end_16 (by decide) (fun c16 => ?_) (fun c16 => ?_)
  · refine lv_aload_n hx hb dX12_end_21 rfl (lv_at hl 0 rfl) ?_
    refine lv_iload_n hx hb dX12_end_22 rfl (lv_at hl 1 rfl) ?_
    refine va_put (D := D) (own := RX12) (ci := 12) (v := .int (iI p1)) (ty := .int) (C := RX12) (T := TX12) (N := 51) hx hb hts inb_X12 tyX12 tyX12_ok nmX12 hown hK.1 hP hD hS 0 rfl rfl 6 (by decide) (hts _ wd_1240) (fun _ h9 => h9) rfl (by decide +kernel) rfl rfl (Nat.le_of_ble_eq_true rfl) dX12_end_23 (fun H locs hP hD hS => ?_)
    have hP : va_P D vwCl [(t, .inr (12, oX12 t_q 0 p1 t_x7 t_x8 t_x9 t_x10 t_x11 t_x12 t_x13 t_x14 t_x15 t_x32 t_x33 t_x34 t_x35 t_x39 t_x40 t_x43 t_x44 t_x48 t_x49 t_x50))] H := hP
    have hD : va_D A [(t, .inr (12, oX12 t_q 0 p1 t_x7 t_x8 t_x9 t_x10 t_x11 t_x12 t_x13 t_x14 t_x15 t_x32 t_x33 t_x34 t_x35 t_x39 t_x40 t_x43 t_x44 t_x48 t_x49 t_x50))] := hD
    refine lv_iload_n hx hb dX12_end_26 rfl (lv_at hl 1 rfl) ?_
    rw [hQ]; exact fn_iret hx hb hr hlocks rfl hP hD hS ((fun k => ([0, p1] : List Int).getD k 0), (fun _ _ => 0)) ⟨p1, rfl, by omega, (by show (-2147483648) ≤ 0 ∧ 0 ≤ 2147483647 ∧ 0 ≤ p1 ∧ p1 ≤ 1400; omega), trivial⟩ [0] (by decide) rfl dX12_end_27
  · refine lv_iconst (v := iI (-1)) hx hb dX12_end_19 rfl ?_
    rw [hQ]; exact fn_iret hx hb hr hlocks rfl hP hD hS ((fun k => ([0, t_x6] : List Int).getD k 0), (fun _ _ => 0)) ⟨(-1), rfl, by omega, (by show (-2147483648) ≤ 0 ∧ 0 ≤ 2147483647 ∧ 0 ≤ t_x6 ∧ t_x6 ≤ 1400; omega), trivial⟩ [0] (by decide) rfl dX12_end_20
theorem dX12_isByte_0 : decode cX12_isByte 0 = .ok (.iload_n 1, 1) := by decide +kernel
theorem dX12_isByte_1 : decode cX12_isByte 1 = .ok (.aload_n 0, 1) := by decide +kernel
theorem dX12_isByte_2 : decode cX12_isByte 2 = .ok (.getfield 121, 3) := by decide +kernel
theorem dX12_isByte_5 : decode cX12_isByte 5 = .ok (.if_icmp .ge 27, 3) := by decide +kernel
theorem dX12_isByte_32 : decode cX12_isByte 32 = .ok (.iconst 0, 1) := by decide +kernel
theorem dX12_isByte_33 : decode cX12_isByte 33 = .ok (.ireturn, 1) := by decide +kernel
theorem dX12_isByte_8 : decode cX12_isByte 8 = .ok (.aload_n 0, 1) := by decide +kernel
theorem dX12_isByte_9 : decode cX12_isByte 9 = .ok (.getfield 23, 3) := by decide +kernel
theorem dX12_isByte_12 : decode cX12_isByte 12 = .ok (.iload_n 1, 1) := by decide +kernel
theorem dX12_isByte_13 : decode cX12_isByte 13 = .ok (.baload, 1) := by decide +kernel
theorem dX12_isByte_14 : decode cX12_isByte 14 = .ok (.iload_n 2, 1) := by decide +kernel
theorem dX12_isByte_15 : decode cX12_isByte 15 = .ok (.if_icmp .lt 17, 3) := by decide +kernel
theorem dX12_isByte_18 : decode cX12_isByte 18 = .ok (.aload_n 0, 1) := by decide +kernel
theorem dX12_isByte_19 : decode cX12_isByte 19 = .ok (.getfield 23, 3) := by decide +kernel
theorem dX12_isByte_22 : decode cX12_isByte 22 = .ok (.iload_n 1, 1) := by decide +kernel
theorem dX12_isByte_23 : decode cX12_isByte 23 = .ok (.baload, 1) := by decide +kernel
theorem dX12_isByte_24 : decode cX12_isByte 24 = .ok (.iload_n 3, 1) := by decide +kernel
theorem dX12_isByte_25 : decode cX12_isByte 25 = .ok (.if_icmp .gt 7, 3) := by decide +kernel
theorem dX12_isByte_28 : decode cX12_isByte 28 = .ok (.iconst 1, 1) := by decide +kernel
theorem dX12_isByte_29 : decode cX12_isByte 29 = .ok (.goto 4, 3) := by decide +kernel
set_option maxHeartbeats 4000000 in
set_option maxRecDepth 100000 in
theorem k_X12_isByte (l : Launch) (D : va_G) (K : Nat → ClassId) (t : Nat) (t_q : Nat → Nat) (p1 p2 p3 t_x0 t_x6 t_x7 t_x8 t_x9 t_x10 t_x11 t_x12 t_x13 t_x14 t_x15 t_x32 t_x33 t_x34 t_x35 t_x39 t_x40 t_x43 t_x44 t_x48 t_x49 t_x50 : Int) (t_5_c : Nat → Int) (hp1 : 0 ≤ p1 ∧ p1 ≤ 1400) (hp2 : (-2147483648) ≤ p2 ∧ p2 ≤ 2147483647) (hp3 : (-2147483648) ≤ p3 ∧ p3 ≤ 2147483647) (hi_t : bM12 t_x0 t_x6 t_x7 t_x8 t_x9 t_x10 t_x11 t_x12 t_x13 t_x14 t_x15 t_x32 t_x33 t_x34 t_x35 t_x39 t_x40 t_x43 t_x44 t_x48 t_x49 t_x50) (hc_t_5 : ∀ j : Nat, (-128) ≤ t_5_c j ∧ t_5_c j ≤ 127) : fn_CI (S := (Nat → Int) × (Nat → Nat → Int)) l D K yX12_isByte (fn_ws yX12_isByte cX12_isByte 4 (some .boolean)) ({ frames := 4, cells := 0, slots := 0, locals := 100 } : Room) [.ref t, .int (iI p1), .int (iI p2), .int (iI p3)] [(t, .inr (12, oX12 t_q t_x0 t_x6 t_x7 t_x8 t_x9 t_x10 t_x11 t_x12 t_x13 t_x14 t_x15 t_x32 t_x33 t_x34 t_x35 t_x39 t_x40 t_x43 t_x44 t_x48 t_x49 t_x50)), ((t_q 5), .inl (K 1, 1400, .inl (fun j => iI (t_5_c j))))] (fun r u => ∃ k : Int, r = iI k ∧ (0 ≤ k ∧ k ≤ 1) ∧ ((k = 1 → p1 < t_x6 ∧ p2 ≤ t_5_c (Int.toNat p1) ∧ t_5_c (Int.toNat p1) ≤ p3) ∧ (k = 0 → t_x6 ≤ p1 ∨ t_5_c (Int.toNat p1) < p2 ∨ p3 < t_5_c (Int.toNat p1))) ∧ True) (fun u => [(t, .inr (12, oX12 t_q t_x0 t_x6 t_x7 t_x8 t_x9 t_x10 t_x11 t_x12 t_x13 t_x14 t_x15 t_x32 t_x33 t_x34 t_x35 t_x39 t_x40 t_x43 t_x44 t_x48 t_x49 t_x50)), ((t_q 5), .inl (K 1, 1400, .inl (fun j => iI (t_5_c j))))]) 0 0 := by
  refine g_inI (cc := cX12_isByte) (maxL := 4) (ret := (some .boolean)) (by decide) rfl (Nat.le_of_ble_eq_true rfl) ?_
  intro p e s m below meth c A ls ag Q B hA hP hD hS hl hQ
  obtain ⟨hx, hb, hr, hml, hts, hown, hlocks, hin, hK⟩ := B
  have hown : s.vm.findClass RX12 = some m.cls := hown
  have hts := fun w h => hts w (List.mem_cons_of_mem _ h)
  have hl : lv_has ls 4 [(0, .ref t), (1, .int (iI p1)), (2, .int (iI p2)), (3, .int (iI p3))] := hl
  refine lv_iload_n hx hb dX12_isByte_0 rfl (lv_at hl 1 rfl) ?_
  refine lv_aload_n hx hb dX12_isByte_1 rfl (lv_at hl 0 rfl) ?_
  refine va_get (D := D) (own := RX12) (ci := 12) (v := .int (iI t_x6)) (C := RX12) (T := TX12) (N := 51) hx hb hts inb_X12 hown hK.1 hP 0 rfl rfl 6 (by decide) (hts _ wd_1240) (fun _ h9 => h9) rfl dX12_isByte_2 ?_
  have y2_1 : 0 ≤ t_x6 ∧ t_x6 ≤ 1400 := hi_t.2.1
  refine g_icmp_ge (tgt := 32) hx hb (by omega) (by omega) dX12_isByte_5 (by decide) (fun c5 => ?_) (fun c5 => ?_)
  · refine lv_iconst (v := iI 0) hx hb dX12_isByte_32 rfl ?_
    rw [hQ]; exact fn_iret hx hb hr hlocks (iI_nz (by omega)) hP hD hS ((fun _ => 0), (fun _ _ => 0)) ⟨0, rfl, by omega, (by show ((0 : Int) = 1 → p1 < t_x6 ∧ p2 ≤ t_5_c (Int.toNat p1) ∧ t_5_c (Int.toNat p1) ≤ p3) ∧ ((0 : Int) = 0 → t_x6 ≤ p1 ∨ t_5_c (Int.toNat p1) < p2 ∨ p3 < t_5_c (Int.toNat p1)); omega), trivial⟩ [0, 1] (by decide) rfl dX12_isByte_33
  · refine lv_aload_n hx hb dX12_isByte_8 rfl (lv_at hl 0 rfl) ?_
    refine va_get (D := D) (own := RX12) (ci := 12) (v := .ref (t_q 5)) (C := RX12) (T := TX12) (N := 51) hx hb hts inb_X12 hown hK.1 hP 0 rfl rfl 5 (by decide) (hts _ wd_1239) (fun _ h9 => h9) rfl dX12_isByte_9 ?_
    refine lv_iload_n hx hb dX12_isByte_12 rfl (lv_at hl 1 rfl) ?_
    refine g_bald hx hb hK.1 hP 1 1 rfl rfl (by omega) (by omega) (by decide) dX12_isByte_13 ?_
    have y13 : (-128) ≤ (t_5_c p1.toNat) ∧ (t_5_c p1.toNat) ≤ 127 := hc_t_5 p1.toNat
    refine lv_iload_n hx hb dX12_isByte_14 rfl (lv_at hl 2 rfl) ?_
    refine g_icmp_lt (tgt := 32) hx hb (by omega) (by omega) dX12_isByte_15 (by decide) (fun c15 => ?_) (fun c15 => ?_)
    · refine lv_iconst (v := iI 0) hx hb dX12_isByte_32 rfl ?_
      rw [hQ]; exact fn_iret hx hb hr hlocks (iI_nz (by omega)) hP hD hS ((fun _ => 0), (fun _ _ => 0)) ⟨0, rfl, by omega, (by show ((0 : Int) = 1 → p1 < t_x6 ∧ p2 ≤ t_5_c (Int.toNat p1) ∧ t_5_c (Int.toNat p1) ≤ p3) ∧ ((0 : Int) = 0 → t_x6 ≤ p1 ∨ t_5_c (Int.toNat p1) < p2 ∨ p3 < t_5_c (Int.toNat p1)); omega), trivial⟩ [0, 1] (by decide) rfl dX12_isByte_33
    · refine lv_aload_n hx hb dX12_isByte_18 rfl (lv_at hl 0 rfl) ?_
      refine va_get (D := D) (own := RX12) (ci := 12) (v := .ref (t_q 5)) (C := RX12) (T := TX12) (N := 51) hx hb hts inb_X12 hown hK.1 hP 0 rfl rfl 5 (by decide) (hts _ wd_1239) (fun _ h9 => h9) rfl dX12_isByte_19 ?_
      refine lv_iload_n hx hb dX12_isByte_22 rfl (lv_at hl 1 rfl) ?_
      refine g_bald hx hb hK.1 hP 1 1 rfl rfl (by omega) (by omega) (by decide) dX12_isByte_23 ?_
      refine lv_iload_n hx hb dX12_isByte_24 rfl (lv_at hl 3 rfl) ?_
      refine g_icmp_gt (tgt := 32) hx hb (by omega) (by omega) dX12_isByte_25 (by decide) (fun c25 => ?_) (fun c25 => ?_)
      · refine lv_iconst (v := iI 0) hx hb dX12_isByte_32 rfl ?_
        rw [hQ]; exact fn_iret hx hb hr hlocks (iI_nz (by omega)) hP hD hS ((fun _ => 0), (fun _ _ => 0)) ⟨0, rfl, by omega, (by show ((0 : Int) = 1 → p1 < t_x6 ∧ p2 ≤ t_5_c (Int.toNat p1) ∧ t_5_c (Int.toNat p1) ≤ p3) ∧ ((0 : Int) = 0 → t_x6 ≤ p1 ∨ t_5_c (Int.toNat p1) < p2 ∨ p3 < t_5_c (Int.toNat p1)); omega), trivial⟩ [0, 1] (by decide) rfl dX12_isByte_33
      · refine lv_iconst (v := iI 1) hx hb dX12_isByte_28 rfl ?_
        refine lv_goto (tgt := 33) hx hb dX12_isByte_29 (by decide) ?_
        rw [hQ]; exact fn_iret hx hb hr hlocks (iI_nz (by omega)) hP hD hS ((fun _ => 0), (fun _ _ => 0)) ⟨1, rfl, by omega, (by show ((1 : Int) = 1 → p1 < t_x6 ∧ p2 ≤ t_5_c (Int.toNat p1) ∧ t_5_c (Int.toNat p1) ≤ p3) ∧ ((1 : Int) = 0 → t_x6 ≤ p1 ∨ t_5_c (Int.toNat p1) < p2 ∨ p3 < t_5_c (Int.toNat p1)); omega), trivial⟩ [0, 1] (by decide) rfl dX12_isByte_33
