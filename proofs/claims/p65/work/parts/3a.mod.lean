theorem dX12_in_0 : decode cX12_in 0 = .ok (.lload_n 0, 1) := by decide +kernel
theorem dX12_in_1 : decode cX12_in 1 = .ok (.lload_n 2, 1) := by decide +kernel
theorem dX12_in_2 : decode cX12_in 2 = .ok (.lcmp, 1) := by decide +kernel
theorem dX12_in_3 : decode cX12_in 3 = .ok (.ifCond .lt 14, 3) := by decide +kernel
theorem dX12_in_17 : decode cX12_in 17 = .ok (.iconst 0, 1) := by decide +kernel
theorem dX12_in_18 : decode cX12_in 18 = .ok (.ireturn, 1) := by decide +kernel
theorem dX12_in_6 : decode cX12_in 6 = .ok (.lload_n 0, 1) := by decide +kernel
theorem dX12_in_7 : decode cX12_in 7 = .ok (.lload 4, 2) := by decide +kernel
theorem dX12_in_9 : decode cX12_in 9 = .ok (.lcmp, 1) := by decide +kernel
theorem dX12_in_10 : decode cX12_in 10 = .ok (.ifCond .gt 7, 3) := by decide +kernel
theorem dX12_in_13 : decode cX12_in 13 = .ok (.iconst 1, 1) := by decide +kernel
theorem dX12_in_14 : decode cX12_in 14 = .ok (.goto 4, 3) := by decide +kernel
set_option maxHeartbeats 4000000 in
set_option maxRecDepth 100000 in
theorem k_X12_in (l : Launch) (D : va_G) (K : Nat → ClassId) (p1 p2 p3 : Int) (hp1 : (-9223372036854775808) ≤ p1 ∧ p1 ≤ 9223372036854775807) (hp2 : (-9223372036854775808) ≤ p2 ∧ p2 ≤ 9223372036854775807) (hp3 : (-9223372036854775808) ≤ p3 ∧ p3 ≤ 9223372036854775807) : fn_CI (S := (Nat → Int) × (Nat → Nat → Int)) l D K yX12_in (fn_ws yX12_in cX12_in 6 (some .boolean)) ({ frames := 4, cells := 0, slots := 0, locals := 100 } : Room) [.long (lI p1), .long (lI p2), .long (lI p3)] [] (fun r u => ∃ k : Int, r = iI k ∧ (0 ≤ k ∧ k ≤ 1) ∧ ((k = 1 → p2 ≤ p1 ∧ p1 ≤ p3) ∧ (k = 0 → p1 < p2 ∨ p3 < p1)) ∧ True) (fun u => []) 0 0 := by
  refine g_inI (cc := cX12_in) (maxL := 6) (ret := (some .boolean)) (by decide) rfl (Nat.le_of_ble_eq_true rfl) ?_
  intro p e s m below meth c A ls ag Q B hA hP hD hS hl hQ
  obtain ⟨hx, hb, hr, hml, hts, hown, hlocks, hin, hK⟩ := B
  have hown : s.vm.findClass RX12 = some m.cls := hown
  have hts := fun w h => hts w (List.mem_cons_of_mem _ h)
  have hl : lv_has ls 6 [(0, .long (lI p1)), (2, .long (lI p2)), (4, .long (lI p3))] := hl
  refine lv_lload_n hx hb dX12_in_0 rfl (lv_at hl 0 rfl) ?_
  refine lv_lload_n hx hb dX12_in_1 rfl (lv_at hl 1 rfl) ?_
  refine W.lcmp hx hb dX12_in_2 ?_
  refine g_lif_lt (tgt := 17) hx hb (by omega) (by omega) dX12_in_3 (by decide) (fun c3 => ?_) (fun c3 => ?_)
  · refine lv_iconst (v := iI 0) hx hb dX12_in_17 rfl ?_
    rw [hQ]; exact fn_iret hx hb hr hlocks (iI_nz (by omega)) hP hD hS ((fun _ => 0), (fun _ _ => 0)) ⟨0, rfl, by omega, (by show ((0 : Int) = 1 → p2 ≤ p1 ∧ p1 ≤ p3) ∧ ((0 : Int) = 0 → p1 < p2 ∨ p3 < p1); omega), trivial⟩ [] (by decide) rfl dX12_in_18
  · refine lv_lload_n hx hb dX12_in_6 rfl (lv_at hl 0 rfl) ?_
    refine lv_lload hx hb dX12_in_7 (lv_at hl 2 rfl) ?_
    refine W.lcmp hx hb dX12_in_9 ?_
    refine g_lif_gt (tgt := 17) hx hb (by omega) (by omega) dX12_in_10 (by decide) (fun c10 => ?_) (fun c10 => ?_)
    · refine lv_iconst (v := iI 0) hx hb dX12_in_17 rfl ?_
      rw [hQ]; exact fn_iret hx hb hr hlocks (iI_nz (by omega)) hP hD hS ((fun _ => 0), (fun _ _ => 0)) ⟨0, rfl, by omega, (by show ((0 : Int) = 1 → p2 ≤ p1 ∧ p1 ≤ p3) ∧ ((0 : Int) = 0 → p1 < p2 ∨ p3 < p1); omega), trivial⟩ [] (by decide) rfl dX12_in_18
    · refine lv_iconst (v := iI 1) hx hb dX12_in_13 rfl ?_
      refine lv_goto (tgt := 18) hx hb dX12_in_14 (by decide) ?_
      rw [hQ]; exact fn_iret hx hb hr hlocks (iI_nz (by omega)) hP hD hS ((fun _ => 0), (fun _ _ => 0)) ⟨1, rfl, by omega, (by show ((1 : Int) = 1 → p2 ≤ p1 ∧ p1 ≤ p3) ∧ ((1 : Int) = 0 → p1 < p2 ∨ p3 < p1); omega), trivial⟩ [] (by decide) rfl dX12_in_18
theorem wd_1395 : Cond.constantLong "FootNotesModel" 107 (3 : Int64) ∈ fn_big := fn_tb (fn_l6 (List.mem_of_getElem? (i := 195) (by decide +kernel))) (by decide +kernel)
theorem wd_1398 : Cond.code ⟨"FootNotesModel", "in", "(JJJ)Z"⟩ prog_14_method_3_code 6 (Option.some Jvm.ClassFile.FieldType.boolean) ∈ fn_big := fn_tb (fn_l6 (List.mem_of_getElem? (i := 198) (by decide +kernel))) (by decide +kernel)
theorem wd_13 : Cond.initialized "FootNotesModel" ∈ fn_big := fn_tb (fn_l1 (List.mem_of_getElem? (i := 13) (by decide +kernel))) (by decide +kernel)
theorem wd_1396 : Cond.methodLink "FootNotesModel" 109 ⟨"FootNotesModel", "in", "(JJJ)Z"⟩ ∈ fn_big := fn_tb (fn_l6 (List.mem_of_getElem? (i := 196) (by decide +kernel))) (by decide +kernel)
theorem wd_1397 : Cond.static ⟨"FootNotesModel", "in", "(JJJ)Z"⟩ ∈ fn_big := fn_tb (fn_l6 (List.mem_of_getElem? (i := 197) (by decide +kernel))) (by decide +kernel)
theorem dX12_isSlot_0 : decode cX12_isSlot 0 = .ok (.iload_n 0, 1) := by decide +kernel
theorem dX12_isSlot_1 : decode cX12_isSlot 1 = .ok (.i2l, 1) := by decide +kernel
theorem dX12_isSlot_2 : decode cX12_isSlot 2 = .ok (.lconst 0, 1) := by decide +kernel
theorem dX12_isSlot_3 : decode cX12_isSlot 3 = .ok (.ldc2_w 107, 3) := by decide +kernel
theorem dX12_isSlot_6 : decode cX12_isSlot 6 = .ok (.invokestatic 109, 3) := by decide +kernel
theorem dX12_isSlot_9 : decode cX12_isSlot 9 = .ok (.ireturn, 1) := by decide +kernel
set_option maxHeartbeats 4000000 in
set_option maxRecDepth 100000 in
theorem k_X12_isSlot (l : Launch) (D : va_G) (K : Nat → ClassId) (p1 : Int) (hp1 : (-2147483648) ≤ p1 ∧ p1 ≤ 2147483647) : fn_CI (S := (Nat → Int) × (Nat → Nat → Int)) l D K yX12_isSlot (fn_ws yX12_isSlot cX12_isSlot 1 (some .boolean)) ({ frames := 8, cells := 0, slots := 0, locals := 200 } : Room) [.int (iI p1)] [] (fun r u => ∃ k : Int, r = iI k ∧ (0 ≤ k ∧ k ≤ 1) ∧ ((k = 1 → 0 ≤ p1 ∧ p1 ≤ 3) ∧ (k = 0 → p1 < 0 ∨ 3 < p1)) ∧ True) (fun u => []) 0 0 := by
  refine g_inI (cc := cX12_isSlot) (maxL := 1) (ret := (some .boolean)) (by decide) rfl (Nat.le_of_ble_eq_true rfl) ?_
  intro p e s m below meth c A ls ag Q B hA hP hD hS hl hQ
  obtain ⟨hx, hb, hr, hml, hts, hown, hlocks, hin, hK⟩ := B
  have hown : s.vm.findClass RX12 = some m.cls := hown
  have hts := fun w h => hts w (List.mem_cons_of_mem _ h)
  have hl : lv_has ls 1 [(0, .int (iI p1))] := hl
  refine lv_iload_n hx hb dX12_isSlot_0 rfl (lv_at hl 0 rfl) ?_
  refine lv_i2l (v := lI p1) hx hb dX12_isSlot_1 (iI_2l (by omega)) ?_
  refine lv_lconst (v := lI 0) hx hb dX12_isSlot_2 (by decide) ?_
  refine lv_ldc2 (own := RX12) (v := 3) hx hb hown (hts _ wd_1395) dX12_isSlot_3 ?_
  refine fn_topl (lI 3) (by decide) ?_
  refine fn_goi (wc := []) (wr := []) hK hP hD hS hA [] [] rfl rfl (by decide) (fun hp => va_runS (As := [.long (lI p1), .long (lI 0), .long (lI 3)]) (rest := []) ⟨hx, hb, hml, hown, hts⟩ (k_X12_in (l := l) (D := D) (K := K) (p1 := p1) (p2 := 0) (p3 := 3) (hp1 := (by omega)) (hp2 := (by omega)) (hp3 := (by omega)) _) (va_cwS 3 hts (fn_ginS (fn_gin wd_1398) wd_1396 wd_1397 wd_13) rfl rfl rfl (by decide +kernel) ⟨Nat.le_of_ble_eq_true rfl, Nat.le_of_ble_eq_true rfl⟩) ⟨fn_blind, hp⟩ rfl rfl hl.1 rfl (lv_room (Nat.le_of_ble_eq_true rfl)) dX12_isSlot_6 ⟨Nat.le_of_ble_eq_true rfl, Nat.le_of_ble_eq_true rfl⟩) (fun r6 u6 H locs hwu6 hP hD hS => ?_)
  obtain ⟨u6a, u6b⟩ := u6
  obtain ⟨kr6, rfl, hkr6, hqu60, -⟩ := hwu6
  have hqu6 : (kr6 = 1 → (0 : Int) ≤ p1 ∧ p1 ≤ (3 : Int)) ∧ (kr6 = 0 → p1 < (0 : Int) ∨ (3 : Int) < p1) := hqu60
  clear hqu60
  have hP : va_P D vwCl [] H := hP
  have hD : va_D A [] := hD
  rw [hQ]; exact fn_iret hx hb hr hlocks (iI_nz (by omega)) hP hD hS ((fun _ => 0), (fun _ _ => 0)) ⟨kr6, rfl, by omega, (by show (kr6 = 1 → 0 ≤ p1 ∧ p1 ≤ 3) ∧ (kr6 = 0 → p1 < 0 ∨ 3 < p1); omega), trivial⟩ [] (by decide) rfl dX12_isSlot_9
theorem dX12_cut_0 : decode cX12_cut 0 = .ok (.iload_n 2, 1) := by decide +kernel
theorem dX12_cut_1 : decode cX12_cut 1 = .ok (.ifCond .ne 10, 3) := by decide +kernel
theorem dX12_cut_11 : decode cX12_cut 11 = .ok (.iload_n 2, 1) := by decide +kernel
theorem dX12_cut_12 : decode cX12_cut 12 = .ok (.iconst 1, 1) := by decide +kernel
theorem dX12_cut_13 : decode cX12_cut 13 = .ok (.if_icmp .ne 10, 3) := by decide +kernel
theorem dX12_cut_23 : decode cX12_cut 23 = .ok (.iload_n 2, 1) := by decide +kernel
theorem dX12_cut_24 : decode cX12_cut 24 = .ok (.iconst 2, 1) := by decide +kernel
theorem dX12_cut_25 : decode cX12_cut 25 = .ok (.if_icmp .ne 9, 3) := by decide +kernel
theorem dX12_cut_34 : decode cX12_cut 34 = .ok (.lload_n 0, 1) := by decide +kernel
theorem dX12_cut_35 : decode cX12_cut 35 = .ok (.lreturn, 1) := by decide +kernel
theorem dX12_cut_28 : decode cX12_cut 28 = .ok (.lload_n 0, 1) := by decide +kernel
theorem dX12_cut_29 : decode cX12_cut 29 = .ok (.l2i, 1) := by decide +kernel
theorem dX12_cut_30 : decode cX12_cut 30 = .ok (.i2l, 1) := by decide +kernel
theorem dX12_cut_31 : decode cX12_cut 31 = .ok (.goto 4, 3) := by decide +kernel
theorem dX12_cut_16 : decode cX12_cut 16 = .ok (.lload_n 0, 1) := by decide +kernel
theorem dX12_cut_17 : decode cX12_cut 17 = .ok (.l2i, 1) := by decide +kernel
theorem dX12_cut_18 : decode cX12_cut 18 = .ok (.i2s, 1) := by decide +kernel
theorem dX12_cut_19 : decode cX12_cut 19 = .ok (.i2l, 1) := by decide +kernel
theorem dX12_cut_20 : decode cX12_cut 20 = .ok (.goto 15, 3) := by decide +kernel
theorem dX12_cut_4 : decode cX12_cut 4 = .ok (.lload_n 0, 1) := by decide +kernel
theorem dX12_cut_5 : decode cX12_cut 5 = .ok (.l2i, 1) := by decide +kernel
theorem dX12_cut_6 : decode cX12_cut 6 = .ok (.i2b, 1) := by decide +kernel
theorem dX12_cut_7 : decode cX12_cut 7 = .ok (.i2l, 1) := by decide +kernel
theorem dX12_cut_8 : decode cX12_cut 8 = .ok (.goto 27, 3) := by decide +kernel
set_option maxHeartbeats 4000000 in
set_option maxRecDepth 100000 in
theorem k_X12_cut (l : Launch) (D : va_G) (K : Nat → ClassId) (p1 p2 : Int) (hp1 : (-9223372036854775808) ≤ p1 ∧ p1 ≤ 9223372036854775807) (hp2 : (-2147483648) ≤ p2 ∧ p2 ≤ 2147483647) : fn_CL (S := (Nat → Int) × (Nat → Nat → Int)) l D K yX12_cut (fn_ws yX12_cut cX12_cut 3 (some .long)) ({ frames := 4, cells := 0, slots := 0, locals := 100 } : Room) [.long (lI p1), .int (iI p2)] [] (fun r u => ∃ k : Int, r = lI k ∧ ((-9223372036854775808) ≤ k ∧ k ≤ 9223372036854775807) ∧ True) (fun u => []) 0 0 := by
  refine g_inL (cc := cX12_cut) (maxL := 3) (ret := (some .long)) (by decide) rfl (Nat.le_of_ble_eq_true rfl) ?_
  intro p e s m below meth c A ls ag Q B hA hP hD hS hl hQ
  obtain ⟨hx, hb, hr, hml, hts, hown, hlocks, hin, hK⟩ := B
  have hown : s.vm.findClass RX12 = some m.cls := hown
  have hts := fun w h => hts w (List.mem_cons_of_mem _ h)
  have hl : lv_has ls 3 [(0, .long (lI p1)), (2, .int (iI p2))] := hl
  refine lv_iload_n hx hb dX12_cut_0 rfl (lv_at hl 1 rfl) ?_
  refine g_if_ne (tgt := 11) hx hb (by omega) dX12_cut_1 (by decide) (fun c1 => ?_) (fun c1 => ?_)
  · refine lv_iload_n hx hb dX12_cut_11 rfl (lv_at hl 1 rfl) ?_
    refine lv_iconst (v := iI 1) hx hb dX12_cut_12 rfl ?_
    refine g_icmp_ne (tgt := 23) hx hb (by omega) (by omega) dX12_cut_13 (by decide) (fun c13 => ?_) (fun c13 => ?_)
    · refine lv_iload_n hx hb dX12_cut_23 rfl (lv_at hl 1 rfl) ?_
      refine lv_iconst (v := iI 2) hx hb dX12_cut_24 rfl ?_
      refine g_icmp_ne (tgt := 34) hx hb (by omega) (by omega) dX12_cut_25 (by decide) (fun c25 => ?_) (fun c25 => ?_)
      · refine lv_lload_n hx hb dX12_cut_34 rfl (lv_at hl 0 rfl) ?_
        rw [hQ]; exact fn_lret hx hb hr hlocks hP hD hS ((fun _ => 0), (fun _ _ => 0)) ⟨p1, rfl, by omega, trivial⟩ [] (by decide) rfl dX12_cut_35
      · refine lv_lload_n hx hb dX12_cut_28 rfl (lv_at hl 0 rfl) ?_
        refine lv_l2i hx hb dX12_cut_29 rfl ?_
        refine g_any (fun w29 hw29 ew29 => ?_)
        refine lv_i2l (v := lI w29) hx hb dX12_cut_30 (iI_2l (by omega)) ?_
        refine lv_goto (tgt := 35) hx hb dX12_cut_31 (by decide) ?_
        rw [hQ]; exact fn_lret hx hb hr hlocks hP hD hS ((fun _ => 0), (fun _ _ => 0)) ⟨w29, rfl, by omega, trivial⟩ [] (by decide) rfl dX12_cut_35
    · refine lv_lload_n hx hb dX12_cut_16 rfl (lv_at hl 0 rfl) ?_
      refine lv_l2i hx hb dX12_cut_17 rfl ?_
      refine g_any (fun w17 hw17 ew17 => ?_)
      refine lv_i2s hx hb dX12_cut_18 rfl ?_
      obtain ⟨w18, ew18, hw18⟩ := iI_i2s w17
      refine fn_top (iI w18) ew18 ?_
      refine lv_i2l (v := lI w18) hx hb dX12_cut_19 (iI_2l (by omega)) ?_
      refine lv_goto (tgt := 35) hx hb dX12_cut_20 (by decide) ?_
      rw [hQ]; exact fn_lret hx hb hr hlocks hP hD hS ((fun _ => 0), (fun _ _ => 0)) ⟨w18, rfl, by omega, trivial⟩ [] (by decide) rfl dX12_cut_35
  · refine lv_lload_n hx hb dX12_cut_4 rfl (lv_at hl 0 rfl) ?_
    refine lv_l2i hx hb dX12_cut_5 rfl ?_
    refine g_any (fun w5 hw5 ew5 => ?_)
    refine lv_i2b hx hb dX12_cut_6 rfl ?_
    obtain ⟨w6, ew6, hw6⟩ := iI_i2b w5
    refine fn_top (iI w6) ew6 ?_
    refine lv_i2l (v := lI w6) hx hb dX12_cut_7 (iI_2l (by omega)) ?_
    refine lv_goto (tgt := 35) hx hb dX12_cut_8 (by decide) ?_
    rw [hQ]; exact fn_lret hx hb hr hlocks hP hD hS ((fun _ => 0), (fun _ _ => 0)) ⟨w6, rfl, by omega, trivial⟩ [] (by decide) rfl dX12_cut_35
theorem wd_1239 : Cond.fieldLink "FootNotesModel" 23 "FootNotesModel" "tape" "[B" ∈ fn_big := fn_tb (fn_l6 (List.mem_of_getElem? (i := 39) (by decide +kernel))) (by decide +kernel)
theorem wd_1240 : Cond.fieldLink "FootNotesModel" 121 "FootNotesModel" "taped" "I" ∈ fn_big := fn_tb (fn_l6 (List.mem_of_getElem? (i := 40) (by decide +kernel))) (by decide +kernel)
theorem dX12_four_3 : decode cX12_four 3 = .ok (.iload_n 2, 1) := by decide +kernel
theorem dX12_four_4 : decode cX12_four 4 = .ok (.ifCond .lt 32, 3) := by decide +kernel
theorem dX12_four_36 : decode cX12_four 36 = .ok (.return_, 1) := by decide +kernel
theorem dX12_four_7 : decode cX12_four 7 = .ok (.aload_n 0, 1) := by decide +kernel
theorem dX12_four_8 : decode cX12_four 8 = .ok (.getfield 23, 3) := by decide +kernel
theorem dX12_four_11 : decode cX12_four 11 = .ok (.aload_n 0, 1) := by decide +kernel
theorem dX12_four_12 : decode cX12_four 12 = .ok (.getfield 121, 3) := by decide +kernel
theorem dX12_four_15 : decode cX12_four 15 = .ok (.iload_n 1, 1) := by decide +kernel
theorem dX12_four_16 : decode cX12_four 16 = .ok (.iload_n 2, 1) := by decide +kernel
theorem dX12_four_17 : decode cX12_four 17 = .ok (.ishr, 1) := by decide +kernel
theorem dX12_four_18 : decode cX12_four 18 = .ok (.i2b, 1) := by decide +kernel
theorem dX12_four_19 : decode cX12_four 19 = .ok (.bastore, 1) := by decide +kernel
theorem dX12_four_20 : decode cX12_four 20 = .ok (.aload_n 0, 1) := by decide +kernel
theorem dX12_four_21 : decode cX12_four 21 = .ok (.dup, 1) := by decide +kernel
theorem dX12_four_22 : decode cX12_four 22 = .ok (.getfield 121, 3) := by decide +kernel
theorem dX12_four_25 : decode cX12_four 25 = .ok (.iconst 1, 1) := by decide +kernel
theorem dX12_four_26 : decode cX12_four 26 = .ok (.iadd, 1) := by decide +kernel
theorem dX12_four_27 : decode cX12_four 27 = .ok (.putfield 121, 3) := by decide +kernel
theorem dX12_four_30 : decode cX12_four 30 = .ok (.iinc 2 (-8), 3) := by decide +kernel
theorem dX12_four_33 : decode cX12_four 33 = .ok (.goto (-30), 3) := by decide +kernel
theorem dX12_four_0 : decode cX12_four 0 = .ok (.bipush 24, 2) := by decide +kernel
theorem dX12_four_2 : decode cX12_four 2 = .ok (.istore_n 2, 1) := by decide +kernel
set_option maxHeartbeats 4000000 in
set_option maxRecDepth 100000 in
theorem k_X12_four (l : Launch) (D : va_G) (K : Nat → ClassId) (t : Nat) (t_q : Nat → Nat) (p1 t_x0 t_x6 t_x7 t_x8 t_x9 t_x10 t_x11 t_x12 t_x13 t_x14 t_x15 t_x32 t_x33 t_x34 t_x35 t_x39 t_x40 t_x43 t_x44 t_x48 t_x49 t_x50 : Int) (t_5_c : Nat → Int) (hp1 : (-2147483648) ≤ p1 ∧ p1 ≤ 2147483647) (hi_t : bM12 t_x0 t_x6 t_x7 t_x8 t_x9 t_x10 t_x11 t_x12 t_x13 t_x14 t_x15 t_x32 t_x33 t_x34 t_x35 t_x39 t_x40 t_x43 t_x44 t_x48 t_x49 t_x50) (hc_t_5 : ∀ j : Nat, (-128) ≤ t_5_c j ∧ t_5_c j ≤ 127) (tp : t_x6 + 4 ≤ 1400) : fn_CV (S := (Nat → Int) × (Nat → Nat → Int)) l D K yX12_four (fn_ws yX12_four cX12_four 3 none) ({ frames := 4, cells := 0, slots := 0, locals := 100 } : Room) [.ref t, .int (iI p1)] [(t, .inr (12, oX12 t_q t_x0 t_x6 t_x7 t_x8 t_x9 t_x10 t_x11 t_x12 t_x13 t_x14 t_x15 t_x32 t_x33 t_x34 t_x35 t_x39 t_x40 t_x43 t_x44 t_x48 t_x49 t_x50)), ((t_q 5), .inl (K 1, 1400, .inl (fun j => iI (t_5_c j))))] (fun u => (0 ≤ (u.1 0) ∧ (u.1 0) ≤ 1400 ∧ ((u.1 0) = t_x6 + 4)) ∧ (∀ j : Nat, (-128) ≤ (u.2 0) j ∧ (u.2 0) j ≤ 127) ∧ True) (fun u => [(t, .inr (12, oX12 t_q t_x0 (u.1 0) t_x7 t_x8 t_x9 t_x10 t_x11 t_x12 t_x13 t_x14 t_x15 t_x32 t_x33 t_x34 t_x35 t_x39 t_x40 t_x43 t_x44 t_x48 t_x49 t_x50)), ((t_q 5), .inl (K 1, 1400, .inl (fun j => iI ((u.2 0) j))))]) 0 0 := by
  refine g_inV (cc := cX12_four) (maxL := 3) (ret := none) (by decide) rfl (Nat.le_of_ble_eq_true rfl) ?_
  intro p e s m below meth c A ls ag Q B hA hP hD hS hl hQ
  obtain ⟨hx, hb, hr, hml, hts, hown, hlocks, hin, hK⟩ := B
  have hown : s.vm.findClass RX12 = some m.cls := hown
  have hts := fun w h => hts w (List.mem_cons_of_mem _ h)
  have J3 : ∀ (n : Nat) (x3_2 : Int) (f3_t_6 : Int) (c3_t_5 : Nat → Int) (H : Heap) (locs : List Loc) (ls : Array Slot), (x3_2 - (-8)).toNat < n → ((-8) ≤ x3_2 ∧ x3_2 ≤ 24 ∧ 0 ≤ f3_t_6 ∧ f3_t_6 ≤ 1400 ∧ 8 * (f3_t_6 - t_x6) = 24 - x3_2 ∧ t_x6 + 4 ≤ 1400 ∧ 0 ≤ t_x6 ∧ (x3_2 = 24 ∨ x3_2 = 16 ∨ x3_2 = 8 ∨ x3_2 = 0 ∨ x3_2 = -8)) → (∀ j : Nat, (-128) ≤ c3_t_5 j ∧ c3_t_5 j ≤ 127) → va_P D vwCl [(t, .inr (12, oX12 t_q t_x0 f3_t_6 t_x7 t_x8 t_x9 t_x10 t_x11 t_x12 t_x13 t_x14 t_x15 t_x32 t_x33 t_x34 t_x35 t_x39 t_x40 t_x43 t_x44 t_x48 t_x49 t_x50)), ((t_q 5), .inl (K 1, 1400, .inl (fun j => iI (c3_t_5 j))))] H → va_D A [(t, .inr (12, oX12 t_q t_x0 f3_t_6 t_x7 t_x8 t_x9 t_x10 t_x11 t_x12 t_x13 t_x14 t_x15 t_x32 t_x33 t_x34 t_x35 t_x39 t_x40 t_x43 t_x44 t_x48 t_x49 t_x50)), ((t_q 5), .inl (K 1, 1400, .inl (fun j => iI (c3_t_5 j))))] → va_S A s.heap H locs → lv_has ls 3 [(0, .ref t), (1, .int (iI p1)), (2, .int (iI x3_2))] → W p l e ({ frames := 4, cells := 0, slots := 0, locals := 100 } : Room) s m ag below meth c H locs 0 0 Q (F0 m 3 ls []) := by
    intro n
    induction n with
    | zero =>
      intro x3_2 f3_t_6 c3_t_5 H locs ls hm3 hf3 hc3_t_5 hP hD hS hl
      exact absurd hm3 (Nat.not_lt_zero _)
    | succ n ih3 =>
      intro x3_2 f3_t_6 c3_t_5 H locs ls hm3 hf3 hc3_t_5 hP hD hS hl
      refine lv_iload_n hx hb dX12_four_3 rfl (lv_at hl 2 rfl) ?_
      refine g_if_lt (tgt := 36) hx hb (by omega) dX12_four_4 (by decide) (fun c4 => ?_) (fun c4 => ?_)
      · rw [hQ]; exact fn_vret hx hb hr hlocks hP hD hS ((fun k => ([f3_t_6] : List Int).getD k 0), (fun k => ([c3_t_5] : List (Nat → Int)).getD k (fun _ => 0))) ⟨(by show 0 ≤ f3_t_6 ∧ f3_t_6 ≤ 1400 ∧ (f3_t_6 = t_x6 + 4); omega), (hc3_t_5), trivial⟩ [0, 1] (by decide) rfl dX12_four_36
      · refine lv_aload_n hx hb dX12_four_7 rfl (lv_at hl 0 rfl) ?_
        refine va_get (D := D) (own := RX12) (ci := 12) (v := .ref (t_q 5)) (C := RX12) (T := TX12) (N := 51) hx hb hts inb_X12 hown hK.1 hP 0 rfl rfl 5 (by decide) (hts _ wd_1239) (fun _ h9 => h9) rfl dX12_four_8 ?_
        refine lv_aload_n hx hb dX12_four_11 rfl (lv_at hl 0 rfl) ?_
        refine va_get (D := D) (own := RX12) (ci := 12) (v := .int (iI f3_t_6)) (C := RX12) (T := TX12) (N := 51) hx hb hts inb_X12 hown hK.1 hP 0 rfl rfl 6 (by decide) (hts _ wd_1240) (fun _ h9 => h9) rfl dX12_four_12 ?_
        refine lv_iload_n hx hb dX12_four_15 rfl (lv_at hl 1 rfl) ?_
        refine lv_iload_n hx hb dX12_four_16 rfl (lv_at hl 2 rfl) ?_
        refine lv_ishr hx hb dX12_four_17 ?_
        refine g_any (fun w17 hw17 ew17 => ?_)
        refine lv_i2b hx hb dX12_four_18 rfl ?_
        obtain ⟨w18, ew18, hw18⟩ := iI_i2b w17
        refine fn_top (iI w18) ew18 ?_
        refine g_bast hx hb hK.1 hP hD hS 1 1 rfl rfl (by omega) (by omega) (by decide) (by omega) dX12_four_19 (fun H locs g19 eg19 hP hD hS => ?_)
        have hg19 : ∀ j : Nat, (-128) ≤ g19 j ∧ g19 j ≤ 127 := by rw [eg19]; exact uI_all hc3_t_5 (by omega)
        have hP : va_P D vwCl [(t, .inr (12, oX12 t_q t_x0 f3_t_6 t_x7 t_x8 t_x9 t_x10 t_x11 t_x12 t_x13 t_x14 t_x15 t_x32 t_x33 t_x34 t_x35 t_x39 t_x40 t_x43 t_x44 t_x48 t_x49 t_x50)), ((t_q 5), .inl (K 1, 1400, .inl (fun j => iI (g19 j))))] H := hP
        have hD : va_D A [(t, .inr (12, oX12 t_q t_x0 f3_t_6 t_x7 t_x8 t_x9 t_x10 t_x11 t_x12 t_x13 t_x14 t_x15 t_x32 t_x33 t_x34 t_x35 t_x39 t_x40 t_x43 t_x44 t_x48 t_x49 t_x50)), ((t_q 5), .inl (K 1, 1400, .inl (fun j => iI (g19 j))))] := hD
        refine lv_aload_n hx hb dX12_four_20 rfl (lv_at hl 0 rfl) ?_
        refine lv_dup hx hb dX12_four_21 rfl ?_
        refine va_get (D := D) (own := RX12) (ci := 12) (v := .int (iI f3_t_6)) (C := RX12) (T := TX12) (N := 51) hx hb hts inb_X12 hown hK.1 hP 0 rfl rfl 6 (by decide) (hts _ wd_1240) (fun _ h9 => h9) rfl dX12_four_22 ?_
        refine lv_iconst (v := iI 1) hx hb dX12_four_25 rfl ?_
        refine g_iadd hx hb dX12_four_26 ?_
        refine va_put (D := D) (own := RX12) (ci := 12) (v := .int (iI (f3_t_6 + 1))) (ty := .int) (C := RX12) (T := TX12) (N := 51) hx hb hts inb_X12 tyX12 tyX12_ok nmX12 hown hK.1 hP hD hS 0 rfl rfl 6 (by decide) (hts _ wd_1240) (fun _ h9 => h9) rfl (by decide +kernel) rfl rfl (Nat.le_of_ble_eq_true rfl) dX12_four_27 (fun H locs hP hD hS => ?_)
        have hP : va_P D vwCl [(t, .inr (12, oX12 t_q t_x0 (f3_t_6 + 1) t_x7 t_x8 t_x9 t_x10 t_x11 t_x12 t_x13 t_x14 t_x15 t_x32 t_x33 t_x34 t_x35 t_x39 t_x40 t_x43 t_x44 t_x48 t_x49 t_x50)), ((t_q 5), .inl (K 1, 1400, .inl (fun j => iI (g19 j))))] H := hP
        have hD : va_D A [(t, .inr (12, oX12 t_q t_x0 (f3_t_6 + 1) t_x7 t_x8 t_x9 t_x10 t_x11 t_x12 t_x13 t_x14 t_x15 t_x32 t_x33 t_x34 t_x35 t_x39 t_x40 t_x43 t_x44 t_x48 t_x49 t_x50)), ((t_q 5), .inl (K 1, 1400, .inl (fun j => iI (g19 j))))] := hD
        refine lv_iinc (v := iI (x3_2 + (-8))) (lv' := [(2, .int (iI (x3_2 + (-8)))), (0, .ref t), (1, .int (iI p1))]) hx hb dX12_four_30 hl (k := 2) rfl (iI_add _ _) (by decide) rfl (fun ls hl => ?_)
        refine lv_goto (tgt := 3) hx hb dX12_four_33 (by decide) ?_
        exact ih3 (x3_2 + (-8)) (f3_t_6 + 1) g19 _ _ ls (by omega) (by omega) hg19 (hP.sub [0, 1] rfl) (hD.sub [0, 1] (by decide) rfl) hS (lv_sub hl [1, 2, 0] rfl)
  have hl : lv_has ls 3 [(0, .ref t), (1, .int (iI p1))] := hl
  refine lv_bipush (v := iI 24) hx hb dX12_four_0 (by decide) ?_
  refine lv_istore_n (lv' := [(2, .int (iI 24)), (0, .ref t), (1, .int (iI p1))]) hx hb dX12_four_2 rfl hl (by decide) rfl (fun ls hl => ?_)
  have y3_1 : 0 ≤ t_x6 ∧ t_x6 ≤ 1400 := hi_t.2.1
  exact J3 _ 24 t_x6 t_5_c _ _ ls (Nat.lt_succ_self _) (by omega) hc_t_5 (hP.sub [0, 1] rfl) (hD.sub [0, 1] (by decide) rfl) hS (lv_sub hl [1, 2, 0] rfl)
theorem wd_1234 : Cond.fieldLink "FootNotesModel" 104 "FootNotesModel" "thrown" "I" ∈ fn_big := fn_tb (fn_l6 (List.mem_of_getElem? (i := 34) (by decide +kernel))) (by decide +kernel)
theorem wd_1417 : Cond.code ⟨"FootNotesModel", "four", "(I)V"⟩ prog_14_method_10_code 3 (Option.none : Option Jvm.ClassFile.FieldType) ∈ fn_big := fn_tb (fn_l6 (List.mem_of_getElem? (i := 217) (by decide +kernel))) (by decide +kernel)
theorem wd_1414 : Cond.methodLink "FootNotesModel" 124 ⟨"FootNotesModel", "four", "(I)V"⟩ ∈ fn_big := fn_tb (fn_l6 (List.mem_of_getElem? (i := 214) (by decide +kernel))) (by decide +kernel)
theorem wd_1416 : Cond.instanceMethod ⟨"FootNotesModel", "four", "(I)V"⟩ ∈ fn_big := fn_tb (fn_l6 (List.mem_of_getElem? (i := 216) (by decide +kernel))) (by decide +kernel)
theorem wp_94 : Cond.selects "FootNotesModel" ⟨"FootNotesModel", "four", "(I)V"⟩ ⟨"FootNotesModel", "four", "(I)V"⟩ ∈ fn_big := fn_sel (q := (⟨"FootNotesModel", "four", "(I)V"⟩, 51)) 94 (by decide +kernel) (by decide +kernel)
theorem dX12_feed_0 : decode cX12_feed 0 = .ok (.aload_n 0, 1) := by decide +kernel
theorem dX12_feed_1 : decode cX12_feed 1 = .ok (.iconst 0, 1) := by decide +kernel
theorem dX12_feed_2 : decode cX12_feed 2 = .ok (.putfield 104, 3) := by decide +kernel
theorem dX12_feed_5 : decode cX12_feed 5 = .ok (.aload_n 0, 1) := by decide +kernel
theorem dX12_feed_6 : decode cX12_feed 6 = .ok (.getfield 121, 3) := by decide +kernel
theorem dX12_feed_9 : decode cX12_feed 9 = .ok (.bipush 20, 2) := by decide +kernel
theorem dX12_feed_11 : decode cX12_feed 11 = .ok (.iadd, 1) := by decide +kernel
theorem dX12_feed_12 : decode cX12_feed 12 = .ok (.sipush 1400, 3) := by decide +kernel
theorem dX12_feed_15 : decode cX12_feed 15 = .ok (.if_icmp .le 5, 3) := by decide +kernel
theorem dX12_feed_20 : decode cX12_feed 20 = .ok (.aload_n 0, 1) := by decide +kernel
theorem dX12_feed_21 : decode cX12_feed 21 = .ok (.iload_n 1, 1) := by decide +kernel
theorem dX12_feed_22 : decode cX12_feed 22 = .ok (.invokevirtual 124, 3) := by decide +kernel
theorem dX12_feed_25 : decode cX12_feed 25 = .ok (.aload_n 0, 1) := by decide +kernel
theorem dX12_feed_26 : decode cX12_feed 26 = .ok (.iload_n 2, 1) := by decide +kernel
theorem dX12_feed_27 : decode cX12_feed 27 = .ok (.invokevirtual 124, 3) := by decide +kernel
theorem dX12_feed_30 : decode cX12_feed 30 = .ok (.aload_n 0, 1) := by decide +kernel
theorem dX12_feed_31 : decode cX12_feed 31 = .ok (.iload_n 3, 1) := by decide +kernel
theorem dX12_feed_32 : decode cX12_feed 32 = .ok (.invokevirtual 124, 3) := by decide +kernel
theorem dX12_feed_35 : decode cX12_feed 35 = .ok (.aload_n 0, 1) := by decide +kernel
theorem dX12_feed_36 : decode cX12_feed 36 = .ok (.iload 4, 2) := by decide +kernel
theorem dX12_feed_38 : decode cX12_feed 38 = .ok (.invokevirtual 124, 3) := by decide +kernel
theorem dX12_feed_41 : decode cX12_feed 41 = .ok (.aload_n 0, 1) := by decide +kernel
theorem dX12_feed_42 : decode cX12_feed 42 = .ok (.iload 5, 2) := by decide +kernel
theorem dX12_feed_44 : decode cX12_feed 44 = .ok (.invokevirtual 124, 3) := by decide +kernel
theorem dX12_feed_47 : decode cX12_feed 47 = .ok (.aload_n 0, 1) := by decide +kernel
theorem dX12_feed_48 : decode cX12_feed 48 = .ok (.getfield 121, 3) := by decide +kernel
theorem dX12_feed_51 : decode cX12_feed 51 = .ok (.ireturn, 1) := by decide +kernel
theorem dX12_feed_18 : decode cX12_feed 18 = .ok (.iconst (-1), 1) := by decide +kernel
theorem dX12_feed_19 : decode cX12_feed 19 = .ok (.ireturn, 1) := by decide +kernel
set_option maxHeartbeats 4000000 in
set_option maxRecDepth 100000 in
theorem k_X12_feed (l : Launch) (D : va_G) (K : Nat → ClassId) (t : Nat) (t_q : Nat → Nat) (p1 p2 p3 p4 p5 t_x0 t_x6 t_x7 t_x8 t_x9 t_x10 t_x11 t_x12 t_x13 t_x14 t_x15 t_x32 t_x33 t_x34 t_x35 t_x39 t_x40 t_x43 t_x44 t_x48 t_x49 t_x50 : Int) (t_5_c : Nat → Int) (hp1 : (-2147483648) ≤ p1 ∧ p1 ≤ 2147483647) (hp2 : (-2147483648) ≤ p2 ∧ p2 ≤ 2147483647) (hp3 : (-2147483648) ≤ p3 ∧ p3 ≤ 2147483647) (hp4 : (-2147483648) ≤ p4 ∧ p4 ≤ 2147483647) (hp5 : (-2147483648) ≤ p5 ∧ p5 ≤ 2147483647) (hi_t : bM12 t_x0 t_x6 t_x7 t_x8 t_x9 t_x10 t_x11 t_x12 t_x13 t_x14 t_x15 t_x32 t_x33 t_x34 t_x35 t_x39 t_x40 t_x43 t_x44 t_x48 t_x49 t_x50) (hc_t_5 : ∀ j : Nat, (-128) ≤ t_5_c j ∧ t_5_c j ≤ 127) : fn_CI (S := (Nat → Int) × (Nat → Nat → Int)) l D K yX12_feed (fn_ws yX12_feed cX12_feed 6 (some .int)) ({ frames := 8, cells := 0, slots := 0, locals := 200 } : Room) [.ref t, .int (iI p1), .int (iI p2), .int (iI p3), .int (iI p4), .int (iI p5)] [(t, .inr (12, oX12 t_q t_x0 t_x6 t_x7 t_x8 t_x9 t_x10 t_x11 t_x12 t_x13 t_x14 t_x15 t_x32 t_x33 t_x34 t_x35 t_x39 t_x40 t_x43 t_x44 t_x48 t_x49 t_x50)), ((t_q 5), .inl (K 1, 1400, .inl (fun j => iI (t_5_c j))))] (fun r u => ∃ k : Int, r = iI k ∧ ((-1) ≤ k ∧ k ≤ 1400) ∧ ((-2147483648) ≤ (u.1 0) ∧ (u.1 0) ≤ 2147483647 ∧ 0 ≤ (u.1 1) ∧ (u.1 1) ≤ 1400) ∧ (∀ j : Nat, (-128) ≤ (u.2 0) j ∧ (u.2 0) j ≤ 127) ∧ True) (fun u => [(t, .inr (12, oX12 t_q (u.1 0) (u.1 1) t_x7 t_x8 t_x9 t_x10 t_x11 t_x12 t_x13 t_x14 t_x15 t_x32 t_x33 t_x34 t_x35 t_x39 t_x40 t_x43 t_x44 t_x48 t_x49 t_x50)), ((t_q 5), .inl (K 1, 1400, .inl (fun j => iI ((u.2 0) j))))]) 0 0 := by
  refine g_inI (cc := cX12_feed) (maxL := 6) (ret := (some .int)) (by decide) rfl (Nat.le_of_ble_eq_true rfl) ?_
  intro p e s m below meth c A ls ag Q B hA hP hD hS hl hQ
  obtain ⟨hx, hb, hr, hml, hts, hown, hlocks, hin, hK⟩ := B
  have hown : s.vm.findClass RX12 = some m.cls := hown
  have hts := fun w h => hts w (List.mem_cons_of_mem _ h)
  have hl : lv_has ls 6 [(0, .ref t), (1, .int (iI p1)), (2, .int (iI p2)), (3, .int (iI p3)), (4, .int (iI p4)), (5, .int (iI p5))] := hl
  refine lv_aload_n hx hb dX12_feed_0 rfl (lv_at hl 0 rfl) ?_
  refine lv_iconst (v := iI 0) hx hb dX12_feed_1 rfl ?_
  refine va_put (D := D) (own := RX12) (ci := 12) (v := .int (iI 0)) (ty := .int) (C := RX12) (T := TX12) (N := 51) hx hb hts inb_X12 tyX12 tyX12_ok nmX12 hown hK.1 hP hD hS 0 rfl rfl 0 (by decide) (hts _ wd_1234) (fun _ h9 => h9) rfl (by decide +kernel) rfl rfl (Nat.le_of_ble_eq_true rfl) dX12_feed_2 (fun H locs hP hD hS => ?_)
  have hP : va_P D vwCl [(t, .inr (12, oX12 t_q 0 t_x6 t_x7 t_x8 t_x9 t_x10 t_x11 t_x12 t_x13 t_x14 t_x15 t_x32 t_x33 t_x34 t_x35 t_x39 t_x40 t_x43 t_x44 t_x48 t_x49 t_x50)), ((t_q 5), .inl (K 1, 1400, .inl (fun j => iI (t_5_c j))))] H := hP
  have hD : va_D A [(t, .inr (12, oX12 t_q 0 t_x6 t_x7 t_x8 t_x9 t_x10 t_x11 t_x12 t_x13 t_x14 t_x15 t_x32 t_x33 t_x34 t_x35 t_x39 t_x40 t_x43 t_x44 t_x48 t_x49 t_x50)), ((t_q 5), .inl (K 1, 1400, .inl (fun j => iI (t_5_c j))))] := hD
  refine lv_aload_n hx hb dX12_feed_5 rfl (lv_at hl 0 rfl) ?_
  refine va_get (D := D) (own := RX12) (ci := 12) (v := .int (iI t_x6)) (C := RX12) (T := TX12) (N := 51) hx hb hts inb_X12 hown hK.1 hP 0 rfl rfl 6 (by decide) (hts _ wd_1240) (fun _ h9 => h9) rfl dX12_feed_6 ?_
  have y6_1 : 0 ≤ t_x6 ∧ t_x6 ≤ 1400 := hi_t.2.1
  refine lv_bipush (v := iI 20) hx hb dX12_feed_9 (by decide) ?_
  refine g_iadd hx hb dX12_feed_11 ?_
  refine lv_sipush (v := iI 1400) hx hb dX12_feed_12 (by decide) ?_
  refine g_icmp_le (tgt := 20) hx hb (by omega) (by omega) dX12_feed_15 (by decide) (fun c15 => ?_) (fun c15 => ?_)
  · refine lv_aload_n hx hb dX12_feed_20 rfl (lv_at hl 0 rfl) ?_
    refine lv_iload_n hx hb dX12_feed_21 rfl (lv_at hl 1 rfl) ?_
    refine fn_gov (wc := [(t, .inr (12, oX12 t_q 0 t_x6 t_x7 t_x8 t_x9 t_x10 t_x11 t_x12 t_x13 t_x14 t_x15 t_x32 t_x33 t_x34 t_x35 t_x39 t_x40 t_x43 t_x44 t_x48 t_x49 t_x50)), ((t_q 5), .inl (K 1, 1400, .inl (fun j => iI (t_5_c j))))]) (wr := []) hK hP hD hS hA [0, 1] [] rfl rfl (by decide) (fun hp => va_runV (C := RX12) (As := [.int (iI p1)]) (rest := []) ⟨hx, hb, hml, hown, hts⟩ (k_X12_four (l := l) (D := D) (K := K) (t := t) (p1 := p1) (t_q := t_q) (t_x0 := 0) (t_x6 := t_x6) (t_x7 := t_x7) (t_x8 := t_x8) (t_x9 := t_x9) (t_x10 := t_x10) (t_x11 := t_x11) (t_x12 := t_x12) (t_x13 := t_x13) (t_x14 := t_x14) (t_x15 := t_x15) (t_x32 := t_x32) (t_x33 := t_x33) (t_x34 := t_x34) (t_x35 := t_x35) (t_x39 := t_x39) (t_x40 := t_x40) (t_x43 := t_x43) (t_x44 := t_x44) (t_x48 := t_x48) (t_x49 := t_x49) (t_x50 := t_x50) (t_5_c := t_5_c) (hp1 := (by omega)) (hi_t := ⟨(by omega), hi_t.2.1, hi_t.2.2.1, hi_t.2.2.2.1, hi_t.2.2.2.2.1, hi_t.2.2.2.2.2.1, hi_t.2.2.2.2.2.2.1, hi_t.2.2.2.2.2.2.2.1, hi_t.2.2.2.2.2.2.2.2.1, hi_t.2.2.2.2.2.2.2.2.2.1, hi_t.2.2.2.2.2.2.2.2.2.2.1, hi_t.2.2.2.2.2.2.2.2.2.2.2.1, hi_t.2.2.2.2.2.2.2.2.2.2.2.2.1, hi_t.2.2.2.2.2.2.2.2.2.2.2.2.2.1, hi_t.2.2.2.2.2.2.2.2.2.2.2.2.2.2.1, hi_t.2.2.2.2.2.2.2.2.2.2.2.2.2.2.2.1, hi_t.2.2.2.2.2.2.2.2.2.2.2.2.2.2.2.2.1, hi_t.2.2.2.2.2.2.2.2.2.2.2.2.2.2.2.2.2.1, hi_t.2.2.2.2.2.2.2.2.2.2.2.2.2.2.2.2.2.2.1, hi_t.2.2.2.2.2.2.2.2.2.2.2.2.2.2.2.2.2.2.2.1, hi_t.2.2.2.2.2.2.2.2.2.2.2.2.2.2.2.2.2.2.2.2.1, hi_t.2.2.2.2.2.2.2.2.2.2.2.2.2.2.2.2.2.2.2.2.2⟩) (hc_t_5 := hc_t_5) (tp := (show t_x6 + 4 ≤ 1400 from by omega)) _) (cwV 1 hts (fn_ginV (fn_gin wd_1417) wd_1414 wd_1416 wp_94 wd_13) rfl rfl rfl (by decide +kernel) ⟨Nat.le_of_ble_eq_true rfl, Nat.le_of_ble_eq_true rfl⟩) ⟨fn_blind, va_recv hK.1 hP (ci := 12) (q0 := 0) rfl rfl, hp⟩ rfl rfl hl.1 rfl (lv_room (Nat.le_of_ble_eq_true rfl)) dX12_feed_22 ⟨Nat.le_of_ble_eq_true rfl, Nat.le_of_ble_eq_true rfl⟩) (fun u22 H locs hwu22 hP hD hS => ?_)
    obtain ⟨u22a, u22b⟩ := u22
    obtain ⟨hqu220, hu22_00, -⟩ := hwu22
    have hqu22 : 0 ≤ (u22a 0) ∧ (u22a 0) ≤ 1400 ∧ ((u22a 0) = t_x6 + 4) := hqu220
    have hu22_0 : ∀ j : Nat, (-128) ≤ (u22b 0) j ∧ (u22b 0) j ≤ 127 := hu22_00
    clear hqu220 hu22_00
    have hP : va_P D vwCl [(t, .inr (12, oX12 t_q 0 (u22a 0) t_x7 t_x8 t_x9 t_x10 t_x11 t_x12 t_x13 t_x14 t_x15 t_x32 t_x33 t_x34 t_x35 t_x39 t_x40 t_x43 t_x44 t_x48 t_x49 t_x50)), ((t_q 5), .inl (K 1, 1400, .inl (fun j => iI ((u22b 0) j))))] H := hP
    have hD : va_D A [(t, .inr (12, oX12 t_q 0 (u22a 0) t_x7 t_x8 t_x9 t_x10 t_x11 t_x12 t_x13 t_x14 t_x15 t_x32 t_x33 t_x34 t_x35 t_x39 t_x40 t_x43 t_x44 t_x48 t_x49 t_x50)), ((t_q 5), .inl (K 1, 1400, .inl (fun j => iI ((u22b 0) j))))] := hD
    refine lv_aload_n hx hb dX12_feed_25 rfl (lv_at hl 0 rfl) ?_
    refine lv_iload_n hx hb dX12_feed_26 rfl (lv_at hl 2 rfl) ?_
    refine fn_gov (wc := [(t, .inr (12, oX12 t_q 0 (u22a 0) t_x7 t_x8 t_x9 t_x10 t_x11 t_x12 t_x13 t_x14 t_x15 t_x32 t_x33 t_x34 t_x35 t_x39 t_x40 t_x43 t_x44 t_x48 t_x49 t_x50)), ((t_q 5), .inl (K 1, 1400, .inl (fun j => iI ((u22b 0) j))))]) (wr := []) hK hP hD hS hA [0, 1] [] rfl rfl (by decide) (fun hp => va_runV (C := RX12) (As := [.int (iI p2)]) (rest := []) ⟨hx, hb, hml, hown, hts⟩ (k_X12_four (l := l) (D := D) (K := K) (t := t) (p1 := p2) (t_q := t_q) (t_x0 := 0) (t_x6 := (u22a 0)) (t_x7 := t_x7) (t_x8 := t_x8) (t_x9 := t_x9) (t_x10 := t_x10) (t_x11 := t_x11) (t_x12 := t_x12) (t_x13 := t_x13) (t_x14 := t_x14) (t_x15 := t_x15) (t_x32 := t_x32) (t_x33 := t_x33) (t_x34 := t_x34) (t_x35 := t_x35) (t_x39 := t_x39) (t_x40 := t_x40) (t_x43 := t_x43) (t_x44 := t_x44) (t_x48 := t_x48) (t_x49 := t_x49) (t_x50 := t_x50) (t_5_c := (u22b 0)) (hp1 := (by omega)) (hi_t := ⟨(by omega), (by omega), hi_t.2.2.1, hi_t.2.2.2.1, hi_t.2.2.2.2.1, hi_t.2.2.2.2.2.1, hi_t.2.2.2.2.2.2.1, hi_t.2.2.2.2.2.2.2.1, hi_t.2.2.2.2.2.2.2.2.1, hi_t.2.2.2.2.2.2.2.2.2.1, hi_t.2.2.2.2.2.2.2.2.2.2.1, hi_t.2.2.2.2.2.2.2.2.2.2.2.1, hi_t.2.2.2.2.2.2.2.2.2.2.2.2.1, hi_t.2.2.2.2.2.2.2.2.2.2.2.2.2.1, hi_t.2.2.2.2.2.2.2.2.2.2.2.2.2.2.1, hi_t.2.2.2.2.2.2.2.2.2.2.2.2.2.2.2.1, hi_t.2.2.2.2.2.2.2.2.2.2.2.2.2.2.2.2.1, hi_t.2.2.2.2.2.2.2.2.2.2.2.2.2.2.2.2.2.1, hi_t.2.2.2.2.2.2.2.2.2.2.2.2.2.2.2.2.2.2.1, hi_t.2.2.2.2.2.2.2.2.2.2.2.2.2.2.2.2.2.2.2.1, hi_t.2.2.2.2.2.2.2.2.2.2.2.2.2.2.2.2.2.2.2.2.1, hi_t.2.2.2.2.2.2.2.2.2.2.2.2.2.2.2.2.2.2.2.2.2⟩) (hc_t_5 := hu22_0) (tp := (show (u22a 0) + 4 ≤ 1400 from by omega)) _) (cwV 1 hts (fn_ginV (fn_gin wd_1417) wd_1414 wd_1416 wp_94 wd_13) rfl rfl rfl (by decide +kernel) ⟨Nat.le_of_ble_eq_true rfl, Nat.le_of_ble_eq_true rfl⟩) ⟨fn_blind, va_recv hK.1 hP (ci := 12) (q0 := 0) rfl rfl, hp⟩ rfl rfl hl.1 rfl (lv_room (Nat.le_of_ble_eq_true rfl)) dX12_feed_27 ⟨Nat.le_of_ble_eq_true rfl, Nat.le_of_ble_eq_true rfl⟩) (fun u27 H locs hwu27 hP hD hS => ?_)
    obtain ⟨u27a, u27b⟩ := u27
    obtain ⟨hqu270, hu27_00, -⟩ := hwu27
    have hqu27 : 0 ≤ (u27a 0) ∧ (u27a 0) ≤ 1400 ∧ ((u27a 0) = (u22a 0) + 4) := hqu270
    have hu27_0 : ∀ j : Nat, (-128) ≤ (u27b 0) j ∧ (u27b 0) j ≤ 127 := hu27_00
    clear hqu270 hu27_00
    have hP : va_P D vwCl [(t, .inr (12, oX12 t_q 0 (u27a 0) t_x7 t_x8 t_x9 t_x10 t_x11 t_x12 t_x13 t_x14 t_x15 t_x32 t_x33 t_x34 t_x35 t_x39 t_x40 t_x43 t_x44 t_x48 t_x49 t_x50)), ((t_q 5), .inl (K 1, 1400, .inl (fun j => iI ((u27b 0) j))))] H := hP
    have hD : va_D A [(t, .inr (12, oX12 t_q 0 (u27a 0) t_x7 t_x8 t_x9 t_x10 t_x11 t_x12 t_x13 t_x14 t_x15 t_x32 t_x33 t_x34 t_x35 t_x39 t_x40 t_x43 t_x44 t_x48 t_x49 t_x50)), ((t_q 5), .inl (K 1, 1400, .inl (fun j => iI ((u27b 0) j))))] := hD
    refine lv_aload_n hx hb dX12_feed_30 rfl (lv_at hl 0 rfl) ?_
    refine lv_iload_n hx hb dX12_feed_31 rfl (lv_at hl 3 rfl) ?_
    refine fn_gov (wc := [(t, .inr (12, oX12 t_q 0 (u27a 0) t_x7 t_x8 t_x9 t_x10 t_x11 t_x12 t_x13 t_x14 t_x15 t_x32 t_x33 t_x34 t_x35 t_x39 t_x40 t_x43 t_x44 t_x48 t_x49 t_x50)), ((t_q 5), .inl (K 1, 1400, .inl (fun j => iI ((u27b 0) j))))]) (wr := []) hK hP hD hS hA [0, 1] [] rfl rfl (by decide) (fun hp => va_runV (C := RX12) (As := [.int (iI p3)]) (rest := []) ⟨hx, hb, hml, hown, hts⟩ (k_X12_four (l := l) (D := D) (K := K) (t := t) (p1 := p3) (t_q := t_q) (t_x0 := 0) (t_x6 := (u27a 0)) (t_x7 := t_x7) (t_x8 := t_x8) (t_x9 := t_x9) (t_x10 := t_x10) (t_x11 := t_x11) (t_x12 := t_x12) (t_x13 := t_x13) (t_x14 := t_x14) (t_x15 := t_x15) (t_x32 := t_x32) (t_x33 := t_x33) (t_x34 := t_x34) (t_x35 := t_x35) (t_x39 := t_x39) (t_x40 := t_x40) (t_x43 := t_x43) (t_x44 := t_x44) (t_x48 := t_x48) (t_x49 := t_x49) (t_x50 := t_x50) (t_5_c := (u27b 0)) (hp1 := (by omega)) (hi_t := ⟨(by omega), (by omega), hi_t.2.2.1, hi_t.2.2.2.1, hi_t.2.2.2.2.1, hi_t.2.2.2.2.2.1, hi_t.2.2.2.2.2.2.1, hi_t.2.2.2.2.2.2.2.1, hi_t.2.2.2.2.2.2.2.2.1, hi_t.2.2.2.2.2.2.2.2.2.1, hi_t.2.2.2.2.2.2.2.2.2.2.1, hi_t.2.2.2.2.2.2.2.2.2.2.2.1, hi_t.2.2.2.2.2.2.2.2.2.2.2.2.1, hi_t.2.2.2.2.2.2.2.2.2.2.2.2.2.1, hi_t.2.2.2.2.2.2.2.2.2.2.2.2.2.2.1, hi_t.2.2.2.2.2.2.2.2.2.2.2.2.2.2.2.1, hi_t.2.2.2.2.2.2.2.2.2.2.2.2.2.2.2.2.1, hi_t.2.2.2.2.2.2.2.2.2.2.2.2.2.2.2.2.2.1, hi_t.2.2.2.2.2.2.2.2.2.2.2.2.2.2.2.2.2.2.1, hi_t.2.2.2.2.2.2.2.2.2.2.2.2.2.2.2.2.2.2.2.1, hi_t.2.2.2.2.2.2.2.2.2.2.2.2.2.2.2.2.2.2.2.2.1, hi_t.2.2.2.2.2.2.2.2.2.2.2.2.2.2.2.2.2.2.2.2.2⟩) (hc_t_5 := hu27_0) (tp := (show (u27a 0) + 4 ≤ 1400 from by omega)) _) (cwV 1 hts (fn_ginV (fn_gin wd_1417) wd_1414 wd_1416 wp_94 wd_13) rfl rfl rfl (by decide +kernel) ⟨Nat.le_of_ble_eq_true rfl, Nat.le_of_ble_eq_true rfl⟩) ⟨fn_blind, va_recv hK.1 hP (ci := 12) (q0 := 0) rfl rfl, hp⟩ rfl rfl hl.1 rfl (lv_room (Nat.le_of_ble_eq_true rfl)) dX12_feed_32 ⟨Nat.le_of_ble_eq_true rfl, Nat.le_of_ble_eq_true rfl⟩) (fun u32 H locs hwu32 hP hD hS => ?_)
    obtain ⟨u32a, u32b⟩ := u32
    obtain ⟨hqu320, hu32_00, -⟩ := hwu32
    have hqu32 : 0 ≤ (u32a 0) ∧ (u32a 0) ≤ 1400 ∧ ((u32a 0) = (u27a 0) + 4) := hqu320
    have hu32_0 : ∀ j : Nat, (-128) ≤ (u32b 0) j ∧ (u32b 0) j ≤ 127 := hu32_00
    clear hqu320 hu32_00
    have hP : va_P D vwCl [(t, .inr (12, oX12 t_q 0 (u32a 0) t_x7 t_x8 t_x9 t_x10 t_x11 t_x12 t_x13 t_x14 t_x15 t_x32 t_x33 t_x34 t_x35 t_x39 t_x40 t_x43 t_x44 t_x48 t_x49 t_x50)), ((t_q 5), .inl (K 1, 1400, .inl (fun j => iI ((u32b 0) j))))] H := hP
    have hD : va_D A [(t, .inr (12, oX12 t_q 0 (u32a 0) t_x7 t_x8 t_x9 t_x10 t_x11 t_x12 t_x13 t_x14 t_x15 t_x32 t_x33 t_x34 t_x35 t_x39 t_x40 t_x43 t_x44 t_x48 t_x49 t_x50)), ((t_q 5), .inl (K 1, 1400, .inl (fun j => iI ((u32b 0) j))))] := hD
    refine lv_aload_n hx hb dX12_feed_35 rfl (lv_at hl 0 rfl) ?_
    refine fn_at 36 rfl ?_
    refine lv_iload hx hb dX12_feed_36 (lv_at hl 4 rfl) ?_
    refine fn_gov (wc := [(t, .inr (12, oX12 t_q 0 (u32a 0) t_x7 t_x8 t_x9 t_x10 t_x11 t_x12 t_x13 t_x14 t_x15 t_x32 t_x33 t_x34 t_x35 t_x39 t_x40 t_x43 t_x44 t_x48 t_x49 t_x50)), ((t_q 5), .inl (K 1, 1400, .inl (fun j => iI ((u32b 0) j))))]) (wr := []) hK hP hD hS hA [0, 1] [] rfl rfl (by decide) (fun hp => va_runV (C := RX12) (As := [.int (iI p4)]) (rest := []) ⟨hx, hb, hml, hown, hts⟩ (k_X12_four (l := l) (D := D) (K := K) (t := t) (p1 := p4) (t_q := t_q) (t_x0 := 0) (t_x6 := (u32a 0)) (t_x7 := t_x7) (t_x8 := t_x8) (t_x9 := t_x9) (t_x10 := t_x10) (t_x11 := t_x11) (t_x12 := t_x12) (t_x13 := t_x13) (t_x14 := t_x14) (t_x15 := t_x15) (t_x32 := t_x32) (t_x33 := t_x33) (t_x34 := t_x34) (t_x35 := t_x35) (t_x39 := t_x39) (t_x40 := t_x40) (t_x43 := t_x43) (t_x44 := t_x44) (t_x48 := t_x48) (t_x49 := t_x49) (t_x50 := t_x50) (t_5_c := (u32b 0)) (hp1 := (by omega)) (hi_t := ⟨(by omega), (by omega), hi_t.2.2.1, hi_t.2.2.2.1, hi_t.2.2.2.2.1, hi_t.2.2.2.2.2.1, hi_t.2.2.2.2.2.2.1, hi_t.2.2.2.2.2.2.2.1, hi_t.2.2.2.2.2.2.2.2.1, hi_t.2.2.2.2.2.2.2.2.2.1, hi_t.2.2.2.2.2.2.2.2.2.2.1, hi_t.2.2.2.2.2.2.2.2.2.2.2.1, hi_t.2.2.2.2.2.2.2.2.2.2.2.2.1, hi_t.2.2.2.2.2.2.2.2.2.2.2.2.2.1, hi_t.2.2.2.2.2.2.2.2.2.2.2.2.2.2.1, hi_t.2.2.2.2.2.2.2.2.2.2.2.2.2.2.2.1, hi_t.2.2.2.2.2.2.2.2.2.2.2.2.2.2.2.2.1, hi_t.2.2.2.2.2.2.2.2.2.2.2.2.2.2.2.2.2.1, hi_t.2.2.2.2.2.2.2.2.2.2.2.2.2.2.2.2.2.2.1, hi_t.2.2.2.2.2.2.2.2.2.2.2.2.2.2.2.2.2.2.2.1, hi_t.2.2.2.2.2.2.2.2.2.2.2.2.2.2.2.2.2.2.2.2.1, hi_t.2.2.2.2.2.2.2.2.2.2.2.2.2.2.2.2.2.2.2.2.2⟩) (hc_t_5 := hu32_0) (tp := (show (u32a 0) + 4 ≤ 1400 from by omega)) _) (cwV 1 hts (fn_ginV (fn_gin wd_1417) wd_1414 wd_1416 wp_94 wd_13) rfl rfl rfl (by decide +kernel) ⟨Nat.le_of_ble_eq_true rfl, Nat.le_of_ble_eq_true rfl⟩) ⟨fn_blind, va_recv hK.1 hP (ci := 12) (q0 := 0) rfl rfl, hp⟩ rfl rfl hl.1 rfl (lv_room (Nat.le_of_ble_eq_true rfl)) dX12_feed_38 ⟨Nat.le_of_ble_eq_true rfl, Nat.le_of_ble_eq_true rfl⟩) (fun u38 H locs hwu38 hP hD hS => ?_)
    obtain ⟨u38a, u38b⟩ := u38
    obtain ⟨hqu380, hu38_00, -⟩ := hwu38
    have hqu38 : 0 ≤ (u38a 0) ∧ (u38a 0) ≤ 1400 ∧ ((u38a 0) = (u32a 0) + 4) := hqu380
    have hu38_0 : ∀ j : Nat, (-128) ≤ (u38b 0) j ∧ (u38b 0) j ≤ 127 := hu38_00
    clear hqu380 hu38_00
    have hP : va_P D vwCl [(t, .inr (12, oX12 t_q 0 (u38a 0) t_x7 t_x8 t_x9 t_x10 t_x11 t_x12 t_x13 t_x14 t_x15 t_x32 t_x33 t_x34 t_x35 t_x39 t_x40 t_x43 t_x44 t_x48 t_x49 t_x50)), ((t_q 5), .inl (K 1, 1400, .inl (fun j => iI ((u38b 0) j))))] H := hP
    have hD : va_D A [(t, .inr (12, oX12 t_q 0 (u38a 0) t_x7 t_x8 t_x9 t_x10 t_x11 t_x12 t_x13 t_x14 t_x15 t_x32 t_x33 t_x34 t_x35 t_x39 t_x40 t_x43 t_x44 t_x48 t_x49 t_x50)), ((t_q 5), .inl (K 1, 1400, .inl (fun j => iI ((u38b 0) j))))] := hD
    refine lv_aload_n hx hb dX12_feed_41 rfl (lv_at hl 0 rfl) ?_
    refine lv_iload hx hb dX12_feed_42 (lv_at hl 5 rfl) ?_
    refine fn_gov (wc := [(t, .inr (12, oX12 t_q 0 (u38a 0) t_x7 t_x8 t_x9 t_x10 t_x11 t_x12 t_x13 t_x14 t_x15 t_x32 t_x33 t_x34 t_x35 t_x39 t_x40 t_x43 t_x44 t_x48 t_x49 t_x50)), ((t_q 5), .inl (K 1, 1400, .inl (fun j => iI ((u38b 0) j))))]) (wr := []) hK hP hD hS hA [0, 1] [] rfl rfl (by decide) (fun hp => va_runV (C := RX12) (As := [.int (iI p5)]) (rest := []) ⟨hx, hb, hml, hown, hts⟩ (k_X12_four (l := l) (D := D) (K := K) (t := t) (p1 := p5) (t_q := t_q) (t_x0 := 0) (t_x6 := (u38a 0)) (t_x7 := t_x7) (t_x8 := t_x8) (t_x9 := t_x9) (t_x10 := t_x10) (t_x11 := t_x11) (t_x12 := t_x12) (t_x13 := t_x13) (t_x14 := t_x14) (t_x15 := t_x15) (t_x32 := t_x32) (t_x33 := t_x33) (t_x34 := t_x34) (t_x35 := t_x35) (t_x39 := t_x39) (t_x40 := t_x40) (t_x43 := t_x43) (t_x44 := t_x44) (t_x48 := t_x48) (t_x49 := t_x49) (t_x50 := t_x50) (t_5_c := (u38b 0)) (hp1 := (by omega)) (hi_t := ⟨(by omega), (by omega), hi_t.2.2.1, hi_t.2.2.2.1, hi_t.2.2.2.2.1, hi_t.2.2.2.2.2.1, hi_t.2.2.2.2.2.2.1, hi_t.2.2.2.2.2.2.2.1, hi_t.2.2.2.2.2.2.2.2.1, hi_t.2.2.2.2.2.2.2.2.2.1, hi_t.2.2.2.2.2.2.2.2.2.2.1, hi_t.2.2.2.2.2.2.2.2.2.2.2.1, hi_t.2.2.2.2.2.2.2.2.2.2.2.2.1, hi_t.2.2.2.2.2.2.2.2.2.2.2.2.2.1, hi_t.2.2.2.2.2.2.2.2.2.2.2.2.2.2.1, hi_t.2.2.2.2.2.2.2.2.2.2.2.2.2.2.2.1, hi_t.2.2.2.2.2.2.2.2.2.2.2.2.2.2.2.2.1, hi_t.2.2.2.2.2.2.2.2.2.2.2.2.2.2.2.2.2.1, hi_t.2.2.2.2.2.2.2.2.2.2.2.2.2.2.2.2.2.2.1, hi_t.2.2.2.2.2.2.2.2.2.2.2.2.2.2.2.2.2.2.2.1, hi_t.2.2.2.2.2.2.2.2.2.2.2.2.2.2.2.2.2.2.2.2.1, hi_t.2.2.2.2.2.2.2.2.2.2.2.2.2.2.2.2.2.2.2.2.2⟩) (hc_t_5 := hu38_0) (tp := (show (u38a 0) + 4 ≤ 1400 from by omega)) _) (cwV 1 hts (fn_ginV (fn_gin wd_1417) wd_1414 wd_1416 wp_94 wd_13) rfl rfl rfl (by decide +kernel) ⟨Nat.le_of_ble_eq_true rfl, Nat.le_of_ble_eq_true rfl⟩) ⟨fn_blind, va_recv hK.1 hP (ci := 12) (q0 := 0) rfl rfl, hp⟩ rfl rfl hl.1 rfl (lv_room (Nat.le_of_ble_eq_true rfl)) dX12_feed_44 ⟨Nat.le_of_ble_eq_true rfl, Nat.le_of_ble_eq_true rfl⟩) (fun u44 H locs hwu44 hP hD hS => ?_)
    obtain ⟨u44a, u44b⟩ := u44
    obtain ⟨hqu440, hu44_00, -⟩ := hwu44
    have hqu44 : 0 ≤ (u44a 0) ∧ (u44a 0) ≤ 1400 ∧ ((u44a 0) = (u38a 0) + 4) := hqu440
    have hu44_0 : ∀ j : Nat, (-128) ≤ (u44b 0) j ∧ (u44b 0) j ≤ 127 := hu44_00
    clear hqu440 hu44_00
    have hP : va_P D vwCl [(t, .inr (12, oX12 t_q 0 (u44a 0) t_x7 t_x8 t_x9 t_x10 t_x11 t_x12 t_x13 t_x14 t_x15 t_x32 t_x33 t_x34 t_x35 t_x39 t_x40 t_x43 t_x44 t_x48 t_x49 t_x50)), ((t_q 5), .inl (K 1, 1400, .inl (fun j => iI ((u44b 0) j))))] H := hP
    have hD : va_D A [(t, .inr (12, oX12 t_q 0 (u44a 0) t_x7 t_x8 t_x9 t_x10 t_x11 t_x12 t_x13 t_x14 t_x15 t_x32 t_x33 t_x34 t_x35 t_x39 t_x40 t_x43 t_x44 t_x48 t_x49 t_x50)), ((t_q 5), .inl (K 1, 1400, .inl (fun j => iI ((u44b 0) j))))] := hD
    refine lv_aload_n hx hb dX12_feed_47 rfl (lv_at hl 0 rfl) ?_
    refine va_get (D := D) (own := RX12) (ci := 12) (v := .int (iI (u44a 0))) (C := RX12) (T := TX12) (N := 51) hx hb hts inb_X12 hown hK.1 hP 0 rfl rfl 6 (by decide) (hts _ wd_1240) (fun _ h9 => h9) rfl dX12_feed_48 ?_
    rw [hQ]; exact fn_iret hx hb hr hlocks rfl hP hD hS ((fun k => ([0, (u44a 0)] : List Int).getD k 0), (fun k => ([(u44b 0)] : List (Nat → Int)).getD k (fun _ => 0))) ⟨(u44a 0), rfl, by omega, (by show (-2147483648) ≤ 0 ∧ 0 ≤ 2147483647 ∧ 0 ≤ (u44a 0) ∧ (u44a 0) ≤ 1400; omega), (hu44_0), trivial⟩ [0, 1] (by decide) rfl dX12_feed_51
  · refine lv_iconst (v := iI (-1)) hx hb dX12_feed_18 rfl ?_
    rw [hQ]; exact fn_iret hx hb hr hlocks rfl hP hD hS ((fun k => ([0, t_x6] : List Int).getD k 0), (fun k => ([t_5_c] : List (Nat → Int)).getD k (fun _ => 0))) ⟨(-1), rfl, by omega, (by show (-2147483648) ≤ 0 ∧ 0 ≤ 2147483647 ∧ 0 ≤ t_x6 ∧ t_x6 ≤ 1400; omega), (hc_t_5), trivial⟩ [0, 1] (by decide) rfl dX12_feed_19
theorem dX12_end_0 : decode cX12_end 0 = .ok (.aload_n 0, 1) := by decide +kernel
theorem dX12_end_1 : decode cX12_end 1 = .ok (.iconst 0, 1) := by decide +kernel
theorem dX12_end_2 : decode cX12_end 2 = .ok (.putfield 104, 3) := by decide +kernel
theorem dX12_end_5 : decode cX12_end 5 = .ok (.iload_n 1, 1) := by decide +kernel
theorem dX12_end_6 : decode cX12_end 6 = .ok (.i2l, 1) := by decide +kernel
theorem dX12_end_7 : decode cX12_end 7 = .ok (.lconst 0, 1) := by decide +kernel
theorem dX12_end_8 : decode cX12_end 8 = .ok (.aload_n 0, 1) := by decide +kernel
theorem dX12_end_9 : decode cX12_end 9 = .ok (.getfield 121, 3) := by decide +kernel
theorem dX12_end_12 : decode cX12_end 12 = .ok (.i2l, 1) := by decide +kernel
theorem dX12_end_13 : decode cX12_end 13 = .ok (.invokestatic 109, 3) := by decide +kernel
theorem dX12_end_16 : decode cX12_end 16 = .ok (.ifCond .ne 5, 3) := by decide +kernel
theorem dX12_end_21 : decode cX12_end 21 = .ok (.aload_n 0, 1) := by decide +kernel
theorem dX12_end_22 : decode cX12_end 22 = .ok (.iload_n 1, 1) := by decide +kernel
theorem dX12_end_23 : decode cX12_end 23 = .ok (.putfield 121, 3) := by decide +kernel
theorem dX12_end_26 : decode cX12_end 26 = .ok (.iload_n 1, 1) := by decide +kernel
theorem dX12_end_27 : decode cX12_end 27 = .ok (.ireturn, 1) := by decide +kernel
theorem dX12_end_19 : decode cX12_end 19 = .ok (.iconst (-1), 1) := by decide +kernel
theorem dX12_end_20 : decode cX12_end 20 = .ok (.ireturn, 1) := by decide +kernel
set_option maxHeartbeats 4000000 in
set_option maxRecDepth 100000 in
theorem k_X12_end (l : Launch) (D : va_G) (K : Nat → ClassId) (t : Nat) (t_q : Nat → Nat) (p1 t_x0 t_x6 t_x7 t_x8 t_x9 t_x10 t_x11 t_x12 t_x13 t_x14 t_x15 t_x32 t_x33 t_x34 t_x35 t_x39 t_x40 t_x43 t_x44 t_x48 t_x49 t_x50 : Int) (hp1 : (-2147483648) ≤ p1 ∧ p1 ≤ 2147483647) (hi_t : bM12 t_x0 t_x6 t_x7 t_x8 t_x9 t_x10 t_x11 t_x12 t_x13 t_x14 t_x15 t_x32 t_x33 t_x34 t_x35 t_x39 t_x40 t_x43 t_x44 t_x48 t_x49 t_x50) : fn_CI (S := (Nat → Int) × (Nat → Nat → Int)) l D K yX12_end (fn_ws yX12_end cX12_end 2 (some .int)) ({ frames := 8, cells := 0, slots := 0, locals := 200 } : Room) [.ref t, .int (iI p1)] [(t, .inr (12, oX12 t_q t_x0 t_x6 t_x7 t_x8 t_x9 t_x10 t_x11 t_x12 t_x13 t_x14 t_x15 t_x32 t_x33 t_x34 t_x35 t_x39 t_x40 t_x43 t_x44 t_x48 t_x49 t_x50))] (fun r u => ∃ k : Int, r = iI k ∧ ((-1) ≤ k ∧ k ≤ 1400) ∧ ((-2147483648) ≤ (u.1 0) ∧ (u.1 0) ≤ 2147483647 ∧ 0 ≤ (u.1 1) ∧ (u.1 1) ≤ 1400) ∧ True) (fun u => [(t, .inr (12, oX12 t_q (u.1 0) (u.1 1) t_x7 t_x8 t_x9 t_x10 t_x11 t_x12 t_x13 t_x14 t_x15 t_x32 t_x33 t_x34 t_x35 t_x39 t_x40 t_x43 t_x44 t_x48 t_x49 t_x50))]) 0 0 := by
  refine g_inI (cc := cX12_end) (maxL := 2) (ret := (some .int)) (by decide) rfl (Nat.le_of_ble_eq_true rfl) ?_
  intro p e s m below meth c A ls ag Q B hA hP hD hS hl hQ
  obtain ⟨hx, hb, hr, hml, hts, hown, hlocks, hin, hK⟩ := B
  have hown : s.vm.findClass RX12 = some m.cls := hown
  have hts := fun w h => hts w (List.mem_cons_of_mem _ h)
  have hl : lv_has ls 2 [(0, .ref t), (1, .int (iI p1))] := hl
  refine lv_aload_n hx hb dX12_end_0 rfl (lv_at hl 0 rfl) ?_
  refine lv_iconst (v := iI 0) hx hb dX12_end_1 rfl ?_
  refine va_put (D := D) (own := RX12) (ci := 12) (v := .int (iI 0)) (ty := .int) (C := RX12) (T := TX12) (N := 51) hx hb hts inb_X12 tyX12 tyX12_ok nmX12 hown hK.1 hP hD hS 0 rfl rfl 0 (by decide) (hts _ wd_1234) (fun _ h9 => h9) rfl (by decide +kernel) rfl rfl (Nat.le_of_ble_eq_true rfl) dX12_end_2 (fun H locs hP hD hS => ?_)
  have hP : va_P D vwCl [(t, .inr (12, oX12 t_q 0 t_x6 t_x7 t_x8 t_x9 t_x10 t_x11 t_x12 t_x13 t_x14 t_x15 t_x32 t_x33 t_x34 t_x35 t_x39 t_x40 t_x43 t_x44 t_x48 t_x49 t_x50))] H := hP
  have hD : va_D A [(t, .inr (12, oX12 t_q 0 t_x6 t_x7 t_x8 t_x9 t_x10 t_x11 t_x12 t_x13 t_x14 t_x15 t_x32 t_x33 t_x34 t_x35 t_x39 t_x40 t_x43 t_x44 t_x48 t_x49 t_x50))] := hD
  refine lv_iload_n hx hb dX12_end_5 rfl (lv_at hl 1 rfl) ?_
  refine lv_i2l (v := lI p1) hx hb dX12_end_6 (iI_2l (by omega)) ?_
  refine lv_lconst (v := lI 0) hx hb dX12_end_7 (by decide) ?_
  refine lv_aload_n hx hb dX12_end_8 rfl (lv_at hl 0 rfl) ?_
  refine va_get (D := D) (own := RX12) (ci := 12) (v := .int (iI t_x6)) (C := RX12) (T := TX12) (N := 51) hx hb hts inb_X12 hown hK.1 hP 0 rfl rfl 6 (by decide) (hts _ wd_1240) (fun _ h9 => h9) rfl dX12_end_9 ?_
  have y9_1 : 0 ≤ t_x6 ∧ t_x6 ≤ 1400 := hi_t.2.1
  refine lv_i2l (v := lI t_x6) hx hb dX12_end_12 (iI_2l (by omega)) ?_
  refine fn_goi (wc := []) (wr := [(t, .inr (12, oX12 t_q 0 t_x6 t_x7 t_x8 t_x9 t_x10 t_x11 t_x12 t_x13 t_x14 t_x15 t_x32 t_x33 t_x34 t_x35 t_x39 t_x40 t_x43 t_x44 t_x48 t_x49 t_x50))]) hK hP hD hS hA [] [0] rfl rfl (by decide) (fun hp => va_runS (As := [.long (lI p1), .long (lI 0), .long (lI t_x6)]) (rest := []) ⟨hx, hb, hml, hown, hts⟩ (k_X12_in (l := l) (D := D) (K := K) (p1 := p1) (p2 := 0) (p3 := t_x6) (hp1 := (by omega)) (hp2 := (by omega)) (hp3 := (by omega)) _) (va_cwS 3 hts (fn_ginS (fn_gin wd_1398) wd_1396 wd_1397 wd_13) rfl rfl rfl (by decide +kernel) ⟨Nat.le_of_ble_eq_true rfl, Nat.le_of_ble_eq_true rfl⟩) ⟨fn_blind, hp⟩ rfl rfl hl.1 rfl (lv_room (Nat.le_of_ble_eq_true rfl)) dX12_end_13 ⟨Nat.le_of_ble_eq_true rfl, Nat.le_of_ble_eq_true rfl⟩) (fun r13 u13 H locs hwu13 hP hD hS => ?_)
  obtain ⟨u13a, u13b⟩ := u13
  obtain ⟨kr13, rfl, hkr13, hqu130, -⟩ := hwu13
  have hqu13 : (kr13 = 1 → (0 : Int) ≤ p1 ∧ p1 ≤ t_x6) ∧ (kr13 = 0 → p1 < (0 : Int) ∨ t_x6 < p1) := hqu130
  clear hqu130
  have hP : va_P D vwCl [(t, .inr (12, oX12 t_q 0 t_x6 t_x7 t_x8 t_x9 t_x10 t_x11 t_x12 t_x13 t_x14 t_x15 t_x32 t_x33 t_x34 t_x35 t_x39 t_x40 t_x43 t_x44 t_x48 t_x49 t_x50))] H := hP
  have hD : va_D A [(t, .inr (12, oX12 t_q 0 t_x6 t_x7 t_x8 t_x9 t_x10 t_x11 t_x12 t_x13 t_x14 t_x15 t_x32 t_x33 t_x34 t_x35 t_x39 t_x40 t_x43 t_x44 t_x48 t_x49 t_x50))] := hD
  refine g_if_ne (tgt := 21) hx hb (by omega) dX12_end_16 (by decide) (fun c16 => ?_) (fun c16 => ?_)
  · refine lv_aload_n hx hb dX12_end_21 rfl (lv_at hl 0 rfl) ?_
    refine lv_iload_n hx hb dX12_end_22 rfl (lv_at hl 1 rfl) ?_
    refine va_put (D := D) (own := RX12) (ci := 12) (v := .int (iI p1)) (ty := .int) (C := RX12) (T := TX12) (N := 51) hx hb hts inb_X12 tyX12 tyX12_ok nmX12 hown hK.1 hP hD hS 0 rfl rfl 6 (by decide) (hts _ wd_1240) (fun _ h9 => h9) rfl (by decide +kernel) rfl rfl (Nat.le_of_ble_eq_true rfl) dX12_end_23 (fun H locs hP hD hS => ?_)
    have hP : va_P D vwCl [(t, .inr (12, oX12 t_q 0 p1 t_x7 t_x8 t_x9 t_x10 t_x11 t_x12 t_x13 t_x14 t_x15 t_x32 t_x33 t_x34 t_x35 t_x39 t_x40 t_x43 t_x44 t_x48 t_x49 t_x50))] H := hP
    have hD : va_D A [(t, .inr (12, oX12 t_q 0 p1 t_x7 t_x8 t_x9 t_x10 t_x11 t_x12 t_x13 t_x14 t_x15 t_x32 t_x33 t_x34 t_x35 t_x39 t_x40 t_x43 t_x44 t_x48 t_x49 t_x50))] := hD
    refine lv_iload_n hx hb dX12_end_26 rfl (lv_at hl 1 rfl) ?_
    rw [hQ]; exact fn_iret hx hb hr hlocks rfl hP hD hS ((fun k => ([0, p1] : List Int).getD k 0), (fun _ _ => 0)) ⟨p1, rfl, by omega, (by show (-2147483648) ≤ 0 ∧ 0 ≤ 2147483647 ∧ 0 ≤ p1 ∧ p1 ≤ 1400; omega), trivial⟩ [0] (by decide) rfl dX12_end_27
  · refine lv_iconst (v := iI (-1)) hx hb dX12_end_19 rfl ?_
    rw [hQ]; exact fn_iret hx hb hr hlocks rfl hP hD hS ((fun k => ([0, t_x6] : List Int).getD k 0), (fun _ _ => 0)) ⟨(-1), rfl, by omega, (by show (-2147483648) ≤ 0 ∧ 0 ≤ 2147483647 ∧ 0 ≤ t_x6 ∧ t_x6 ≤ 1400; omega), trivial⟩ [0] (by decide) rfl dX12_end_20
theorem dX12_isByte_0 : decode cX12_isByte 0 = .ok (.iload_n 1, 1) := by decide +kernel
theorem dX12_isByte_1 : decode cX12_isByte 1 = .ok (.aload_n 0, 1) := by decide +kernel
theorem dX12_isByte_2 : decode cX12_isByte 2 = .ok (.getfield 121, 3) := by decide +kernel
theorem dX12_isByte_5 : decode cX12_isByte 5 = .ok (.if_icmp .ge 27, 3) := by decide +kernel
theorem dX12_isByte_32 : decode cX12_isByte 32 = .ok (.iconst 0, 1) := by decide +kernel
theorem dX12_isByte_33 : decode cX12_isByte 33 = .ok (.ireturn, 1) := by decide +kernel
theorem dX12_isByte_8 : decode cX12_isByte 8 = .ok (.aload_n 0, 1) := by decide +kernel
theorem dX12_isByte_9 : decode cX12_isByte 9 = .ok (.getfield 23, 3) := by decide +kernel
theorem dX12_isByte_12 : decode cX12_isByte 12 = .ok (.iload_n 1, 1) := by decide +kernel
theorem dX12_isByte_13 : decode cX12_isByte 13 = .ok (.baload, 1) := by decide +kernel
theorem dX12_isByte_14 : decode cX12_isByte 14 = .ok (.iload_n 2, 1) := by decide +kernel
theorem dX12_isByte_15 : decode cX12_isByte 15 = .ok (.if_icmp .lt 17, 3) := by decide +kernel
theorem dX12_isByte_18 : decode cX12_isByte 18 = .ok (.aload_n 0, 1) := by decide +kernel
theorem dX12_isByte_19 : decode cX12_isByte 19 = .ok (.getfield 23, 3) := by decide +kernel
theorem dX12_isByte_22 : decode cX12_isByte 22 = .ok (.iload_n 1, 1) := by decide +kernel
theorem dX12_isByte_23 : decode cX12_isByte 23 = .ok (.baload, 1) := by decide +kernel
theorem dX12_isByte_24 : decode cX12_isByte 24 = .ok (.iload_n 3, 1) := by decide +kernel
theorem dX12_isByte_25 : decode cX12_isByte 25 = .ok (.if_icmp .gt 7, 3) := by decide +kernel
theorem dX12_isByte_28 : decode cX12_isByte 28 = .ok (.iconst 1, 1) := by decide +kernel
theorem dX12_isByte_29 : decode cX12_isByte 29 = .ok (.goto 4, 3) := by decide +kernel
set_option maxHeartbeats 4000000 in
set_option maxRecDepth 100000 in
theorem k_X12_isByte (l : Launch) (D : va_G) (K : Nat → ClassId) (t : Nat) (t_q : Nat → Nat) (p1 p2 p3 t_x0 t_x6 t_x7 t_x8 t_x9 t_x10 t_x11 t_x12 t_x13 t_x14 t_x15 t_x32 t_x33 t_x34 t_x35 t_x39 t_x40 t_x43 t_x44 t_x48 t_x49 t_x50 : Int) (t_5_c : Nat → Int) (hp1 : 0 ≤ p1 ∧ p1 ≤ 1400) (hp2 : (-2147483648) ≤ p2 ∧ p2 ≤ 2147483647) (hp3 : (-2147483648) ≤ p3 ∧ p3 ≤ 2147483647) (hi_t : bM12 t_x0 t_x6 t_x7 t_x8 t_x9 t_x10 t_x11 t_x12 t_x13 t_x14 t_x15 t_x32 t_x33 t_x34 t_x35 t_x39 t_x40 t_x43 t_x44 t_x48 t_x49 t_x50) (hc_t_5 : ∀ j : Nat, (-128) ≤ t_5_c j ∧ t_5_c j ≤ 127) : fn_CI (S := (Nat → Int) × (Nat → Nat → Int)) l D K yX12_isByte (fn_ws yX12_isByte cX12_isByte 4 (some .boolean)) ({ frames := 4, cells := 0, slots := 0, locals := 100 } : Room) [.ref t, .int (iI p1), .int (iI p2), .int (iI p3)] [(t, .inr (12, oX12 t_q t_x0 t_x6 t_x7 t_x8 t_x9 t_x10 t_x11 t_x12 t_x13 t_x14 t_x15 t_x32 t_x33 t_x34 t_x35 t_x39 t_x40 t_x43 t_x44 t_x48 t_x49 t_x50)), ((t_q 5), .inl (K 1, 1400, .inl (fun j => iI (t_5_c j))))] (fun r u => ∃ k : Int, r = iI k ∧ (0 ≤ k ∧ k ≤ 1) ∧ ((k = 1 → p1 < t_x6 ∧ p2 ≤ t_5_c (Int.toNat p1) ∧ t_5_c (Int.toNat p1) ≤ p3) ∧ (k = 0 → t_x6 ≤ p1 ∨ t_5_c (Int.toNat p1) < p2 ∨ p3 < t_5_c (Int.toNat p1))) ∧ True) (fun u => [(t, .inr (12, oX12 t_q t_x0 t_x6 t_x7 t_x8 t_x9 t_x10 t_x11 t_x12 t_x13 t_x14 t_x15 t_x32 t_x33 t_x34 t_x35 t_x39 t_x40 t_x43 t_x44 t_x48 t_x49 t_x50)), ((t_q 5), .inl (K 1, 1400, .inl (fun j => iI (t_5_c j))))]) 0 0 := by
  refine g_inI (cc := cX12_isByte) (maxL := 4) (ret := (some .boolean)) (by decide) rfl (Nat.le_of_ble_eq_true rfl) ?_
  intro p e s m below meth c A ls ag Q B hA hP hD hS hl hQ
  obtain ⟨hx, hb, hr, hml, hts, hown, hlocks, hin, hK⟩ := B
  have hown : s.vm.findClass RX12 = some m.cls := hown
  have hts := fun w h => hts w (List.mem_cons_of_mem _ h)
  have hl : lv_has ls 4 [(0, .ref t), (1, .int (iI p1)), (2, .int (iI p2)), (3, .int (iI p3))] := hl
  refine lv_iload_n hx hb dX12_isByte_0 rfl (lv_at hl 1 rfl) ?_
  refine lv_aload_n hx hb dX12_isByte_1 rfl (lv_at hl 0 rfl) ?_
  refine va_get (D := D) (own := RX12) (ci := 12) (v := .int (iI t_x6)) (C := RX12) (T := TX12) (N := 51) hx hb hts inb_X12 hown hK.1 hP 0 rfl rfl 6 (by decide) (hts _ wd_1240) (fun _ h9 => h9) rfl dX12_isByte_2 ?_
  have y2_1 : 0 ≤ t_x6 ∧ t_x6 ≤ 1400 := hi_t.2.1
  refine g_icmp_ge (tgt := 32) hx hb (by omega) (by omega) dX12_isByte_5 (by decide) (fun c5 => ?_) (fun c5 => ?_)
  · refine lv_iconst (v := iI 0) hx hb dX12_isByte_32 rfl ?_
    rw [hQ]; exact fn_iret hx hb hr hlocks (iI_nz (by omega)) hP hD hS ((fun _ => 0), (fun _ _ => 0)) ⟨0, rfl, by omega, (by show ((0 : Int) = 1 → p1 < t_x6 ∧ p2 ≤ t_5_c (Int.toNat p1) ∧ t_5_c (Int.toNat p1) ≤ p3) ∧ ((0 : Int) = 0 → t_x6 ≤ p1 ∨ t_5_c (Int.toNat p1) < p2 ∨ p3 < t_5_c (Int.toNat p1)); omega), trivial⟩ [0, 1] (by decide) rfl dX12_isByte_33
  · refine lv_aload_n hx hb dX12_isByte_8 rfl (lv_at hl 0 rfl) ?_
    refine va_get (D := D) (own := RX12) (ci := 12) (v := .ref (t_q 5)) (C := RX12) (T := TX12) (N := 51) hx hb hts inb_X12 hown hK.1 hP 0 rfl rfl 5 (by decide) (hts _ wd_1239) (fun _ h9 => h9) rfl dX12_isByte_9 ?_
    refine lv_iload_n hx hb dX12_isByte_12 rfl (lv_at hl 1 rfl) ?_
    refine g_bald hx hb hK.1 hP 1 1 rfl rfl (by omega) (by omega) (by decide) dX12_isByte_13 ?_
    have y13 : (-128) ≤ (t_5_c p1.toNat) ∧ (t_5_c p1.toNat) ≤ 127 := hc_t_5 p1.toNat
    refine lv_iload_n hx hb dX12_isByte_14 rfl (lv_at hl 2 rfl) ?_
    refine g_icmp_lt (tgt := 32) hx hb (by omega) (by omega) dX12_isByte_15 (by decide) (fun c15 => ?_) (fun c15 => ?_)
    · refine lv_iconst (v := iI 0) hx hb dX12_isByte_32 rfl ?_
      rw [hQ]; exact fn_iret hx hb hr hlocks (iI_nz (by omega)) hP hD hS ((fun _ => 0), (fun _ _ => 0)) ⟨0, rfl, by omega, (by show ((0 : Int) = 1 → p1 < t_x6 ∧ p2 ≤ t_5_c (Int.toNat p1) ∧ t_5_c (Int.toNat p1) ≤ p3) ∧ ((0 : Int) = 0 → t_x6 ≤ p1 ∨ t_5_c (Int.toNat p1) < p2 ∨ p3 < t_5_c (Int.toNat p1)); omega), trivial⟩ [0, 1] (by decide) rfl dX12_isByte_33
    · refine lv_aload_n hx hb dX12_isByte_18 rfl (lv_at hl 0 rfl) ?_
      refine va_get (D := D) (own := RX12) (ci := 12) (v := .ref (t_q 5)) (C := RX12) (T := TX12) (N := 51) hx hb hts inb_X12 hown hK.1 hP 0 rfl rfl 5 (by decide) (hts _ wd_1239) (fun _ h9 => h9) rfl dX12_isByte_19 ?_
      refine lv_iload_n hx hb dX12_isByte_22 rfl (lv_at hl 1 rfl) ?_
      refine g_bald hx hb hK.1 hP 1 1 rfl rfl (by omega) (by omega) (by decide) dX12_isByte_23 ?_
      refine lv_iload_n hx hb dX12_isByte_24 rfl (lv_at hl 3 rfl) ?_
      refine g_icmp_gt (tgt := 32) hx hb (by omega) (by omega) dX12_isByte_25 (by decide) (fun c25 => ?_) (fun c25 => ?_)
      · refine lv_iconst (v := iI 0) hx hb dX12_isByte_32 rfl ?_
        rw [hQ]; exact fn_iret hx hb hr hlocks (iI_nz (by omega)) hP hD hS ((fun _ => 0), (fun _ _ => 0)) ⟨0, rfl, by omega, (by show ((0 : Int) = 1 → p1 < t_x6 ∧ p2 ≤ t_5_c (Int.toNat p1) ∧ t_5_c (Int.toNat p1) ≤ p3) ∧ ((0 : Int) = 0 → t_x6 ≤ p1 ∨ t_5_c (Int.toNat p1) < p2 ∨ p3 < t_5_c (Int.toNat p1)); omega), trivial⟩ [0, 1] (by decide) rfl dX12_isByte_33
      · refine lv_iconst (v := iI 1) hx hb dX12_isByte_28 rfl ?_
        refine lv_goto (tgt := 33) hx hb dX12_isByte_29 (by decide) ?_
        rw [hQ]; exact fn_iret hx hb hr hlocks (iI_nz (by omega)) hP hD hS ((fun _ => 0), (fun _ _ => 0)) ⟨1, rfl, by omega, (by show ((1 : Int) = 1 → p1 < t_x6 ∧ p2 ≤ t_5_c (Int.toNat p1) ∧ t_5_c (Int.toNat p1) ≤ p3) ∧ ((1 : Int) = 0 → t_x6 ≤ p1 ∨ t_5_c (Int.toNat p1) < p2 ∨ p3 < t_5_c (Int.toNat p1)); omega), trivial⟩ [0, 1] (by decide) rfl dX12_isByte_33
theorem wd_1241 : Cond.fieldLink "FootNotesModel" 128 "FootNotesModel" "at" "I" ∈ fn_big := fn_tb (fn_l6 (List.mem_of_getElem? (i := 41) (by decide +kernel))) (by decide +kernel)
theorem wd_1243 : Cond.fieldLink "FootNotesModel" 135 "FootNotesModel" "place" "I" ∈ fn_big := fn_tb (fn_l6 (List.mem_of_getElem? (i := 43) (by decide +kernel))) (by decide +kernel)
theorem wd_1244 : Cond.fieldLink "FootNotesModel" 138 "FootNotesModel" "value" "I" ∈ fn_big := fn_tb (fn_l6 (List.mem_of_getElem? (i := 44) (by decide +kernel))) (by decide +kernel)
theorem wd_1245 : Cond.fieldLink "FootNotesModel" 141 "FootNotesModel" "word" "J" ∈ fn_big := fn_tb (fn_l6 (List.mem_of_getElem? (i := 45) (by decide +kernel))) (by decide +kernel)
theorem wd_1242 : Cond.fieldLink "FootNotesModel" 145 "FootNotesModel" "token" "I" ∈ fn_big := fn_tb (fn_l6 (List.mem_of_getElem? (i := 42) (by decide +kernel))) (by decide +kernel)
theorem wd_1453 : Cond.constant "FootNotesModel" 154 (100000 : Int32) ∈ fn_big := fn_tb (fn_l7 (List.mem_of_getElem? (i := 13) (by decide +kernel))) (by decide +kernel)
theorem wd_1451 : Cond.constantLong "FootNotesModel" 150 (27 : Int64) ∈ fn_big := fn_tb (fn_l7 (List.mem_of_getElem? (i := 11) (by decide +kernel))) (by decide +kernel)
theorem wd_1452 : Cond.constantLong "FootNotesModel" 152 (96 : Int64) ∈ fn_big := fn_tb (fn_l7 (List.mem_of_getElem? (i := 12) (by decide +kernel))) (by decide +kernel)
theorem wd_1454 : Cond.constant "FootNotesModel" 155 (1000000 : Int32) ∈ fn_big := fn_tb (fn_l7 (List.mem_of_getElem? (i := 14) (by decide +kernel))) (by decide +kernel)
theorem wd_1450 : Cond.constantLong "FootNotesModel" 148 (-1 : Int64) ∈ fn_big := fn_tb (fn_l7 (List.mem_of_getElem? (i := 10) (by decide +kernel))) (by decide +kernel)
theorem wd_1449 : Cond.code ⟨"FootNotesModel", "isByte", "(III)Z"⟩ prog_14_method_12_code 4 (Option.some Jvm.ClassFile.FieldType.boolean) ∈ fn_big := fn_tb (fn_l7 (List.mem_of_getElem? (i := 9) (by decide +kernel))) (by decide +kernel)
theorem wd_1446 : Cond.methodLink "FootNotesModel" 131 ⟨"FootNotesModel", "isByte", "(III)Z"⟩ ∈ fn_big := fn_tb (fn_l7 (List.mem_of_getElem? (i := 6) (by decide +kernel))) (by decide +kernel)
theorem wd_1448 : Cond.instanceMethod ⟨"FootNotesModel", "isByte", "(III)Z"⟩ ∈ fn_big := fn_tb (fn_l7 (List.mem_of_getElem? (i := 8) (by decide +kernel))) (by decide +kernel)
theorem wp_99 : Cond.selects "FootNotesModel" ⟨"FootNotesModel", "isByte", "(III)Z"⟩ ⟨"FootNotesModel", "isByte", "(III)Z"⟩ ∈ fn_big := fn_sel (q := (⟨"FootNotesModel", "isByte", "(III)Z"⟩, 51)) 99 (by decide +kernel) (by decide +kernel)
theorem dX12_next_294 : decode cX12_next 294 = .ok (.putfield 145, 3) := by decide +kernel
theorem dX12_next_297 : decode cX12_next 297 = .ok (.aload_n 0, 1) := by decide +kernel
theorem dX12_next_298 : decode cX12_next 298 = .ok (.dup, 1) := by decide +kernel
theorem dX12_next_299 : decode cX12_next 299 = .ok (.getfield 128, 3) := by decide +kernel
theorem dX12_next_302 : decode cX12_next 302 = .ok (.iconst 1, 1) := by decide +kernel
theorem dX12_next_303 : decode cX12_next 303 = .ok (.iadd, 1) := by decide +kernel
theorem dX12_next_304 : decode cX12_next 304 = .ok (.putfield 128, 3) := by decide +kernel
theorem dX12_next_307 : decode cX12_next 307 = .ok (.return_, 1) := by decide +kernel
theorem dX12_next_258 : decode cX12_next 258 = .ok (.putfield 138, 3) := by decide +kernel
theorem dX12_next_261 : decode cX12_next 261 = .ok (.aload_n 0, 1) := by decide +kernel
theorem dX12_next_262 : decode cX12_next 262 = .ok (.dup, 1) := by decide +kernel
theorem dX12_next_263 : decode cX12_next 263 = .ok (.getfield 128, 3) := by decide +kernel
theorem dX12_next_266 : decode cX12_next 266 = .ok (.iconst 1, 1) := by decide +kernel
theorem dX12_next_267 : decode cX12_next 267 = .ok (.iadd, 1) := by decide +kernel
theorem dX12_next_268 : decode cX12_next 268 = .ok (.putfield 128, 3) := by decide +kernel
theorem dX12_next_271 : decode cX12_next 271 = .ok (.goto (-63), 3) := by decide +kernel
theorem dX12_next_208 : decode cX12_next 208 = .ok (.aload_n 0, 1) := by decide +kernel
theorem dX12_next_209 : decode cX12_next 209 = .ok (.aload_n 0, 1) := by decide +kernel
theorem dX12_next_210 : decode cX12_next 210 = .ok (.getfield 128, 3) := by decide +kernel
theorem dX12_next_213 : decode cX12_next 213 = .ok (.bipush 48, 2) := by decide +kernel
theorem dX12_next_215 : decode cX12_next 215 = .ok (.bipush 57, 2) := by decide +kernel
theorem dX12_next_217 : decode cX12_next 217 = .ok (.invokevirtual 131, 3) := by decide +kernel
theorem dX12_next_220 : decode cX12_next 220 = .ok (.ifCond .eq 87, 3) := by decide +kernel
theorem dX12_next_223 : decode cX12_next 223 = .ok (.aload_n 0, 1) := by decide +kernel
theorem dX12_next_224 : decode cX12_next 224 = .ok (.aload_n 0, 1) := by decide +kernel
theorem dX12_next_225 : decode cX12_next 225 = .ok (.getfield 138, 3) := by decide +kernel
theorem dX12_next_228 : decode cX12_next 228 = .ok (.ldc 154, 2) := by decide +kernel
theorem dX12_next_230 : decode cX12_next 230 = .ok (.if_icmp .le 8, 3) := by decide +kernel
theorem dX12_next_238 : decode cX12_next 238 = .ok (.bipush 10, 2) := by decide +kernel
theorem dX12_next_240 : decode cX12_next 240 = .ok (.aload_n 0, 1) := by decide +kernel
theorem dX12_next_241 : decode cX12_next 241 = .ok (.getfield 138, 3) := by decide +kernel
theorem dX12_next_244 : decode cX12_next 244 = .ok (.imul, 1) := by decide +kernel
theorem dX12_next_245 : decode cX12_next 245 = .ok (.aload_n 0, 1) := by decide +kernel
theorem dX12_next_246 : decode cX12_next 246 = .ok (.getfield 23, 3) := by decide +kernel
theorem dX12_next_249 : decode cX12_next 249 = .ok (.aload_n 0, 1) := by decide +kernel
theorem dX12_next_250 : decode cX12_next 250 = .ok (.getfield 128, 3) := by decide +kernel
theorem dX12_next_253 : decode cX12_next 253 = .ok (.baload, 1) := by decide +kernel
theorem dX12_next_254 : decode cX12_next 254 = .ok (.iadd, 1) := by decide +kernel
theorem dX12_next_255 : decode cX12_next 255 = .ok (.bipush 48, 2) := by decide +kernel
theorem dX12_next_257 : decode cX12_next 257 = .ok (.isub, 1) := by decide +kernel
theorem dX12_next_233 : decode cX12_next 233 = .ok (.ldc 155, 2) := by decide +kernel
theorem dX12_next_235 : decode cX12_next 235 = .ok (.goto 23, 3) := by decide +kernel
theorem dX12_next_169 : decode cX12_next 169 = .ok (.aload_n 0, 1) := by decide +kernel
theorem dX12_next_170 : decode cX12_next 170 = .ok (.dup, 1) := by decide +kernel
theorem dX12_next_171 : decode cX12_next 171 = .ok (.getfield 128, 3) := by decide +kernel
theorem dX12_next_174 : decode cX12_next 174 = .ok (.iconst 1, 1) := by decide +kernel
theorem dX12_next_175 : decode cX12_next 175 = .ok (.iadd, 1) := by decide +kernel
theorem dX12_next_176 : decode cX12_next 176 = .ok (.putfield 128, 3) := by decide +kernel
theorem dX12_next_179 : decode cX12_next 179 = .ok (.iinc 1 1, 3) := by decide +kernel
theorem dX12_next_182 : decode cX12_next 182 = .ok (.goto (-80), 3) := by decide +kernel
theorem dX12_next_153 : decode cX12_next 153 = .ok (.putfield 141, 3) := by decide +kernel
theorem dX12_next_156 : decode cX12_next 156 = .ok (.iload_n 1, 1) := by decide +kernel
theorem dX12_next_157 : decode cX12_next 157 = .ok (.bipush 11, 2) := by decide +kernel
theorem dX12_next_159 : decode cX12_next 159 = .ok (.if_icmp .le 10, 3) := by decide +kernel
theorem dX12_next_162 : decode cX12_next 162 = .ok (.aload_n 0, 1) := by decide +kernel
theorem dX12_next_163 : decode cX12_next 163 = .ok (.ldc2_w 148, 3) := by decide +kernel
theorem dX12_next_166 : decode cX12_next 166 = .ok (.putfield 141, 3) := by decide +kernel
theorem dX12_next_102 : decode cX12_next 102 = .ok (.aload_n 0, 1) := by decide +kernel
theorem dX12_next_103 : decode cX12_next 103 = .ok (.aload_n 0, 1) := by decide +kernel
theorem dX12_next_104 : decode cX12_next 104 = .ok (.getfield 128, 3) := by decide +kernel
theorem dX12_next_107 : decode cX12_next 107 = .ok (.bipush 97, 2) := by decide +kernel
theorem dX12_next_109 : decode cX12_next 109 = .ok (.bipush 122, 2) := by decide +kernel
theorem dX12_next_111 : decode cX12_next 111 = .ok (.invokevirtual 131, 3) := by decide +kernel
theorem dX12_next_114 : decode cX12_next 114 = .ok (.ifCond .eq 71, 3) := by decide +kernel
theorem dX12_next_185 : decode cX12_next 185 = .ok (.goto 122, 3) := by decide +kernel
theorem dX12_next_117 : decode cX12_next 117 = .ok (.aload_n 0, 1) := by decide +kernel
theorem dX12_next_118 : decode cX12_next 118 = .ok (.iload_n 1, 1) := by decide +kernel
theorem dX12_next_119 : decode cX12_next 119 = .ok (.bipush 11, 2) := by decide +kernel
theorem dX12_next_121 : decode cX12_next 121 = .ok (.if_icmp .le 9, 3) := by decide +kernel
theorem dX12_next_130 : decode cX12_next 130 = .ok (.ldc2_w 150, 3) := by decide +kernel
theorem dX12_next_133 : decode cX12_next 133 = .ok (.aload_n 0, 1) := by decide +kernel
theorem dX12_next_134 : decode cX12_next 134 = .ok (.getfield 141, 3) := by decide +kernel
theorem dX12_next_137 : decode cX12_next 137 = .ok (.lmul, 1) := by decide +kernel
theorem dX12_next_138 : decode cX12_next 138 = .ok (.aload_n 0, 1) := by decide +kernel
theorem dX12_next_139 : decode cX12_next 139 = .ok (.getfield 23, 3) := by decide +kernel
theorem dX12_next_142 : decode cX12_next 142 = .ok (.aload_n 0, 1) := by decide +kernel
theorem dX12_next_143 : decode cX12_next 143 = .ok (.getfield 128, 3) := by decide +kernel
theorem dX12_next_146 : decode cX12_next 146 = .ok (.baload, 1) := by decide +kernel
theorem dX12_next_147 : decode cX12_next 147 = .ok (.i2l, 1) := by decide +kernel
theorem dX12_next_148 : decode cX12_next 148 = .ok (.ladd, 1) := by decide +kernel
theorem dX12_next_149 : decode cX12_next 149 = .ok (.ldc2_w 152, 3) := by decide +kernel
theorem dX12_next_152 : decode cX12_next 152 = .ok (.lsub, 1) := by decide +kernel
theorem dX12_next_124 : decode cX12_next 124 = .ok (.ldc2_w 148, 3) := by decide +kernel
theorem dX12_next_127 : decode cX12_next 127 = .ok (.goto 26, 3) := by decide +kernel
theorem dX12_next_30 : decode cX12_next 30 = .ok (.aload_n 0, 1) := by decide +kernel
theorem dX12_next_31 : decode cX12_next 31 = .ok (.dup, 1) := by decide +kernel
theorem dX12_next_32 : decode cX12_next 32 = .ok (.getfield 128, 3) := by decide +kernel
theorem dX12_next_35 : decode cX12_next 35 = .ok (.iconst 1, 1) := by decide +kernel
theorem dX12_next_36 : decode cX12_next 36 = .ok (.iadd, 1) := by decide +kernel
theorem dX12_next_37 : decode cX12_next 37 = .ok (.putfield 128, 3) := by decide +kernel
theorem dX12_next_40 : decode cX12_next 40 = .ok (.goto (-40), 3) := by decide +kernel
theorem dX12_next_0 : decode cX12_next 0 = .ok (.aload_n 0, 1) := by decide +kernel
theorem dX12_next_1 : decode cX12_next 1 = .ok (.aload_n 0, 1) := by decide +kernel
theorem dX12_next_2 : decode cX12_next 2 = .ok (.getfield 128, 3) := by decide +kernel
theorem dX12_next_5 : decode cX12_next 5 = .ok (.bipush 32, 2) := by decide +kernel
theorem dX12_next_7 : decode cX12_next 7 = .ok (.bipush 32, 2) := by decide +kernel
theorem dX12_next_9 : decode cX12_next 9 = .ok (.invokevirtual 131, 3) := by decide +kernel
theorem dX12_next_12 : decode cX12_next 12 = .ok (.ifCond .ne 18, 3) := by decide +kernel
theorem dX12_next_15 : decode cX12_next 15 = .ok (.aload_n 0, 1) := by decide +kernel
theorem dX12_next_16 : decode cX12_next 16 = .ok (.aload_n 0, 1) := by decide +kernel
theorem dX12_next_17 : decode cX12_next 17 = .ok (.getfield 128, 3) := by decide +kernel
theorem dX12_next_20 : decode cX12_next 20 = .ok (.bipush 10, 2) := by decide +kernel
theorem dX12_next_22 : decode cX12_next 22 = .ok (.bipush 10, 2) := by decide +kernel
theorem dX12_next_24 : decode cX12_next 24 = .ok (.invokevirtual 131, 3) := by decide +kernel
theorem dX12_next_27 : decode cX12_next 27 = .ok (.ifCond .eq 16, 3) := by decide +kernel
theorem dX12_next_43 : decode cX12_next 43 = .ok (.aload_n 0, 1) := by decide +kernel
theorem dX12_next_44 : decode cX12_next 44 = .ok (.aload_n 0, 1) := by decide +kernel
theorem dX12_next_45 : decode cX12_next 45 = .ok (.getfield 128, 3) := by decide +kernel
theorem dX12_next_48 : decode cX12_next 48 = .ok (.putfield 135, 3) := by decide +kernel
theorem dX12_next_51 : decode cX12_next 51 = .ok (.aload_n 0, 1) := by decide +kernel
theorem dX12_next_52 : decode cX12_next 52 = .ok (.iconst 0, 1) := by decide +kernel
theorem dX12_next_53 : decode cX12_next 53 = .ok (.putfield 138, 3) := by decide +kernel
theorem dX12_next_56 : decode cX12_next 56 = .ok (.aload_n 0, 1) := by decide +kernel
theorem dX12_next_57 : decode cX12_next 57 = .ok (.lconst 0, 1) := by decide +kernel
theorem dX12_next_58 : decode cX12_next 58 = .ok (.putfield 141, 3) := by decide +kernel
theorem dX12_next_61 : decode cX12_next 61 = .ok (.aload_n 0, 1) := by decide +kernel
theorem dX12_next_62 : decode cX12_next 62 = .ok (.getfield 128, 3) := by decide +kernel
theorem dX12_next_65 : decode cX12_next 65 = .ok (.aload_n 0, 1) := by decide +kernel
theorem dX12_next_66 : decode cX12_next 66 = .ok (.getfield 121, 3) := by decide +kernel
theorem dX12_next_69 : decode cX12_next 69 = .ok (.if_icmp .ne 11, 3) := by decide +kernel
theorem dX12_next_80 : decode cX12_next 80 = .ok (.aload_n 0, 1) := by decide +kernel
theorem dX12_next_81 : decode cX12_next 81 = .ok (.aload_n 0, 1) := by decide +kernel
theorem dX12_next_82 : decode cX12_next 82 = .ok (.getfield 128, 3) := by decide +kernel
theorem dX12_next_85 : decode cX12_next 85 = .ok (.bipush 97, 2) := by decide +kernel
theorem dX12_next_87 : decode cX12_next 87 = .ok (.bipush 122, 2) := by decide +kernel
theorem dX12_next_89 : decode cX12_next 89 = .ok (.invokevirtual 131, 3) := by decide +kernel
theorem dX12_next_92 : decode cX12_next 92 = .ok (.ifCond .eq 96, 3) := by decide +kernel
theorem dX12_next_188 : decode cX12_next 188 = .ok (.aload_n 0, 1) := by decide +kernel
theorem dX12_next_189 : decode cX12_next 189 = .ok (.aload_n 0, 1) := by decide +kernel
theorem dX12_next_190 : decode cX12_next 190 = .ok (.getfield 128, 3) := by decide +kernel
theorem dX12_next_193 : decode cX12_next 193 = .ok (.bipush 48, 2) := by decide +kernel
theorem dX12_next_195 : decode cX12_next 195 = .ok (.bipush 57, 2) := by decide +kernel
theorem dX12_next_197 : decode cX12_next 197 = .ok (.invokevirtual 131, 3) := by decide +kernel
theorem dX12_next_200 : decode cX12_next 200 = .ok (.ifCond .eq 74, 3) := by decide +kernel
theorem dX12_next_274 : decode cX12_next 274 = .ok (.aload_n 0, 1) := by decide +kernel
theorem dX12_next_275 : decode cX12_next 275 = .ok (.aload_n 0, 1) := by decide +kernel
theorem dX12_next_276 : decode cX12_next 276 = .ok (.getfield 23, 3) := by decide +kernel
theorem dX12_next_279 : decode cX12_next 279 = .ok (.aload_n 0, 1) := by decide +kernel
theorem dX12_next_280 : decode cX12_next 280 = .ok (.getfield 128, 3) := by decide +kernel
theorem dX12_next_283 : decode cX12_next 283 = .ok (.baload, 1) := by decide +kernel
theorem dX12_next_284 : decode cX12_next 284 = .ok (.bipush 59, 2) := by decide +kernel
theorem dX12_next_286 : decode cX12_next 286 = .ok (.if_icmp .ne 7, 3) := by decide +kernel
theorem dX12_next_293 : decode cX12_next 293 = .ok (.iconst 4, 1) := by decide +kernel
theorem dX12_next_289 : decode cX12_next 289 = .ok (.iconst 3, 1) := by decide +kernel
theorem dX12_next_290 : decode cX12_next 290 = .ok (.goto 4, 3) := by decide +kernel
theorem dX12_next_203 : decode cX12_next 203 = .ok (.aload_n 0, 1) := by decide +kernel
theorem dX12_next_204 : decode cX12_next 204 = .ok (.iconst 2, 1) := by decide +kernel
theorem dX12_next_205 : decode cX12_next 205 = .ok (.putfield 145, 3) := by decide +kernel
theorem dX12_next_95 : decode cX12_next 95 = .ok (.aload_n 0, 1) := by decide +kernel
theorem dX12_next_96 : decode cX12_next 96 = .ok (.iconst 1, 1) := by decide +kernel
theorem dX12_next_97 : decode cX12_next 97 = .ok (.putfield 145, 3) := by decide +kernel
theorem dX12_next_100 : decode cX12_next 100 = .ok (.iconst 0, 1) := by decide +kernel
theorem dX12_next_101 : decode cX12_next 101 = .ok (.istore_n 1, 1) := by decide +kernel
theorem dX12_next_72 : decode cX12_next 72 = .ok (.aload_n 0, 1) := by decide +kernel
theorem dX12_next_73 : decode cX12_next 73 = .ok (.iconst 0, 1) := by decide +kernel
theorem dX12_next_74 : decode cX12_next 74 = .ok (.putfield 145, 3) := by decide +kernel
theorem dX12_next_77 : decode cX12_next 77 = .ok (.goto 230, 3) := by decide +kernel
set_option maxHeartbeats 4000000 in
set_option maxRecDepth 100000 in
theorem k_X12_next (l : Launch) (D : va_G) (K : Nat → ClassId) (t : Nat) (t_q : Nat → Nat) (t_x0 t_x6 t_x7 t_x8 t_x9 t_x10 t_x11 t_x12 t_x13 t_x14 t_x15 t_x32 t_x33 t_x34 t_x35 t_x39 t_x40 t_x43 t_x44 t_x48 t_x49 t_x50 : Int) (t_5_c : Nat → Int) (hi_t : bM12 t_x0 t_x6 t_x7 t_x8 t_x9 t_x10 t_x11 t_x12 t_x13 t_x14 t_x15 t_x32 t_x33 t_x34 t_x35 t_x39 t_x40 t_x43 t_x44 t_x48 t_x49 t_x50) (hc_t_5 : ∀ j : Nat, (-128) ≤ t_5_c j ∧ t_5_c j ≤ 127) (pa : t_x7 ≤ t_x6) : fn_CV (S := (Nat → Int) × (Nat → Nat → Int)) l D K yX12_next (fn_ws yX12_next cX12_next 2 none) ({ frames := 8, cells := 0, slots := 0, locals := 200 } : Room) [.ref t] [(t, .inr (12, oX12 t_q t_x0 t_x6 t_x7 t_x8 t_x9 t_x10 t_x11 t_x12 t_x13 t_x14 t_x15 t_x32 t_x33 t_x34 t_x35 t_x39 t_x40 t_x43 t_x44 t_x48 t_x49 t_x50)), ((t_q 5), .inl (K 1, 1400, .inl (fun j => iI (t_5_c j))))] (fun u => (0 ≤ (u.1 0) ∧ (u.1 0) ≤ 1400 ∧ 0 ≤ (u.1 1) ∧ (u.1 1) ≤ 4 ∧ 0 ≤ (u.1 2) ∧ (u.1 2) ≤ 1400 ∧ (-2147483648) ≤ (u.1 3) ∧ (u.1 3) ≤ 2147483647 ∧ (-9223372036854775808) ≤ (u.1 4) ∧ (u.1 4) ≤ 9223372036854775807 ∧ (t_x7 ≤ (u.1 0)) ∧ ((u.1 0) ≤ t_x6) ∧ ((u.1 1) = 0 ∨ t_x7 < (u.1 0))) ∧ True) (fun u => [(t, .inr (12, oX12 t_q t_x0 t_x6 (u.1 0) (u.1 1) (u.1 2) (u.1 3) (u.1 4) t_x12 t_x13 t_x14 t_x15 t_x32 t_x33 t_x34 t_x35 t_x39 t_x40 t_x43 t_x44 t_x48 t_x49 t_x50)), ((t_q 5), .inl (K 1, 1400, .inl (fun j => iI (t_5_c j))))]) 0 0 := by
  refine g_inV (cc := cX12_next) (maxL := 2) (ret := none) (by decide) rfl (Nat.le_of_ble_eq_true rfl) ?_
  intro p e s m below meth c A ls ag Q B hA hP hD hS hl hQ
  obtain ⟨hx, hb, hr, hml, hts, hown, hlocks, hin, hK⟩ := B
  have hown : s.vm.findClass RX12 = some m.cls := hown
  have hts := fun w h => hts w (List.mem_cons_of_mem _ h)
  have ys_taped : 0 ≤ t_x6 ∧ t_x6 ≤ 1400 := hi_t.2.1
  have ys_at : 0 ≤ t_x7 ∧ t_x7 ≤ 1400 := hi_t.2.2.1
  have ys_token : 0 ≤ t_x8 ∧ t_x8 ≤ 4 := hi_t.2.2.2.1
  have ys_bad : 0 ≤ t_x12 ∧ t_x12 ≤ 3 := hi_t.2.2.2.2.2.2.2.1
  have J294 : ∀ (z294_1 : Int) (f294_t_7 : Int) (f294_t_9 : Int) (H : Heap) (locs : List Loc) (ls : Array Slot), (3 ≤ z294_1 ∧ z294_1 ≤ 4 ∧ 0 ≤ f294_t_7 ∧ f294_t_7 ≤ 1399 ∧ 0 ≤ f294_t_9 ∧ f294_t_9 ≤ 1400 ∧ f294_t_7 < t_x6 ∧ t_x7 ≤ f294_t_7) → va_P D vwCl [(t, .inr (12, oX12 t_q t_x0 t_x6 f294_t_7 t_x8 f294_t_9 0 0 t_x12 t_x13 t_x14 t_x15 t_x32 t_x33 t_x34 t_x35 t_x39 t_x40 t_x43 t_x44 t_x48 t_x49 t_x50)), ((t_q 5), .inl (K 1, 1400, .inl (fun j => iI (t_5_c j))))] H → va_D A [(t, .inr (12, oX12 t_q t_x0 t_x6 f294_t_7 t_x8 f294_t_9 0 0 t_x12 t_x13 t_x14 t_x15 t_x32 t_x33 t_x34 t_x35 t_x39 t_x40 t_x43 t_x44 t_x48 t_x49 t_x50)), ((t_q 5), .inl (K 1, 1400, .inl (fun j => iI (t_5_c j))))] → va_S A s.heap H locs → lv_has ls 2 [(0, .ref t)] → W p l e ({ frames := 8, cells := 0, slots := 0, locals := 200 } : Room) s m ag below meth c H locs 0 0 Q (F0 m 294 ls [.int (iI z294_1), .ref t]) := by
    intro z294_1 f294_t_7 f294_t_9 H locs ls hf294 hP hD hS hl
    refine va_put (D := D) (own := RX12) (ci := 12) (v := .int (iI z294_1)) (ty := .int) (C := RX12) (T := TX12) (N := 51) hx hb hts inb_X12 tyX12 tyX12_ok nmX12 hown hK.1 hP hD hS 0 rfl rfl 8 (by decide) (hts _ wd_1242) (fun _ h9 => h9) rfl (by decide +kernel) rfl rfl (Nat.le_of_ble_eq_true rfl) dX12_next_294 (fun H locs hP hD hS => ?_)
    have hP : va_P D vwCl [(t, .inr (12, oX12 t_q t_x0 t_x6 f294_t_7 z294_1 f294_t_9 0 0 t_x12 t_x13 t_x14 t_x15 t_x32 t_x33 t_x34 t_x35 t_x39 t_x40 t_x43 t_x44 t_x48 t_x49 t_x50)), ((t_q 5), .inl (K 1, 1400, .inl (fun j => iI (t_5_c j))))] H := hP
    have hD : va_D A [(t, .inr (12, oX12 t_q t_x0 t_x6 f294_t_7 z294_1 f294_t_9 0 0 t_x12 t_x13 t_x14 t_x15 t_x32 t_x33 t_x34 t_x35 t_x39 t_x40 t_x43 t_x44 t_x48 t_x49 t_x50)), ((t_q 5), .inl (K 1, 1400, .inl (fun j => iI (t_5_c j))))] := hD
    refine lv_aload_n hx hb dX12_next_297 rfl (lv_at hl 0 rfl) ?_
    refine lv_dup hx hb dX12_next_298 rfl ?_
    refine va_get (D := D) (own := RX12) (ci := 12) (v := .int (iI f294_t_7)) (C := RX12) (T := TX12) (N := 51) hx hb hts inb_X12 hown hK.1 hP 0 rfl rfl 7 (by decide) (hts _ wd_1241) (fun _ h9 => h9) rfl dX12_next_299 ?_
    refine lv_iconst (v := iI 1) hx hb dX12_next_302 rfl ?_
    refine g_iadd hx hb dX12_next_303 ?_
    refine va_put (D := D) (own := RX12) (ci := 12) (v := .int (iI (f294_t_7 + 1))) (ty := .int) (C := RX12) (T := TX12) (N := 51) hx hb hts inb_X12 tyX12 tyX12_ok nmX12 hown hK.1 hP hD hS 0 rfl rfl 7 (by decide) (hts _ wd_1241) (fun _ h9 => h9) rfl (by decide +kernel) rfl rfl (Nat.le_of_ble_eq_true rfl) dX12_next_304 (fun H locs hP hD hS => ?_)
    have hP : va_P D vwCl [(t, .inr (12, oX12 t_q t_x0 t_x6 (f294_t_7 + 1) z294_1 f294_t_9 0 0 t_x12 t_x13 t_x14 t_x15 t_x32 t_x33 t_x34 t_x35 t_x39 t_x40 t_x43 t_x44 t_x48 t_x49 t_x50)), ((t_q 5), .inl (K 1, 1400, .inl (fun j => iI (t_5_c j))))] H := hP
    have hD : va_D A [(t, .inr (12, oX12 t_q t_x0 t_x6 (f294_t_7 + 1) z294_1 f294_t_9 0 0 t_x12 t_x13 t_x14 t_x15 t_x32 t_x33 t_x34 t_x35 t_x39 t_x40 t_x43 t_x44 t_x48 t_x49 t_x50)), ((t_q 5), .inl (K 1, 1400, .inl (fun j => iI (t_5_c j))))] := hD
    rw [hQ]; exact fn_vret hx hb hr hlocks hP hD hS ((fun k => ([f294_t_7 + 1, z294_1, f294_t_9, 0, 0] : List Int).getD k 0), (fun _ _ => 0)) ⟨(by show 0 ≤ (f294_t_7 + 1) ∧ (f294_t_7 + 1) ≤ 1400 ∧ 0 ≤ z294_1 ∧ z294_1 ≤ 4 ∧ 0 ≤ f294_t_9 ∧ f294_t_9 ≤ 1400 ∧ (-2147483648) ≤ 0 ∧ 0 ≤ 2147483647 ∧ (-9223372036854775808) ≤ 0 ∧ 0 ≤ 9223372036854775807 ∧ (t_x7 ≤ (f294_t_7 + 1)) ∧ ((f294_t_7 + 1) ≤ t_x6) ∧ (z294_1 = 0 ∨ t_x7 < (f294_t_7 + 1)); omega), trivial⟩ [0, 1] (by decide) rfl dX12_next_307
  have J208 : ∀ (n : Nat) (f208_t_7 : Int) (f208_t_9 : Int) (f208_t_10 : Int) (H : Heap) (locs : List Loc) (ls : Array Slot), (1400 - f208_t_7).toNat < n → (0 ≤ f208_t_7 ∧ f208_t_7 ≤ 1400 ∧ 0 ≤ f208_t_9 ∧ f208_t_9 ≤ 1400 ∧ (-2147483648) ≤ f208_t_10 ∧ f208_t_10 ≤ 2147483647 ∧ t_x7 ≤ f208_t_7 ∧ f208_t_7 ≤ t_x6 ∧ (t_x7 < f208_t_7 ∨ (f208_t_7 < t_x6 ∧ 48 ≤ t_5_c (Int.toNat f208_t_7) ∧ t_5_c (Int.toNat f208_t_7) ≤ 57))) → va_P D vwCl [(t, .inr (12, oX12 t_q t_x0 t_x6 f208_t_7 2 f208_t_9 f208_t_10 0 t_x12 t_x13 t_x14 t_x15 t_x32 t_x33 t_x34 t_x35 t_x39 t_x40 t_x43 t_x44 t_x48 t_x49 t_x50)), ((t_q 5), .inl (K 1, 1400, .inl (fun j => iI (t_5_c j))))] H → va_D A [(t, .inr (12, oX12 t_q t_x0 t_x6 f208_t_7 2 f208_t_9 f208_t_10 0 t_x12 t_x13 t_x14 t_x15 t_x32 t_x33 t_x34 t_x35 t_x39 t_x40 t_x43 t_x44 t_x48 t_x49 t_x50)), ((t_q 5), .inl (K 1, 1400, .inl (fun j => iI (t_5_c j))))] → va_S A s.heap H locs → lv_has ls 2 [(0, .ref t)] → W p l e ({ frames := 8, cells := 0, slots := 0, locals := 200 } : Room) s m ag below meth c H locs 0 0 Q (F0 m 208 ls []) := by
    intro n
    induction n with
    | zero =>
      intro f208_t_7 f208_t_9 f208_t_10 H locs ls hm208 hf208 hP hD hS hl
      exact absurd hm208 (Nat.not_lt_zero _)
    | succ n ih208 =>
      intro f208_t_7 f208_t_9 f208_t_10 H locs ls hm208 hf208 hP hD hS hl
      have J258 : ∀ (z258_1 : Int) (H : Heap) (locs : List Loc) (ls : Array Slot), ((-2147483648) ≤ z258_1 ∧ z258_1 ≤ 2147483647 ∧ f208_t_7 < t_x6) → va_P D vwCl [(t, .inr (12, oX12 t_q t_x0 t_x6 f208_t_7 2 f208_t_9 f208_t_10 0 t_x12 t_x13 t_x14 t_x15 t_x32 t_x33 t_x34 t_x35 t_x39 t_x40 t_x43 t_x44 t_x48 t_x49 t_x50)), ((t_q 5), .inl (K 1, 1400, .inl (fun j => iI (t_5_c j))))] H → va_D A [(t, .inr (12, oX12 t_q t_x0 t_x6 f208_t_7 2 f208_t_9 f208_t_10 0 t_x12 t_x13 t_x14 t_x15 t_x32 t_x33 t_x34 t_x35 t_x39 t_x40 t_x43 t_x44 t_x48 t_x49 t_x50)), ((t_q 5), .inl (K 1, 1400, .inl (fun j => iI (t_5_c j))))] → va_S A s.heap H locs → lv_has ls 2 [(0, .ref t)] → W p l e ({ frames := 8, cells := 0, slots := 0, locals := 200 } : Room) s m ag below meth c H locs 0 0 Q (F0 m 258 ls [.int (iI z258_1), .ref t]) := by
        intro z258_1 H locs ls hf258 hP hD hS hl
        refine va_put (D := D) (own := RX12) (ci := 12) (v := .int (iI z258_1)) (ty := .int) (C := RX12) (T := TX12) (N := 51) hx hb hts inb_X12 tyX12 tyX12_ok nmX12 hown hK.1 hP hD hS 0 rfl rfl 10 (by decide) (hts _ wd_1244) (fun _ h9 => h9) rfl (by decide +kernel) rfl rfl (Nat.le_of_ble_eq_true rfl) dX12_next_258 (fun H locs hP hD hS => ?_)
        have hP : va_P D vwCl [(t, .inr (12, oX12 t_q t_x0 t_x6 f208_t_7 2 f208_t_9 z258_1 0 t_x12 t_x13 t_x14 t_x15 t_x32 t_x33 t_x34 t_x35 t_x39 t_x40 t_x43 t_x44 t_x48 t_x49 t_x50)), ((t_q 5), .inl (K 1, 1400, .inl (fun j => iI (t_5_c j))))] H := hP
        have hD : va_D A [(t, .inr (12, oX12 t_q t_x0 t_x6 f208_t_7 2 f208_t_9 z258_1 0 t_x12 t_x13 t_x14 t_x15 t_x32 t_x33 t_x34 t_x35 t_x39 t_x40 t_x43 t_x44 t_x48 t_x49 t_x50)), ((t_q 5), .inl (K 1, 1400, .inl (fun j => iI (t_5_c j))))] := hD
        refine lv_aload_n hx hb dX12_next_261 rfl (lv_at hl 0 rfl) ?_
        refine lv_dup hx hb dX12_next_262 rfl ?_
        refine va_get (D := D) (own := RX12) (ci := 12) (v := .int (iI f208_t_7)) (C := RX12) (T := TX12) (N := 51) hx hb hts inb_X12 hown hK.1 hP 0 rfl rfl 7 (by decide) (hts _ wd_1241) (fun _ h9 => h9) rfl dX12_next_263 ?_
        refine lv_iconst (v := iI 1) hx hb dX12_next_266 rfl ?_
        refine g_iadd hx hb dX12_next_267 ?_
        refine va_put (D := D) (own := RX12) (ci := 12) (v := .int (iI (f208_t_7 + 1))) (ty := .int) (C := RX12) (T := TX12) (N := 51) hx hb hts inb_X12 tyX12 tyX12_ok nmX12 hown hK.1 hP hD hS 0 rfl rfl 7 (by decide) (hts _ wd_1241) (fun _ h9 => h9) rfl (by decide +kernel) rfl rfl (Nat.le_of_ble_eq_true rfl) dX12_next_268 (fun H locs hP hD hS => ?_)
        have hP : va_P D vwCl [(t, .inr (12, oX12 t_q t_x0 t_x6 (f208_t_7 + 1) 2 f208_t_9 z258_1 0 t_x12 t_x13 t_x14 t_x15 t_x32 t_x33 t_x34 t_x35 t_x39 t_x40 t_x43 t_x44 t_x48 t_x49 t_x50)), ((t_q 5), .inl (K 1, 1400, .inl (fun j => iI (t_5_c j))))] H := hP
        have hD : va_D A [(t, .inr (12, oX12 t_q t_x0 t_x6 (f208_t_7 + 1) 2 f208_t_9 z258_1 0 t_x12 t_x13 t_x14 t_x15 t_x32 t_x33 t_x34 t_x35 t_x39 t_x40 t_x43 t_x44 t_x48 t_x49 t_x50)), ((t_q 5), .inl (K 1, 1400, .inl (fun j => iI (t_5_c j))))] := hD
        refine lv_goto (tgt := 208) hx hb dX12_next_271 (by decide) ?_
        exact ih208 (f208_t_7 + 1) f208_t_9 z258_1 _ _ ls (by omega) (by omega) (hP.sub [0, 1] rfl) (hD.sub [0, 1] (by decide) rfl) hS (lv_sub hl [0] rfl)
      refine lv_aload_n hx hb dX12_next_208 rfl (lv_at hl 0 rfl) ?_
      refine lv_aload_n hx hb dX12_next_209 rfl (lv_at hl 0 rfl) ?_
      refine va_get (D := D) (own := RX12) (ci := 12) (v := .int (iI f208_t_7)) (C := RX12) (T := TX12) (N := 51) hx hb hts inb_X12 hown hK.1 hP 0 rfl rfl 7 (by decide) (hts _ wd_1241) (fun _ h9 => h9) rfl dX12_next_210 ?_
      refine lv_bipush (v := iI 48) hx hb dX12_next_213 (by decide) ?_
      refine lv_bipush (v := iI 57) hx hb dX12_next_215 (by decide) ?_
      refine fn_goi (wc := [(t, .inr (12, oX12 t_q t_x0 t_x6 f208_t_7 2 f208_t_9 f208_t_10 0 t_x12 t_x13 t_x14 t_x15 t_x32 t_x33 t_x34 t_x35 t_x39 t_x40 t_x43 t_x44 t_x48 t_x49 t_x50)), ((t_q 5), .inl (K 1, 1400, .inl (fun j => iI (t_5_c j))))]) (wr := []) hK hP hD hS hA [0, 1] [] rfl rfl (by decide) (fun hp => va_runV (C := RX12) (As := [.int (iI f208_t_7), .int (iI 48), .int (iI 57)]) (rest := []) ⟨hx, hb, hml, hown, hts⟩ (k_X12_isByte (l := l) (D := D) (K := K) (t := t) (p1 := f208_t_7) (p2 := 48) (p3 := 57) (t_q := t_q) (t_x0 := t_x0) (t_x6 := t_x6) (t_x7 := f208_t_7) (t_x8 := 2) (t_x9 := f208_t_9) (t_x10 := f208_t_10) (t_x11 := 0) (t_x12 := t_x12) (t_x13 := t_x13) (t_x14 := t_x14) (t_x15 := t_x15) (t_x32 := t_x32) (t_x33 := t_x33) (t_x34 := t_x34) (t_x35 := t_x35) (t_x39 := t_x39) (t_x40 := t_x40) (t_x43 := t_x43) (t_x44 := t_x44) (t_x48 := t_x48) (t_x49 := t_x49) (t_x50 := t_x50) (t_5_c := t_5_c) (hp1 := (by omega)) (hp2 := (by omega)) (hp3 := (by omega)) (hi_t := ⟨hi_t.1, hi_t.2.1, (by omega), (by omega), (by omega), (by omega), (by omega), hi_t.2.2.2.2.2.2.2.1, hi_t.2.2.2.2.2.2.2.2.1, hi_t.2.2.2.2.2.2.2.2.2.1, hi_t.2.2.2.2.2.2.2.2.2.2.1, hi_t.2.2.2.2.2.2.2.2.2.2.2.1, hi_t.2.2.2.2.2.2.2.2.2.2.2.2.1, hi_t.2.2.2.2.2.2.2.2.2.2.2.2.2.1, hi_t.2.2.2.2.2.2.2.2.2.2.2.2.2.2.1, hi_t.2.2.2.2.2.2.2.2.2.2.2.2.2.2.2.1, hi_t.2.2.2.2.2.2.2.2.2.2.2.2.2.2.2.2.1, hi_t.2.2.2.2.2.2.2.2.2.2.2.2.2.2.2.2.2.1, hi_t.2.2.2.2.2.2.2.2.2.2.2.2.2.2.2.2.2.2.1, hi_t.2.2.2.2.2.2.2.2.2.2.2.2.2.2.2.2.2.2.2.1, hi_t.2.2.2.2.2.2.2.2.2.2.2.2.2.2.2.2.2.2.2.2.1, hi_t.2.2.2.2.2.2.2.2.2.2.2.2.2.2.2.2.2.2.2.2.2⟩) (hc_t_5 := hc_t_5) _) (cwV 3 hts (fn_ginV (fn_gin wd_1449) wd_1446 wd_1448 wp_99 wd_13) rfl rfl rfl (by decide +kernel) ⟨Nat.le_of_ble_eq_true rfl, Nat.le_of_ble_eq_true rfl⟩) ⟨fn_blind, va_recv hK.1 hP (ci := 12) (q0 := 0) rfl rfl, hp⟩ rfl rfl hl.1 rfl (lv_room (Nat.le_of_ble_eq_true rfl)) dX12_next_217 ⟨Nat.le_of_ble_eq_true rfl, Nat.le_of_ble_eq_true rfl⟩) (fun r217 u217 H locs hwu217 hP hD hS => ?_)
      obtain ⟨u217a, u217b⟩ := u217
      obtain ⟨kr217, rfl, hkr217, hqu2170, -⟩ := hwu217
      have hqu217 : (kr217 = 1 → f208_t_7 < t_x6 ∧ (48 : Int) ≤ t_5_c (Int.toNat f208_t_7) ∧ t_5_c (Int.toNat f208_t_7) ≤ (57 : Int)) ∧ (kr217 = 0 → t_x6 ≤ f208_t_7 ∨ t_5_c (Int.toNat f208_t_7) < (48 : Int) ∨ (57 : Int) < t_5_c (Int.toNat f208_t_7)) := hqu2170
      clear hqu2170
      have hP : va_P D vwCl [(t, .inr (12, oX12 t_q t_x0 t_x6 f208_t_7 2 f208_t_9 f208_t_10 0 t_x12 t_x13 t_x14 t_x15 t_x32 t_x33 t_x34 t_x35 t_x39 t_x40 t_x43 t_x44 t_x48 t_x49 t_x50)), ((t_q 5), .inl (K 1, 1400, .inl (fun j => iI (t_5_c j))))] H := hP
      have hD : va_D A [(t, .inr (12, oX12 t_q t_x0 t_x6 f208_t_7 2 f208_t_9 f208_t_10 0 t_x12 t_x13 t_x14 t_x15 t_x32 t_x33 t_x34 t_x35 t_x39 t_x40 t_x43 t_x44 t_x48 t_x49 t_x50)), ((t_q 5), .inl (K 1, 1400, .inl (fun j => iI (t_5_c j))))] := hD
      refine g_if_eq (tgt := 307) hx hb (by omega) dX12_next_220 (by decide) (fun c220 => ?_) (fun c220 => ?_)
      · rw [hQ]; exact fn_vret hx hb hr hlocks hP hD hS ((fun k => ([f208_t_7, 2, f208_t_9, f208_t_10, 0] : List Int).getD k 0), (fun _ _ => 0)) ⟨(by show 0 ≤ f208_t_7 ∧ f208_t_7 ≤ 1400 ∧ 0 ≤ 2 ∧ 2 ≤ 4 ∧ 0 ≤ f208_t_9 ∧ f208_t_9 ≤ 1400 ∧ (-2147483648) ≤ f208_t_10 ∧ f208_t_10 ≤ 2147483647 ∧ (-9223372036854775808) ≤ 0 ∧ 0 ≤ 9223372036854775807 ∧ (t_x7 ≤ f208_t_7) ∧ (f208_t_7 ≤ t_x6) ∧ ((2 : Int) = 0 ∨ t_x7 < f208_t_7); omega), trivial⟩ [0, 1] (by decide) rfl dX12_next_307
      · refine lv_aload_n hx hb dX12_next_223 rfl (lv_at hl 0 rfl) ?_
        refine lv_aload_n hx hb dX12_next_224 rfl (lv_at hl 0 rfl) ?_
        refine va_get (D := D) (own := RX12) (ci := 12) (v := .int (iI f208_t_10)) (C := RX12) (T := TX12) (N := 51) hx hb hts inb_X12 hown hK.1 hP 0 rfl rfl 10 (by decide) (hts _ wd_1244) (fun _ h9 => h9) rfl dX12_next_225 ?_
        refine lv_ldc (own := RX12) (v := 100000) hx hb hown (hts _ wd_1453) dX12_next_228 ?_
        refine fn_top (iI 100000) (by decide) ?_
        refine g_icmp_le (tgt := 238) hx hb (by omega) (by omega) dX12_next_230 (by decide) (fun c230 => ?_) (fun c230 => ?_)
        · refine lv_bipush (v := iI 10) hx hb dX12_next_238 (by decide) ?_
          refine lv_aload_n hx hb dX12_next_240 rfl (lv_at hl 0 rfl) ?_
          refine va_get (D := D) (own := RX12) (ci := 12) (v := .int (iI f208_t_10)) (C := RX12) (T := TX12) (N := 51) hx hb hts inb_X12 hown hK.1 hP 0 rfl rfl 10 (by decide) (hts _ wd_1244) (fun _ h9 => h9) rfl dX12_next_241 ?_
          refine g_imul hx hb dX12_next_244 ?_
          refine g_any (fun w244 hw244 ew244 => ?_)
          refine lv_aload_n hx hb dX12_next_245 rfl (lv_at hl 0 rfl) ?_
          refine va_get (D := D) (own := RX12) (ci := 12) (v := .ref (t_q 5)) (C := RX12) (T := TX12) (N := 51) hx hb hts inb_X12 hown hK.1 hP 0 rfl rfl 5 (by decide) (hts _ wd_1239) (fun _ h9 => h9) rfl dX12_next_246 ?_
          refine lv_aload_n hx hb dX12_next_249 rfl (lv_at hl 0 rfl) ?_
          refine fn_at 250 rfl ?_
          refine va_get (D := D) (own := RX12) (ci := 12) (v := .int (iI f208_t_7)) (C := RX12) (T := TX12) (N := 51) hx hb hts inb_X12 hown hK.1 hP 0 rfl rfl 7 (by decide) (hts _ wd_1241) (fun _ h9 => h9) rfl dX12_next_250 ?_
          refine g_bald hx hb hK.1 hP 1 1 rfl rfl (by omega) (by omega) (by decide) dX12_next_253 ?_
          have y253 : (-128) ≤ (t_5_c f208_t_7.toNat) ∧ (t_5_c f208_t_7.toNat) ≤ 127 := hc_t_5 f208_t_7.toNat
          refine g_iadd hx hb dX12_next_254 ?_
          refine g_any (fun w254 hw254 ew254 => ?_)
          refine lv_bipush (v := iI 48) hx hb dX12_next_255 (by decide) ?_
          refine g_isub hx hb dX12_next_257 ?_
          refine g_any (fun w257 hw257 ew257 => ?_)
          exact J258 w257 _ _ ls (by omega) (hP.sub [0, 1] rfl) (hD.sub [0, 1] (by decide) rfl) hS (lv_sub hl [0] rfl)
        · refine lv_ldc (own := RX12) (v := 1000000) hx hb hown (hts _ wd_1454) dX12_next_233 ?_
          refine fn_top (iI 1000000) (by decide) ?_
          refine lv_goto (tgt := 258) hx hb dX12_next_235 (by decide) ?_
          exact J258 1000000 _ _ ls (by omega) (hP.sub [0, 1] rfl) (hD.sub [0, 1] (by decide) rfl) hS (lv_sub hl [0] rfl)
  have J102 : ∀ (n : Nat) (x102_1 : Int) (f102_t_7 : Int) (f102_t_9 : Int) (f102_t_11 : Int) (H : Heap) (locs : List Loc) (ls : Array Slot), (1400 - f102_t_7).toNat < n → (0 ≤ x102_1 ∧ x102_1 ≤ 1400 ∧ 0 ≤ f102_t_7 ∧ f102_t_7 ≤ 1400 ∧ 0 ≤ f102_t_9 ∧ f102_t_9 ≤ 1400 ∧ (-9223372036854775808) ≤ f102_t_11 ∧ f102_t_11 ≤ 9223372036854775807 ∧ t_x7 ≤ f102_t_7 ∧ f102_t_7 ≤ t_x6 ∧ (t_x7 < f102_t_7 ∨ (f102_t_7 < t_x6 ∧ 97 ≤ t_5_c (Int.toNat f102_t_7) ∧ t_5_c (Int.toNat f102_t_7) ≤ 122)) ∧ x102_1 ≤ f102_t_7) → va_P D vwCl [(t, .inr (12, oX12 t_q t_x0 t_x6 f102_t_7 1 f102_t_9 0 f102_t_11 t_x12 t_x13 t_x14 t_x15 t_x32 t_x33 t_x34 t_x35 t_x39 t_x40 t_x43 t_x44 t_x48 t_x49 t_x50)), ((t_q 5), .inl (K 1, 1400, .inl (fun j => iI (t_5_c j))))] H → va_D A [(t, .inr (12, oX12 t_q t_x0 t_x6 f102_t_7 1 f102_t_9 0 f102_t_11 t_x12 t_x13 t_x14 t_x15 t_x32 t_x33 t_x34 t_x35 t_x39 t_x40 t_x43 t_x44 t_x48 t_x49 t_x50)), ((t_q 5), .inl (K 1, 1400, .inl (fun j => iI (t_5_c j))))] → va_S A s.heap H locs → lv_has ls 2 [(0, .ref t), (1, .int (iI x102_1))] → W p l e ({ frames := 8, cells := 0, slots := 0, locals := 200 } : Room) s m ag below meth c H locs 0 0 Q (F0 m 102 ls []) := by
    intro n
    induction n with
    | zero =>
      intro x102_1 f102_t_7 f102_t_9 f102_t_11 H locs ls hm102 hf102 hP hD hS hl
      exact absurd hm102 (Nat.not_lt_zero _)
    | succ n ih102 =>
      intro x102_1 f102_t_7 f102_t_9 f102_t_11 H locs ls hm102 hf102 hP hD hS hl
      have J169 : ∀ (f169_t_11 : Int) (H : Heap) (locs : List Loc) (ls : Array Slot), ((-9223372036854775808) ≤ f169_t_11 ∧ f169_t_11 ≤ 9223372036854775807 ∧ f102_t_7 < t_x6) → va_P D vwCl [(t, .inr (12, oX12 t_q t_x0 t_x6 f102_t_7 1 f102_t_9 0 f169_t_11 t_x12 t_x13 t_x14 t_x15 t_x32 t_x33 t_x34 t_x35 t_x39 t_x40 t_x43 t_x44 t_x48 t_x49 t_x50)), ((t_q 5), .inl (K 1, 1400, .inl (fun j => iI (t_5_c j))))] H → va_D A [(t, .inr (12, oX12 t_q t_x0 t_x6 f102_t_7 1 f102_t_9 0 f169_t_11 t_x12 t_x13 t_x14 t_x15 t_x32 t_x33 t_x34 t_x35 t_x39 t_x40 t_x43 t_x44 t_x48 t_x49 t_x50)), ((t_q 5), .inl (K 1, 1400, .inl (fun j => iI (t_5_c j))))] → va_S A s.heap H locs → lv_has ls 2 [(0, .ref t), (1, .int (iI x102_1))] → W p l e ({ frames := 8, cells := 0, slots := 0, locals := 200 } : Room) s m ag below meth c H locs 0 0 Q (F0 m 169 ls []) := by
        intro f169_t_11 H locs ls hf169 hP hD hS hl
        refine lv_aload_n hx hb dX12_next_169 rfl (lv_at hl 0 rfl) ?_
        refine lv_dup hx hb dX12_next_170 rfl ?_
        refine va_get (D := D) (own := RX12) (ci := 12) (v := .int (iI f102_t_7)) (C := RX12) (T := TX12) (N := 51) hx hb hts inb_X12 hown hK.1 hP 0 rfl rfl 7 (by decide) (hts _ wd_1241) (fun _ h9 => h9) rfl dX12_next_171 ?_
        refine lv_iconst (v := iI 1) hx hb dX12_next_174 rfl ?_
        refine g_iadd hx hb dX12_next_175 ?_
        refine va_put (D := D) (own := RX12) (ci := 12) (v := .int (iI (f102_t_7 + 1))) (ty := .int) (C := RX12) (T := TX12) (N := 51) hx hb hts inb_X12 tyX12 tyX12_ok nmX12 hown hK.1 hP hD hS 0 rfl rfl 7 (by decide) (hts _ wd_1241) (fun _ h9 => h9) rfl (by decide +kernel) rfl rfl (Nat.le_of_ble_eq_true rfl) dX12_next_176 (fun H locs hP hD hS => ?_)
        have hP : va_P D vwCl [(t, .inr (12, oX12 t_q t_x0 t_x6 (f102_t_7 + 1) 1 f102_t_9 0 f169_t_11 t_x12 t_x13 t_x14 t_x15 t_x32 t_x33 t_x34 t_x35 t_x39 t_x40 t_x43 t_x44 t_x48 t_x49 t_x50)), ((t_q 5), .inl (K 1, 1400, .inl (fun j => iI (t_5_c j))))] H := hP
        have hD : va_D A [(t, .inr (12, oX12 t_q t_x0 t_x6 (f102_t_7 + 1) 1 f102_t_9 0 f169_t_11 t_x12 t_x13 t_x14 t_x15 t_x32 t_x33 t_x34 t_x35 t_x39 t_x40 t_x43 t_x44 t_x48 t_x49 t_x50)), ((t_q 5), .inl (K 1, 1400, .inl (fun j => iI (t_5_c j))))] := hD
        refine lv_iinc (v := iI (x102_1 + 1)) (lv' := [(1, .int (iI (x102_1 + 1))), (0, .ref t)]) hx hb dX12_next_179 hl (k := 1) rfl (iI_add _ _) (by decide) rfl (fun ls hl => ?_)
        refine lv_goto (tgt := 102) hx hb dX12_next_182 (by decide) ?_
        exact ih102 (x102_1 + 1) (f102_t_7 + 1) f102_t_9 f169_t_11 _ _ ls (by omega) (by omega) (hP.sub [0, 1] rfl) (hD.sub [0, 1] (by decide) rfl) hS (lv_sub hl [1, 0] rfl)
      have J153 : ∀ (z153_1 : Int) (H : Heap) (locs : List Loc) (ls : Array Slot), ((-9223372036854775808) ≤ z153_1 ∧ z153_1 ≤ 9223372036854775807 ∧ f102_t_7 < t_x6) → va_P D vwCl [(t, .inr (12, oX12 t_q t_x0 t_x6 f102_t_7 1 f102_t_9 0 f102_t_11 t_x12 t_x13 t_x14 t_x15 t_x32 t_x33 t_x34 t_x35 t_x39 t_x40 t_x43 t_x44 t_x48 t_x49 t_x50)), ((t_q 5), .inl (K 1, 1400, .inl (fun j => iI (t_5_c j))))] H → va_D A [(t, .inr (12, oX12 t_q t_x0 t_x6 f102_t_7 1 f102_t_9 0 f102_t_11 t_x12 t_x13 t_x14 t_x15 t_x32 t_x33 t_x34 t_x35 t_x39 t_x40 t_x43 t_x44 t_x48 t_x49 t_x50)), ((t_q 5), .inl (K 1, 1400, .inl (fun j => iI (t_5_c j))))] → va_S A s.heap H locs → lv_has ls 2 [(0, .ref t), (1, .int (iI x102_1))] → W p l e ({ frames := 8, cells := 0, slots := 0, locals := 200 } : Room) s m ag below meth c H locs 0 0 Q (F0 m 153 ls [.long (lI z153_1), .ref t]) := by
        intro z153_1 H locs ls hf153 hP hD hS hl
        refine va_put (D := D) (own := RX12) (ci := 12) (v := .long (lI z153_1)) (ty := .long) (C := RX12) (T := TX12) (N := 51) hx hb hts inb_X12 tyX12 tyX12_ok nmX12 hown hK.1 hP hD hS 0 rfl rfl 11 (by decide) (hts _ wd_1245) (fun _ h9 => h9) rfl (by decide +kernel) rfl rfl (Nat.le_of_ble_eq_true rfl) dX12_next_153 (fun H locs hP hD hS => ?_)
        have hP : va_P D vwCl [(t, .inr (12, oX12 t_q t_x0 t_x6 f102_t_7 1 f102_t_9 0 z153_1 t_x12 t_x13 t_x14 t_x15 t_x32 t_x33 t_x34 t_x35 t_x39 t_x40 t_x43 t_x44 t_x48 t_x49 t_x50)), ((t_q 5), .inl (K 1, 1400, .inl (fun j => iI (t_5_c j))))] H := hP
        have hD : va_D A [(t, .inr (12, oX12 t_q t_x0 t_x6 f102_t_7 1 f102_t_9 0 z153_1 t_x12 t_x13 t_x14 t_x15 t_x32 t_x33 t_x34 t_x35 t_x39 t_x40 t_x43 t_x44 t_x48 t_x49 t_x50)), ((t_q 5), .inl (K 1, 1400, .inl (fun j => iI (t_5_c j))))] := hD
        refine lv_iload_n hx hb dX12_next_156 rfl (lv_at hl 1 rfl) ?_
        refine lv_bipush (v := iI 11) hx hb dX12_next_157 (by decide) ?_
        refine g_icmp_le (tgt := 169) hx hb (by omega) (by omega) dX12_next_159 (by decide) (fun c159 => ?_) (fun c159 => ?_)
        · exact J169 z153_1 _ _ ls (by omega) (hP.sub [0, 1] rfl) (hD.sub [0, 1] (by decide) rfl) hS (lv_sub hl [0, 1] rfl)
        · refine lv_aload_n hx hb dX12_next_162 rfl (lv_at hl 0 rfl) ?_
          refine lv_ldc2 (own := RX12) (v := (-1)) hx hb hown (hts _ wd_1450) dX12_next_163 ?_
          refine fn_topl (lI (-1)) (by decide) ?_
          refine va_put (D := D) (own := RX12) (ci := 12) (v := .long (lI (-1))) (ty := .long) (C := RX12) (T := TX12) (N := 51) hx hb hts inb_X12 tyX12 tyX12_ok nmX12 hown hK.1 hP hD hS 0 rfl rfl 11 (by decide) (hts _ wd_1245) (fun _ h9 => h9) rfl (by decide +kernel) rfl rfl (Nat.le_of_ble_eq_true rfl) dX12_next_166 (fun H locs hP hD hS => ?_)
          have hP : va_P D vwCl [(t, .inr (12, oX12 t_q t_x0 t_x6 f102_t_7 1 f102_t_9 0 (-1) t_x12 t_x13 t_x14 t_x15 t_x32 t_x33 t_x34 t_x35 t_x39 t_x40 t_x43 t_x44 t_x48 t_x49 t_x50)), ((t_q 5), .inl (K 1, 1400, .inl (fun j => iI (t_5_c j))))] H := hP
          have hD : va_D A [(t, .inr (12, oX12 t_q t_x0 t_x6 f102_t_7 1 f102_t_9 0 (-1) t_x12 t_x13 t_x14 t_x15 t_x32 t_x33 t_x34 t_x35 t_x39 t_x40 t_x43 t_x44 t_x48 t_x49 t_x50)), ((t_q 5), .inl (K 1, 1400, .inl (fun j => iI (t_5_c j))))] := hD
          exact J169 (-1) _ _ ls (by omega) (hP.sub [0, 1] rfl) (hD.sub [0, 1] (by decide) rfl) hS (lv_sub hl [0, 1] rfl)
      refine lv_aload_n hx hb dX12_next_102 rfl (lv_at hl 0 rfl) ?_
      refine lv_aload_n hx hb dX12_next_103 rfl (lv_at hl 0 rfl) ?_
      refine va_get (D := D) (own := RX12) (ci := 12) (v := .int (iI f102_t_7)) (C := RX12) (T := TX12) (N := 51) hx hb hts inb_X12 hown hK.1 hP 0 rfl rfl 7 (by decide) (hts _ wd_1241) (fun _ h9 => h9) rfl dX12_next_104 ?_
      refine lv_bipush (v := iI 97) hx hb dX12_next_107 (by decide) ?_
      refine lv_bipush (v := iI 122) hx hb dX12_next_109 (by decide) ?_
      refine fn_goi (wc := [(t, .inr (12, oX12 t_q t_x0 t_x6 f102_t_7 1 f102_t_9 0 f102_t_11 t_x12 t_x13 t_x14 t_x15 t_x32 t_x33 t_x34 t_x35 t_x39 t_x40 t_x43 t_x44 t_x48 t_x49 t_x50)), ((t_q 5), .inl (K 1, 1400, .inl (fun j => iI (t_5_c j))))]) (wr := []) hK hP hD hS hA [0, 1] [] rfl rfl (by decide) (fun hp => va_runV (C := RX12) (As := [.int (iI f102_t_7), .int (iI 97), .int (iI 122)]) (rest := []) ⟨hx, hb, hml, hown, hts⟩ (k_X12_isByte (l := l) (D := D) (K := K) (t := t) (p1 := f102_t_7) (p2 := 97) (p3 := 122) (t_q := t_q) (t_x0 := t_x0) (t_x6 := t_x6) (t_x7 := f102_t_7) (t_x8 := 1) (t_x9 := f102_t_9) (t_x10 := 0) (t_x11 := f102_t_11) (t_x12 := t_x12) (t_x13 := t_x13) (t_x14 := t_x14) (t_x15 := t_x15) (t_x32 := t_x32) (t_x33 := t_x33) (t_x34 := t_x34) (t_x35 := t_x35) (t_x39 := t_x39) (t_x40 := t_x40) (t_x43 := t_x43) (t_x44 := t_x44) (t_x48 := t_x48) (t_x49 := t_x49) (t_x50 := t_x50) (t_5_c := t_5_c) (hp1 := (by omega)) (hp2 := (by omega)) (hp3 := (by omega)) (hi_t := ⟨hi_t.1, hi_t.2.1, (by omega), (by omega), (by omega), (by omega), (by omega), hi_t.2.2.2.2.2.2.2.1, hi_t.2.2.2.2.2.2.2.2.1, hi_t.2.2.2.2.2.2.2.2.2.1, hi_t.2.2.2.2.2.2.2.2.2.2.1, hi_t.2.2.2.2.2.2.2.2.2.2.2.1, hi_t.2.2.2.2.2.2.2.2.2.2.2.2.1, hi_t.2.2.2.2.2.2.2.2.2.2.2.2.2.1, hi_t.2.2.2.2.2.2.2.2.2.2.2.2.2.2.1, hi_t.2.2.2.2.2.2.2.2.2.2.2.2.2.2.2.1, hi_t.2.2.2.2.2.2.2.2.2.2.2.2.2.2.2.2.1, hi_t.2.2.2.2.2.2.2.2.2.2.2.2.2.2.2.2.2.1, hi_t.2.2.2.2.2.2.2.2.2.2.2.2.2.2.2.2.2.2.1, hi_t.2.2.2.2.2.2.2.2.2.2.2.2.2.2.2.2.2.2.2.1, hi_t.2.2.2.2.2.2.2.2.2.2.2.2.2.2.2.2.2.2.2.2.1, hi_t.2.2.2.2.2.2.2.2.2.2.2.2.2.2.2.2.2.2.2.2.2⟩) (hc_t_5 := hc_t_5) _) (cwV 3 hts (fn_ginV (fn_gin wd_1449) wd_1446 wd_1448 wp_99 wd_13) rfl rfl rfl (by decide +kernel) ⟨Nat.le_of_ble_eq_true rfl, Nat.le_of_ble_eq_true rfl⟩) ⟨fn_blind, va_recv hK.1 hP (ci := 12) (q0 := 0) rfl rfl, hp⟩ rfl rfl hl.1 rfl (lv_room (Nat.le_of_ble_eq_true rfl)) dX12_next_111 ⟨Nat.le_of_ble_eq_true rfl, Nat.le_of_ble_eq_true rfl⟩) (fun r111 u111 H locs hwu111 hP hD hS => ?_)
      obtain ⟨u111a, u111b⟩ := u111
      obtain ⟨kr111, rfl, hkr111, hqu1110, -⟩ := hwu111
      have hqu111 : (kr111 = 1 → f102_t_7 < t_x6 ∧ (97 : Int) ≤ t_5_c (Int.toNat f102_t_7) ∧ t_5_c (Int.toNat f102_t_7) ≤ (122 : Int)) ∧ (kr111 = 0 → t_x6 ≤ f102_t_7 ∨ t_5_c (Int.toNat f102_t_7) < (97 : Int) ∨ (122 : Int) < t_5_c (Int.toNat f102_t_7)) := hqu1110
      clear hqu1110
      have hP : va_P D vwCl [(t, .inr (12, oX12 t_q t_x0 t_x6 f102_t_7 1 f102_t_9 0 f102_t_11 t_x12 t_x13 t_x14 t_x15 t_x32 t_x33 t_x34 t_x35 t_x39 t_x40 t_x43 t_x44 t_x48 t_x49 t_x50)), ((t_q 5), .inl (K 1, 1400, .inl (fun j => iI (t_5_c j))))] H := hP
      have hD : va_D A [(t, .inr (12, oX12 t_q t_x0 t_x6 f102_t_7 1 f102_t_9 0 f102_t_11 t_x12 t_x13 t_x14 t_x15 t_x32 t_x33 t_x34 t_x35 t_x39 t_x40 t_x43 t_x44 t_x48 t_x49 t_x50)), ((t_q 5), .inl (K 1, 1400, .inl (fun j => iI (t_5_c j))))] := hD
      refine g_if_eq (tgt := 185) hx hb (by omega) dX12_next_114 (by decide) (fun c114 => ?_) (fun c114 => ?_)
      · refine lv_goto (tgt := 307) hx hb dX12_next_185 (by decide) ?_
        rw [hQ]; exact fn_vret hx hb hr hlocks hP hD hS ((fun k => ([f102_t_7, 1, f102_t_9, 0, f102_t_11] : List Int).getD k 0), (fun _ _ => 0)) ⟨(by show 0 ≤ f102_t_7 ∧ f102_t_7 ≤ 1400 ∧ 0 ≤ 1 ∧ 1 ≤ 4 ∧ 0 ≤ f102_t_9 ∧ f102_t_9 ≤ 1400 ∧ (-2147483648) ≤ 0 ∧ 0 ≤ 2147483647 ∧ (-9223372036854775808) ≤ f102_t_11 ∧ f102_t_11 ≤ 9223372036854775807 ∧ (t_x7 ≤ f102_t_7) ∧ (f102_t_7 ≤ t_x6) ∧ ((1 : Int) = 0 ∨ t_x7 < f102_t_7); omega), trivial⟩ [0, 1] (by decide) rfl dX12_next_307
      · refine lv_aload_n hx hb dX12_next_117 rfl (lv_at hl 0 rfl) ?_
        refine lv_iload_n hx hb dX12_next_118 rfl (lv_at hl 1 rfl) ?_
        refine lv_bipush (v := iI 11) hx hb dX12_next_119 (by decide) ?_
        refine g_icmp_le (tgt := 130) hx hb (by omega) (by omega) dX12_next_121 (by decide) (fun c121 => ?_) (fun c121 => ?_)
        · refine lv_ldc2 (own := RX12) (v := 27) hx hb hown (hts _ wd_1451) dX12_next_130 ?_
          refine fn_topl (lI 27) (by decide) ?_
          refine lv_aload_n hx hb dX12_next_133 rfl (lv_at hl 0 rfl) ?_
          refine va_get (D := D) (own := RX12) (ci := 12) (v := .long (lI f102_t_11)) (C := RX12) (T := TX12) (N := 51) hx hb hts inb_X12 hown hK.1 hP 0 rfl rfl 11 (by decide) (hts _ wd_1245) (fun _ h9 => h9) rfl dX12_next_134 ?_
          refine g_lmul hx hb dX12_next_137 ?_
          refine g_anyl (fun w137 hw137 ew137 => ?_)
          refine lv_aload_n hx hb dX12_next_138 rfl (lv_at hl 0 rfl) ?_
          refine va_get (D := D) (own := RX12) (ci := 12) (v := .ref (t_q 5)) (C := RX12) (T := TX12) (N := 51) hx hb hts inb_X12 hown hK.1 hP 0 rfl rfl 5 (by decide) (hts _ wd_1239) (fun _ h9 => h9) rfl dX12_next_139 ?_
          refine lv_aload_n hx hb dX12_next_142 rfl (lv_at hl 0 rfl) ?_
          refine va_get (D := D) (own := RX12) (ci := 12) (v := .int (iI f102_t_7)) (C := RX12) (T := TX12) (N := 51) hx hb hts inb_X12 hown hK.1 hP 0 rfl rfl 7 (by decide) (hts _ wd_1241) (fun _ h9 => h9) rfl dX12_next_143 ?_
          refine fn_at 146 rfl ?_
          refine g_bald hx hb hK.1 hP 1 1 rfl rfl (by omega) (by omega) (by decide) dX12_next_146 ?_
          have y146 : (-128) ≤ (t_5_c f102_t_7.toNat) ∧ (t_5_c f102_t_7.toNat) ≤ 127 := hc_t_5 f102_t_7.toNat
          refine lv_i2l (v := lI (t_5_c f102_t_7.toNat)) hx hb dX12_next_147 (iI_2l (by omega)) ?_
          refine g_ladd hx hb dX12_next_148 ?_
          refine g_anyl (fun w148 hw148 ew148 => ?_)
          refine lv_ldc2 (own := RX12) (v := 96) hx hb hown (hts _ wd_1452) dX12_next_149 ?_
          refine fn_topl (lI 96) (by decide) ?_
          refine g_lsub hx hb dX12_next_152 ?_
          refine g_anyl (fun w152 hw152 ew152 => ?_)
          exact J153 w152 _ _ ls (by omega) (hP.sub [0, 1] rfl) (hD.sub [0, 1] (by decide) rfl) hS (lv_sub hl [0, 1] rfl)
        · refine lv_ldc2 (own := RX12) (v := (-1)) hx hb hown (hts _ wd_1450) dX12_next_124 ?_
          refine fn_topl (lI (-1)) (by decide) ?_
          refine lv_goto (tgt := 153) hx hb dX12_next_127 (by decide) ?_
          exact J153 (-1) _ _ ls (by omega) (hP.sub [0, 1] rfl) (hD.sub [0, 1] (by decide) rfl) hS (lv_sub hl [0, 1] rfl)
  have J0 : ∀ (n : Nat) (f0_t_7 : Int) (H : Heap) (locs : List Loc) (ls : Array Slot), (1400 - f0_t_7).toNat < n → (0 ≤ f0_t_7 ∧ f0_t_7 ≤ 1400 ∧ t_x7 ≤ f0_t_7 ∧ f0_t_7 ≤ t_x6) → va_P D vwCl [(t, .inr (12, oX12 t_q t_x0 t_x6 f0_t_7 t_x8 t_x9 t_x10 t_x11 t_x12 t_x13 t_x14 t_x15 t_x32 t_x33 t_x34 t_x35 t_x39 t_x40 t_x43 t_x44 t_x48 t_x49 t_x50)), ((t_q 5), .inl (K 1, 1400, .inl (fun j => iI (t_5_c j))))] H → va_D A [(t, .inr (12, oX12 t_q t_x0 t_x6 f0_t_7 t_x8 t_x9 t_x10 t_x11 t_x12 t_x13 t_x14 t_x15 t_x32 t_x33 t_x34 t_x35 t_x39 t_x40 t_x43 t_x44 t_x48 t_x49 t_x50)), ((t_q 5), .inl (K 1, 1400, .inl (fun j => iI (t_5_c j))))] → va_S A s.heap H locs → lv_has ls 2 [(0, .ref t)] → W p l e ({ frames := 8, cells := 0, slots := 0, locals := 200 } : Room) s m ag below meth c H locs 0 0 Q (F0 m 0 ls []) := by
    intro n
    induction n with
    | zero =>
      intro f0_t_7 H locs ls hm0 hf0 hP hD hS hl
      exact absurd hm0 (Nat.not_lt_zero _)
    | succ n ih0 =>
      intro f0_t_7 H locs ls hm0 hf0 hP hD hS hl
      have J30 : ∀  (H : Heap) (locs : List Loc) (ls : Array Slot), (f0_t_7 < t_x6) → va_P D vwCl [(t, .inr (12, oX12 t_q t_x0 t_x6 f0_t_7 t_x8 t_x9 t_x10 t_x11 t_x12 t_x13 t_x14 t_x15 t_x32 t_x33 t_x34 t_x35 t_x39 t_x40 t_x43 t_x44 t_x48 t_x49 t_x50)), ((t_q 5), .inl (K 1, 1400, .inl (fun j => iI (t_5_c j))))] H → va_D A [(t, .inr (12, oX12 t_q t_x0 t_x6 f0_t_7 t_x8 t_x9 t_x10 t_x11 t_x12 t_x13 t_x14 t_x15 t_x32 t_x33 t_x34 t_x35 t_x39 t_x40 t_x43 t_x44 t_x48 t_x49 t_x50)), ((t_q 5), .inl (K 1, 1400, .inl (fun j => iI (t_5_c j))))] → va_S A s.heap H locs → lv_has ls 2 [(0, .ref t)] → W p l e ({ frames := 8, cells := 0, slots := 0, locals := 200 } : Room) s m ag below meth c H locs 0 0 Q (F0 m 30 ls []) := by
        intro  H locs ls hf30 hP hD hS hl
        refine lv_aload_n hx hb dX12_next_30 rfl (lv_at hl 0 rfl) ?_
        refine lv_dup hx hb dX12_next_31 rfl ?_
        refine va_get (D := D) (own := RX12) (ci := 12) (v := .int (iI f0_t_7)) (C := RX12) (T := TX12) (N := 51) hx hb hts inb_X12 hown hK.1 hP 0 rfl rfl 7 (by decide) (hts _ wd_1241) (fun _ h9 => h9) rfl dX12_next_32 ?_
        refine lv_iconst (v := iI 1) hx hb dX12_next_35 rfl ?_
        refine g_iadd hx hb dX12_next_36 ?_
        refine va_put (D := D) (own := RX12) (ci := 12) (v := .int (iI (f0_t_7 + 1))) (ty := .int) (C := RX12) (T := TX12) (N := 51) hx hb hts inb_X12 tyX12 tyX12_ok nmX12 hown hK.1 hP hD hS 0 rfl rfl 7 (by decide) (hts _ wd_1241) (fun _ h9 => h9) rfl (by decide +kernel) rfl rfl (Nat.le_of_ble_eq_true rfl) dX12_next_37 (fun H locs hP hD hS => ?_)
        have hP : va_P D vwCl [(t, .inr (12, oX12 t_q t_x0 t_x6 (f0_t_7 + 1) t_x8 t_x9 t_x10 t_x11 t_x12 t_x13 t_x14 t_x15 t_x32 t_x33 t_x34 t_x35 t_x39 t_x40 t_x43 t_x44 t_x48 t_x49 t_x50)), ((t_q 5), .inl (K 1, 1400, .inl (fun j => iI (t_5_c j))))] H := hP
        have hD : va_D A [(t, .inr (12, oX12 t_q t_x0 t_x6 (f0_t_7 + 1) t_x8 t_x9 t_x10 t_x11 t_x12 t_x13 t_x14 t_x15 t_x32 t_x33 t_x34 t_x35 t_x39 t_x40 t_x43 t_x44 t_x48 t_x49 t_x50)), ((t_q 5), .inl (K 1, 1400, .inl (fun j => iI (t_5_c j))))] := hD
        refine lv_goto (tgt := 0) hx hb dX12_next_40 (by decide) ?_
        exact ih0 (f0_t_7 + 1) _ _ ls (by omega) (by omega) (hP.sub [0, 1] rfl) (hD.sub [0, 1] (by decide) rfl) hS (lv_sub hl [0] rfl)
      refine lv_aload_n hx hb dX12_next_0 rfl (lv_at hl 0 rfl) ?_
      refine lv_aload_n hx hb dX12_next_1 rfl (lv_at hl 0 rfl) ?_
      refine va_get (D := D) (own := RX12) (ci := 12) (v := .int (iI f0_t_7)) (C := RX12) (T := TX12) (N := 51) hx hb hts inb_X12 hown hK.1 hP 0 rfl rfl 7 (by decide) (hts _ wd_1241) (fun _ h9 => h9) rfl dX12_next_2 ?_
      refine lv_bipush (v := iI 32) hx hb dX12_next_5 (by decide) ?_
      refine lv_bipush (v := iI 32) hx hb dX12_next_7 (by decide) ?_
      refine fn_goi (wc := [(t, .inr (12, oX12 t_q t_x0 t_x6 f0_t_7 t_x8 t_x9 t_x10 t_x11 t_x12 t_x13 t_x14 t_x15 t_x32 t_x33 t_x34 t_x35 t_x39 t_x40 t_x43 t_x44 t_x48 t_x49 t_x50)), ((t_q 5), .inl (K 1, 1400, .inl (fun j => iI (t_5_c j))))]) (wr := []) hK hP hD hS hA [0, 1] [] rfl rfl (by decide) (fun hp => va_runV (C := RX12) (As := [.int (iI f0_t_7), .int (iI 32), .int (iI 32)]) (rest := []) ⟨hx, hb, hml, hown, hts⟩ (k_X12_isByte (l := l) (D := D) (K := K) (t := t) (p1 := f0_t_7) (p2 := 32) (p3 := 32) (t_q := t_q) (t_x0 := t_x0) (t_x6 := t_x6) (t_x7 := f0_t_7) (t_x8 := t_x8) (t_x9 := t_x9) (t_x10 := t_x10) (t_x11 := t_x11) (t_x12 := t_x12) (t_x13 := t_x13) (t_x14 := t_x14) (t_x15 := t_x15) (t_x32 := t_x32) (t_x33 := t_x33) (t_x34 := t_x34) (t_x35 := t_x35) (t_x39 := t_x39) (t_x40 := t_x40) (t_x43 := t_x43) (t_x44 := t_x44) (t_x48 := t_x48) (t_x49 := t_x49) (t_x50 := t_x50) (t_5_c := t_5_c) (hp1 := (by omega)) (hp2 := (by omega)) (hp3 := (by omega)) (hi_t := ⟨hi_t.1, hi_t.2.1, (by omega), hi_t.2.2.2.1, hi_t.2.2.2.2.1, hi_t.2.2.2.2.2.1, hi_t.2.2.2.2.2.2.1, hi_t.2.2.2.2.2.2.2.1, hi_t.2.2.2.2.2.2.2.2.1, hi_t.2.2.2.2.2.2.2.2.2.1, hi_t.2.2.2.2.2.2.2.2.2.2.1, hi_t.2.2.2.2.2.2.2.2.2.2.2.1, hi_t.2.2.2.2.2.2.2.2.2.2.2.2.1, hi_t.2.2.2.2.2.2.2.2.2.2.2.2.2.1, hi_t.2.2.2.2.2.2.2.2.2.2.2.2.2.2.1, hi_t.2.2.2.2.2.2.2.2.2.2.2.2.2.2.2.1, hi_t.2.2.2.2.2.2.2.2.2.2.2.2.2.2.2.2.1, hi_t.2.2.2.2.2.2.2.2.2.2.2.2.2.2.2.2.2.1, hi_t.2.2.2.2.2.2.2.2.2.2.2.2.2.2.2.2.2.2.1, hi_t.2.2.2.2.2.2.2.2.2.2.2.2.2.2.2.2.2.2.2.1, hi_t.2.2.2.2.2.2.2.2.2.2.2.2.2.2.2.2.2.2.2.2.1, hi_t.2.2.2.2.2.2.2.2.2.2.2.2.2.2.2.2.2.2.2.2.2⟩) (hc_t_5 := hc_t_5) _) (cwV 3 hts (fn_ginV (fn_gin wd_1449) wd_1446 wd_1448 wp_99 wd_13) rfl rfl rfl (by decide +kernel) ⟨Nat.le_of_ble_eq_true rfl, Nat.le_of_ble_eq_true rfl⟩) ⟨fn_blind, va_recv hK.1 hP (ci := 12) (q0 := 0) rfl rfl, hp⟩ rfl rfl hl.1 rfl (lv_room (Nat.le_of_ble_eq_true rfl)) dX12_next_9 ⟨Nat.le_of_ble_eq_true rfl, Nat.le_of_ble_eq_true rfl⟩) (fun r9 u9 H locs hwu9 hP hD hS => ?_)
      obtain ⟨u9a, u9b⟩ := u9
      obtain ⟨kr9, rfl, hkr9, hqu90, -⟩ := hwu9
      have hqu9 : (kr9 = 1 → f0_t_7 < t_x6 ∧ (32 : Int) ≤ t_5_c (Int.toNat f0_t_7) ∧ t_5_c (Int.toNat f0_t_7) ≤ (32 : Int)) ∧ (kr9 = 0 → t_x6 ≤ f0_t_7 ∨ t_5_c (Int.toNat f0_t_7) < (32 : Int) ∨ (32 : Int) < t_5_c (Int.toNat f0_t_7)) := hqu90
      clear hqu90
      have hP : va_P D vwCl [(t, .inr (12, oX12 t_q t_x0 t_x6 f0_t_7 t_x8 t_x9 t_x10 t_x11 t_x12 t_x13 t_x14 t_x15 t_x32 t_x33 t_x34 t_x35 t_x39 t_x40 t_x43 t_x44 t_x48 t_x49 t_x50)), ((t_q 5), .inl (K 1, 1400, .inl (fun j => iI (t_5_c j))))] H := hP
      have hD : va_D A [(t, .inr (12, oX12 t_q t_x0 t_x6 f0_t_7 t_x8 t_x9 t_x10 t_x11 t_x12 t_x13 t_x14 t_x15 t_x32 t_x33 t_x34 t_x35 t_x39 t_x40 t_x43 t_x44 t_x48 t_x49 t_x50)), ((t_q 5), .inl (K 1, 1400, .inl (fun j => iI (t_5_c j))))] := hD
      refine g_if_ne (tgt := 30) hx hb (by omega) dX12_next_12 (by decide) (fun c12 => ?_) (fun c12 => ?_)
      · exact J30  _ _ ls (by omega) (hP.sub [0, 1] rfl) (hD.sub [0, 1] (by decide) rfl) hS (lv_sub hl [0] rfl)
      · refine lv_aload_n hx hb dX12_next_15 rfl (lv_at hl 0 rfl) ?_
        refine lv_aload_n hx hb dX12_next_16 rfl (lv_at hl 0 rfl) ?_
        refine va_get (D := D) (own := RX12) (ci := 12) (v := .int (iI f0_t_7)) (C := RX12) (T := TX12) (N := 51) hx hb hts inb_X12 hown hK.1 hP 0 rfl rfl 7 (by decide) (hts _ wd_1241) (fun _ h9 => h9) rfl dX12_next_17 ?_
        refine lv_bipush (v := iI 10) hx hb dX12_next_20 (by decide) ?_
        refine lv_bipush (v := iI 10) hx hb dX12_next_22 (by decide) ?_
        refine fn_goi (wc := [(t, .inr (12, oX12 t_q t_x0 t_x6 f0_t_7 t_x8 t_x9 t_x10 t_x11 t_x12 t_x13 t_x14 t_x15 t_x32 t_x33 t_x34 t_x35 t_x39 t_x40 t_x43 t_x44 t_x48 t_x49 t_x50)), ((t_q 5), .inl (K 1, 1400, .inl (fun j => iI (t_5_c j))))]) (wr := []) hK hP hD hS hA [0, 1] [] rfl rfl (by decide) (fun hp => va_runV (C := RX12) (As := [.int (iI f0_t_7), .int (iI 10), .int (iI 10)]) (rest := []) ⟨hx, hb, hml, hown, hts⟩ (k_X12_isByte (l := l) (D := D) (K := K) (t := t) (p1 := f0_t_7) (p2 := 10) (p3 := 10) (t_q := t_q) (t_x0 := t_x0) (t_x6 := t_x6) (t_x7 := f0_t_7) (t_x8 := t_x8) (t_x9 := t_x9) (t_x10 := t_x10) (t_x11 := t_x11) (t_x12 := t_x12) (t_x13 := t_x13) (t_x14 := t_x14) (t_x15 := t_x15) (t_x32 := t_x32) (t_x33 := t_x33) (t_x34 := t_x34) (t_x35 := t_x35) (t_x39 := t_x39) (t_x40 := t_x40) (t_x43 := t_x43) (t_x44 := t_x44) (t_x48 := t_x48) (t_x49 := t_x49) (t_x50 := t_x50) (t_5_c := t_5_c) (hp1 := (by omega)) (hp2 := (by omega)) (hp3 := (by omega)) (hi_t := ⟨hi_t.1, hi_t.2.1, (by omega), hi_t.2.2.2.1, hi_t.2.2.2.2.1, hi_t.2.2.2.2.2.1, hi_t.2.2.2.2.2.2.1, hi_t.2.2.2.2.2.2.2.1, hi_t.2.2.2.2.2.2.2.2.1, hi_t.2.2.2.2.2.2.2.2.2.1, hi_t.2.2.2.2.2.2.2.2.2.2.1, hi_t.2.2.2.2.2.2.2.2.2.2.2.1, hi_t.2.2.2.2.2.2.2.2.2.2.2.2.1, hi_t.2.2.2.2.2.2.2.2.2.2.2.2.2.1, hi_t.2.2.2.2.2.2.2.2.2.2.2.2.2.2.1, hi_t.2.2.2.2.2.2.2.2.2.2.2.2.2.2.2.1, hi_t.2.2.2.2.2.2.2.2.2.2.2.2.2.2.2.2.1, hi_t.2.2.2.2.2.2.2.2.2.2.2.2.2.2.2.2.2.1, hi_t.2.2.2.2.2.2.2.2.2.2.2.2.2.2.2.2.2.2.1, hi_t.2.2.2.2.2.2.2.2.2.2.2.2.2.2.2.2.2.2.2.1, hi_t.2.2.2.2.2.2.2.2.2.2.2.2.2.2.2.2.2.2.2.2.1, hi_t.2.2.2.2.2.2.2.2.2.2.2.2.2.2.2.2.2.2.2.2.2⟩) (hc_t_5 := hc_t_5) _) (cwV 3 hts (fn_ginV (fn_gin wd_1449) wd_1446 wd_1448 wp_99 wd_13) rfl rfl rfl (by decide +kernel) ⟨Nat.le_of_ble_eq_true rfl, Nat.le_of_ble_eq_true rfl⟩) ⟨fn_blind, va_recv hK.1 hP (ci := 12) (q0 := 0) rfl rfl, hp⟩ rfl rfl hl.1 rfl (lv_room (Nat.le_of_ble_eq_true rfl)) dX12_next_24 ⟨Nat.le_of_ble_eq_true rfl, Nat.le_of_ble_eq_true rfl⟩) (fun r24 u24 H locs hwu24 hP hD hS => ?_)
        obtain ⟨u24a, u24b⟩ := u24
        obtain ⟨kr24, rfl, hkr24, hqu240, -⟩ := hwu24
        have hqu24 : (kr24 = 1 → f0_t_7 < t_x6 ∧ (10 : Int) ≤ t_5_c (Int.toNat f0_t_7) ∧ t_5_c (Int.toNat f0_t_7) ≤ (10 : Int)) ∧ (kr24 = 0 → t_x6 ≤ f0_t_7 ∨ t_5_c (Int.toNat f0_t_7) < (10 : Int) ∨ (10 : Int) < t_5_c (Int.toNat f0_t_7)) := hqu240
        clear hqu240
        have hP : va_P D vwCl [(t, .inr (12, oX12 t_q t_x0 t_x6 f0_t_7 t_x8 t_x9 t_x10 t_x11 t_x12 t_x13 t_x14 t_x15 t_x32 t_x33 t_x34 t_x35 t_x39 t_x40 t_x43 t_x44 t_x48 t_x49 t_x50)), ((t_q 5), .inl (K 1, 1400, .inl (fun j => iI (t_5_c j))))] H := hP
        have hD : va_D A [(t, .inr (12, oX12 t_q t_x0 t_x6 f0_t_7 t_x8 t_x9 t_x10 t_x11 t_x12 t_x13 t_x14 t_x15 t_x32 t_x33 t_x34 t_x35 t_x39 t_x40 t_x43 t_x44 t_x48 t_x49 t_x50)), ((t_q 5), .inl (K 1, 1400, .inl (fun j => iI (t_5_c j))))] := hD
        refine g_if_eq (tgt := 43) hx hb (by omega) dX12_next_27 (by decide) (fun c27 => ?_) (fun c27 => ?_)
        · refine lv_aload_n hx hb dX12_next_43 rfl (lv_at hl 0 rfl) ?_
          refine lv_aload_n hx hb dX12_next_44 rfl (lv_at hl 0 rfl) ?_
          refine va_get (D := D) (own := RX12) (ci := 12) (v := .int (iI f0_t_7)) (C := RX12) (T := TX12) (N := 51) hx hb hts inb_X12 hown hK.1 hP 0 rfl rfl 7 (by decide) (hts _ wd_1241) (fun _ h9 => h9) rfl dX12_next_45 ?_
          refine va_put (D := D) (own := RX12) (ci := 12) (v := .int (iI f0_t_7)) (ty := .int) (C := RX12) (T := TX12) (N := 51) hx hb hts inb_X12 tyX12 tyX12_ok nmX12 hown hK.1 hP hD hS 0 rfl rfl 9 (by decide) (hts _ wd_1243) (fun _ h9 => h9) rfl (by decide +kernel) rfl rfl (Nat.le_of_ble_eq_true rfl) dX12_next_48 (fun H locs hP hD hS => ?_)
          have hP : va_P D vwCl [(t, .inr (12, oX12 t_q t_x0 t_x6 f0_t_7 t_x8 f0_t_7 t_x10 t_x11 t_x12 t_x13 t_x14 t_x15 t_x32 t_x33 t_x34 t_x35 t_x39 t_x40 t_x43 t_x44 t_x48 t_x49 t_x50)), ((t_q 5), .inl (K 1, 1400, .inl (fun j => iI (t_5_c j))))] H := hP
          have hD : va_D A [(t, .inr (12, oX12 t_q t_x0 t_x6 f0_t_7 t_x8 f0_t_7 t_x10 t_x11 t_x12 t_x13 t_x14 t_x15 t_x32 t_x33 t_x34 t_x35 t_x39 t_x40 t_x43 t_x44 t_x48 t_x49 t_x50)), ((t_q 5), .inl (K 1, 1400, .inl (fun j => iI (t_5_c j))))] := hD
          refine lv_aload_n hx hb dX12_next_51 rfl (lv_at hl 0 rfl) ?_
          refine fn_at 52 rfl ?_
          refine lv_iconst (v := iI 0) hx hb dX12_next_52 rfl ?_
          refine va_put (D := D) (own := RX12) (ci := 12) (v := .int (iI 0)) (ty := .int) (C := RX12) (T := TX12) (N := 51) hx hb hts inb_X12 tyX12 tyX12_ok nmX12 hown hK.1 hP hD hS 0 rfl rfl 10 (by decide) (hts _ wd_1244) (fun _ h9 => h9) rfl (by decide +kernel) rfl rfl (Nat.le_of_ble_eq_true rfl) dX12_next_53 (fun H locs hP hD hS => ?_)
          have hP : va_P D vwCl [(t, .inr (12, oX12 t_q t_x0 t_x6 f0_t_7 t_x8 f0_t_7 0 t_x11 t_x12 t_x13 t_x14 t_x15 t_x32 t_x33 t_x34 t_x35 t_x39 t_x40 t_x43 t_x44 t_x48 t_x49 t_x50)), ((t_q 5), .inl (K 1, 1400, .inl (fun j => iI (t_5_c j))))] H := hP
          have hD : va_D A [(t, .inr (12, oX12 t_q t_x0 t_x6 f0_t_7 t_x8 f0_t_7 0 t_x11 t_x12 t_x13 t_x14 t_x15 t_x32 t_x33 t_x34 t_x35 t_x39 t_x40 t_x43 t_x44 t_x48 t_x49 t_x50)), ((t_q 5), .inl (K 1, 1400, .inl (fun j => iI (t_5_c j))))] := hD
          refine lv_aload_n hx hb dX12_next_56 rfl (lv_at hl 0 rfl) ?_
          refine lv_lconst (v := lI 0) hx hb dX12_next_57 (by decide) ?_
          refine va_put (D := D) (own := RX12) (ci := 12) (v := .long (lI 0)) (ty := .long) (C := RX12) (T := TX12) (N := 51) hx hb hts inb_X12 tyX12 tyX12_ok nmX12 hown hK.1 hP hD hS 0 rfl rfl 11 (by decide) (hts _ wd_1245) (fun _ h9 => h9) rfl (by decide +kernel) rfl rfl (Nat.le_of_ble_eq_true rfl) dX12_next_58 (fun H locs hP hD hS => ?_)
          have hP : va_P D vwCl [(t, .inr (12, oX12 t_q t_x0 t_x6 f0_t_7 t_x8 f0_t_7 0 0 t_x12 t_x13 t_x14 t_x15 t_x32 t_x33 t_x34 t_x35 t_x39 t_x40 t_x43 t_x44 t_x48 t_x49 t_x50)), ((t_q 5), .inl (K 1, 1400, .inl (fun j => iI (t_5_c j))))] H := hP
          have hD : va_D A [(t, .inr (12, oX12 t_q t_x0 t_x6 f0_t_7 t_x8 f0_t_7 0 0 t_x12 t_x13 t_x14 t_x15 t_x32 t_x33 t_x34 t_x35 t_x39 t_x40 t_x43 t_x44 t_x48 t_x49 t_x50)), ((t_q 5), .inl (K 1, 1400, .inl (fun j => iI (t_5_c j))))] := hD
          refine lv_aload_n hx hb dX12_next_61 rfl (lv_at hl 0 rfl) ?_
          refine va_get (D := D) (own := RX12) (ci := 12) (v := .int (iI f0_t_7)) (C := RX12) (T := TX12) (N := 51) hx hb hts inb_X12 hown hK.1 hP 0 rfl rfl 7 (by decide) (hts _ wd_1241) (fun _ h9 => h9) rfl dX12_next_62 ?_
          refine lv_aload_n hx hb dX12_next_65 rfl (lv_at hl 0 rfl) ?_
          refine va_get (D := D) (own := RX12) (ci := 12) (v := .int (iI t_x6)) (C := RX12) (T := TX12) (N := 51) hx hb hts inb_X12 hown hK.1 hP 0 rfl rfl 6 (by decide) (hts _ wd_1240) (fun _ h9 => h9) rfl dX12_next_66 ?_
          have y66_1 : 0 ≤ t_x6 ∧ t_x6 ≤ 1400 := hi_t.2.1
          refine g_icmp_ne (tgt := 80) hx hb (by omega) (by omega) dX12_next_69 (by decide) (fun c69 => ?_) (fun c69 => ?_)
          · refine lv_aload_n hx hb dX12_next_80 rfl (lv_at hl 0 rfl) ?_
            refine lv_aload_n hx hb dX12_next_81 rfl (lv_at hl 0 rfl) ?_
            refine va_get (D := D) (own := RX12) (ci := 12) (v := .int (iI f0_t_7)) (C := RX12) (T := TX12) (N := 51) hx hb hts inb_X12 hown hK.1 hP 0 rfl rfl 7 (by decide) (hts _ wd_1241) (fun _ h9 => h9) rfl dX12_next_82 ?_
            refine lv_bipush (v := iI 97) hx hb dX12_next_85 (by decide) ?_
            refine lv_bipush (v := iI 122) hx hb dX12_next_87 (by decide) ?_
            refine fn_goi (wc := [(t, .inr (12, oX12 t_q t_x0 t_x6 f0_t_7 t_x8 f0_t_7 0 0 t_x12 t_x13 t_x14 t_x15 t_x32 t_x33 t_x34 t_x35 t_x39 t_x40 t_x43 t_x44 t_x48 t_x49 t_x50)), ((t_q 5), .inl (K 1, 1400, .inl (fun j => iI (t_5_c j))))]) (wr := []) hK hP hD hS hA [0, 1] [] rfl rfl (by decide) (fun hp => va_runV (C := RX12) (As := [.int (iI f0_t_7), .int (iI 97), .int (iI 122)]) (rest := []) ⟨hx, hb, hml, hown, hts⟩ (k_X12_isByte (l := l) (D := D) (K := K) (t := t) (p1 := f0_t_7) (p2 := 97) (p3 := 122) (t_q := t_q) (t_x0 := t_x0) (t_x6 := t_x6) (t_x7 := f0_t_7) (t_x8 := t_x8) (t_x9 := f0_t_7) (t_x10 := 0) (t_x11 := 0) (t_x12 := t_x12) (t_x13 := t_x13) (t_x14 := t_x14) (t_x15 := t_x15) (t_x32 := t_x32) (t_x33 := t_x33) (t_x34 := t_x34) (t_x35 := t_x35) (t_x39 := t_x39) (t_x40 := t_x40) (t_x43 := t_x43) (t_x44 := t_x44) (t_x48 := t_x48) (t_x49 := t_x49) (t_x50 := t_x50) (t_5_c := t_5_c) (hp1 := (by omega)) (hp2 := (by omega)) (hp3 := (by omega)) (hi_t := ⟨hi_t.1, hi_t.2.1, (by omega), hi_t.2.2.2.1, (by omega), (by omega), (by omega), hi_t.2.2.2.2.2.2.2.1, hi_t.2.2.2.2.2.2.2.2.1, hi_t.2.2.2.2.2.2.2.2.2.1, hi_t.2.2.2.2.2.2.2.2.2.2.1, hi_t.2.2.2.2.2.2.2.2.2.2.2.1, hi_t.2.2.2.2.2.2.2.2.2.2.2.2.1, hi_t.2.2.2.2.2.2.2.2.2.2.2.2.2.1, hi_t.2.2.2.2.2.2.2.2.2.2.2.2.2.2.1, hi_t.2.2.2.2.2.2.2.2.2.2.2.2.2.2.2.1, hi_t.2.2.2.2.2.2.2.2.2.2.2.2.2.2.2.2.1, hi_t.2.2.2.2.2.2.2.2.2.2.2.2.2.2.2.2.2.1, hi_t.2.2.2.2.2.2.2.2.2.2.2.2.2.2.2.2.2.2.1, hi_t.2.2.2.2.2.2.2.2.2.2.2.2.2.2.2.2.2.2.2.1, hi_t.2.2.2.2.2.2.2.2.2.2.2.2.2.2.2.2.2.2.2.2.1, hi_t.2.2.2.2.2.2.2.2.2.2.2.2.2.2.2.2.2.2.2.2.2⟩) (hc_t_5 := hc_t_5) _) (cwV 3 hts (fn_ginV (fn_gin wd_1449) wd_1446 wd_1448 wp_99 wd_13) rfl rfl rfl (by decide +kernel) ⟨Nat.le_of_ble_eq_true rfl, Nat.le_of_ble_eq_true rfl⟩) ⟨fn_blind, va_recv hK.1 hP (ci := 12) (q0 := 0) rfl rfl, hp⟩ rfl rfl hl.1 rfl (lv_room (Nat.le_of_ble_eq_true rfl)) dX12_next_89 ⟨Nat.le_of_ble_eq_true rfl, Nat.le_of_ble_eq_true rfl⟩) (fun r89 u89 H locs hwu89 hP hD hS => ?_)
            obtain ⟨u89a, u89b⟩ := u89
            obtain ⟨kr89, rfl, hkr89, hqu890, -⟩ := hwu89
            have hqu89 : (kr89 = 1 → f0_t_7 < t_x6 ∧ (97 : Int) ≤ t_5_c (Int.toNat f0_t_7) ∧ t_5_c (Int.toNat f0_t_7) ≤ (122 : Int)) ∧ (kr89 = 0 → t_x6 ≤ f0_t_7 ∨ t_5_c (Int.toNat f0_t_7) < (97 : Int) ∨ (122 : Int) < t_5_c (Int.toNat f0_t_7)) := hqu890
            clear hqu890
            have hP : va_P D vwCl [(t, .inr (12, oX12 t_q t_x0 t_x6 f0_t_7 t_x8 f0_t_7 0 0 t_x12 t_x13 t_x14 t_x15 t_x32 t_x33 t_x34 t_x35 t_x39 t_x40 t_x43 t_x44 t_x48 t_x49 t_x50)), ((t_q 5), .inl (K 1, 1400, .inl (fun j => iI (t_5_c j))))] H := hP
            have hD : va_D A [(t, .inr (12, oX12 t_q t_x0 t_x6 f0_t_7 t_x8 f0_t_7 0 0 t_x12 t_x13 t_x14 t_x15 t_x32 t_x33 t_x34 t_x35 t_x39 t_x40 t_x43 t_x44 t_x48 t_x49 t_x50)), ((t_q 5), .inl (K 1, 1400, .inl (fun j => iI (t_5_c j))))] := hD
            refine g_if_eq (tgt := 188) hx hb (by omega) dX12_next_92 (by decide) (fun c92 => ?_) (fun c92 => ?_)
            · refine lv_aload_n hx hb dX12_next_188 rfl (lv_at hl 0 rfl) ?_
              refine lv_aload_n hx hb dX12_next_189 rfl (lv_at hl 0 rfl) ?_
              refine va_get (D := D) (own := RX12) (ci := 12) (v := .int (iI f0_t_7)) (C := RX12) (T := TX12) (N := 51) hx hb hts inb_X12 hown hK.1 hP 0 rfl rfl 7 (by decide) (hts _ wd_1241) (fun _ h9 => h9) rfl dX12_next_190 ?_
              refine fn_at 193 rfl ?_
              refine lv_bipush (v := iI 48) hx hb dX12_next_193 (by decide) ?_
              refine lv_bipush (v := iI 57) hx hb dX12_next_195 (by decide) ?_
              refine fn_goi (wc := [(t, .inr (12, oX12 t_q t_x0 t_x6 f0_t_7 t_x8 f0_t_7 0 0 t_x12 t_x13 t_x14 t_x15 t_x32 t_x33 t_x34 t_x35 t_x39 t_x40 t_x43 t_x44 t_x48 t_x49 t_x50)), ((t_q 5), .inl (K 1, 1400, .inl (fun j => iI (t_5_c j))))]) (wr := []) hK hP hD hS hA [0, 1] [] rfl rfl (by decide) (fun hp => va_runV (C := RX12) (As := [.int (iI f0_t_7), .int (iI 48), .int (iI 57)]) (rest := []) ⟨hx, hb, hml, hown, hts⟩ (k_X12_isByte (l := l) (D := D) (K := K) (t := t) (p1 := f0_t_7) (p2 := 48) (p3 := 57) (t_q := t_q) (t_x0 := t_x0) (t_x6 := t_x6) (t_x7 := f0_t_7) (t_x8 := t_x8) (t_x9 := f0_t_7) (t_x10 := 0) (t_x11 := 0) (t_x12 := t_x12) (t_x13 := t_x13) (t_x14 := t_x14) (t_x15 := t_x15) (t_x32 := t_x32) (t_x33 := t_x33) (t_x34 := t_x34) (t_x35 := t_x35) (t_x39 := t_x39) (t_x40 := t_x40) (t_x43 := t_x43) (t_x44 := t_x44) (t_x48 := t_x48) (t_x49 := t_x49) (t_x50 := t_x50) (t_5_c := t_5_c) (hp1 := (by omega)) (hp2 := (by omega)) (hp3 := (by omega)) (hi_t := ⟨hi_t.1, hi_t.2.1, (by omega), hi_t.2.2.2.1, (by omega), (by omega), (by omega), hi_t.2.2.2.2.2.2.2.1, hi_t.2.2.2.2.2.2.2.2.1, hi_t.2.2.2.2.2.2.2.2.2.1, hi_t.2.2.2.2.2.2.2.2.2.2.1, hi_t.2.2.2.2.2.2.2.2.2.2.2.1, hi_t.2.2.2.2.2.2.2.2.2.2.2.2.1, hi_t.2.2.2.2.2.2.2.2.2.2.2.2.2.1, hi_t.2.2.2.2.2.2.2.2.2.2.2.2.2.2.1, hi_t.2.2.2.2.2.2.2.2.2.2.2.2.2.2.2.1, hi_t.2.2.2.2.2.2.2.2.2.2.2.2.2.2.2.2.1, hi_t.2.2.2.2.2.2.2.2.2.2.2.2.2.2.2.2.2.1, hi_t.2.2.2.2.2.2.2.2.2.2.2.2.2.2.2.2.2.2.1, hi_t.2.2.2.2.2.2.2.2.2.2.2.2.2.2.2.2.2.2.2.1, hi_t.2.2.2.2.2.2.2.2.2.2.2.2.2.2.2.2.2.2.2.2.1, hi_t.2.2.2.2.2.2.2.2.2.2.2.2.2.2.2.2.2.2.2.2.2⟩) (hc_t_5 := hc_t_5) _) (cwV 3 hts (fn_ginV (fn_gin wd_1449) wd_1446 wd_1448 wp_99 wd_13) rfl rfl rfl (by decide +kernel) ⟨Nat.le_of_ble_eq_true rfl, Nat.le_of_ble_eq_true rfl⟩) ⟨fn_blind, va_recv hK.1 hP (ci := 12) (q0 := 0) rfl rfl, hp⟩ rfl rfl hl.1 rfl (lv_room (Nat.le_of_ble_eq_true rfl)) dX12_next_197 ⟨Nat.le_of_ble_eq_true rfl, Nat.le_of_ble_eq_true rfl⟩) (fun r197 u197 H locs hwu197 hP hD hS => ?_)
              obtain ⟨u197a, u197b⟩ := u197
              obtain ⟨kr197, rfl, hkr197, hqu1970, -⟩ := hwu197
              have hqu197 : (kr197 = 1 → f0_t_7 < t_x6 ∧ (48 : Int) ≤ t_5_c (Int.toNat f0_t_7) ∧ t_5_c (Int.toNat f0_t_7) ≤ (57 : Int)) ∧ (kr197 = 0 → t_x6 ≤ f0_t_7 ∨ t_5_c (Int.toNat f0_t_7) < (48 : Int) ∨ (57 : Int) < t_5_c (Int.toNat f0_t_7)) := hqu1970
              clear hqu1970
              have hP : va_P D vwCl [(t, .inr (12, oX12 t_q t_x0 t_x6 f0_t_7 t_x8 f0_t_7 0 0 t_x12 t_x13 t_x14 t_x15 t_x32 t_x33 t_x34 t_x35 t_x39 t_x40 t_x43 t_x44 t_x48 t_x49 t_x50)), ((t_q 5), .inl (K 1, 1400, .inl (fun j => iI (t_5_c j))))] H := hP
              have hD : va_D A [(t, .inr (12, oX12 t_q t_x0 t_x6 f0_t_7 t_x8 f0_t_7 0 0 t_x12 t_x13 t_x14 t_x15 t_x32 t_x33 t_x34 t_x35 t_x39 t_x40 t_x43 t_x44 t_x48 t_x49 t_x50)), ((t_q 5), .inl (K 1, 1400, .inl (fun j => iI (t_5_c j))))] := hD
              refine g_if_eq (tgt := 274) hx hb (by omega) dX12_next_200 (by decide) (fun c200 => ?_) (fun c200 => ?_)
              · refine lv_aload_n hx hb dX12_next_274 rfl (lv_at hl 0 rfl) ?_
                refine lv_aload_n hx hb dX12_next_275 rfl (lv_at hl 0 rfl) ?_
                refine va_get (D := D) (own := RX12) (ci := 12) (v := .ref (t_q 5)) (C := RX12) (T := TX12) (N := 51) hx hb hts inb_X12 hown hK.1 hP 0 rfl rfl 5 (by decide) (hts _ wd_1239) (fun _ h9 => h9) rfl dX12_next_276 ?_
                refine lv_aload_n hx hb dX12_next_279 rfl (lv_at hl 0 rfl) ?_
                refine va_get (D := D) (own := RX12) (ci := 12) (v := .int (iI f0_t_7)) (C := RX12) (T := TX12) (N := 51) hx hb hts inb_X12 hown hK.1 hP 0 rfl rfl 7 (by decide) (hts _ wd_1241) (fun _ h9 => h9) rfl dX12_next_280 ?_
                refine g_bald hx hb hK.1 hP 1 1 rfl rfl (by omega) (by omega) (by decide) dX12_next_283 ?_
                have y283 : (-128) ≤ (t_5_c f0_t_7.toNat) ∧ (t_5_c f0_t_7.toNat) ≤ 127 := hc_t_5 f0_t_7.toNat
                refine lv_bipush (v := iI 59) hx hb dX12_next_284 (by decide) ?_
                refine g_icmp_ne (tgt := 293) hx hb (by omega) (by omega) dX12_next_286 (by decide) (fun c286 => ?_) (fun c286 => ?_)
                · refine lv_iconst (v := iI 4) hx hb dX12_next_293 rfl ?_
                  exact J294 4 f0_t_7 f0_t_7 _ _ ls (by omega) (hP.sub [0, 1] rfl) (hD.sub [0, 1] (by decide) rfl) hS (lv_sub hl [0] rfl)
                · refine lv_iconst (v := iI 3) hx hb dX12_next_289 rfl ?_
                  refine lv_goto (tgt := 294) hx hb dX12_next_290 (by decide) ?_
                  exact J294 3 f0_t_7 f0_t_7 _ _ ls (by omega) (hP.sub [0, 1] rfl) (hD.sub [0, 1] (by decide) rfl) hS (lv_sub hl [0] rfl)
              · refine lv_aload_n hx hb dX12_next_203 rfl (lv_at hl 0 rfl) ?_
                refine lv_iconst (v := iI 2) hx hb dX12_next_204 rfl ?_
                refine va_put (D := D) (own := RX12) (ci := 12) (v := .int (iI 2)) (ty := .int) (C := RX12) (T := TX12) (N := 51) hx hb hts inb_X12 tyX12 tyX12_ok nmX12 hown hK.1 hP hD hS 0 rfl rfl 8 (by decide) (hts _ wd_1242) (fun _ h9 => h9) rfl (by decide +kernel) rfl rfl (Nat.le_of_ble_eq_true rfl) dX12_next_205 (fun H locs hP hD hS => ?_)
                have hP : va_P D vwCl [(t, .inr (12, oX12 t_q t_x0 t_x6 f0_t_7 2 f0_t_7 0 0 t_x12 t_x13 t_x14 t_x15 t_x32 t_x33 t_x34 t_x35 t_x39 t_x40 t_x43 t_x44 t_x48 t_x49 t_x50)), ((t_q 5), .inl (K 1, 1400, .inl (fun j => iI (t_5_c j))))] H := hP
                have hD : va_D A [(t, .inr (12, oX12 t_q t_x0 t_x6 f0_t_7 2 f0_t_7 0 0 t_x12 t_x13 t_x14 t_x15 t_x32 t_x33 t_x34 t_x35 t_x39 t_x40 t_x43 t_x44 t_x48 t_x49 t_x50)), ((t_q 5), .inl (K 1, 1400, .inl (fun j => iI (t_5_c j))))] := hD
                exact J208 _ f0_t_7 f0_t_7 0 _ _ ls (Nat.lt_succ_self _) (by omega) (hP.sub [0, 1] rfl) (hD.sub [0, 1] (by decide) rfl) hS (lv_sub hl [0] rfl)
            · refine lv_aload_n hx hb dX12_next_95 rfl (lv_at hl 0 rfl) ?_
              refine lv_iconst (v := iI 1) hx hb dX12_next_96 rfl ?_
              refine va_put (D := D) (own := RX12) (ci := 12) (v := .int (iI 1)) (ty := .int) (C := RX12) (T := TX12) (N := 51) hx hb hts inb_X12 tyX12 tyX12_ok nmX12 hown hK.1 hP hD hS 0 rfl rfl 8 (by decide) (hts _ wd_1242) (fun _ h9 => h9) rfl (by decide +kernel) rfl rfl (Nat.le_of_ble_eq_true rfl) dX12_next_97 (fun H locs hP hD hS => ?_)
              have hP : va_P D vwCl [(t, .inr (12, oX12 t_q t_x0 t_x6 f0_t_7 1 f0_t_7 0 0 t_x12 t_x13 t_x14 t_x15 t_x32 t_x33 t_x34 t_x35 t_x39 t_x40 t_x43 t_x44 t_x48 t_x49 t_x50)), ((t_q 5), .inl (K 1, 1400, .inl (fun j => iI (t_5_c j))))] H := hP
              have hD : va_D A [(t, .inr (12, oX12 t_q t_x0 t_x6 f0_t_7 1 f0_t_7 0 0 t_x12 t_x13 t_x14 t_x15 t_x32 t_x33 t_x34 t_x35 t_x39 t_x40 t_x43 t_x44 t_x48 t_x49 t_x50)), ((t_q 5), .inl (K 1, 1400, .inl (fun j => iI (t_5_c j))))] := hD
              refine fn_at 100 rfl ?_
              refine lv_iconst (v := iI 0) hx hb dX12_next_100 rfl ?_
              refine lv_istore_n (lv' := [(1, .int (iI 0)), (0, .ref t)]) hx hb dX12_next_101 rfl hl (by decide) rfl (fun ls hl => ?_)
              exact J102 _ 0 f0_t_7 f0_t_7 0 _ _ ls (Nat.lt_succ_self _) (by omega) (hP.sub [0, 1] rfl) (hD.sub [0, 1] (by decide) rfl) hS (lv_sub hl [1, 0] rfl)
          · refine lv_aload_n hx hb dX12_next_72 rfl (lv_at hl 0 rfl) ?_
            refine lv_iconst (v := iI 0) hx hb dX12_next_73 rfl ?_
            refine va_put (D := D) (own := RX12) (ci := 12) (v := .int (iI 0)) (ty := .int) (C := RX12) (T := TX12) (N := 51) hx hb hts inb_X12 tyX12 tyX12_ok nmX12 hown hK.1 hP hD hS 0 rfl rfl 8 (by decide) (hts _ wd_1242) (fun _ h9 => h9) rfl (by decide +kernel) rfl rfl (Nat.le_of_ble_eq_true rfl) dX12_next_74 (fun H locs hP hD hS => ?_)
            have hP : va_P D vwCl [(t, .inr (12, oX12 t_q t_x0 t_x6 f0_t_7 0 f0_t_7 0 0 t_x12 t_x13 t_x14 t_x15 t_x32 t_x33 t_x34 t_x35 t_x39 t_x40 t_x43 t_x44 t_x48 t_x49 t_x50)), ((t_q 5), .inl (K 1, 1400, .inl (fun j => iI (t_5_c j))))] H := hP
            have hD : va_D A [(t, .inr (12, oX12 t_q t_x0 t_x6 f0_t_7 0 f0_t_7 0 0 t_x12 t_x13 t_x14 t_x15 t_x32 t_x33 t_x34 t_x35 t_x39 t_x40 t_x43 t_x44 t_x48 t_x49 t_x50)), ((t_q 5), .inl (K 1, 1400, .inl (fun j => iI (t_5_c j))))] := hD
            refine lv_goto (tgt := 307) hx hb dX12_next_77 (by decide) ?_
            rw [hQ]; exact fn_vret hx hb hr hlocks hP hD hS ((fun k => ([f0_t_7, 0, f0_t_7, 0, 0] : List Int).getD k 0), (fun _ _ => 0)) ⟨(by show 0 ≤ f0_t_7 ∧ f0_t_7 ≤ 1400 ∧ 0 ≤ 0 ∧ 0 ≤ 4 ∧ 0 ≤ f0_t_7 ∧ f0_t_7 ≤ 1400 ∧ (-2147483648) ≤ 0 ∧ 0 ≤ 2147483647 ∧ (-9223372036854775808) ≤ 0 ∧ 0 ≤ 9223372036854775807 ∧ (t_x7 ≤ f0_t_7) ∧ (f0_t_7 ≤ t_x6) ∧ ((0 : Int) = 0 ∨ t_x7 < f0_t_7); omega), trivial⟩ [0, 1] (by decide) rfl dX12_next_307
        · exact J30  _ _ ls (by omega) (hP.sub [0, 1] rfl) (hD.sub [0, 1] (by decide) rfl) hS (lv_sub hl [0] rfl)
  have hl : lv_has ls 2 [(0, .ref t)] := hl
  have y0_1 : 0 ≤ t_x7 ∧ t_x7 ≤ 1400 := hi_t.2.2.1
  exact J0 _ t_x7 _ _ ls (Nat.lt_succ_self _) (by omega) (hP.sub [0, 1] rfl) (hD.sub [0, 1] (by decide) rfl) hS (lv_sub hl [0] rfl)
theorem wd_1246 : Cond.fieldLink "FootNotesModel" 156 "FootNotesModel" "bad" "I" ∈ fn_big := fn_tb (fn_l6 (List.mem_of_getElem? (i := 46) (by decide +kernel))) (by decide +kernel)
theorem dX12_isGood_0 : decode cX12_isGood 0 = .ok (.aload_n 0, 1) := by decide +kernel
theorem dX12_isGood_1 : decode cX12_isGood 1 = .ok (.getfield 156, 3) := by decide +kernel
theorem dX12_isGood_4 : decode cX12_isGood 4 = .ok (.ifCond .ne 7, 3) := by decide +kernel
theorem dX12_isGood_11 : decode cX12_isGood 11 = .ok (.iconst 0, 1) := by decide +kernel
theorem dX12_isGood_12 : decode cX12_isGood 12 = .ok (.ireturn, 1) := by decide +kernel
theorem dX12_isGood_7 : decode cX12_isGood 7 = .ok (.iconst 1, 1) := by decide +kernel
theorem dX12_isGood_8 : decode cX12_isGood 8 = .ok (.goto 4, 3) := by decide +kernel
set_option maxHeartbeats 4000000 in
set_option maxRecDepth 100000 in
theorem k_X12_isGood (l : Launch) (D : va_G) (K : Nat → ClassId) (t : Nat) (t_q : Nat → Nat) (t_x0 t_x6 t_x7 t_x8 t_x9 t_x10 t_x11 t_x12 t_x13 t_x14 t_x15 t_x32 t_x33 t_x34 t_x35 t_x39 t_x40 t_x43 t_x44 t_x48 t_x49 t_x50 : Int) (hi_t : bM12 t_x0 t_x6 t_x7 t_x8 t_x9 t_x10 t_x11 t_x12 t_x13 t_x14 t_x15 t_x32 t_x33 t_x34 t_x35 t_x39 t_x40 t_x43 t_x44 t_x48 t_x49 t_x50) : fn_CI (S := (Nat → Int) × (Nat → Nat → Int)) l D K yX12_isGood (fn_ws yX12_isGood cX12_isGood 1 (some .boolean)) ({ frames := 4, cells := 0, slots := 0, locals := 100 } : Room) [.ref t] [(t, .inr (12, oX12 t_q t_x0 t_x6 t_x7 t_x8 t_x9 t_x10 t_x11 t_x12 t_x13 t_x14 t_x15 t_x32 t_x33 t_x34 t_x35 t_x39 t_x40 t_x43 t_x44 t_x48 t_x49 t_x50))] (fun r u => ∃ k : Int, r = iI k ∧ (0 ≤ k ∧ k ≤ 1) ∧ ((k = 1 → t_x12 = 0) ∧ (k = 0 → t_x12 ≠ 0)) ∧ True) (fun u => [(t, .inr (12, oX12 t_q t_x0 t_x6 t_x7 t_x8 t_x9 t_x10 t_x11 t_x12 t_x13 t_x14 t_x15 t_x32 t_x33 t_x34 t_x35 t_x39 t_x40 t_x43 t_x44 t_x48 t_x49 t_x50))]) 0 0 := by
  refine g_inI (cc := cX12_isGood) (maxL := 1) (ret := (some .boolean)) (by decide) rfl (Nat.le_of_ble_eq_true rfl) ?_
  intro p e s m below meth c A ls ag Q B hA hP hD hS hl hQ
  obtain ⟨hx, hb, hr, hml, hts, hown, hlocks, hin, hK⟩ := B
  have hown : s.vm.findClass RX12 = some m.cls := hown
  have hts := fun w h => hts w (List.mem_cons_of_mem _ h)
  have hl : lv_has ls 1 [(0, .ref t)] := hl
  refine lv_aload_n hx hb dX12_isGood_0 rfl (lv_at hl 0 rfl) ?_
  refine va_get (D := D) (own := RX12) (ci := 12) (v := .int (iI t_x12)) (C := RX12) (T := TX12) (N := 51) hx hb hts inb_X12 hown hK.1 hP 0 rfl rfl 12 (by decide) (hts _ wd_1246) (fun _ h9 => h9) rfl dX12_isGood_1 ?_
  have y1_1 : 0 ≤ t_x12 ∧ t_x12 ≤ 3 := hi_t.2.2.2.2.2.2.2.1
  refine g_if_ne (tgt := 11) hx hb (by omega) dX12_isGood_4 (by decide) (fun c4 => ?_) (fun c4 => ?_)
  · refine lv_iconst (v := iI 0) hx hb dX12_isGood_11 rfl ?_
    rw [hQ]; exact fn_iret hx hb hr hlocks (iI_nz (by omega)) hP hD hS ((fun _ => 0), (fun _ _ => 0)) ⟨0, rfl, by omega, (by show ((0 : Int) = 1 → t_x12 = 0) ∧ ((0 : Int) = 0 → t_x12 ≠ 0); omega), trivial⟩ [0] (by decide) rfl dX12_isGood_12
  · refine lv_iconst (v := iI 1) hx hb dX12_isGood_7 rfl ?_
    refine lv_goto (tgt := 12) hx hb dX12_isGood_8 (by decide) ?_
    rw [hQ]; exact fn_iret hx hb hr hlocks (iI_nz (by omega)) hP hD hS ((fun _ => 0), (fun _ _ => 0)) ⟨1, rfl, by omega, (by show ((1 : Int) = 1 → t_x12 = 0) ∧ ((1 : Int) = 0 → t_x12 ≠ 0); omega), trivial⟩ [0] (by decide) rfl dX12_isGood_12
theorem wd_1247 : Cond.fieldLink "FootNotesModel" 159 "FootNotesModel" "badPlace" "I" ∈ fn_big := fn_tb (fn_l6 (List.mem_of_getElem? (i := 47) (by decide +kernel))) (by decide +kernel)
theorem dX12_fails_0 : decode cX12_fails 0 = .ok (.aload_n 0, 1) := by decide +kernel
theorem dX12_fails_1 : decode cX12_fails 1 = .ok (.getfield 156, 3) := by decide +kernel
theorem dX12_fails_4 : decode cX12_fails 4 = .ok (.ifCond .eq 4, 3) := by decide +kernel
theorem dX12_fails_8 : decode cX12_fails 8 = .ok (.aload_n 0, 1) := by decide +kernel
theorem dX12_fails_9 : decode cX12_fails 9 = .ok (.iload_n 1, 1) := by decide +kernel
theorem dX12_fails_10 : decode cX12_fails 10 = .ok (.putfield 156, 3) := by decide +kernel
theorem dX12_fails_13 : decode cX12_fails 13 = .ok (.aload_n 0, 1) := by decide +kernel
theorem dX12_fails_14 : decode cX12_fails 14 = .ok (.aload_n 0, 1) := by decide +kernel
theorem dX12_fails_15 : decode cX12_fails 15 = .ok (.getfield 135, 3) := by decide +kernel
theorem dX12_fails_18 : decode cX12_fails 18 = .ok (.putfield 159, 3) := by decide +kernel
theorem dX12_fails_21 : decode cX12_fails 21 = .ok (.return_, 1) := by decide +kernel
theorem dX12_fails_7 : decode cX12_fails 7 = .ok (.return_, 1) := by decide +kernel
set_option maxHeartbeats 4000000 in
set_option maxRecDepth 100000 in
theorem k_X12_fails (l : Launch) (D : va_G) (K : Nat → ClassId) (t : Nat) (t_q : Nat → Nat) (p1 t_x0 t_x6 t_x7 t_x8 t_x9 t_x10 t_x11 t_x12 t_x13 t_x14 t_x15 t_x32 t_x33 t_x34 t_x35 t_x39 t_x40 t_x43 t_x44 t_x48 t_x49 t_x50 : Int) (hp1 : 1 ≤ p1 ∧ p1 ≤ 3) (hi_t : bM12 t_x0 t_x6 t_x7 t_x8 t_x9 t_x10 t_x11 t_x12 t_x13 t_x14 t_x15 t_x32 t_x33 t_x34 t_x35 t_x39 t_x40 t_x43 t_x44 t_x48 t_x49 t_x50) : fn_CV (S := (Nat → Int) × (Nat → Nat → Int)) l D K yX12_fails (fn_ws yX12_fails cX12_fails 2 none) ({ frames := 4, cells := 0, slots := 0, locals := 100 } : Room) [.ref t, .int (iI p1)] [(t, .inr (12, oX12 t_q t_x0 t_x6 t_x7 t_x8 t_x9 t_x10 t_x11 t_x12 t_x13 t_x14 t_x15 t_x32 t_x33 t_x34 t_x35 t_x39 t_x40 t_x43 t_x44 t_x48 t_x49 t_x50))] (fun u => (0 ≤ (u.1 0) ∧ (u.1 0) ≤ 3 ∧ (-2147483648) ≤ (u.1 1) ∧ (u.1 1) ≤ 2147483647 ∧ ((t_x12 ≠ 0 ∧ (u.1 0) = t_x12) ∨ (t_x12 = 0 ∧ (u.1 0) = p1))) ∧ True) (fun u => [(t, .inr (12, oX12 t_q t_x0 t_x6 t_x7 t_x8 t_x9 t_x10 t_x11 (u.1 0) (u.1 1) t_x14 t_x15 t_x32 t_x33 t_x34 t_x35 t_x39 t_x40 t_x43 t_x44 t_x48 t_x49 t_x50))]) 0 0 := by
  refine g_inV (cc := cX12_fails) (maxL := 2) (ret := none) (by decide) rfl (Nat.le_of_ble_eq_true rfl) ?_
  intro p e s m below meth c A ls ag Q B hA hP hD hS hl hQ
  obtain ⟨hx, hb, hr, hml, hts, hown, hlocks, hin, hK⟩ := B
  have hown : s.vm.findClass RX12 = some m.cls := hown
  have hts := fun w h => hts w (List.mem_cons_of_mem _ h)
  have hl : lv_has ls 2 [(0, .ref t), (1, .int (iI p1))] := hl
  refine lv_aload_n hx hb dX12_fails_0 rfl (lv_at hl 0 rfl) ?_
  refine va_get (D := D) (own := RX12) (ci := 12) (v := .int (iI t_x12)) (C := RX12) (T := TX12) (N := 51) hx hb hts inb_X12 hown hK.1 hP 0 rfl rfl 12 (by decide) (hts _ wd_1246) (fun _ h9 => h9) rfl dX12_fails_1 ?_
  have y1_1 : 0 ≤ t_x12 ∧ t_x12 ≤ 3 := hi_t.2.2.2.2.2.2.2.1
  refine g_if_eq (tgt := 8) hx hb (by omega) dX12_fails_4 (by decide) (fun c4 => ?_) (fun c4 => ?_)
  · refine lv_aload_n hx hb dX12_fails_8 rfl (lv_at hl 0 rfl) ?_
    refine lv_iload_n hx hb dX12_fails_9 rfl (lv_at hl 1 rfl) ?_
    refine va_put (D := D) (own := RX12) (ci := 12) (v := .int (iI p1)) (ty := .int) (C := RX12) (T := TX12) (N := 51) hx hb hts inb_X12 tyX12 tyX12_ok nmX12 hown hK.1 hP hD hS 0 rfl rfl 12 (by decide) (hts _ wd_1246) (fun _ h9 => h9) rfl (by decide +kernel) rfl rfl (Nat.le_of_ble_eq_true rfl) dX12_fails_10 (fun H locs hP hD hS => ?_)
    have hP : va_P D vwCl [(t, .inr (12, oX12 t_q t_x0 t_x6 t_x7 t_x8 t_x9 t_x10 t_x11 p1 t_x13 t_x14 t_x15 t_x32 t_x33 t_x34 t_x35 t_x39 t_x40 t_x43 t_x44 t_x48 t_x49 t_x50))] H := hP
    have hD : va_D A [(t, .inr (12, oX12 t_q t_x0 t_x6 t_x7 t_x8 t_x9 t_x10 t_x11 p1 t_x13 t_x14 t_x15 t_x32 t_x33 t_x34 t_x35 t_x39 t_x40 t_x43 t_x44 t_x48 t_x49 t_x50))] := hD
    refine lv_aload_n hx hb dX12_fails_13 rfl (lv_at hl 0 rfl) ?_
    refine lv_aload_n hx hb dX12_fails_14 rfl (lv_at hl 0 rfl) ?_
    refine va_get (D := D) (own := RX12) (ci := 12) (v := .int (iI t_x9)) (C := RX12) (T := TX12) (N := 51) hx hb hts inb_X12 hown hK.1 hP 0 rfl rfl 9 (by decide) (hts _ wd_1243) (fun _ h9 => h9) rfl dX12_fails_15 ?_
    have y15_2 : 0 ≤ t_x9 ∧ t_x9 ≤ 1400 := hi_t.2.2.2.2.1
    refine va_put (D := D) (own := RX12) (ci := 12) (v := .int (iI t_x9)) (ty := .int) (C := RX12) (T := TX12) (N := 51) hx hb hts inb_X12 tyX12 tyX12_ok nmX12 hown hK.1 hP hD hS 0 rfl rfl 13 (by decide) (hts _ wd_1247) (fun _ h9 => h9) rfl (by decide +kernel) rfl rfl (Nat.le_of_ble_eq_true rfl) dX12_fails_18 (fun H locs hP hD hS => ?_)
    have hP : va_P D vwCl [(t, .inr (12, oX12 t_q t_x0 t_x6 t_x7 t_x8 t_x9 t_x10 t_x11 p1 t_x9 t_x14 t_x15 t_x32 t_x33 t_x34 t_x35 t_x39 t_x40 t_x43 t_x44 t_x48 t_x49 t_x50))] H := hP
    have hD : va_D A [(t, .inr (12, oX12 t_q t_x0 t_x6 t_x7 t_x8 t_x9 t_x10 t_x11 p1 t_x9 t_x14 t_x15 t_x32 t_x33 t_x34 t_x35 t_x39 t_x40 t_x43 t_x44 t_x48 t_x49 t_x50))] := hD
    rw [hQ]; exact fn_vret hx hb hr hlocks hP hD hS ((fun k => ([p1, t_x9] : List Int).getD k 0), (fun _ _ => 0)) ⟨(by show 0 ≤ p1 ∧ p1 ≤ 3 ∧ (-2147483648) ≤ t_x9 ∧ t_x9 ≤ 2147483647 ∧ ((t_x12 ≠ 0 ∧ p1 = t_x12) ∨ (t_x12 = 0 ∧ p1 = p1)); omega), trivial⟩ [0] (by decide) rfl dX12_fails_21
  · have y7_2 : (-2147483648) ≤ t_x13 ∧ t_x13 ≤ 2147483647 := hi_t.2.2.2.2.2.2.2.2.1
    rw [hQ]; exact fn_vret hx hb hr hlocks hP hD hS ((fun k => ([t_x12, t_x13] : List Int).getD k 0), (fun _ _ => 0)) ⟨(by show 0 ≤ t_x12 ∧ t_x12 ≤ 3 ∧ (-2147483648) ≤ t_x13 ∧ t_x13 ≤ 2147483647 ∧ ((t_x12 ≠ 0 ∧ t_x12 = t_x12) ∨ (t_x12 = 0 ∧ t_x12 = p1)); omega), trivial⟩ [0] (by decide) rfl dX12_fails_7
theorem dX12_is_0 : decode cX12_is 0 = .ok (.aload_n 0, 1) := by decide +kernel
theorem dX12_is_1 : decode cX12_is 1 = .ok (.getfield 156, 3) := by decide +kernel
theorem dX12_is_4 : decode cX12_is 4 = .ok (.ifCond .ne 24, 3) := by decide +kernel
theorem dX12_is_28 : decode cX12_is 28 = .ok (.iconst 0, 1) := by decide +kernel
theorem dX12_is_29 : decode cX12_is 29 = .ok (.ireturn, 1) := by decide +kernel
theorem dX12_is_7 : decode cX12_is 7 = .ok (.aload_n 0, 1) := by decide +kernel
theorem dX12_is_8 : decode cX12_is 8 = .ok (.getfield 145, 3) := by decide +kernel
theorem dX12_is_11 : decode cX12_is 11 = .ok (.iconst 1, 1) := by decide +kernel
theorem dX12_is_12 : decode cX12_is 12 = .ok (.if_icmp .ne 16, 3) := by decide +kernel
theorem dX12_is_15 : decode cX12_is 15 = .ok (.aload_n 0, 1) := by decide +kernel
theorem dX12_is_16 : decode cX12_is 16 = .ok (.getfield 141, 3) := by decide +kernel
theorem dX12_is_19 : decode cX12_is 19 = .ok (.lload_n 1, 1) := by decide +kernel
theorem dX12_is_20 : decode cX12_is 20 = .ok (.lcmp, 1) := by decide +kernel
theorem dX12_is_21 : decode cX12_is 21 = .ok (.ifCond .ne 7, 3) := by decide +kernel
theorem dX12_is_24 : decode cX12_is 24 = .ok (.iconst 1, 1) := by decide +kernel
theorem dX12_is_25 : decode cX12_is 25 = .ok (.goto 4, 3) := by decide +kernel
set_option maxHeartbeats 4000000 in
set_option maxRecDepth 100000 in
theorem k_X12_is (l : Launch) (D : va_G) (K : Nat → ClassId) (t : Nat) (t_q : Nat → Nat) (p1 t_x0 t_x6 t_x7 t_x8 t_x9 t_x10 t_x11 t_x12 t_x13 t_x14 t_x15 t_x32 t_x33 t_x34 t_x35 t_x39 t_x40 t_x43 t_x44 t_x48 t_x49 t_x50 : Int) (hp1 : (-9223372036854775808) ≤ p1 ∧ p1 ≤ 9223372036854775807) (hi_t : bM12 t_x0 t_x6 t_x7 t_x8 t_x9 t_x10 t_x11 t_x12 t_x13 t_x14 t_x15 t_x32 t_x33 t_x34 t_x35 t_x39 t_x40 t_x43 t_x44 t_x48 t_x49 t_x50) : fn_CI (S := (Nat → Int) × (Nat → Nat → Int)) l D K yX12_is (fn_ws yX12_is cX12_is 3 (some .boolean)) ({ frames := 4, cells := 0, slots := 0, locals := 100 } : Room) [.ref t, .long (lI p1)] [(t, .inr (12, oX12 t_q t_x0 t_x6 t_x7 t_x8 t_x9 t_x10 t_x11 t_x12 t_x13 t_x14 t_x15 t_x32 t_x33 t_x34 t_x35 t_x39 t_x40 t_x43 t_x44 t_x48 t_x49 t_x50))] (fun r u => ∃ k : Int, r = iI k ∧ (0 ≤ k ∧ k ≤ 1) ∧ ((k = 1 → t_x12 = 0 ∧ t_x8 = 1)) ∧ True) (fun u => [(t, .inr (12, oX12 t_q t_x0 t_x6 t_x7 t_x8 t_x9 t_x10 t_x11 t_x12 t_x13 t_x14 t_x15 t_x32 t_x33 t_x34 t_x35 t_x39 t_x40 t_x43 t_x44 t_x48 t_x49 t_x50))]) 0 0 := by
  refine g_inI (cc := cX12_is) (maxL := 3) (ret := (some .boolean)) (by decide) rfl (Nat.le_of_ble_eq_true rfl) ?_
  intro p e s m below meth c A ls ag Q B hA hP hD hS hl hQ
  obtain ⟨hx, hb, hr, hml, hts, hown, hlocks, hin, hK⟩ := B
  have hown : s.vm.findClass RX12 = some m.cls := hown
  have hts := fun w h => hts w (List.mem_cons_of_mem _ h)
  have hl : lv_has ls 3 [(0, .ref t), (1, .long (lI p1))] := hl
  refine lv_aload_n hx hb dX12_is_0 rfl (lv_at hl 0 rfl) ?_
  refine va_get (D := D) (own := RX12) (ci := 12) (v := .int (iI t_x12)) (C := RX12) (T := TX12) (N := 51) hx hb hts inb_X12 hown hK.1 hP 0 rfl rfl 12 (by decide) (hts _ wd_1246) (fun _ h9 => h9) rfl dX12_is_1 ?_
  have y1_1 : 0 ≤ t_x12 ∧ t_x12 ≤ 3 := hi_t.2.2.2.2.2.2.2.1
  refine g_if_ne (tgt := 28) hx hb (by omega) dX12_is_4 (by decide) (fun c4 => ?_) (fun c4 => ?_)
  · refine lv_iconst (v := iI 0) hx hb dX12_is_28 rfl ?_
    rw [hQ]; exact fn_iret hx hb hr hlocks (iI_nz (by omega)) hP hD hS ((fun _ => 0), (fun _ _ => 0)) ⟨0, rfl, by omega, (by show ((0 : Int) = 1 → t_x12 = 0 ∧ t_x8 = 1); omega), trivial⟩ [0] (by decide) rfl dX12_is_29
  · refine lv_aload_n hx hb dX12_is_7 rfl (lv_at hl 0 rfl) ?_
    refine va_get (D := D) (own := RX12) (ci := 12) (v := .int (iI t_x8)) (C := RX12) (T := TX12) (N := 51) hx hb hts inb_X12 hown hK.1 hP 0 rfl rfl 8 (by decide) (hts _ wd_1242) (fun _ h9 => h9) rfl dX12_is_8 ?_
    have y8_2 : 0 ≤ t_x8 ∧ t_x8 ≤ 4 := hi_t.2.2.2.1
    refine lv_iconst (v := iI 1) hx hb dX12_is_11 rfl ?_
    refine g_icmp_ne (tgt := 28) hx hb (by omega) (by omega) dX12_is_12 (by decide) (fun c12 => ?_) (fun c12 => ?_)
    · refine lv_iconst (v := iI 0) hx hb dX12_is_28 rfl ?_
      rw [hQ]; exact fn_iret hx hb hr hlocks (iI_nz (by omega)) hP hD hS ((fun _ => 0), (fun _ _ => 0)) ⟨0, rfl, by omega, (by show ((0 : Int) = 1 → t_x12 = 0 ∧ t_x8 = 1); omega), trivial⟩ [0] (by decide) rfl dX12_is_29
    · refine lv_aload_n hx hb dX12_is_15 rfl (lv_at hl 0 rfl) ?_
      refine va_get (D := D) (own := RX12) (ci := 12) (v := .long (lI t_x11)) (C := RX12) (T := TX12) (N := 51) hx hb hts inb_X12 hown hK.1 hP 0 rfl rfl 11 (by decide) (hts _ wd_1245) (fun _ h9 => h9) rfl dX12_is_16 ?_
      have y16_3 : (-9223372036854775808) ≤ t_x11 ∧ t_x11 ≤ 9223372036854775807 := hi_t.2.2.2.2.2.2.1
      refine lv_lload_n hx hb dX12_is_19 rfl (lv_at hl 1 rfl) ?_
      refine W.lcmp hx hb dX12_is_20 ?_
      refine g_lif_ne (tgt := 28) hx hb (by omega) (by omega) dX12_is_21 (by decide) (fun c21 => ?_) (fun c21 => ?_)
      · refine lv_iconst (v := iI 0) hx hb dX12_is_28 rfl ?_
        rw [hQ]; exact fn_iret hx hb hr hlocks (iI_nz (by omega)) hP hD hS ((fun _ => 0), (fun _ _ => 0)) ⟨0, rfl, by omega, (by show ((0 : Int) = 1 → t_x12 = 0 ∧ t_x8 = 1); omega), trivial⟩ [0] (by decide) rfl dX12_is_29
      · refine lv_iconst (v := iI 1) hx hb dX12_is_24 rfl ?_
        refine lv_goto (tgt := 29) hx hb dX12_is_25 (by decide) ?_
        rw [hQ]; exact fn_iret hx hb hr hlocks (iI_nz (by omega)) hP hD hS ((fun _ => 0), (fun _ _ => 0)) ⟨1, rfl, by omega, (by show ((1 : Int) = 1 → t_x12 = 0 ∧ t_x8 = 1); omega), trivial⟩ [0] (by decide) rfl dX12_is_29
theorem wd_1471 : Cond.code ⟨"FootNotesModel", "is", "(J)Z"⟩ prog_14_method_16_code 3 (Option.some Jvm.ClassFile.FieldType.boolean) ∈ fn_big := fn_tb (fn_l7 (List.mem_of_getElem? (i := 31) (by decide +kernel))) (by decide +kernel)
theorem wd_1468 : Cond.methodLink "FootNotesModel" 162 ⟨"FootNotesModel", "is", "(J)Z"⟩ ∈ fn_big := fn_tb (fn_l7 (List.mem_of_getElem? (i := 28) (by decide +kernel))) (by decide +kernel)
theorem wd_1470 : Cond.instanceMethod ⟨"FootNotesModel", "is", "(J)Z"⟩ ∈ fn_big := fn_tb (fn_l7 (List.mem_of_getElem? (i := 30) (by decide +kernel))) (by decide +kernel)
theorem wp_103 : Cond.selects "FootNotesModel" ⟨"FootNotesModel", "is", "(J)Z"⟩ ⟨"FootNotesModel", "is", "(J)Z"⟩ ∈ fn_big := fn_sel (q := (⟨"FootNotesModel", "is", "(J)Z"⟩, 51)) 103 (by decide +kernel) (by decide +kernel)
theorem wd_1445 : Cond.code ⟨"FootNotesModel", "next", "()V"⟩ prog_14_method_13_code 2 (Option.none : Option Jvm.ClassFile.FieldType) ∈ fn_big := fn_tb (fn_l7 (List.mem_of_getElem? (i := 5) (by decide +kernel))) (by decide +kernel)
theorem wd_1442 : Cond.methodLink "FootNotesModel" 166 ⟨"FootNotesModel", "next", "()V"⟩ ∈ fn_big := fn_tb (fn_l7 (List.mem_of_getElem? (i := 2) (by decide +kernel))) (by decide +kernel)
theorem wd_1444 : Cond.instanceMethod ⟨"FootNotesModel", "next", "()V"⟩ ∈ fn_big := fn_tb (fn_l7 (List.mem_of_getElem? (i := 4) (by decide +kernel))) (by decide +kernel)
theorem wp_98 : Cond.selects "FootNotesModel" ⟨"FootNotesModel", "next", "()V"⟩ ⟨"FootNotesModel", "next", "()V"⟩ ∈ fn_big := fn_sel (q := (⟨"FootNotesModel", "next", "()V"⟩, 51)) 98 (by decide +kernel) (by decide +kernel)
theorem dX12_takes_0 : decode cX12_takes 0 = .ok (.aload_n 0, 1) := by decide +kernel
theorem dX12_takes_1 : decode cX12_takes 1 = .ok (.lload_n 1, 1) := by decide +kernel
theorem dX12_takes_2 : decode cX12_takes 2 = .ok (.invokevirtual 162, 3) := by decide +kernel
theorem dX12_takes_5 : decode cX12_takes 5 = .ok (.ifCond .ne 5, 3) := by decide +kernel
theorem dX12_takes_10 : decode cX12_takes 10 = .ok (.aload_n 0, 1) := by decide +kernel
theorem dX12_takes_11 : decode cX12_takes 11 = .ok (.invokevirtual 166, 3) := by decide +kernel
theorem dX12_takes_14 : decode cX12_takes 14 = .ok (.iconst 1, 1) := by decide +kernel
theorem dX12_takes_15 : decode cX12_takes 15 = .ok (.ireturn, 1) := by decide +kernel
theorem dX12_takes_8 : decode cX12_takes 8 = .ok (.iconst 0, 1) := by decide +kernel
theorem dX12_takes_9 : decode cX12_takes 9 = .ok (.ireturn, 1) := by decide +kernel
set_option maxHeartbeats 4000000 in
set_option maxRecDepth 100000 in
theorem k_X12_takes (l : Launch) (D : va_G) (K : Nat → ClassId) (t : Nat) (t_q : Nat → Nat) (p1 t_x0 t_x6 t_x7 t_x8 t_x9 t_x10 t_x11 t_x12 t_x13 t_x14 t_x15 t_x32 t_x33 t_x34 t_x35 t_x39 t_x40 t_x43 t_x44 t_x48 t_x49 t_x50 : Int) (t_5_c : Nat → Int) (hp1 : (-9223372036854775808) ≤ p1 ∧ p1 ≤ 9223372036854775807) (hi_t : bM12 t_x0 t_x6 t_x7 t_x8 t_x9 t_x10 t_x11 t_x12 t_x13 t_x14 t_x15 t_x32 t_x33 t_x34 t_x35 t_x39 t_x40 t_x43 t_x44 t_x48 t_x49 t_x50) (hc_t_5 : ∀ j : Nat, (-128) ≤ t_5_c j ∧ t_5_c j ≤ 127) (pa : t_x7 ≤ t_x6) : fn_CI (S := (Nat → Int) × (Nat → Nat → Int)) l D K yX12_takes (fn_ws yX12_takes cX12_takes 3 (some .boolean)) ({ frames := 12, cells := 0, slots := 0, locals := 300 } : Room) [.ref t, .long (lI p1)] [(t, .inr (12, oX12 t_q t_x0 t_x6 t_x7 t_x8 t_x9 t_x10 t_x11 t_x12 t_x13 t_x14 t_x15 t_x32 t_x33 t_x34 t_x35 t_x39 t_x40 t_x43 t_x44 t_x48 t_x49 t_x50)), ((t_q 5), .inl (K 1, 1400, .inl (fun j => iI (t_5_c j))))] (fun r u => ∃ k : Int, r = iI k ∧ (0 ≤ k ∧ k ≤ 1) ∧ (0 ≤ (u.1 0) ∧ (u.1 0) ≤ 1400 ∧ 0 ≤ (u.1 1) ∧ (u.1 1) ≤ 4 ∧ 0 ≤ (u.1 2) ∧ (u.1 2) ≤ 1400 ∧ (-2147483648) ≤ (u.1 3) ∧ (u.1 3) ≤ 2147483647 ∧ (-9223372036854775808) ≤ (u.1 4) ∧ (u.1 4) ≤ 9223372036854775807 ∧ (t_x7 ≤ (u.1 0)) ∧ ((u.1 0) ≤ t_x6) ∧ (k = 1 → t_x12 = 0 ∧ ((u.1 1) = 0 ∨ t_x7 < (u.1 0))) ∧ (k = 0 → (u.1 0) = t_x7 ∧ (u.1 1) = t_x8 ∧ (u.1 3) = t_x10)) ∧ True) (fun u => [(t, .inr (12, oX12 t_q t_x0 t_x6 (u.1 0) (u.1 1) (u.1 2) (u.1 3) (u.1 4) t_x12 t_x13 t_x14 t_x15 t_x32 t_x33 t_x34 t_x35 t_x39 t_x40 t_x43 t_x44 t_x48 t_x49 t_x50)), ((t_q 5), .inl (K 1, 1400, .inl (fun j => iI (t_5_c j))))]) 0 0 := by
  refine g_inI (cc := cX12_takes) (maxL := 3) (ret := (some .boolean)) (by decide) rfl (Nat.le_of_ble_eq_true rfl) ?_
  intro p e s m below meth c A ls ag Q B hA hP hD hS hl hQ
  obtain ⟨hx, hb, hr, hml, hts, hown, hlocks, hin, hK⟩ := B
  have hown : s.vm.findClass RX12 = some m.cls := hown
  have hts := fun w h => hts w (List.mem_cons_of_mem _ h)
  have ys_taped : 0 ≤ t_x6 ∧ t_x6 ≤ 1400 := hi_t.2.1
  have ys_at : 0 ≤ t_x7 ∧ t_x7 ≤ 1400 := hi_t.2.2.1
  have ys_token : 0 ≤ t_x8 ∧ t_x8 ≤ 4 := hi_t.2.2.2.1
  have ys_bad : 0 ≤ t_x12 ∧ t_x12 ≤ 3 := hi_t.2.2.2.2.2.2.2.1
  have hl : lv_has ls 3 [(0, .ref t), (1, .long (lI p1))] := hl
  refine lv_aload_n hx hb dX12_takes_0 rfl (lv_at hl 0 rfl) ?_
  refine lv_lload_n hx hb dX12_takes_1 rfl (lv_at hl 1 rfl) ?_
  refine fn_goi (wc := [(t, .inr (12, oX12 t_q t_x0 t_x6 t_x7 t_x8 t_x9 t_x10 t_x11 t_x12 t_x13 t_x14 t_x15 t_x32 t_x33 t_x34 t_x35 t_x39 t_x40 t_x43 t_x44 t_x48 t_x49 t_x50))]) (wr := [((t_q 5), .inl (K 1, 1400, .inl (fun j => iI (t_5_c j))))]) hK hP hD hS hA [0] [1] rfl rfl (by decide) (fun hp => va_runV (C := RX12) (As := [.long (lI p1)]) (rest := []) ⟨hx, hb, hml, hown, hts⟩ (k_X12_is (l := l) (D := D) (K := K) (t := t) (p1 := p1) (t_q := t_q) (t_x0 := t_x0) (t_x6 := t_x6) (t_x7 := t_x7) (t_x8 := t_x8) (t_x9 := t_x9) (t_x10 := t_x10) (t_x11 := t_x11) (t_x12 := t_x12) (t_x13 := t_x13) (t_x14 := t_x14) (t_x15 := t_x15) (t_x32 := t_x32) (t_x33 := t_x33) (t_x34 := t_x34) (t_x35 := t_x35) (t_x39 := t_x39) (t_x40 := t_x40) (t_x43 := t_x43) (t_x44 := t_x44) (t_x48 := t_x48) (t_x49 := t_x49) (t_x50 := t_x50) (hp1 := (by omega)) (hi_t := hi_t) _) (cwV 1 hts (fn_ginV (fn_gin wd_1471) wd_1468 wd_1470 wp_103 wd_13) rfl rfl rfl (by decide +kernel) ⟨Nat.le_of_ble_eq_true rfl, Nat.le_of_ble_eq_true rfl⟩) ⟨fn_blind, va_recv hK.1 hP (ci := 12) (q0 := 0) rfl rfl, hp⟩ rfl rfl hl.1 rfl (lv_room (Nat.le_of_ble_eq_true rfl)) dX12_takes_2 ⟨Nat.le_of_ble_eq_true rfl, Nat.le_of_ble_eq_true rfl⟩) (fun r2 u2 H locs hwu2 hP hD hS => ?_)
  obtain ⟨u2a, u2b⟩ := u2
  obtain ⟨kr2, rfl, hkr2, hqu20, -⟩ := hwu2
  have hqu2 : (kr2 = 1 → t_x12 = 0 ∧ t_x8 = 1) := hqu20
  clear hqu20
  have hP : va_P D vwCl [((t_q 5), .inl (K 1, 1400, .inl (fun j => iI (t_5_c j)))), (t, .inr (12, oX12 t_q t_x0 t_x6 t_x7 t_x8 t_x9 t_x10 t_x11 t_x12 t_x13 t_x14 t_x15 t_x32 t_x33 t_x34 t_x35 t_x39 t_x40 t_x43 t_x44 t_x48 t_x49 t_x50))] H := hP
  have hD : va_D A [((t_q 5), .inl (K 1, 1400, .inl (fun j => iI (t_5_c j)))), (t, .inr (12, oX12 t_q t_x0 t_x6 t_x7 t_x8 t_x9 t_x10 t_x11 t_x12 t_x13 t_x14 t_x15 t_x32 t_x33 t_x34 t_x35 t_x39 t_x40 t_x43 t_x44 t_x48 t_x49 t_x50))] := hD
  refine g_if_ne (tgt := 10) hx hb (by omega) dX12_takes_5 (by decide) (fun c5 => ?_) (fun c5 => ?_)
  · refine lv_aload_n hx hb dX12_takes_10 rfl (lv_at hl 0 rfl) ?_
    refine fn_gov (wc := [(t, .inr (12, oX12 t_q t_x0 t_x6 t_x7 t_x8 t_x9 t_x10 t_x11 t_x12 t_x13 t_x14 t_x15 t_x32 t_x33 t_x34 t_x35 t_x39 t_x40 t_x43 t_x44 t_x48 t_x49 t_x50)), ((t_q 5), .inl (K 1, 1400, .inl (fun j => iI (t_5_c j))))]) (wr := []) hK hP hD hS hA [1, 0] [] rfl rfl (by decide) (fun hp => va_runV (C := RX12) (As := []) (rest := []) ⟨hx, hb, hml, hown, hts⟩ (k_X12_next (l := l) (D := D) (K := K) (t := t) (t_q := t_q) (t_x0 := t_x0) (t_x6 := t_x6) (t_x7 := t_x7) (t_x8 := t_x8) (t_x9 := t_x9) (t_x10 := t_x10) (t_x11 := t_x11) (t_x12 := t_x12) (t_x13 := t_x13) (t_x14 := t_x14) (t_x15 := t_x15) (t_x32 := t_x32) (t_x33 := t_x33) (t_x34 := t_x34) (t_x35 := t_x35) (t_x39 := t_x39) (t_x40 := t_x40) (t_x43 := t_x43) (t_x44 := t_x44) (t_x48 := t_x48) (t_x49 := t_x49) (t_x50 := t_x50) (t_5_c := t_5_c) (hi_t := hi_t) (hc_t_5 := hc_t_5) (pa := (show t_x7 ≤ t_x6 from by omega)) _) (cwV 0 hts (fn_ginV (fn_gin wd_1445) wd_1442 wd_1444 wp_98 wd_13) rfl rfl rfl (by decide +kernel) ⟨Nat.le_of_ble_eq_true rfl, Nat.le_of_ble_eq_true rfl⟩) ⟨fn_blind, va_recv hK.1 hP (ci := 12) (q0 := 1) rfl rfl, hp⟩ rfl rfl hl.1 rfl (lv_room (Nat.le_of_ble_eq_true rfl)) dX12_takes_11 ⟨Nat.le_of_ble_eq_true rfl, Nat.le_of_ble_eq_true rfl⟩) (fun u11 H locs hwu11 hP hD hS => ?_)
    obtain ⟨u11a, u11b⟩ := u11
    obtain ⟨hqu110, -⟩ := hwu11
    have hqu11 : 0 ≤ (u11a 0) ∧ (u11a 0) ≤ 1400 ∧ 0 ≤ (u11a 1) ∧ (u11a 1) ≤ 4 ∧ 0 ≤ (u11a 2) ∧ (u11a 2) ≤ 1400 ∧ (-2147483648) ≤ (u11a 3) ∧ (u11a 3) ≤ 2147483647 ∧ (-9223372036854775808) ≤ (u11a 4) ∧ (u11a 4) ≤ 9223372036854775807 ∧ (t_x7 ≤ (u11a 0)) ∧ ((u11a 0) ≤ t_x6) ∧ ((u11a 1) = 0 ∨ t_x7 < (u11a 0)) := hqu110
    clear hqu110
    have hP : va_P D vwCl [(t, .inr (12, oX12 t_q t_x0 t_x6 (u11a 0) (u11a 1) (u11a 2) (u11a 3) (u11a 4) t_x12 t_x13 t_x14 t_x15 t_x32 t_x33 t_x34 t_x35 t_x39 t_x40 t_x43 t_x44 t_x48 t_x49 t_x50)), ((t_q 5), .inl (K 1, 1400, .inl (fun j => iI (t_5_c j))))] H := hP
    have hD : va_D A [(t, .inr (12, oX12 t_q t_x0 t_x6 (u11a 0) (u11a 1) (u11a 2) (u11a 3) (u11a 4) t_x12 t_x13 t_x14 t_x15 t_x32 t_x33 t_x34 t_x35 t_x39 t_x40 t_x43 t_x44 t_x48 t_x49 t_x50)), ((t_q 5), .inl (K 1, 1400, .inl (fun j => iI (t_5_c j))))] := hD
    refine lv_iconst (v := iI 1) hx hb dX12_takes_14 rfl ?_
    rw [hQ]; exact fn_iret hx hb hr hlocks (iI_nz (by omega)) hP hD hS ((fun k => ([(u11a 0), (u11a 1), (u11a 2), (u11a 3), (u11a 4)] : List Int).getD k 0), (fun _ _ => 0)) ⟨1, rfl, by omega, (by show 0 ≤ (u11a 0) ∧ (u11a 0) ≤ 1400 ∧ 0 ≤ (u11a 1) ∧ (u11a 1) ≤ 4 ∧ 0 ≤ (u11a 2) ∧ (u11a 2) ≤ 1400 ∧ (-2147483648) ≤ (u11a 3) ∧ (u11a 3) ≤ 2147483647 ∧ (-9223372036854775808) ≤ (u11a 4) ∧ (u11a 4) ≤ 9223372036854775807 ∧ (t_x7 ≤ (u11a 0)) ∧ ((u11a 0) ≤ t_x6) ∧ ((1 : Int) = 1 → t_x12 = 0 ∧ ((u11a 1) = 0 ∨ t_x7 < (u11a 0))) ∧ ((1 : Int) = 0 → (u11a 0) = t_x7 ∧ (u11a 1) = t_x8 ∧ (u11a 3) = t_x10); omega), trivial⟩ [0, 1] (by decide) rfl dX12_takes_15
  · refine lv_iconst (v := iI 0) hx hb dX12_takes_8 rfl ?_
    have y9_1 : 0 ≤ t_x7 ∧ t_x7 ≤ 1400 := hi_t.2.2.1
    have y9_2 : 0 ≤ t_x8 ∧ t_x8 ≤ 4 := hi_t.2.2.2.1
    have y9_3 : 0 ≤ t_x9 ∧ t_x9 ≤ 1400 := hi_t.2.2.2.2.1
    have y9_4 : (-2147483648) ≤ t_x10 ∧ t_x10 ≤ 2147483647 := hi_t.2.2.2.2.2.1
    have y9_5 : (-9223372036854775808) ≤ t_x11 ∧ t_x11 ≤ 9223372036854775807 := hi_t.2.2.2.2.2.2.1
    rw [hQ]; exact fn_iret hx hb hr hlocks (iI_nz (by omega)) hP hD hS ((fun k => ([t_x7, t_x8, t_x9, t_x10, t_x11] : List Int).getD k 0), (fun _ _ => 0)) ⟨0, rfl, by omega, (by show 0 ≤ t_x7 ∧ t_x7 ≤ 1400 ∧ 0 ≤ t_x8 ∧ t_x8 ≤ 4 ∧ 0 ≤ t_x9 ∧ t_x9 ≤ 1400 ∧ (-2147483648) ≤ t_x10 ∧ t_x10 ≤ 2147483647 ∧ (-9223372036854775808) ≤ t_x11 ∧ t_x11 ≤ 9223372036854775807 ∧ (t_x7 ≤ t_x7) ∧ (t_x7 ≤ t_x6) ∧ ((0 : Int) = 1 → t_x12 = 0 ∧ (t_x8 = 0 ∨ t_x7 < t_x7)) ∧ ((0 : Int) = 0 → t_x7 = t_x7 ∧ t_x8 = t_x8 ∧ t_x10 = t_x10); omega), trivial⟩ [1, 0] (by decide) rfl dX12_takes_9
theorem wd_1467 : Cond.code ⟨"FootNotesModel", "takes", "(J)Z"⟩ prog_14_method_17_code 3 (Option.some Jvm.ClassFile.FieldType.boolean) ∈ fn_big := fn_tb (fn_l7 (List.mem_of_getElem? (i := 27) (by decide +kernel))) (by decide +kernel)
theorem wd_1464 : Cond.methodLink "FootNotesModel" 169 ⟨"FootNotesModel", "takes", "(J)Z"⟩ ∈ fn_big := fn_tb (fn_l7 (List.mem_of_getElem? (i := 24) (by decide +kernel))) (by decide +kernel)
theorem wd_1466 : Cond.instanceMethod ⟨"FootNotesModel", "takes", "(J)Z"⟩ ∈ fn_big := fn_tb (fn_l7 (List.mem_of_getElem? (i := 26) (by decide +kernel))) (by decide +kernel)
theorem wp_102 : Cond.selects "FootNotesModel" ⟨"FootNotesModel", "takes", "(J)Z"⟩ ⟨"FootNotesModel", "takes", "(J)Z"⟩ ∈ fn_big := fn_sel (q := (⟨"FootNotesModel", "takes", "(J)Z"⟩, 51)) 102 (by decide +kernel) (by decide +kernel)
theorem wd_1475 : Cond.code ⟨"FootNotesModel", "fails", "(I)V"⟩ prog_14_method_15_code 2 (Option.none : Option Jvm.ClassFile.FieldType) ∈ fn_big := fn_tb (fn_l7 (List.mem_of_getElem? (i := 35) (by decide +kernel))) (by decide +kernel)
theorem wd_1472 : Cond.methodLink "FootNotesModel" 172 ⟨"FootNotesModel", "fails", "(I)V"⟩ ∈ fn_big := fn_tb (fn_l7 (List.mem_of_getElem? (i := 32) (by decide +kernel))) (by decide +kernel)
theorem wd_1474 : Cond.instanceMethod ⟨"FootNotesModel", "fails", "(I)V"⟩ ∈ fn_big := fn_tb (fn_l7 (List.mem_of_getElem? (i := 34) (by decide +kernel))) (by decide +kernel)
theorem wp_104 : Cond.selects "FootNotesModel" ⟨"FootNotesModel", "fails", "(I)V"⟩ ⟨"FootNotesModel", "fails", "(I)V"⟩ ∈ fn_big := fn_sel (q := (⟨"FootNotesModel", "fails", "(I)V"⟩, 51)) 104 (by decide +kernel) (by decide +kernel)
theorem dX12_asks_0 : decode cX12_asks 0 = .ok (.aload_n 0, 1) := by decide +kernel
theorem dX12_asks_1 : decode cX12_asks 1 = .ok (.lload_n 1, 1) := by decide +kernel
theorem dX12_asks_2 : decode cX12_asks 2 = .ok (.invokevirtual 169, 3) := by decide +kernel
theorem dX12_asks_5 : decode cX12_asks 5 = .ok (.ifCond .ne 8, 3) := by decide +kernel
theorem dX12_asks_13 : decode cX12_asks 13 = .ok (.return_, 1) := by decide +kernel
theorem dX12_asks_8 : decode cX12_asks 8 = .ok (.aload_n 0, 1) := by decide +kernel
theorem dX12_asks_9 : decode cX12_asks 9 = .ok (.iconst 1, 1) := by decide +kernel
theorem dX12_asks_10 : decode cX12_asks 10 = .ok (.invokevirtual 172, 3) := by decide +kernel
set_option maxHeartbeats 4000000 in
set_option maxRecDepth 100000 in
theorem k_X12_asks (l : Launch) (D : va_G) (K : Nat → ClassId) (t : Nat) (t_q : Nat → Nat) (p1 t_x0 t_x6 t_x7 t_x8 t_x9 t_x10 t_x11 t_x12 t_x13 t_x14 t_x15 t_x32 t_x33 t_x34 t_x35 t_x39 t_x40 t_x43 t_x44 t_x48 t_x49 t_x50 : Int) (t_5_c : Nat → Int) (hp1 : (-9223372036854775808) ≤ p1 ∧ p1 ≤ 9223372036854775807) (hi_t : bM12 t_x0 t_x6 t_x7 t_x8 t_x9 t_x10 t_x11 t_x12 t_x13 t_x14 t_x15 t_x32 t_x33 t_x34 t_x35 t_x39 t_x40 t_x43 t_x44 t_x48 t_x49 t_x50) (hc_t_5 : ∀ j : Nat, (-128) ≤ t_5_c j ∧ t_5_c j ≤ 127) (pa : t_x7 ≤ t_x6) : fn_CV (S := (Nat → Int) × (Nat → Nat → Int)) l D K yX12_asks (fn_ws yX12_asks cX12_asks 3 none) ({ frames := 16, cells := 0, slots := 0, locals := 400 } : Room) [.ref t, .long (lI p1)] [(t, .inr (12, oX12 t_q t_x0 t_x6 t_x7 t_x8 t_x9 t_x10 t_x11 t_x12 t_x13 t_x14 t_x15 t_x32 t_x33 t_x34 t_x35 t_x39 t_x40 t_x43 t_x44 t_x48 t_x49 t_x50)), ((t_q 5), .inl (K 1, 1400, .inl (fun j => iI (t_5_c j))))] (fun u => (0 ≤ (u.1 0) ∧ (u.1 0) ≤ 1400 ∧ 0 ≤ (u.1 1) ∧ (u.1 1) ≤ 4 ∧ 0 ≤ (u.1 2) ∧ (u.1 2) ≤ 1400 ∧ (-2147483648) ≤ (u.1 3) ∧ (u.1 3) ≤ 2147483647 ∧ (-9223372036854775808) ≤ (u.1 4) ∧ (u.1 4) ≤ 9223372036854775807 ∧ 0 ≤ (u.1 5) ∧ (u.1 5) ≤ 3 ∧ (-2147483648) ≤ (u.1 6) ∧ (u.1 6) ≤ 2147483647 ∧ (t_x7 ≤ (u.1 0)) ∧ ((u.1 0) ≤ t_x6) ∧ ((u.1 5) = 0 → (u.1 1) = 0 ∨ t_x7 < (u.1 0)) ∧ (t_x12 ≠ 0 → (u.1 5) ≠ 0)) ∧ True) (fun u => [(t, .inr (12, oX12 t_q t_x0 t_x6 (u.1 0) (u.1 1) (u.1 2) (u.1 3) (u.1 4) (u.1 5) (u.1 6) t_x14 t_x15 t_x32 t_x33 t_x34 t_x35 t_x39 t_x40 t_x43 t_x44 t_x48 t_x49 t_x50)), ((t_q 5), .inl (K 1, 1400, .inl (fun j => iI (t_5_c j))))]) 0 0 := by
  refine g_inV (cc := cX12_asks) (maxL := 3) (ret := none) (by decide) rfl (Nat.le_of_ble_eq_true rfl) ?_
  intro p e s m below meth c A ls ag Q B hA hP hD hS hl hQ
  obtain ⟨hx, hb, hr, hml, hts, hown, hlocks, hin, hK⟩ := B
  have hown : s.vm.findClass RX12 = some m.cls := hown
  have hts := fun w h => hts w (List.mem_cons_of_mem _ h)
  have ys_taped : 0 ≤ t_x6 ∧ t_x6 ≤ 1400 := hi_t.2.1
  have ys_at : 0 ≤ t_x7 ∧ t_x7 ≤ 1400 := hi_t.2.2.1
  have ys_token : 0 ≤ t_x8 ∧ t_x8 ≤ 4 := hi_t.2.2.2.1
  have ys_bad : 0 ≤ t_x12 ∧ t_x12 ≤ 3 := hi_t.2.2.2.2.2.2.2.1
  have hl : lv_has ls 3 [(0, .ref t), (1, .long (lI p1))] := hl
  refine lv_aload_n hx hb dX12_asks_0 rfl (lv_at hl 0 rfl) ?_
  refine lv_lload_n hx hb dX12_asks_1 rfl (lv_at hl 1 rfl) ?_
  refine fn_goi (wc := [(t, .inr (12, oX12 t_q t_x0 t_x6 t_x7 t_x8 t_x9 t_x10 t_x11 t_x12 t_x13 t_x14 t_x15 t_x32 t_x33 t_x34 t_x35 t_x39 t_x40 t_x43 t_x44 t_x48 t_x49 t_x50)), ((t_q 5), .inl (K 1, 1400, .inl (fun j => iI (t_5_c j))))]) (wr := []) hK hP hD hS hA [0, 1] [] rfl rfl (by decide) (fun hp => va_runV (C := RX12) (As := [.long (lI p1)]) (rest := []) ⟨hx, hb, hml, hown, hts⟩ (k_X12_takes (l := l) (D := D) (K := K) (t := t) (p1 := p1) (t_q := t_q) (t_x0 := t_x0) (t_x6 := t_x6) (t_x7 := t_x7) (t_x8 := t_x8) (t_x9 := t_x9) (t_x10 := t_x10) (t_x11 := t_x11) (t_x12 := t_x12) (t_x13 := t_x13) (t_x14 := t_x14) (t_x15 := t_x15) (t_x32 := t_x32) (t_x33 := t_x33) (t_x34 := t_x34) (t_x35 := t_x35) (t_x39 := t_x39) (t_x40 := t_x40) (t_x43 := t_x43) (t_x44 := t_x44) (t_x48 := t_x48) (t_x49 := t_x49) (t_x50 := t_x50) (t_5_c := t_5_c) (hp1 := (by omega)) (hi_t := hi_t) (hc_t_5 := hc_t_5) (pa := (show t_x7 ≤ t_x6 from by omega)) _) (cwV 1 hts (fn_ginV (fn_gin wd_1467) wd_1464 wd_1466 wp_102 wd_13) rfl rfl rfl (by decide +kernel) ⟨Nat.le_of_ble_eq_true rfl, Nat.le_of_ble_eq_true rfl⟩) ⟨fn_blind, va_recv hK.1 hP (ci := 12) (q0 := 0) rfl rfl, hp⟩ rfl rfl hl.1 rfl (lv_room (Nat.le_of_ble_eq_true rfl)) dX12_asks_2 ⟨Nat.le_of_ble_eq_true rfl, Nat.le_of_ble_eq_true rfl⟩) (fun r2 u2 H locs hwu2 hP hD hS => ?_)
  obtain ⟨u2a, u2b⟩ := u2
  obtain ⟨kr2, rfl, hkr2, hqu20, -⟩ := hwu2
  have hqu2 : 0 ≤ (u2a 0) ∧ (u2a 0) ≤ 1400 ∧ 0 ≤ (u2a 1) ∧ (u2a 1) ≤ 4 ∧ 0 ≤ (u2a 2) ∧ (u2a 2) ≤ 1400 ∧ (-2147483648) ≤ (u2a 3) ∧ (u2a 3) ≤ 2147483647 ∧ (-9223372036854775808) ≤ (u2a 4) ∧ (u2a 4) ≤ 9223372036854775807 ∧ (t_x7 ≤ (u2a 0)) ∧ ((u2a 0) ≤ t_x6) ∧ (kr2 = 1 → t_x12 = 0 ∧ ((u2a 1) = 0 ∨ t_x7 < (u2a 0))) ∧ (kr2 = 0 → (u2a 0) = t_x7 ∧ (u2a 1) = t_x8 ∧ (u2a 3) = t_x10) := hqu20
  clear hqu20
  have hP : va_P D vwCl [(t, .inr (12, oX12 t_q t_x0 t_x6 (u2a 0) (u2a 1) (u2a 2) (u2a 3) (u2a 4) t_x12 t_x13 t_x14 t_x15 t_x32 t_x33 t_x34 t_x35 t_x39 t_x40 t_x43 t_x44 t_x48 t_x49 t_x50)), ((t_q 5), .inl (K 1, 1400, .inl (fun j => iI (t_5_c j))))] H := hP
  have hD : va_D A [(t, .inr (12, oX12 t_q t_x0 t_x6 (u2a 0) (u2a 1) (u2a 2) (u2a 3) (u2a 4) t_x12 t_x13 t_x14 t_x15 t_x32 t_x33 t_x34 t_x35 t_x39 t_x40 t_x43 t_x44 t_x48 t_x49 t_x50)), ((t_q 5), .inl (K 1, 1400, .inl (fun j => iI (t_5_c j))))] := hD
  refine g_if_ne (tgt := 13) hx hb (by omega) dX12_asks_5 (by decide) (fun c5 => ?_) (fun c5 => ?_)
  · have y13_1 : 0 ≤ t_x12 ∧ t_x12 ≤ 3 := hi_t.2.2.2.2.2.2.2.1
    have y13_2 : (-2147483648) ≤ t_x13 ∧ t_x13 ≤ 2147483647 := hi_t.2.2.2.2.2.2.2.2.1
    rw [hQ]; exact fn_vret hx hb hr hlocks hP hD hS ((fun k => ([(u2a 0), (u2a 1), (u2a 2), (u2a 3), (u2a 4), t_x12, t_x13] : List Int).getD k 0), (fun _ _ => 0)) ⟨(by show 0 ≤ (u2a 0) ∧ (u2a 0) ≤ 1400 ∧ 0 ≤ (u2a 1) ∧ (u2a 1) ≤ 4 ∧ 0 ≤ (u2a 2) ∧ (u2a 2) ≤ 1400 ∧ (-2147483648) ≤ (u2a 3) ∧ (u2a 3) ≤ 2147483647 ∧ (-9223372036854775808) ≤ (u2a 4) ∧ (u2a 4) ≤ 9223372036854775807 ∧ 0 ≤ t_x12 ∧ t_x12 ≤ 3 ∧ (-2147483648) ≤ t_x13 ∧ t_x13 ≤ 2147483647 ∧ (t_x7 ≤ (u2a 0)) ∧ ((u2a 0) ≤ t_x6) ∧ (t_x12 = 0 → (u2a 1) = 0 ∨ t_x7 < (u2a 0)) ∧ (t_x12 ≠ 0 → t_x12 ≠ 0); omega), trivial⟩ [0, 1] (by decide) rfl dX12_asks_13
  · refine lv_aload_n hx hb dX12_asks_8 rfl (lv_at hl 0 rfl) ?_
    refine lv_iconst (v := iI 1) hx hb dX12_asks_9 rfl ?_
    refine fn_gov (wc := [(t, .inr (12, oX12 t_q t_x0 t_x6 (u2a 0) (u2a 1) (u2a 2) (u2a 3) (u2a 4) t_x12 t_x13 t_x14 t_x15 t_x32 t_x33 t_x34 t_x35 t_x39 t_x40 t_x43 t_x44 t_x48 t_x49 t_x50))]) (wr := [((t_q 5), .inl (K 1, 1400, .inl (fun j => iI (t_5_c j))))]) hK hP hD hS hA [0] [1] rfl rfl (by decide) (fun hp => va_runV (C := RX12) (As := [.int (iI 1)]) (rest := []) ⟨hx, hb, hml, hown, hts⟩ (k_X12_fails (l := l) (D := D) (K := K) (t := t) (p1 := 1) (t_q := t_q) (t_x0 := t_x0) (t_x6 := t_x6) (t_x7 := (u2a 0)) (t_x8 := (u2a 1)) (t_x9 := (u2a 2)) (t_x10 := (u2a 3)) (t_x11 := (u2a 4)) (t_x12 := t_x12) (t_x13 := t_x13) (t_x14 := t_x14) (t_x15 := t_x15) (t_x32 := t_x32) (t_x33 := t_x33) (t_x34 := t_x34) (t_x35 := t_x35) (t_x39 := t_x39) (t_x40 := t_x40) (t_x43 := t_x43) (t_x44 := t_x44) (t_x48 := t_x48) (t_x49 := t_x49) (t_x50 := t_x50) (hp1 := (by omega)) (hi_t := ⟨hi_t.1, hi_t.2.1, (by omega), (by omega), (by omega), (by omega), (by omega), hi_t.2.2.2.2.2.2.2.1, hi_t.2.2.2.2.2.2.2.2.1, hi_t.2.2.2.2.2.2.2.2.2.1, hi_t.2.2.2.2.2.2.2.2.2.2.1, hi_t.2.2.2.2.2.2.2.2.2.2.2.1, hi_t.2.2.2.2.2.2.2.2.2.2.2.2.1, hi_t.2.2.2.2.2.2.2.2.2.2.2.2.2.1, hi_t.2.2.2.2.2.2.2.2.2.2.2.2.2.2.1, hi_t.2.2.2.2.2.2.2.2.2.2.2.2.2.2.2.1, hi_t.2.2.2.2.2.2.2.2.2.2.2.2.2.2.2.2.1, hi_t.2.2.2.2.2.2.2.2.2.2.2.2.2.2.2.2.2.1, hi_t.2.2.2.2.2.2.2.2.2.2.2.2.2.2.2.2.2.2.1, hi_t.2.2.2.2.2.2.2.2.2.2.2.2.2.2.2.2.2.2.2.1, hi_t.2.2.2.2.2.2.2.2.2.2.2.2.2.2.2.2.2.2.2.2.1, hi_t.2.2.2.2.2.2.2.2.2.2.2.2.2.2.2.2.2.2.2.2.2⟩) _) (cwV 1 hts (fn_ginV (fn_gin wd_1475) wd_1472 wd_1474 wp_104 wd_13) rfl rfl rfl (by decide +kernel) ⟨Nat.le_of_ble_eq_true rfl, Nat.le_of_ble_eq_true rfl⟩) ⟨fn_blind, va_recv hK.1 hP (ci := 12) (q0 := 0) rfl rfl, hp⟩ rfl rfl hl.1 rfl (lv_room (Nat.le_of_ble_eq_true rfl)) dX12_asks_10 ⟨Nat.le_of_ble_eq_true rfl, Nat.le_of_ble_eq_true rfl⟩) (fun u10 H locs hwu10 hP hD hS => ?_)
    obtain ⟨u10a, u10b⟩ := u10
    obtain ⟨hqu100, -⟩ := hwu10
    have hqu10 : 0 ≤ (u10a 0) ∧ (u10a 0) ≤ 3 ∧ (-2147483648) ≤ (u10a 1) ∧ (u10a 1) ≤ 2147483647 ∧ ((t_x12 ≠ 0 ∧ (u10a 0) = t_x12) ∨ (t_x12 = 0 ∧ (u10a 0) = (1 : Int))) := hqu100
    clear hqu100
    have hP : va_P D vwCl [((t_q 5), .inl (K 1, 1400, .inl (fun j => iI (t_5_c j)))), (t, .inr (12, oX12 t_q t_x0 t_x6 (u2a 0) (u2a 1) (u2a 2) (u2a 3) (u2a 4) (u10a 0) (u10a 1) t_x14 t_x15 t_x32 t_x33 t_x34 t_x35 t_x39 t_x40 t_x43 t_x44 t_x48 t_x49 t_x50))] H := hP
    have hD : va_D A [((t_q 5), .inl (K 1, 1400, .inl (fun j => iI (t_5_c j)))), (t, .inr (12, oX12 t_q t_x0 t_x6 (u2a 0) (u2a 1) (u2a 2) (u2a 3) (u2a 4) (u10a 0) (u10a 1) t_x14 t_x15 t_x32 t_x33 t_x34 t_x35 t_x39 t_x40 t_x43 t_x44 t_x48 t_x49 t_x50))] := hD
    rw [hQ]; exact fn_vret hx hb hr hlocks hP hD hS ((fun k => ([(u2a 0), (u2a 1), (u2a 2), (u2a 3), (u2a 4), (u10a 0), (u10a 1)] : List Int).getD k 0), (fun _ _ => 0)) ⟨(by show 0 ≤ (u2a 0) ∧ (u2a 0) ≤ 1400 ∧ 0 ≤ (u2a 1) ∧ (u2a 1) ≤ 4 ∧ 0 ≤ (u2a 2) ∧ (u2a 2) ≤ 1400 ∧ (-2147483648) ≤ (u2a 3) ∧ (u2a 3) ≤ 2147483647 ∧ (-9223372036854775808) ≤ (u2a 4) ∧ (u2a 4) ≤ 9223372036854775807 ∧ 0 ≤ (u10a 0) ∧ (u10a 0) ≤ 3 ∧ (-2147483648) ≤ (u10a 1) ∧ (u10a 1) ≤ 2147483647 ∧ (t_x7 ≤ (u2a 0)) ∧ ((u2a 0) ≤ t_x6) ∧ ((u10a 0) = 0 → (u2a 1) = 0 ∨ t_x7 < (u2a 0)) ∧ (t_x12 ≠ 0 → (u10a 0) ≠ 0); omega), trivial⟩ [1, 0] (by decide) rfl dX12_asks_13
theorem dX12_number_0 : decode cX12_number 0 = .ok (.aload_n 0, 1) := by decide +kernel
theorem dX12_number_1 : decode cX12_number 1 = .ok (.getfield 156, 3) := by decide +kernel
theorem dX12_number_4 : decode cX12_number 4 = .ok (.ifCond .eq 5, 3) := by decide +kernel
theorem dX12_number_9 : decode cX12_number 9 = .ok (.aload_n 0, 1) := by decide +kernel
theorem dX12_number_10 : decode cX12_number 10 = .ok (.getfield 145, 3) := by decide +kernel
theorem dX12_number_13 : decode cX12_number 13 = .ok (.iconst 2, 1) := by decide +kernel
theorem dX12_number_14 : decode cX12_number 14 = .ok (.if_icmp .eq 10, 3) := by decide +kernel
theorem dX12_number_24 : decode cX12_number 24 = .ok (.aload_n 0, 1) := by decide +kernel
theorem dX12_number_25 : decode cX12_number 25 = .ok (.getfield 138, 3) := by decide +kernel
theorem dX12_number_28 : decode cX12_number 28 = .ok (.i2l, 1) := by decide +kernel
theorem dX12_number_29 : decode cX12_number 29 = .ok (.iload_n 1, 1) := by decide +kernel
theorem dX12_number_30 : decode cX12_number 30 = .ok (.i2l, 1) := by decide +kernel
theorem dX12_number_31 : decode cX12_number 31 = .ok (.iload_n 2, 1) := by decide +kernel
theorem dX12_number_32 : decode cX12_number 32 = .ok (.i2l, 1) := by decide +kernel
theorem dX12_number_33 : decode cX12_number 33 = .ok (.invokestatic 109, 3) := by decide +kernel
theorem dX12_number_36 : decode cX12_number 36 = .ok (.ifCond .ne 10, 3) := by decide +kernel
theorem dX12_number_46 : decode cX12_number 46 = .ok (.aload_n 0, 1) := by decide +kernel
theorem dX12_number_47 : decode cX12_number 47 = .ok (.getfield 138, 3) := by decide +kernel
theorem dX12_number_50 : decode cX12_number 50 = .ok (.istore_n 3, 1) := by decide +kernel
theorem dX12_number_51 : decode cX12_number 51 = .ok (.aload_n 0, 1) := by decide +kernel
theorem dX12_number_52 : decode cX12_number 52 = .ok (.invokevirtual 166, 3) := by decide +kernel
theorem dX12_number_55 : decode cX12_number 55 = .ok (.iload_n 3, 1) := by decide +kernel
theorem dX12_number_56 : decode cX12_number 56 = .ok (.ireturn, 1) := by decide +kernel
theorem dX12_number_39 : decode cX12_number 39 = .ok (.aload_n 0, 1) := by decide +kernel
theorem dX12_number_40 : decode cX12_number 40 = .ok (.iconst 2, 1) := by decide +kernel
theorem dX12_number_41 : decode cX12_number 41 = .ok (.invokevirtual 172, 3) := by decide +kernel
theorem dX12_number_44 : decode cX12_number 44 = .ok (.iload_n 1, 1) := by decide +kernel
theorem dX12_number_45 : decode cX12_number 45 = .ok (.ireturn, 1) := by decide +kernel
theorem dX12_number_17 : decode cX12_number 17 = .ok (.aload_n 0, 1) := by decide +kernel
theorem dX12_number_18 : decode cX12_number 18 = .ok (.iconst 1, 1) := by decide +kernel
theorem dX12_number_19 : decode cX12_number 19 = .ok (.invokevirtual 172, 3) := by decide +kernel
theorem dX12_number_22 : decode cX12_number 22 = .ok (.iload_n 1, 1) := by decide +kernel
theorem dX12_number_23 : decode cX12_number 23 = .ok (.ireturn, 1) := by decide +kernel
theorem dX12_number_7 : decode cX12_number 7 = .ok (.iload_n 1, 1) := by decide +kernel
theorem dX12_number_8 : decode cX12_number 8 = .ok (.ireturn, 1) := by decide +kernel
set_option maxHeartbeats 4000000 in
set_option maxRecDepth 100000 in
theorem k_X12_number (l : Launch) (D : va_G) (K : Nat → ClassId) (t : Nat) (t_q : Nat → Nat) (p1 p2 t_x0 t_x6 t_x7 t_x8 t_x9 t_x10 t_x11 t_x12 t_x13 t_x14 t_x15 t_x32 t_x33 t_x34 t_x35 t_x39 t_x40 t_x43 t_x44 t_x48 t_x49 t_x50 : Int) (t_5_c : Nat → Int) (hp1 : (-2147483648) ≤ p1 ∧ p1 ≤ 2147483647) (hp2 : (-2147483648) ≤ p2 ∧ p2 ≤ 2147483647) (hi_t : bM12 t_x0 t_x6 t_x7 t_x8 t_x9 t_x10 t_x11 t_x12 t_x13 t_x14 t_x15 t_x32 t_x33 t_x34 t_x35 t_x39 t_x40 t_x43 t_x44 t_x48 t_x49 t_x50) (hc_t_5 : ∀ j : Nat, (-128) ≤ t_5_c j ∧ t_5_c j ≤ 127) (pa : t_x7 ≤ t_x6) : fn_CI (S := (Nat → Int) × (Nat → Nat → Int)) l D K yX12_number (fn_ws yX12_number cX12_number 4 (some .int)) ({ frames := 12, cells := 0, slots := 0, locals := 300 } : Room) [.ref t, .int (iI p1), .int (iI p2)] [(t, .inr (12, oX12 t_q t_x0 t_x6 t_x7 t_x8 t_x9 t_x10 t_x11 t_x12 t_x13 t_x14 t_x15 t_x32 t_x33 t_x34 t_x35 t_x39 t_x40 t_x43 t_x44 t_x48 t_x49 t_x50)), ((t_q 5), .inl (K 1, 1400, .inl (fun j => iI (t_5_c j))))] (fun r u => ∃ k : Int, r = iI k ∧ ((-2147483648) ≤ k ∧ k ≤ 2147483647) ∧ (0 ≤ (u.1 0) ∧ (u.1 0) ≤ 1400 ∧ 0 ≤ (u.1 1) ∧ (u.1 1) ≤ 4 ∧ 0 ≤ (u.1 2) ∧ (u.1 2) ≤ 1400 ∧ (-2147483648) ≤ (u.1 3) ∧ (u.1 3) ≤ 2147483647 ∧ (-9223372036854775808) ≤ (u.1 4) ∧ (u.1 4) ≤ 9223372036854775807 ∧ 0 ≤ (u.1 5) ∧ (u.1 5) ≤ 3 ∧ (-2147483648) ≤ (u.1 6) ∧ (u.1 6) ≤ 2147483647 ∧ (t_x7 ≤ (u.1 0)) ∧ ((u.1 0) ≤ t_x6) ∧ (k = p1 ∨ (p1 ≤ k ∧ k ≤ p2)) ∧ ((u.1 5) = 0 → ((u.1 1) = 0 ∨ t_x7 < (u.1 0)) ∧ k = t_x10 ∧ p1 ≤ k ∧ k ≤ p2 ∧ t_x8 = 2 ∧ t_x12 = 0)) ∧ True) (fun u => [(t, .inr (12, oX12 t_q t_x0 t_x6 (u.1 0) (u.1 1) (u.1 2) (u.1 3) (u.1 4) (u.1 5) (u.1 6) t_x14 t_x15 t_x32 t_x33 t_x34 t_x35 t_x39 t_x40 t_x43 t_x44 t_x48 t_x49 t_x50)), ((t_q 5), .inl (K 1, 1400, .inl (fun j => iI (t_5_c j))))]) 0 0 := by
  refine g_inI (cc := cX12_number) (maxL := 4) (ret := (some .int)) (by decide) rfl (Nat.le_of_ble_eq_true rfl) ?_
  intro p e s m below meth c A ls ag Q B hA hP hD hS hl hQ
  obtain ⟨hx, hb, hr, hml, hts, hown, hlocks, hin, hK⟩ := B
  have hown : s.vm.findClass RX12 = some m.cls := hown
  have hts := fun w h => hts w (List.mem_cons_of_mem _ h)
  have ys_taped : 0 ≤ t_x6 ∧ t_x6 ≤ 1400 := hi_t.2.1
  have ys_at : 0 ≤ t_x7 ∧ t_x7 ≤ 1400 := hi_t.2.2.1
  have ys_token : 0 ≤ t_x8 ∧ t_x8 ≤ 4 := hi_t.2.2.2.1
  have ys_bad : 0 ≤ t_x12 ∧ t_x12 ≤ 3 := hi_t.2.2.2.2.2.2.2.1
  have hl : lv_has ls 4 [(0, .ref t), (1, .int (iI p1)), (2, .int (iI p2))] := hl
  refine lv_aload_n hx hb dX12_number_0 rfl (lv_at hl 0 rfl) ?_
  refine va_get (D := D) (own := RX12) (ci := 12) (v := .int (iI t_x12)) (C := RX12) (T := TX12) (N := 51) hx hb hts inb_X12 hown hK.1 hP 0 rfl rfl 12 (by decide) (hts _ wd_1246) (fun _ h9 => h9) rfl dX12_number_1 ?_
  have y1_1 : 0 ≤ t_x12 ∧ t_x12 ≤ 3 := hi_t.2.2.2.2.2.2.2.1
  refine g_if_eq (tgt := 9) hx hb (by omega) dX12_number_4 (by decide) (fun c4 => ?_) (fun c4 => ?_)
  · refine lv_aload_n hx hb dX12_number_9 rfl (lv_at hl 0 rfl) ?_
    refine va_get (D := D) (own := RX12) (ci := 12) (v := .int (iI t_x8)) (C := RX12) (T := TX12) (N := 51) hx hb hts inb_X12 hown hK.1 hP 0 rfl rfl 8 (by decide) (hts _ wd_1242) (fun _ h9 => h9) rfl dX12_number_10 ?_
    have y10_2 : 0 ≤ t_x8 ∧ t_x8 ≤ 4 := hi_t.2.2.2.1
    refine lv_iconst (v := iI 2) hx hb dX12_number_13 rfl ?_
    refine g_icmp_eq (tgt := 24) hx hb (by omega) (by omega) dX12_number_14 (by decide) (fun c14 => ?_) (fun c14 => ?_)
    · refine lv_aload_n hx hb dX12_number_24 rfl (lv_at hl 0 rfl) ?_
      refine va_get (D := D) (own := RX12) (ci := 12) (v := .int (iI t_x10)) (C := RX12) (T := TX12) (N := 51) hx hb hts inb_X12 hown hK.1 hP 0 rfl rfl 10 (by decide) (hts _ wd_1244) (fun _ h9 => h9) rfl dX12_number_25 ?_
      have y25_3 : (-2147483648) ≤ t_x10 ∧ t_x10 ≤ 2147483647 := hi_t.2.2.2.2.2.1
      refine lv_i2l (v := lI t_x10) hx hb dX12_number_28 (iI_2l (by omega)) ?_
      refine lv_iload_n hx hb dX12_number_29 rfl (lv_at hl 1 rfl) ?_
      refine lv_i2l (v := lI p1) hx hb dX12_number_30 (iI_2l (by omega)) ?_
      refine lv_iload_n hx hb dX12_number_31 rfl (lv_at hl 2 rfl) ?_
      refine lv_i2l (v := lI p2) hx hb dX12_number_32 (iI_2l (by omega)) ?_
      refine fn_goi (wc := []) (wr := [(t, .inr (12, oX12 t_q t_x0 t_x6 t_x7 t_x8 t_x9 t_x10 t_x11 t_x12 t_x13 t_x14 t_x15 t_x32 t_x33 t_x34 t_x35 t_x39 t_x40 t_x43 t_x44 t_x48 t_x49 t_x50)), ((t_q 5), .inl (K 1, 1400, .inl (fun j => iI (t_5_c j))))]) hK hP hD hS hA [] [0, 1] rfl rfl (by decide) (fun hp => va_runS (As := [.long (lI t_x10), .long (lI p1), .long (lI p2)]) (rest := []) ⟨hx, hb, hml, hown, hts⟩ (k_X12_in (l := l) (D := D) (K := K) (p1 := t_x10) (p2 := p1) (p3 := p2) (hp1 := (by omega)) (hp2 := (by omega)) (hp3 := (by omega)) _) (va_cwS 3 hts (fn_ginS (fn_gin wd_1398) wd_1396 wd_1397 wd_13) rfl rfl rfl (by decide +kernel) ⟨Nat.le_of_ble_eq_true rfl, Nat.le_of_ble_eq_true rfl⟩) ⟨fn_blind, hp⟩ rfl rfl hl.1 rfl (lv_room (Nat.le_of_ble_eq_true rfl)) dX12_number_33 ⟨Nat.le_of_ble_eq_true rfl, Nat.le_of_ble_eq_true rfl⟩) (fun r33 u33 H locs hwu33 hP hD hS => ?_)
      obtain ⟨u33a, u33b⟩ := u33
      obtain ⟨kr33, rfl, hkr33, hqu330, -⟩ := hwu33
      have hqu33 : (kr33 = 1 → p1 ≤ t_x10 ∧ t_x10 ≤ p2) ∧ (kr33 = 0 → t_x10 < p1 ∨ p2 < t_x10) := hqu330
      clear hqu330
      have hP : va_P D vwCl [(t, .inr (12, oX12 t_q t_x0 t_x6 t_x7 t_x8 t_x9 t_x10 t_x11 t_x12 t_x13 t_x14 t_x15 t_x32 t_x33 t_x34 t_x35 t_x39 t_x40 t_x43 t_x44 t_x48 t_x49 t_x50)), ((t_q 5), .inl (K 1, 1400, .inl (fun j => iI (t_5_c j))))] H := hP
      have hD : va_D A [(t, .inr (12, oX12 t_q t_x0 t_x6 t_x7 t_x8 t_x9 t_x10 t_x11 t_x12 t_x13 t_x14 t_x15 t_x32 t_x33 t_x34 t_x35 t_x39 t_x40 t_x43 t_x44 t_x48 t_x49 t_x50)), ((t_q 5), .inl (K 1, 1400, .inl (fun j => iI (t_5_c j))))] := hD
      refine g_if_ne (tgt := 46) hx hb (by omega) dX12_number_36 (by decide) (fun c36 => ?_) (fun c36 => ?_)
      · refine lv_aload_n hx hb dX12_number_46 rfl (lv_at hl 0 rfl) ?_
        refine va_get (D := D) (own := RX12) (ci := 12) (v := .int (iI t_x10)) (C := RX12) (T := TX12) (N := 51) hx hb hts inb_X12 hown hK.1 hP 0 rfl rfl 10 (by decide) (hts _ wd_1244) (fun _ h9 => h9) rfl dX12_number_47 ?_
        refine lv_istore_n (lv' := [(3, .int (iI t_x10)), (0, .ref t), (1, .int (iI p1)), (2, .int (iI p2))]) hx hb dX12_number_50 rfl hl (by decide) rfl (fun ls hl => ?_)
        refine fn_at 51 rfl ?_
        refine lv_aload_n hx hb dX12_number_51 rfl (lv_at hl 1 rfl) ?_
        refine fn_gov (wc := [(t, .inr (12, oX12 t_q t_x0 t_x6 t_x7 t_x8 t_x9 t_x10 t_x11 t_x12 t_x13 t_x14 t_x15 t_x32 t_x33 t_x34 t_x35 t_x39 t_x40 t_x43 t_x44 t_x48 t_x49 t_x50)), ((t_q 5), .inl (K 1, 1400, .inl (fun j => iI (t_5_c j))))]) (wr := []) hK hP hD hS hA [0, 1] [] rfl rfl (by decide) (fun hp => va_runV (C := RX12) (As := []) (rest := []) ⟨hx, hb, hml, hown, hts⟩ (k_X12_next (l := l) (D := D) (K := K) (t := t) (t_q := t_q) (t_x0 := t_x0) (t_x6 := t_x6) (t_x7 := t_x7) (t_x8 := t_x8) (t_x9 := t_x9) (t_x10 := t_x10) (t_x11 := t_x11) (t_x12 := t_x12) (t_x13 := t_x13) (t_x14 := t_x14) (t_x15 := t_x15) (t_x32 := t_x32) (t_x33 := t_x33) (t_x34 := t_x34) (t_x35 := t_x35) (t_x39 := t_x39) (t_x40 := t_x40) (t_x43 := t_x43) (t_x44 := t_x44) (t_x48 := t_x48) (t_x49 := t_x49) (t_x50 := t_x50) (t_5_c := t_5_c) (hi_t := hi_t) (hc_t_5 := hc_t_5) (pa := (show t_x7 ≤ t_x6 from by omega)) _) (cwV 0 hts (fn_ginV (fn_gin wd_1445) wd_1442 wd_1444 wp_98 wd_13) rfl rfl rfl (by decide +kernel) ⟨Nat.le_of_ble_eq_true rfl, Nat.le_of_ble_eq_true rfl⟩) ⟨fn_blind, va_recv hK.1 hP (ci := 12) (q0 := 0) rfl rfl, hp⟩ rfl rfl hl.1 rfl (lv_room (Nat.le_of_ble_eq_true rfl)) dX12_number_52 ⟨Nat.le_of_ble_eq_true rfl, Nat.le_of_ble_eq_true rfl⟩) (fun u52 H locs hwu52 hP hD hS => ?_)
        obtain ⟨u52a, u52b⟩ := u52
        obtain ⟨hqu520, -⟩ := hwu52
        have hqu52 : 0 ≤ (u52a 0) ∧ (u52a 0) ≤ 1400 ∧ 0 ≤ (u52a 1) ∧ (u52a 1) ≤ 4 ∧ 0 ≤ (u52a 2) ∧ (u52a 2) ≤ 1400 ∧ (-2147483648) ≤ (u52a 3) ∧ (u52a 3) ≤ 2147483647 ∧ (-9223372036854775808) ≤ (u52a 4) ∧ (u52a 4) ≤ 9223372036854775807 ∧ (t_x7 ≤ (u52a 0)) ∧ ((u52a 0) ≤ t_x6) ∧ ((u52a 1) = 0 ∨ t_x7 < (u52a 0)) := hqu520
        clear hqu520
        have hP : va_P D vwCl [(t, .inr (12, oX12 t_q t_x0 t_x6 (u52a 0) (u52a 1) (u52a 2) (u52a 3) (u52a 4) t_x12 t_x13 t_x14 t_x15 t_x32 t_x33 t_x34 t_x35 t_x39 t_x40 t_x43 t_x44 t_x48 t_x49 t_x50)), ((t_q 5), .inl (K 1, 1400, .inl (fun j => iI (t_5_c j))))] H := hP
        have hD : va_D A [(t, .inr (12, oX12 t_q t_x0 t_x6 (u52a 0) (u52a 1) (u52a 2) (u52a 3) (u52a 4) t_x12 t_x13 t_x14 t_x15 t_x32 t_x33 t_x34 t_x35 t_x39 t_x40 t_x43 t_x44 t_x48 t_x49 t_x50)), ((t_q 5), .inl (K 1, 1400, .inl (fun j => iI (t_5_c j))))] := hD
        refine lv_iload_n hx hb dX12_number_55 rfl (lv_at hl 0 rfl) ?_
        have y56_4 : (-2147483648) ≤ t_x13 ∧ t_x13 ≤ 2147483647 := hi_t.2.2.2.2.2.2.2.2.1
        rw [hQ]; exact fn_iret hx hb hr hlocks rfl hP hD hS ((fun k => ([(u52a 0), (u52a 1), (u52a 2), (u52a 3), (u52a 4), t_x12, t_x13] : List Int).getD k 0), (fun _ _ => 0)) ⟨t_x10, rfl, by omega, (by show 0 ≤ (u52a 0) ∧ (u52a 0) ≤ 1400 ∧ 0 ≤ (u52a 1) ∧ (u52a 1) ≤ 4 ∧ 0 ≤ (u52a 2) ∧ (u52a 2) ≤ 1400 ∧ (-2147483648) ≤ (u52a 3) ∧ (u52a 3) ≤ 2147483647 ∧ (-9223372036854775808) ≤ (u52a 4) ∧ (u52a 4) ≤ 9223372036854775807 ∧ 0 ≤ t_x12 ∧ t_x12 ≤ 3 ∧ (-2147483648) ≤ t_x13 ∧ t_x13 ≤ 2147483647 ∧ (t_x7 ≤ (u52a 0)) ∧ ((u52a 0) ≤ t_x6) ∧ (t_x10 = p1 ∨ (p1 ≤ t_x10 ∧ t_x10 ≤ p2)) ∧ (t_x12 = 0 → ((u52a 1) = 0 ∨ t_x7 < (u52a 0)) ∧ t_x10 = t_x10 ∧ p1 ≤ t_x10 ∧ t_x10 ≤ p2 ∧ t_x8 = 2 ∧ t_x12 = 0); omega), trivial⟩ [0, 1] (by decide) rfl dX12_number_56
      · refine lv_aload_n hx hb dX12_number_39 rfl (lv_at hl 0 rfl) ?_
        refine lv_iconst (v := iI 2) hx hb dX12_number_40 rfl ?_
        refine fn_gov (wc := [(t, .inr (12, oX12 t_q t_x0 t_x6 t_x7 t_x8 t_x9 t_x10 t_x11 t_x12 t_x13 t_x14 t_x15 t_x32 t_x33 t_x34 t_x35 t_x39 t_x40 t_x43 t_x44 t_x48 t_x49 t_x50))]) (wr := [((t_q 5), .inl (K 1, 1400, .inl (fun j => iI (t_5_c j))))]) hK hP hD hS hA [0] [1] rfl rfl (by decide) (fun hp => va_runV (C := RX12) (As := [.int (iI 2)]) (rest := []) ⟨hx, hb, hml, hown, hts⟩ (k_X12_fails (l := l) (D := D) (K := K) (t := t) (p1 := 2) (t_q := t_q) (t_x0 := t_x0) (t_x6 := t_x6) (t_x7 := t_x7) (t_x8 := t_x8) (t_x9 := t_x9) (t_x10 := t_x10) (t_x11 := t_x11) (t_x12 := t_x12) (t_x13 := t_x13) (t_x14 := t_x14) (t_x15 := t_x15) (t_x32 := t_x32) (t_x33 := t_x33) (t_x34 := t_x34) (t_x35 := t_x35) (t_x39 := t_x39) (t_x40 := t_x40) (t_x43 := t_x43) (t_x44 := t_x44) (t_x48 := t_x48) (t_x49 := t_x49) (t_x50 := t_x50) (hp1 := (by omega)) (hi_t := hi_t) _) (cwV 1 hts (fn_ginV (fn_gin wd_1475) wd_1472 wd_1474 wp_104 wd_13) rfl rfl rfl (by decide +kernel) ⟨Nat.le_of_ble_eq_true rfl, Nat.le_of_ble_eq_true rfl⟩) ⟨fn_blind, va_recv hK.1 hP (ci := 12) (q0 := 0) rfl rfl, hp⟩ rfl rfl hl.1 rfl (lv_room (Nat.le_of_ble_eq_true rfl)) dX12_number_41 ⟨Nat.le_of_ble_eq_true rfl, Nat.le_of_ble_eq_true rfl⟩) (fun u41 H locs hwu41 hP hD hS => ?_)
        obtain ⟨u41a, u41b⟩ := u41
        obtain ⟨hqu410, -⟩ := hwu41
        have hqu41 : 0 ≤ (u41a 0) ∧ (u41a 0) ≤ 3 ∧ (-2147483648) ≤ (u41a 1) ∧ (u41a 1) ≤ 2147483647 ∧ ((t_x12 ≠ 0 ∧ (u41a 0) = t_x12) ∨ (t_x12 = 0 ∧ (u41a 0) = (2 : Int))) := hqu410
        clear hqu410
        have hP : va_P D vwCl [((t_q 5), .inl (K 1, 1400, .inl (fun j => iI (t_5_c j)))), (t, .inr (12, oX12 t_q t_x0 t_x6 t_x7 t_x8 t_x9 t_x10 t_x11 (u41a 0) (u41a 1) t_x14 t_x15 t_x32 t_x33 t_x34 t_x35 t_x39 t_x40 t_x43 t_x44 t_x48 t_x49 t_x50))] H := hP
        have hD : va_D A [((t_q 5), .inl (K 1, 1400, .inl (fun j => iI (t_5_c j)))), (t, .inr (12, oX12 t_q t_x0 t_x6 t_x7 t_x8 t_x9 t_x10 t_x11 (u41a 0) (u41a 1) t_x14 t_x15 t_x32 t_x33 t_x34 t_x35 t_x39 t_x40 t_x43 t_x44 t_x48 t_x49 t_x50))] := hD
        refine fn_at 44 rfl ?_
        refine lv_iload_n hx hb dX12_number_44 rfl (lv_at hl 1 rfl) ?_
        have y45_4 : 0 ≤ t_x7 ∧ t_x7 ≤ 1400 := hi_t.2.2.1
        have y45_5 : 0 ≤ t_x9 ∧ t_x9 ≤ 1400 := hi_t.2.2.2.2.1
        have y45_6 : (-9223372036854775808) ≤ t_x11 ∧ t_x11 ≤ 9223372036854775807 := hi_t.2.2.2.2.2.2.1
        rw [hQ]; exact fn_iret hx hb hr hlocks rfl hP hD hS ((fun k => ([t_x7, t_x8, t_x9, t_x10, t_x11, (u41a 0), (u41a 1)] : List Int).getD k 0), (fun _ _ => 0)) ⟨p1, rfl, by omega, (by show 0 ≤ t_x7 ∧ t_x7 ≤ 1400 ∧ 0 ≤ t_x8 ∧ t_x8 ≤ 4 ∧ 0 ≤ t_x9 ∧ t_x9 ≤ 1400 ∧ (-2147483648) ≤ t_x10 ∧ t_x10 ≤ 2147483647 ∧ (-9223372036854775808) ≤ t_x11 ∧ t_x11 ≤ 9223372036854775807 ∧ 0 ≤ (u41a 0) ∧ (u41a 0) ≤ 3 ∧ (-2147483648) ≤ (u41a 1) ∧ (u41a 1) ≤ 2147483647 ∧ (t_x7 ≤ t_x7) ∧ (t_x7 ≤ t_x6) ∧ (p1 = p1 ∨ (p1 ≤ p1 ∧ p1 ≤ p2)) ∧ ((u41a 0) = 0 → (t_x8 = 0 ∨ t_x7 < t_x7) ∧ p1 = t_x10 ∧ p1 ≤ p1 ∧ p1 ≤ p2 ∧ t_x8 = 2 ∧ t_x12 = 0); omega), trivial⟩ [1, 0] (by decide) rfl dX12_number_45
    · refine lv_aload_n hx hb dX12_number_17 rfl (lv_at hl 0 rfl) ?_
      refine lv_iconst (v := iI 1) hx hb dX12_number_18 rfl ?_
      refine fn_gov (wc := [(t, .inr (12, oX12 t_q t_x0 t_x6 t_x7 t_x8 t_x9 t_x10 t_x11 t_x12 t_x13 t_x14 t_x15 t_x32 t_x33 t_x34 t_x35 t_x39 t_x40 t_x43 t_x44 t_x48 t_x49 t_x50))]) (wr := [((t_q 5), .inl (K 1, 1400, .inl (fun j => iI (t_5_c j))))]) hK hP hD hS hA [0] [1] rfl rfl (by decide) (fun hp => va_runV (C := RX12) (As := [.int (iI 1)]) (rest := []) ⟨hx, hb, hml, hown, hts⟩ (k_X12_fails (l := l) (D := D) (K := K) (t := t) (p1 := 1) (t_q := t_q) (t_x0 := t_x0) (t_x6 := t_x6) (t_x7 := t_x7) (t_x8 := t_x8) (t_x9 := t_x9) (t_x10 := t_x10) (t_x11 := t_x11) (t_x12 := t_x12) (t_x13 := t_x13) (t_x14 := t_x14) (t_x15 := t_x15) (t_x32 := t_x32) (t_x33 := t_x33) (t_x34 := t_x34) (t_x35 := t_x35) (t_x39 := t_x39) (t_x40 := t_x40) (t_x43 := t_x43) (t_x44 := t_x44) (t_x48 := t_x48) (t_x49 := t_x49) (t_x50 := t_x50) (hp1 := (by omega)) (hi_t := hi_t) _) (cwV 1 hts (fn_ginV (fn_gin wd_1475) wd_1472 wd_1474 wp_104 wd_13) rfl rfl rfl (by decide +kernel) ⟨Nat.le_of_ble_eq_true rfl, Nat.le_of_ble_eq_true rfl⟩) ⟨fn_blind, va_recv hK.1 hP (ci := 12) (q0 := 0) rfl rfl, hp⟩ rfl rfl hl.1 rfl (lv_room (Nat.le_of_ble_eq_true rfl)) dX12_number_19 ⟨Nat.le_of_ble_eq_true rfl, Nat.le_of_ble_eq_true rfl⟩) (fun u19 H locs hwu19 hP hD hS => ?_)
      obtain ⟨u19a, u19b⟩ := u19
      obtain ⟨hqu190, -⟩ := hwu19
      have hqu19 : 0 ≤ (u19a 0) ∧ (u19a 0) ≤ 3 ∧ (-2147483648) ≤ (u19a 1) ∧ (u19a 1) ≤ 2147483647 ∧ ((t_x12 ≠ 0 ∧ (u19a 0) = t_x12) ∨ (t_x12 = 0 ∧ (u19a 0) = (1 : Int))) := hqu190
      clear hqu190
      have hP : va_P D vwCl [((t_q 5), .inl (K 1, 1400, .inl (fun j => iI (t_5_c j)))), (t, .inr (12, oX12 t_q t_x0 t_x6 t_x7 t_x8 t_x9 t_x10 t_x11 (u19a 0) (u19a 1) t_x14 t_x15 t_x32 t_x33 t_x34 t_x35 t_x39 t_x40 t_x43 t_x44 t_x48 t_x49 t_x50))] H := hP
      have hD : va_D A [((t_q 5), .inl (K 1, 1400, .inl (fun j => iI (t_5_c j)))), (t, .inr (12, oX12 t_q t_x0 t_x6 t_x7 t_x8 t_x9 t_x10 t_x11 (u19a 0) (u19a 1) t_x14 t_x15 t_x32 t_x33 t_x34 t_x35 t_x39 t_x40 t_x43 t_x44 t_x48 t_x49 t_x50))] := hD
      refine lv_iload_n hx hb dX12_number_22 rfl (lv_at hl 1 rfl) ?_
      have y23_3 : 0 ≤ t_x7 ∧ t_x7 ≤ 1400 := hi_t.2.2.1
      have y23_4 : 0 ≤ t_x9 ∧ t_x9 ≤ 1400 := hi_t.2.2.2.2.1
      have y23_5 : (-2147483648) ≤ t_x10 ∧ t_x10 ≤ 2147483647 := hi_t.2.2.2.2.2.1
      have y23_6 : (-9223372036854775808) ≤ t_x11 ∧ t_x11 ≤ 9223372036854775807 := hi_t.2.2.2.2.2.2.1
      rw [hQ]; exact fn_iret hx hb hr hlocks rfl hP hD hS ((fun k => ([t_x7, t_x8, t_x9, t_x10, t_x11, (u19a 0), (u19a 1)] : List Int).getD k 0), (fun _ _ => 0)) ⟨p1, rfl, by omega, (by show 0 ≤ t_x7 ∧ t_x7 ≤ 1400 ∧ 0 ≤ t_x8 ∧ t_x8 ≤ 4 ∧ 0 ≤ t_x9 ∧ t_x9 ≤ 1400 ∧ (-2147483648) ≤ t_x10 ∧ t_x10 ≤ 2147483647 ∧ (-9223372036854775808) ≤ t_x11 ∧ t_x11 ≤ 9223372036854775807 ∧ 0 ≤ (u19a 0) ∧ (u19a 0) ≤ 3 ∧ (-2147483648) ≤ (u19a 1) ∧ (u19a 1) ≤ 2147483647 ∧ (t_x7 ≤ t_x7) ∧ (t_x7 ≤ t_x6) ∧ (p1 = p1 ∨ (p1 ≤ p1 ∧ p1 ≤ p2)) ∧ ((u19a 0) = 0 → (t_x8 = 0 ∨ t_x7 < t_x7) ∧ p1 = t_x10 ∧ p1 ≤ p1 ∧ p1 ≤ p2 ∧ t_x8 = 2 ∧ t_x12 = 0); omega), trivial⟩ [1, 0] (by decide) rfl dX12_number_23
  · refine lv_iload_n hx hb dX12_number_7 rfl (lv_at hl 1 rfl) ?_
    have y8_2 : 0 ≤ t_x7 ∧ t_x7 ≤ 1400 := hi_t.2.2.1
    have y8_3 : 0 ≤ t_x8 ∧ t_x8 ≤ 4 := hi_t.2.2.2.1
    have y8_4 : 0 ≤ t_x9 ∧ t_x9 ≤ 1400 := hi_t.2.2.2.2.1
    have y8_5 : (-2147483648) ≤ t_x10 ∧ t_x10 ≤ 2147483647 := hi_t.2.2.2.2.2.1
    have y8_6 : (-9223372036854775808) ≤ t_x11 ∧ t_x11 ≤ 9223372036854775807 := hi_t.2.2.2.2.2.2.1
    have y8_7 : (-2147483648) ≤ t_x13 ∧ t_x13 ≤ 2147483647 := hi_t.2.2.2.2.2.2.2.2.1
    rw [hQ]; exact fn_iret hx hb hr hlocks rfl hP hD hS ((fun k => ([t_x7, t_x8, t_x9, t_x10, t_x11, t_x12, t_x13] : List Int).getD k 0), (fun _ _ => 0)) ⟨p1, rfl, by omega, (by show 0 ≤ t_x7 ∧ t_x7 ≤ 1400 ∧ 0 ≤ t_x8 ∧ t_x8 ≤ 4 ∧ 0 ≤ t_x9 ∧ t_x9 ≤ 1400 ∧ (-2147483648) ≤ t_x10 ∧ t_x10 ≤ 2147483647 ∧ (-9223372036854775808) ≤ t_x11 ∧ t_x11 ≤ 9223372036854775807 ∧ 0 ≤ t_x12 ∧ t_x12 ≤ 3 ∧ (-2147483648) ≤ t_x13 ∧ t_x13 ≤ 2147483647 ∧ (t_x7 ≤ t_x7) ∧ (t_x7 ≤ t_x6) ∧ (p1 = p1 ∨ (p1 ≤ p1 ∧ p1 ≤ p2)) ∧ (t_x12 = 0 → (t_x8 = 0 ∨ t_x7 < t_x7) ∧ p1 = t_x10 ∧ p1 ≤ p1 ∧ p1 ≤ p2 ∧ t_x8 = 2 ∧ t_x12 = 0); omega), trivial⟩ [0, 1] (by decide) rfl dX12_number_8
theorem wd_1463 : Cond.code ⟨"FootNotesModel", "asks", "(J)V"⟩ prog_14_method_18_code 3 (Option.none : Option Jvm.ClassFile.FieldType) ∈ fn_big := fn_tb (fn_l7 (List.mem_of_getElem? (i := 23) (by decide +kernel))) (by decide +kernel)
theorem wd_1460 : Cond.methodLink "FootNotesModel" 175 ⟨"FootNotesModel", "asks", "(J)V"⟩ ∈ fn_big := fn_tb (fn_l7 (List.mem_of_getElem? (i := 20) (by decide +kernel))) (by decide +kernel)
theorem wd_1462 : Cond.instanceMethod ⟨"FootNotesModel", "asks", "(J)V"⟩ ∈ fn_big := fn_tb (fn_l7 (List.mem_of_getElem? (i := 22) (by decide +kernel))) (by decide +kernel)
theorem wp_101 : Cond.selects "FootNotesModel" ⟨"FootNotesModel", "asks", "(J)V"⟩ ⟨"FootNotesModel", "asks", "(J)V"⟩ ∈ fn_big := fn_sel (q := (⟨"FootNotesModel", "asks", "(J)V"⟩, 51)) 101 (by decide +kernel) (by decide +kernel)
theorem wd_1484 : Cond.code ⟨"FootNotesModel", "number", "(II)I"⟩ prog_14_method_19_code 4 (Option.some Jvm.ClassFile.FieldType.int) ∈ fn_big := fn_tb (fn_l7 (List.mem_of_getElem? (i := 44) (by decide +kernel))) (by decide +kernel)
theorem wd_1481 : Cond.methodLink "FootNotesModel" 179 ⟨"FootNotesModel", "number", "(II)I"⟩ ∈ fn_big := fn_tb (fn_l7 (List.mem_of_getElem? (i := 41) (by decide +kernel))) (by decide +kernel)
theorem wd_1483 : Cond.instanceMethod ⟨"FootNotesModel", "number", "(II)I"⟩ ∈ fn_big := fn_tb (fn_l7 (List.mem_of_getElem? (i := 43) (by decide +kernel))) (by decide +kernel)
theorem wp_106 : Cond.selects "FootNotesModel" ⟨"FootNotesModel", "number", "(II)I"⟩ ⟨"FootNotesModel", "number", "(II)I"⟩ ∈ fn_big := fn_sel (q := (⟨"FootNotesModel", "number", "(II)I"⟩, 51)) 106 (by decide +kernel) (by decide +kernel)
theorem dX12_number__0 : decode cX12_number_ 0 = .ok (.aload_n 0, 1) := by decide +kernel
theorem dX12_number__1 : decode cX12_number_ 1 = .ok (.lload_n 1, 1) := by decide +kernel
theorem dX12_number__2 : decode cX12_number_ 2 = .ok (.invokevirtual 175, 3) := by decide +kernel
theorem dX12_number__5 : decode cX12_number_ 5 = .ok (.aload_n 0, 1) := by decide +kernel
theorem dX12_number__6 : decode cX12_number_ 6 = .ok (.iload_n 3, 1) := by decide +kernel
theorem dX12_number__7 : decode cX12_number_ 7 = .ok (.iload 4, 2) := by decide +kernel
theorem dX12_number__9 : decode cX12_number_ 9 = .ok (.invokevirtual 179, 3) := by decide +kernel
theorem dX12_number__12 : decode cX12_number_ 12 = .ok (.ireturn, 1) := by decide +kernel
set_option maxHeartbeats 4000000 in
set_option maxRecDepth 100000 in
theorem k_X12_number_ (l : Launch) (D : va_G) (K : Nat → ClassId) (t : Nat) (t_q : Nat → Nat) (p1 p2 p3 t_x0 t_x6 t_x7 t_x8 t_x9 t_x10 t_x11 t_x12 t_x13 t_x14 t_x15 t_x32 t_x33 t_x34 t_x35 t_x39 t_x40 t_x43 t_x44 t_x48 t_x49 t_x50 : Int) (t_5_c : Nat → Int) (hp1 : (-9223372036854775808) ≤ p1 ∧ p1 ≤ 9223372036854775807) (hp2 : (-2147483648) ≤ p2 ∧ p2 ≤ 2147483647) (hp3 : (-2147483648) ≤ p3 ∧ p3 ≤ 2147483647) (hi_t : bM12 t_x0 t_x6 t_x7 t_x8 t_x9 t_x10 t_x11 t_x12 t_x13 t_x14 t_x15 t_x32 t_x33 t_x34 t_x35 t_x39 t_x40 t_x43 t_x44 t_x48 t_x49 t_x50) (hc_t_5 : ∀ j : Nat, (-128) ≤ t_5_c j ∧ t_5_c j ≤ 127) (pa : t_x7 ≤ t_x6) : fn_CI (S := (Nat → Int) × (Nat → Nat → Int)) l D K yX12_number_ (fn_ws yX12_number_ cX12_number_ 5 (some .int)) ({ frames := 20, cells := 0, slots := 0, locals := 500 } : Room) [.ref t, .long (lI p1), .int (iI p2), .int (iI p3)] [(t, .inr (12, oX12 t_q t_x0 t_x6 t_x7 t_x8 t_x9 t_x10 t_x11 t_x12 t_x13 t_x14 t_x15 t_x32 t_x33 t_x34 t_x35 t_x39 t_x40 t_x43 t_x44 t_x48 t_x49 t_x50)), ((t_q 5), .inl (K 1, 1400, .inl (fun j => iI (t_5_c j))))] (fun r u => ∃ k : Int, r = iI k ∧ ((-2147483648) ≤ k ∧ k ≤ 2147483647) ∧ (0 ≤ (u.1 0) ∧ (u.1 0) ≤ 1400 ∧ 0 ≤ (u.1 1) ∧ (u.1 1) ≤ 4 ∧ 0 ≤ (u.1 2) ∧ (u.1 2) ≤ 1400 ∧ (-2147483648) ≤ (u.1 3) ∧ (u.1 3) ≤ 2147483647 ∧ (-9223372036854775808) ≤ (u.1 4) ∧ (u.1 4) ≤ 9223372036854775807 ∧ 0 ≤ (u.1 5) ∧ (u.1 5) ≤ 3 ∧ (-2147483648) ≤ (u.1 6) ∧ (u.1 6) ≤ 2147483647 ∧ (t_x7 ≤ (u.1 0)) ∧ ((u.1 0) ≤ t_x6) ∧ (k = p2 ∨ (p2 ≤ k ∧ k ≤ p3)) ∧ ((u.1 5) = 0 → ((u.1 1) = 0 ∨ t_x7 < (u.1 0)) ∧ p2 ≤ k ∧ k ≤ p3 ∧ t_x12 = 0)) ∧ True) (fun u => [(t, .inr (12, oX12 t_q t_x0 t_x6 (u.1 0) (u.1 1) (u.1 2) (u.1 3) (u.1 4) (u.1 5) (u.1 6) t_x14 t_x15 t_x32 t_x33 t_x34 t_x35 t_x39 t_x40 t_x43 t_x44 t_x48 t_x49 t_x50)), ((t_q 5), .inl (K 1, 1400, .inl (fun j => iI (t_5_c j))))]) 0 0 := by
  refine g_inI (cc := cX12_number_) (maxL := 5) (ret := (some .int)) (by decide) rfl (Nat.le_of_ble_eq_true rfl) ?_
  intro p e s m below meth c A ls ag Q B hA hP hD hS hl hQ
  obtain ⟨hx, hb, hr, hml, hts, hown, hlocks, hin, hK⟩ := B
  have hown : s.vm.findClass RX12 = some m.cls := hown
  have hts := fun w h => hts w (List.mem_cons_of_mem _ h)
  have ys_taped : 0 ≤ t_x6 ∧ t_x6 ≤ 1400 := hi_t.2.1
  have ys_at : 0 ≤ t_x7 ∧ t_x7 ≤ 1400 := hi_t.2.2.1
  have ys_token : 0 ≤ t_x8 ∧ t_x8 ≤ 4 := hi_t.2.2.2.1
  have ys_bad : 0 ≤ t_x12 ∧ t_x12 ≤ 3 := hi_t.2.2.2.2.2.2.2.1
  have hl : lv_has ls 5 [(0, .ref t), (1, .long (lI p1)), (3, .int (iI p2)), (4, .int (iI p3))] := hl
  refine lv_aload_n hx hb dX12_number__0 rfl (lv_at hl 0 rfl) ?_
  refine lv_lload_n hx hb dX12_number__1 rfl (lv_at hl 1 rfl) ?_
  refine fn_gov (wc := [(t, .inr (12, oX12 t_q t_x0 t_x6 t_x7 t_x8 t_x9 t_x10 t_x11 t_x12 t_x13 t_x14 t_x15 t_x32 t_x33 t_x34 t_x35 t_x39 t_x40 t_x43 t_x44 t_x48 t_x49 t_x50)), ((t_q 5), .inl (K 1, 1400, .inl (fun j => iI (t_5_c j))))]) (wr := []) hK hP hD hS hA [0, 1] [] rfl rfl (by decide) (fun hp => va_runV (C := RX12) (As := [.long (lI p1)]) (rest := []) ⟨hx, hb, hml, hown, hts⟩ (k_X12_asks (l := l) (D := D) (K := K) (t := t) (p1 := p1) (t_q := t_q) (t_x0 := t_x0) (t_x6 := t_x6) (t_x7 := t_x7) (t_x8 := t_x8) (t_x9 := t_x9) (t_x10 := t_x10) (t_x11 := t_x11) (t_x12 := t_x12) (t_x13 := t_x13) (t_x14 := t_x14) (t_x15 := t_x15) (t_x32 := t_x32) (t_x33 := t_x33) (t_x34 := t_x34) (t_x35 := t_x35) (t_x39 := t_x39) (t_x40 := t_x40) (t_x43 := t_x43) (t_x44 := t_x44) (t_x48 := t_x48) (t_x49 := t_x49) (t_x50 := t_x50) (t_5_c := t_5_c) (hp1 := (by omega)) (hi_t := hi_t) (hc_t_5 := hc_t_5) (pa := (show t_x7 ≤ t_x6 from by omega)) _) (cwV 1 hts (fn_ginV (fn_gin wd_1463) wd_1460 wd_1462 wp_101 wd_13) rfl rfl rfl (by decide +kernel) ⟨Nat.le_of_ble_eq_true rfl, Nat.le_of_ble_eq_true rfl⟩) ⟨fn_blind, va_recv hK.1 hP (ci := 12) (q0 := 0) rfl rfl, hp⟩ rfl rfl hl.1 rfl (lv_room (Nat.le_of_ble_eq_true rfl)) dX12_number__2 ⟨Nat.le_of_ble_eq_true rfl, Nat.le_of_ble_eq_true rfl⟩) (fun u2 H locs hwu2 hP hD hS => ?_)
  obtain ⟨u2a, u2b⟩ := u2
  obtain ⟨hqu20, -⟩ := hwu2
  have hqu2 : 0 ≤ (u2a 0) ∧ (u2a 0) ≤ 1400 ∧ 0 ≤ (u2a 1) ∧ (u2a 1) ≤ 4 ∧ 0 ≤ (u2a 2) ∧ (u2a 2) ≤ 1400 ∧ (-2147483648) ≤ (u2a 3) ∧ (u2a 3) ≤ 2147483647 ∧ (-9223372036854775808) ≤ (u2a 4) ∧ (u2a 4) ≤ 9223372036854775807 ∧ 0 ≤ (u2a 5) ∧ (u2a 5) ≤ 3 ∧ (-2147483648) ≤ (u2a 6) ∧ (u2a 6) ≤ 2147483647 ∧ (t_x7 ≤ (u2a 0)) ∧ ((u2a 0) ≤ t_x6) ∧ ((u2a 5) = 0 → (u2a 1) = 0 ∨ t_x7 < (u2a 0)) ∧ (t_x12 ≠ 0 → (u2a 5) ≠ 0) := hqu20
  clear hqu20
  have hP : va_P D vwCl [(t, .inr (12, oX12 t_q t_x0 t_x6 (u2a 0) (u2a 1) (u2a 2) (u2a 3) (u2a 4) (u2a 5) (u2a 6) t_x14 t_x15 t_x32 t_x33 t_x34 t_x35 t_x39 t_x40 t_x43 t_x44 t_x48 t_x49 t_x50)), ((t_q 5), .inl (K 1, 1400, .inl (fun j => iI (t_5_c j))))] H := hP
  have hD : va_D A [(t, .inr (12, oX12 t_q t_x0 t_x6 (u2a 0) (u2a 1) (u2a 2) (u2a 3) (u2a 4) (u2a 5) (u2a 6) t_x14 t_x15 t_x32 t_x33 t_x34 t_x35 t_x39 t_x40 t_x43 t_x44 t_x48 t_x49 t_x50)), ((t_q 5), .inl (K 1, 1400, .inl (fun j => iI (t_5_c j))))] := hD
  refine lv_aload_n hx hb dX12_number__5 rfl (lv_at hl 0 rfl) ?_
  refine lv_iload_n hx hb dX12_number__6 rfl (lv_at hl 2 rfl) ?_
  refine lv_iload hx hb dX12_number__7 (lv_at hl 3 rfl) ?_
  refine fn_goi (wc := [(t, .inr (12, oX12 t_q t_x0 t_x6 (u2a 0) (u2a 1) (u2a 2) (u2a 3) (u2a 4) (u2a 5) (u2a 6) t_x14 t_x15 t_x32 t_x33 t_x34 t_x35 t_x39 t_x40 t_x43 t_x44 t_x48 t_x49 t_x50)), ((t_q 5), .inl (K 1, 1400, .inl (fun j => iI (t_5_c j))))]) (wr := []) hK hP hD hS hA [0, 1] [] rfl rfl (by decide) (fun hp => va_runV (C := RX12) (As := [.int (iI p2), .int (iI p3)]) (rest := []) ⟨hx, hb, hml, hown, hts⟩ (k_X12_number (l := l) (D := D) (K := K) (t := t) (p1 := p2) (p2 := p3) (t_q := t_q) (t_x0 := t_x0) (t_x6 := t_x6) (t_x7 := (u2a 0)) (t_x8 := (u2a 1)) (t_x9 := (u2a 2)) (t_x10 := (u2a 3)) (t_x11 := (u2a 4)) (t_x12 := (u2a 5)) (t_x13 := (u2a 6)) (t_x14 := t_x14) (t_x15 := t_x15) (t_x32 := t_x32) (t_x33 := t_x33) (t_x34 := t_x34) (t_x35 := t_x35) (t_x39 := t_x39) (t_x40 := t_x40) (t_x43 := t_x43) (t_x44 := t_x44) (t_x48 := t_x48) (t_x49 := t_x49) (t_x50 := t_x50) (t_5_c := t_5_c) (hp1 := (by omega)) (hp2 := (by omega)) (hi_t := ⟨hi_t.1, hi_t.2.1, (by omega), (by omega), (by omega), (by omega), (by omega), (by omega), (by omega), hi_t.2.2.2.2.2.2.2.2.2.1, hi_t.2.2.2.2.2.2.2.2.2.2.1, hi_t.2.2.2.2.2.2.2.2.2.2.2.1, hi_t.2.2.2.2.2.2.2.2.2.2.2.2.1, hi_t.2.2.2.2.2.2.2.2.2.2.2.2.2.1, hi_t.2.2.2.2.2.2.2.2.2.2.2.2.2.2.1, hi_t.2.2.2.2.2.2.2.2.2.2.2.2.2.2.2.1, hi_t.2.2.2.2.2.2.2.2.2.2.2.2.2.2.2.2.1, hi_t.2.2.2.2.2.2.2.2.2.2.2.2.2.2.2.2.2.1, hi_t.2.2.2.2.2.2.2.2.2.2.2.2.2.2.2.2.2.2.1, hi_t.2.2.2.2.2.2.2.2.2.2.2.2.2.2.2.2.2.2.2.1, hi_t.2.2.2.2.2.2.2.2.2.2.2.2.2.2.2.2.2.2.2.2.1, hi_t.2.2.2.2.2.2.2.2.2.2.2.2.2.2.2.2.2.2.2.2.2⟩) (hc_t_5 := hc_t_5) (pa := (show (u2a 0) ≤ t_x6 from by omega)) _) (cwV 2 hts (fn_ginV (fn_gin wd_1484) wd_1481 wd_1483 wp_106 wd_13) rfl rfl rfl (by decide +kernel) ⟨Nat.le_of_ble_eq_true rfl, Nat.le_of_ble_eq_true rfl⟩) ⟨fn_blind, va_recv hK.1 hP (ci := 12) (q0 := 0) rfl rfl, hp⟩ rfl rfl hl.1 rfl (lv_room (Nat.le_of_ble_eq_true rfl)) dX12_number__9 ⟨Nat.le_of_ble_eq_true rfl, Nat.le_of_ble_eq_true rfl⟩) (fun r9 u9 H locs hwu9 hP hD hS => ?_)
  obtain ⟨u9a, u9b⟩ := u9
  obtain ⟨kr9, rfl, hkr9, hqu90, -⟩ := hwu9
  have hqu9 : 0 ≤ (u9a 0) ∧ (u9a 0) ≤ 1400 ∧ 0 ≤ (u9a 1) ∧ (u9a 1) ≤ 4 ∧ 0 ≤ (u9a 2) ∧ (u9a 2) ≤ 1400 ∧ (-2147483648) ≤ (u9a 3) ∧ (u9a 3) ≤ 2147483647 ∧ (-9223372036854775808) ≤ (u9a 4) ∧ (u9a 4) ≤ 9223372036854775807 ∧ 0 ≤ (u9a 5) ∧ (u9a 5) ≤ 3 ∧ (-2147483648) ≤ (u9a 6) ∧ (u9a 6) ≤ 2147483647 ∧ ((u2a 0) ≤ (u9a 0)) ∧ ((u9a 0) ≤ t_x6) ∧ (kr9 = p2 ∨ (p2 ≤ kr9 ∧ kr9 ≤ p3)) ∧ ((u9a 5) = 0 → ((u9a 1) = 0 ∨ (u2a 0) < (u9a 0)) ∧ kr9 = (u2a 3) ∧ p2 ≤ kr9 ∧ kr9 ≤ p3 ∧ (u2a 1) = 2 ∧ (u2a 5) = 0) := hqu90
  clear hqu90
  have hP : va_P D vwCl [(t, .inr (12, oX12 t_q t_x0 t_x6 (u9a 0) (u9a 1) (u9a 2) (u9a 3) (u9a 4) (u9a 5) (u9a 6) t_x14 t_x15 t_x32 t_x33 t_x34 t_x35 t_x39 t_x40 t_x43 t_x44 t_x48 t_x49 t_x50)), ((t_q 5), .inl (K 1, 1400, .inl (fun j => iI (t_5_c j))))] H := hP
  have hD : va_D A [(t, .inr (12, oX12 t_q t_x0 t_x6 (u9a 0) (u9a 1) (u9a 2) (u9a 3) (u9a 4) (u9a 5) (u9a 6) t_x14 t_x15 t_x32 t_x33 t_x34 t_x35 t_x39 t_x40 t_x43 t_x44 t_x48 t_x49 t_x50)), ((t_q 5), .inl (K 1, 1400, .inl (fun j => iI (t_5_c j))))] := hD
  rw [hQ]; exact fn_iret hx hb hr hlocks rfl hP hD hS ((fun k => ([(u9a 0), (u9a 1), (u9a 2), (u9a 3), (u9a 4), (u9a 5), (u9a 6)] : List Int).getD k 0), (fun _ _ => 0)) ⟨kr9, rfl, by omega, (by show 0 ≤ (u9a 0) ∧ (u9a 0) ≤ 1400 ∧ 0 ≤ (u9a 1) ∧ (u9a 1) ≤ 4 ∧ 0 ≤ (u9a 2) ∧ (u9a 2) ≤ 1400 ∧ (-2147483648) ≤ (u9a 3) ∧ (u9a 3) ≤ 2147483647 ∧ (-9223372036854775808) ≤ (u9a 4) ∧ (u9a 4) ≤ 9223372036854775807 ∧ 0 ≤ (u9a 5) ∧ (u9a 5) ≤ 3 ∧ (-2147483648) ≤ (u9a 6) ∧ (u9a 6) ≤ 2147483647 ∧ (t_x7 ≤ (u9a 0)) ∧ ((u9a 0) ≤ t_x6) ∧ (kr9 = p2 ∨ (p2 ≤ kr9 ∧ kr9 ≤ p3)) ∧ ((u9a 5) = 0 → ((u9a 1) = 0 ∨ t_x7 < (u9a 0)) ∧ p2 ≤ kr9 ∧ kr9 ≤ p3 ∧ t_x12 = 0); omega), trivial⟩ [0, 1] (by decide) rfl dX12_number__12
theorem dX12_ends_13 : decode cX12_ends 13 = .ok (.aload_n 0, 1) := by decide +kernel
theorem dX12_ends_14 : decode cX12_ends 14 = .ok (.getfield 156, 3) := by decide +kernel
theorem dX12_ends_17 : decode cX12_ends 17 = .ok (.ifCond .ne 7, 3) := by decide +kernel
theorem dX12_ends_24 : decode cX12_ends 24 = .ok (.return_, 1) := by decide +kernel
theorem dX12_ends_20 : decode cX12_ends 20 = .ok (.aload_n 0, 1) := by decide +kernel
theorem dX12_ends_21 : decode cX12_ends 21 = .ok (.invokevirtual 166, 3) := by decide +kernel
theorem dX12_ends_0 : decode cX12_ends 0 = .ok (.aload_n 0, 1) := by decide +kernel
theorem dX12_ends_1 : decode cX12_ends 1 = .ok (.getfield 145, 3) := by decide +kernel
theorem dX12_ends_4 : decode cX12_ends 4 = .ok (.iconst 3, 1) := by decide +kernel
theorem dX12_ends_5 : decode cX12_ends 5 = .ok (.if_icmp .eq 8, 3) := by decide +kernel
theorem dX12_ends_8 : decode cX12_ends 8 = .ok (.aload_n 0, 1) := by decide +kernel
theorem dX12_ends_9 : decode cX12_ends 9 = .ok (.iconst 1, 1) := by decide +kernel
theorem dX12_ends_10 : decode cX12_ends 10 = .ok (.invokevirtual 172, 3) := by decide +kernel
set_option maxHeartbeats 4000000 in
set_option maxRecDepth 100000 in
theorem k_X12_ends (l : Launch) (D : va_G) (K : Nat → ClassId) (t : Nat) (t_q : Nat → Nat) (t_x0 t_x6 t_x7 t_x8 t_x9 t_x10 t_x11 t_x12 t_x13 t_x14 t_x15 t_x32 t_x33 t_x34 t_x35 t_x39 t_x40 t_x43 t_x44 t_x48 t_x49 t_x50 : Int) (t_5_c : Nat → Int) (hi_t : bM12 t_x0 t_x6 t_x7 t_x8 t_x9 t_x10 t_x11 t_x12 t_x13 t_x14 t_x15 t_x32 t_x33 t_x34 t_x35 t_x39 t_x40 t_x43 t_x44 t_x48 t_x49 t_x50) (hc_t_5 : ∀ j : Nat, (-128) ≤ t_5_c j ∧ t_5_c j ≤ 127) (pa : t_x7 ≤ t_x6) : fn_CV (S := (Nat → Int) × (Nat → Nat → Int)) l D K yX12_ends (fn_ws yX12_ends cX12_ends 1 none) ({ frames := 12, cells := 0, slots := 0, locals := 300 } : Room) [.ref t] [(t, .inr (12, oX12 t_q t_x0 t_x6 t_x7 t_x8 t_x9 t_x10 t_x11 t_x12 t_x13 t_x14 t_x15 t_x32 t_x33 t_x34 t_x35 t_x39 t_x40 t_x43 t_x44 t_x48 t_x49 t_x50)), ((t_q 5), .inl (K 1, 1400, .inl (fun j => iI (t_5_c j))))] (fun u => (0 ≤ (u.1 0) ∧ (u.1 0) ≤ 1400 ∧ 0 ≤ (u.1 1) ∧ (u.1 1) ≤ 4 ∧ 0 ≤ (u.1 2) ∧ (u.1 2) ≤ 1400 ∧ (-2147483648) ≤ (u.1 3) ∧ (u.1 3) ≤ 2147483647 ∧ (-9223372036854775808) ≤ (u.1 4) ∧ (u.1 4) ≤ 9223372036854775807 ∧ 0 ≤ (u.1 5) ∧ (u.1 5) ≤ 3 ∧ (-2147483648) ≤ (u.1 6) ∧ (u.1 6) ≤ 2147483647 ∧ (t_x7 ≤ (u.1 0)) ∧ ((u.1 0) ≤ t_x6) ∧ ((u.1 5) = 0 → t_x8 = 3 ∧ t_x12 = 0)) ∧ True) (fun u => [(t, .inr (12, oX12 t_q t_x0 t_x6 (u.1 0) (u.1 1) (u.1 2) (u.1 3) (u.1 4) (u.1 5) (u.1 6) t_x14 t_x15 t_x32 t_x33 t_x34 t_x35 t_x39 t_x40 t_x43 t_x44 t_x48 t_x49 t_x50)), ((t_q 5), .inl (K 1, 1400, .inl (fun j => iI (t_5_c j))))]) 0 0 := by
  refine g_inV (cc := cX12_ends) (maxL := 1) (ret := none) (by decide) rfl (Nat.le_of_ble_eq_true rfl) ?_
  intro p e s m below meth c A ls ag Q B hA hP hD hS hl hQ
  obtain ⟨hx, hb, hr, hml, hts, hown, hlocks, hin, hK⟩ := B
  have hown : s.vm.findClass RX12 = some m.cls := hown
  have hts := fun w h => hts w (List.mem_cons_of_mem _ h)
  have ys_taped : 0 ≤ t_x6 ∧ t_x6 ≤ 1400 := hi_t.2.1
  have ys_at : 0 ≤ t_x7 ∧ t_x7 ≤ 1400 := hi_t.2.2.1
  have ys_token : 0 ≤ t_x8 ∧ t_x8 ≤ 4 := hi_t.2.2.2.1
  have ys_bad : 0 ≤ t_x12 ∧ t_x12 ≤ 3 := hi_t.2.2.2.2.2.2.2.1
  have J13 : ∀ (f13_t_12 : Int) (f13_t_13 : Int) (H : Heap) (locs : List Loc) (ls : Array Slot), (0 ≤ f13_t_12 ∧ f13_t_12 ≤ 3 ∧ (-2147483648) ≤ f13_t_13 ∧ f13_t_13 ≤ 2147483647 ∧ (f13_t_12 = 0 → t_x8 = 3 ∧ t_x12 = 0)) → va_P D vwCl [(t, .inr (12, oX12 t_q t_x0 t_x6 t_x7 t_x8 t_x9 t_x10 t_x11 f13_t_12 f13_t_13 t_x14 t_x15 t_x32 t_x33 t_x34 t_x35 t_x39 t_x40 t_x43 t_x44 t_x48 t_x49 t_x50)), ((t_q 5), .inl (K 1, 1400, .inl (fun j => iI (t_5_c j))))] H → va_D A [(t, .inr (12, oX12 t_q t_x0 t_x6 t_x7 t_x8 t_x9 t_x10 t_x11 f13_t_12 f13_t_13 t_x14 t_x15 t_x32 t_x33 t_x34 t_x35 t_x39 t_x40 t_x43 t_x44 t_x48 t_x49 t_x50)), ((t_q 5), .inl (K 1, 1400, .inl (fun j => iI (t_5_c j))))] → va_S A s.heap H locs → lv_has ls 1 [(0, .ref t)] → W p l e ({ frames := 12, cells := 0, slots := 0, locals := 300 } : Room) s m ag below meth c H locs 0 0 Q (F0 m 13 ls []) := by
    intro f13_t_12 f13_t_13 H locs ls hf13 hP hD hS hl
    refine lv_aload_n hx hb dX12_ends_13 rfl (lv_at hl 0 rfl) ?_
    refine va_get (D := D) (own := RX12) (ci := 12) (v := .int (iI f13_t_12)) (C := RX12) (T := TX12) (N := 51) hx hb hts inb_X12 hown hK.1 hP 0 rfl rfl 12 (by decide) (hts _ wd_1246) (fun _ h9 => h9) rfl dX12_ends_14 ?_
    refine g_if_ne (tgt := 24) hx hb (by omega) dX12_ends_17 (by decide) (fun c17 => ?_) (fun c17 => ?_)
    · have y24_1 : 0 ≤ t_x7 ∧ t_x7 ≤ 1400 := hi_t.2.2.1
      have y24_2 : 0 ≤ t_x8 ∧ t_x8 ≤ 4 := hi_t.2.2.2.1
      have y24_3 : 0 ≤ t_x9 ∧ t_x9 ≤ 1400 := hi_t.2.2.2.2.1
      have y24_4 : (-2147483648) ≤ t_x10 ∧ t_x10 ≤ 2147483647 := hi_t.2.2.2.2.2.1
      have y24_5 : (-9223372036854775808) ≤ t_x11 ∧ t_x11 ≤ 9223372036854775807 := hi_t.2.2.2.2.2.2.1
      rw [hQ]; exact fn_vret hx hb hr hlocks hP hD hS ((fun k => ([t_x7, t_x8, t_x9, t_x10, t_x11, f13_t_12, f13_t_13] : List Int).getD k 0), (fun _ _ => 0)) ⟨(by show 0 ≤ t_x7 ∧ t_x7 ≤ 1400 ∧ 0 ≤ t_x8 ∧ t_x8 ≤ 4 ∧ 0 ≤ t_x9 ∧ t_x9 ≤ 1400 ∧ (-2147483648) ≤ t_x10 ∧ t_x10 ≤ 2147483647 ∧ (-9223372036854775808) ≤ t_x11 ∧ t_x11 ≤ 9223372036854775807 ∧ 0 ≤ f13_t_12 ∧ f13_t_12 ≤ 3 ∧ (-2147483648) ≤ f13_t_13 ∧ f13_t_13 ≤ 2147483647 ∧ (t_x7 ≤ t_x7) ∧ (t_x7 ≤ t_x6) ∧ (f13_t_12 = 0 → t_x8 = 3 ∧ t_x12 = 0); omega), trivial⟩ [0, 1] (by decide) rfl dX12_ends_24
    · refine lv_aload_n hx hb dX12_ends_20 rfl (lv_at hl 0 rfl) ?_
      refine fn_gov (wc := [(t, .inr (12, oX12 t_q t_x0 t_x6 t_x7 t_x8 t_x9 t_x10 t_x11 f13_t_12 f13_t_13 t_x14 t_x15 t_x32 t_x33 t_x34 t_x35 t_x39 t_x40 t_x43 t_x44 t_x48 t_x49 t_x50)), ((t_q 5), .inl (K 1, 1400, .inl (fun j => iI (t_5_c j))))]) (wr := []) hK hP hD hS hA [0, 1] [] rfl rfl (by decide) (fun hp => va_runV (C := RX12) (As := []) (rest := []) ⟨hx, hb, hml, hown, hts⟩ (k_X12_next (l := l) (D := D) (K := K) (t := t) (t_q := t_q) (t_x0 := t_x0) (t_x6 := t_x6) (t_x7 := t_x7) (t_x8 := t_x8) (t_x9 := t_x9) (t_x10 := t_x10) (t_x11 := t_x11) (t_x12 := f13_t_12) (t_x13 := f13_t_13) (t_x14 := t_x14) (t_x15 := t_x15) (t_x32 := t_x32) (t_x33 := t_x33) (t_x34 := t_x34) (t_x35 := t_x35) (t_x39 := t_x39) (t_x40 := t_x40) (t_x43 := t_x43) (t_x44 := t_x44) (t_x48 := t_x48) (t_x49 := t_x49) (t_x50 := t_x50) (t_5_c := t_5_c) (hi_t := ⟨hi_t.1, hi_t.2.1, hi_t.2.2.1, hi_t.2.2.2.1, hi_t.2.2.2.2.1, hi_t.2.2.2.2.2.1, hi_t.2.2.2.2.2.2.1, (by omega), (by omega), hi_t.2.2.2.2.2.2.2.2.2.1, hi_t.2.2.2.2.2.2.2.2.2.2.1, hi_t.2.2.2.2.2.2.2.2.2.2.2.1, hi_t.2.2.2.2.2.2.2.2.2.2.2.2.1, hi_t.2.2.2.2.2.2.2.2.2.2.2.2.2.1, hi_t.2.2.2.2.2.2.2.2.2.2.2.2.2.2.1, hi_t.2.2.2.2.2.2.2.2.2.2.2.2.2.2.2.1, hi_t.2.2.2.2.2.2.2.2.2.2.2.2.2.2.2.2.1, hi_t.2.2.2.2.2.2.2.2.2.2.2.2.2.2.2.2.2.1, hi_t.2.2.2.2.2.2.2.2.2.2.2.2.2.2.2.2.2.2.1, hi_t.2.2.2.2.2.2.2.2.2.2.2.2.2.2.2.2.2.2.2.1, hi_t.2.2.2.2.2.2.2.2.2.2.2.2.2.2.2.2.2.2.2.2.1, hi_t.2.2.2.2.2.2.2.2.2.2.2.2.2.2.2.2.2.2.2.2.2⟩) (hc_t_5 := hc_t_5) (pa := (show t_x7 ≤ t_x6 from by omega)) _) (cwV 0 hts (fn_ginV (fn_gin wd_1445) wd_1442 wd_1444 wp_98 wd_13) rfl rfl rfl (by decide +kernel) ⟨Nat.le_of_ble_eq_true rfl, Nat.le_of_ble_eq_true rfl⟩) ⟨fn_blind, va_recv hK.1 hP (ci := 12) (q0 := 0) rfl rfl, hp⟩ rfl rfl hl.1 rfl (lv_room (Nat.le_of_ble_eq_true rfl)) dX12_ends_21 ⟨Nat.le_of_ble_eq_true rfl, Nat.le_of_ble_eq_true rfl⟩) (fun u21 H locs hwu21 hP hD hS => ?_)
      obtain ⟨u21a, u21b⟩ := u21
      obtain ⟨hqu210, -⟩ := hwu21
      have hqu21 : 0 ≤ (u21a 0) ∧ (u21a 0) ≤ 1400 ∧ 0 ≤ (u21a 1) ∧ (u21a 1) ≤ 4 ∧ 0 ≤ (u21a 2) ∧ (u21a 2) ≤ 1400 ∧ (-2147483648) ≤ (u21a 3) ∧ (u21a 3) ≤ 2147483647 ∧ (-9223372036854775808) ≤ (u21a 4) ∧ (u21a 4) ≤ 9223372036854775807 ∧ (t_x7 ≤ (u21a 0)) ∧ ((u21a 0) ≤ t_x6) ∧ ((u21a 1) = 0 ∨ t_x7 < (u21a 0)) := hqu210
      clear hqu210
      have hP : va_P D vwCl [(t, .inr (12, oX12 t_q t_x0 t_x6 (u21a 0) (u21a 1) (u21a 2) (u21a 3) (u21a 4) f13_t_12 f13_t_13 t_x14 t_x15 t_x32 t_x33 t_x34 t_x35 t_x39 t_x40 t_x43 t_x44 t_x48 t_x49 t_x50)), ((t_q 5), .inl (K 1, 1400, .inl (fun j => iI (t_5_c j))))] H := hP
      have hD : va_D A [(t, .inr (12, oX12 t_q t_x0 t_x6 (u21a 0) (u21a 1) (u21a 2) (u21a 3) (u21a 4) f13_t_12 f13_t_13 t_x14 t_x15 t_x32 t_x33 t_x34 t_x35 t_x39 t_x40 t_x43 t_x44 t_x48 t_x49 t_x50)), ((t_q 5), .inl (K 1, 1400, .inl (fun j => iI (t_5_c j))))] := hD
      rw [hQ]; exact fn_vret hx hb hr hlocks hP hD hS ((fun k => ([(u21a 0), (u21a 1), (u21a 2), (u21a 3), (u21a 4), f13_t_12, f13_t_13] : List Int).getD k 0), (fun _ _ => 0)) ⟨(by show 0 ≤ (u21a 0) ∧ (u21a 0) ≤ 1400 ∧ 0 ≤ (u21a 1) ∧ (u21a 1) ≤ 4 ∧ 0 ≤ (u21a 2) ∧ (u21a 2) ≤ 1400 ∧ (-2147483648) ≤ (u21a 3) ∧ (u21a 3) ≤ 2147483647 ∧ (-9223372036854775808) ≤ (u21a 4) ∧ (u21a 4) ≤ 9223372036854775807 ∧ 0 ≤ f13_t_12 ∧ f13_t_12 ≤ 3 ∧ (-2147483648) ≤ f13_t_13 ∧ f13_t_13 ≤ 2147483647 ∧ (t_x7 ≤ (u21a 0)) ∧ ((u21a 0) ≤ t_x6) ∧ (f13_t_12 = 0 → t_x8 = 3 ∧ t_x12 = 0); omega), trivial⟩ [0, 1] (by decide) rfl dX12_ends_24
  have hl : lv_has ls 1 [(0, .ref t)] := hl
  refine lv_aload_n hx hb dX12_ends_0 rfl (lv_at hl 0 rfl) ?_
  refine va_get (D := D) (own := RX12) (ci := 12) (v := .int (iI t_x8)) (C := RX12) (T := TX12) (N := 51) hx hb hts inb_X12 hown hK.1 hP 0 rfl rfl 8 (by decide) (hts _ wd_1242) (fun _ h9 => h9) rfl dX12_ends_1 ?_
  have y1_1 : 0 ≤ t_x8 ∧ t_x8 ≤ 4 := hi_t.2.2.2.1
  refine lv_iconst (v := iI 3) hx hb dX12_ends_4 rfl ?_
  refine g_icmp_eq (tgt := 13) hx hb (by omega) (by omega) dX12_ends_5 (by decide) (fun c5 => ?_) (fun c5 => ?_)
  · have y13_2 : 0 ≤ t_x12 ∧ t_x12 ≤ 3 := hi_t.2.2.2.2.2.2.2.1
    have y13_3 : (-2147483648) ≤ t_x13 ∧ t_x13 ≤ 2147483647 := hi_t.2.2.2.2.2.2.2.2.1
    exact J13 t_x12 t_x13 _ _ ls (by omega) (hP.sub [0, 1] rfl) (hD.sub [0, 1] (by decide) rfl) hS (lv_sub hl [0] rfl)
  · refine lv_aload_n hx hb dX12_ends_8 rfl (lv_at hl 0 rfl) ?_
    refine lv_iconst (v := iI 1) hx hb dX12_ends_9 rfl ?_
    refine fn_gov (wc := [(t, .inr (12, oX12 t_q t_x0 t_x6 t_x7 t_x8 t_x9 t_x10 t_x11 t_x12 t_x13 t_x14 t_x15 t_x32 t_x33 t_x34 t_x35 t_x39 t_x40 t_x43 t_x44 t_x48 t_x49 t_x50))]) (wr := [((t_q 5), .inl (K 1, 1400, .inl (fun j => iI (t_5_c j))))]) hK hP hD hS hA [0] [1] rfl rfl (by decide) (fun hp => va_runV (C := RX12) (As := [.int (iI 1)]) (rest := []) ⟨hx, hb, hml, hown, hts⟩ (k_X12_fails (l := l) (D := D) (K := K) (t := t) (p1 := 1) (t_q := t_q) (t_x0 := t_x0) (t_x6 := t_x6) (t_x7 := t_x7) (t_x8 := t_x8) (t_x9 := t_x9) (t_x10 := t_x10) (t_x11 := t_x11) (t_x12 := t_x12) (t_x13 := t_x13) (t_x14 := t_x14) (t_x15 := t_x15) (t_x32 := t_x32) (t_x33 := t_x33) (t_x34 := t_x34) (t_x35 := t_x35) (t_x39 := t_x39) (t_x40 := t_x40) (t_x43 := t_x43) (t_x44 := t_x44) (t_x48 := t_x48) (t_x49 := t_x49) (t_x50 := t_x50) (hp1 := (by omega)) (hi_t := hi_t) _) (cwV 1 hts (fn_ginV (fn_gin wd_1475) wd_1472 wd_1474 wp_104 wd_13) rfl rfl rfl (by decide +kernel) ⟨Nat.le_of_ble_eq_true rfl, Nat.le_of_ble_eq_true rfl⟩) ⟨fn_blind, va_recv hK.1 hP (ci := 12) (q0 := 0) rfl rfl, hp⟩ rfl rfl hl.1 rfl (lv_room (Nat.le_of_ble_eq_true rfl)) dX12_ends_10 ⟨Nat.le_of_ble_eq_true rfl, Nat.le_of_ble_eq_true rfl⟩) (fun u10 H locs hwu10 hP hD hS => ?_)
    obtain ⟨u10a, u10b⟩ := u10
    obtain ⟨hqu100, -⟩ := hwu10
    have hqu10 : 0 ≤ (u10a 0) ∧ (u10a 0) ≤ 3 ∧ (-2147483648) ≤ (u10a 1) ∧ (u10a 1) ≤ 2147483647 ∧ ((t_x12 ≠ 0 ∧ (u10a 0) = t_x12) ∨ (t_x12 = 0 ∧ (u10a 0) = (1 : Int))) := hqu100
    clear hqu100
    have hP : va_P D vwCl [((t_q 5), .inl (K 1, 1400, .inl (fun j => iI (t_5_c j)))), (t, .inr (12, oX12 t_q t_x0 t_x6 t_x7 t_x8 t_x9 t_x10 t_x11 (u10a 0) (u10a 1) t_x14 t_x15 t_x32 t_x33 t_x34 t_x35 t_x39 t_x40 t_x43 t_x44 t_x48 t_x49 t_x50))] H := hP
    have hD : va_D A [((t_q 5), .inl (K 1, 1400, .inl (fun j => iI (t_5_c j)))), (t, .inr (12, oX12 t_q t_x0 t_x6 t_x7 t_x8 t_x9 t_x10 t_x11 (u10a 0) (u10a 1) t_x14 t_x15 t_x32 t_x33 t_x34 t_x35 t_x39 t_x40 t_x43 t_x44 t_x48 t_x49 t_x50))] := hD
    exact J13 (u10a 0) (u10a 1) _ _ ls (by omega) (hP.sub [1, 0] rfl) (hD.sub [1, 0] (by decide) rfl) hS (lv_sub hl [0] rfl)
theorem dX12_begins_0 : decode cX12_begins 0 = .ok (.aload_n 0, 1) := by decide +kernel
theorem dX12_begins_1 : decode cX12_begins 1 = .ok (.iconst 0, 1) := by decide +kernel
theorem dX12_begins_2 : decode cX12_begins 2 = .ok (.putfield 156, 3) := by decide +kernel
theorem dX12_begins_5 : decode cX12_begins 5 = .ok (.aload_n 0, 1) := by decide +kernel
theorem dX12_begins_6 : decode cX12_begins 6 = .ok (.iconst (-1), 1) := by decide +kernel
theorem dX12_begins_7 : decode cX12_begins 7 = .ok (.putfield 159, 3) := by decide +kernel
theorem dX12_begins_10 : decode cX12_begins 10 = .ok (.aload_n 0, 1) := by decide +kernel
theorem dX12_begins_11 : decode cX12_begins 11 = .ok (.iconst 0, 1) := by decide +kernel
theorem dX12_begins_12 : decode cX12_begins 12 = .ok (.putfield 128, 3) := by decide +kernel
theorem dX12_begins_15 : decode cX12_begins 15 = .ok (.aload_n 0, 1) := by decide +kernel
theorem dX12_begins_16 : decode cX12_begins 16 = .ok (.invokevirtual 166, 3) := by decide +kernel
theorem dX12_begins_19 : decode cX12_begins 19 = .ok (.return_, 1) := by decide +kernel
set_option maxHeartbeats 4000000 in
set_option maxRecDepth 100000 in
theorem k_X12_begins (l : Launch) (D : va_G) (K : Nat → ClassId) (t : Nat) (t_q : Nat → Nat) (t_x0 t_x6 t_x7 t_x8 t_x9 t_x10 t_x11 t_x12 t_x13 t_x14 t_x15 t_x32 t_x33 t_x34 t_x35 t_x39 t_x40 t_x43 t_x44 t_x48 t_x49 t_x50 : Int) (t_5_c : Nat → Int) (hi_t : bM12 t_x0 t_x6 t_x7 t_x8 t_x9 t_x10 t_x11 t_x12 t_x13 t_x14 t_x15 t_x32 t_x33 t_x34 t_x35 t_x39 t_x40 t_x43 t_x44 t_x48 t_x49 t_x50) (hc_t_5 : ∀ j : Nat, (-128) ≤ t_5_c j ∧ t_5_c j ≤ 127) : fn_CV (S := (Nat → Int) × (Nat → Nat → Int)) l D K yX12_begins (fn_ws yX12_begins cX12_begins 1 none) ({ frames := 12, cells := 0, slots := 0, locals := 300 } : Room) [.ref t] [(t, .inr (12, oX12 t_q t_x0 t_x6 t_x7 t_x8 t_x9 t_x10 t_x11 t_x12 t_x13 t_x14 t_x15 t_x32 t_x33 t_x34 t_x35 t_x39 t_x40 t_x43 t_x44 t_x48 t_x49 t_x50)), ((t_q 5), .inl (K 1, 1400, .inl (fun j => iI (t_5_c j))))] (fun u => (0 ≤ (u.1 0) ∧ (u.1 0) ≤ 1400 ∧ 0 ≤ (u.1 1) ∧ (u.1 1) ≤ 4 ∧ 0 ≤ (u.1 2) ∧ (u.1 2) ≤ 1400 ∧ (-2147483648) ≤ (u.1 3) ∧ (u.1 3) ≤ 2147483647 ∧ (-9223372036854775808) ≤ (u.1 4) ∧ (u.1 4) ≤ 9223372036854775807 ∧ 0 ≤ (u.1 5) ∧ (u.1 5) ≤ 3 ∧ (-2147483648) ≤ (u.1 6) ∧ (u.1 6) ≤ 2147483647 ∧ ((u.1 5) = 0) ∧ ((u.1 0) ≤ t_x6)) ∧ True) (fun u => [(t, .inr (12, oX12 t_q t_x0 t_x6 (u.1 0) (u.1 1) (u.1 2) (u.1 3) (u.1 4) (u.1 5) (u.1 6) t_x14 t_x15 t_x32 t_x33 t_x34 t_x35 t_x39 t_x40 t_x43 t_x44 t_x48 t_x49 t_x50)), ((t_q 5), .inl (K 1, 1400, .inl (fun j => iI (t_5_c j))))]) 0 0 := by
  refine g_inV (cc := cX12_begins) (maxL := 1) (ret := none) (by decide) rfl (Nat.le_of_ble_eq_true rfl) ?_
  intro p e s m below meth c A ls ag Q B hA hP hD hS hl hQ
  obtain ⟨hx, hb, hr, hml, hts, hown, hlocks, hin, hK⟩ := B
  have hown : s.vm.findClass RX12 = some m.cls := hown
  have hts := fun w h => hts w (List.mem_cons_of_mem _ h)
  have ys_taped : 0 ≤ t_x6 ∧ t_x6 ≤ 1400 := hi_t.2.1
  have ys_at : 0 ≤ t_x7 ∧ t_x7 ≤ 1400 := hi_t.2.2.1
  have ys_token : 0 ≤ t_x8 ∧ t_x8 ≤ 4 := hi_t.2.2.2.1
  have ys_bad : 0 ≤ t_x12 ∧ t_x12 ≤ 3 := hi_t.2.2.2.2.2.2.2.1
  have hl : lv_has ls 1 [(0, .ref t)] := hl
  refine lv_aload_n hx hb dX12_begins_0 rfl (lv_at hl 0 rfl) ?_
  refine lv_iconst (v := iI 0) hx hb dX12_begins_1 rfl ?_
  refine va_put (D := D) (own := RX12) (ci := 12) (v := .int (iI 0)) (ty := .int) (C := RX12) (T := TX12) (N := 51) hx hb hts inb_X12 tyX12 tyX12_ok nmX12 hown hK.1 hP hD hS 0 rfl rfl 12 (by decide) (hts _ wd_1246) (fun _ h9 => h9) rfl (by decide +kernel) rfl rfl (Nat.le_of_ble_eq_true rfl) dX12_begins_2 (fun H locs hP hD hS => ?_)
  have hP : va_P D vwCl [(t, .inr (12, oX12 t_q t_x0 t_x6 t_x7 t_x8 t_x9 t_x10 t_x11 0 t_x13 t_x14 t_x15 t_x32 t_x33 t_x34 t_x35 t_x39 t_x40 t_x43 t_x44 t_x48 t_x49 t_x50)), ((t_q 5), .inl (K 1, 1400, .inl (fun j => iI (t_5_c j))))] H := hP
  have hD : va_D A [(t, .inr (12, oX12 t_q t_x0 t_x6 t_x7 t_x8 t_x9 t_x10 t_x11 0 t_x13 t_x14 t_x15 t_x32 t_x33 t_x34 t_x35 t_x39 t_x40 t_x43 t_x44 t_x48 t_x49 t_x50)), ((t_q 5), .inl (K 1, 1400, .inl (fun j => iI (t_5_c j))))] := hD
  refine lv_aload_n hx hb dX12_begins_5 rfl (lv_at hl 0 rfl) ?_
  refine lv_iconst (v := iI (-1)) hx hb dX12_begins_6 rfl ?_
  refine va_put (D := D) (own := RX12) (ci := 12) (v := .int (iI (-1))) (ty := .int) (C := RX12) (T := TX12) (N := 51) hx hb hts inb_X12 tyX12 tyX12_ok nmX12 hown hK.1 hP hD hS 0 rfl rfl 13 (by decide) (hts _ wd_1247) (fun _ h9 => h9) rfl (by decide +kernel) rfl rfl (Nat.le_of_ble_eq_true rfl) dX12_begins_7 (fun H locs hP hD hS => ?_)
  have hP : va_P D vwCl [(t, .inr (12, oX12 t_q t_x0 t_x6 t_x7 t_x8 t_x9 t_x10 t_x11 0 (-1) t_x14 t_x15 t_x32 t_x33 t_x34 t_x35 t_x39 t_x40 t_x43 t_x44 t_x48 t_x49 t_x50)), ((t_q 5), .inl (K 1, 1400, .inl (fun j => iI (t_5_c j))))] H := hP
  have hD : va_D A [(t, .inr (12, oX12 t_q t_x0 t_x6 t_x7 t_x8 t_x9 t_x10 t_x11 0 (-1) t_x14 t_x15 t_x32 t_x33 t_x34 t_x35 t_x39 t_x40 t_x43 t_x44 t_x48 t_x49 t_x50)), ((t_q 5), .inl (K 1, 1400, .inl (fun j => iI (t_5_c j))))] := hD
  refine lv_aload_n hx hb dX12_begins_10 rfl (lv_at hl 0 rfl) ?_
  refine lv_iconst (v := iI 0) hx hb dX12_begins_11 rfl ?_
  refine va_put (D := D) (own := RX12) (ci := 12) (v := .int (iI 0)) (ty := .int) (C := RX12) (T := TX12) (N := 51) hx hb hts inb_X12 tyX12 tyX12_ok nmX12 hown hK.1 hP hD hS 0 rfl rfl 7 (by decide) (hts _ wd_1241) (fun _ h9 => h9) rfl (by decide +kernel) rfl rfl (Nat.le_of_ble_eq_true rfl) dX12_begins_12 (fun H locs hP hD hS => ?_)
  have hP : va_P D vwCl [(t, .inr (12, oX12 t_q t_x0 t_x6 0 t_x8 t_x9 t_x10 t_x11 0 (-1) t_x14 t_x15 t_x32 t_x33 t_x34 t_x35 t_x39 t_x40 t_x43 t_x44 t_x48 t_x49 t_x50)), ((t_q 5), .inl (K 1, 1400, .inl (fun j => iI (t_5_c j))))] H := hP
  have hD : va_D A [(t, .inr (12, oX12 t_q t_x0 t_x6 0 t_x8 t_x9 t_x10 t_x11 0 (-1) t_x14 t_x15 t_x32 t_x33 t_x34 t_x35 t_x39 t_x40 t_x43 t_x44 t_x48 t_x49 t_x50)), ((t_q 5), .inl (K 1, 1400, .inl (fun j => iI (t_5_c j))))] := hD
  refine lv_aload_n hx hb dX12_begins_15 rfl (lv_at hl 0 rfl) ?_
  refine fn_gov (wc := [(t, .inr (12, oX12 t_q t_x0 t_x6 0 t_x8 t_x9 t_x10 t_x11 0 (-1) t_x14 t_x15 t_x32 t_x33 t_x34 t_x35 t_x39 t_x40 t_x43 t_x44 t_x48 t_x49 t_x50)), ((t_q 5), .inl (K 1, 1400, .inl (fun j => iI (t_5_c j))))]) (wr := []) hK hP hD hS hA [0, 1] [] rfl rfl (by decide) (fun hp => va_runV (C := RX12) (As := []) (rest := []) ⟨hx, hb, hml, hown, hts⟩ (k_X12_next (l := l) (D := D) (K := K) (t := t) (t_q := t_q) (t_x0 := t_x0) (t_x6 := t_x6) (t_x7 := 0) (t_x8 := t_x8) (t_x9 := t_x9) (t_x10 := t_x10) (t_x11 := t_x11) (t_x12 := 0) (t_x13 := (-1)) (t_x14 := t_x14) (t_x15 := t_x15) (t_x32 := t_x32) (t_x33 := t_x33) (t_x34 := t_x34) (t_x35 := t_x35) (t_x39 := t_x39) (t_x40 := t_x40) (t_x43 := t_x43) (t_x44 := t_x44) (t_x48 := t_x48) (t_x49 := t_x49) (t_x50 := t_x50) (t_5_c := t_5_c) (hi_t := ⟨hi_t.1, hi_t.2.1, (by omega), hi_t.2.2.2.1, hi_t.2.2.2.2.1, hi_t.2.2.2.2.2.1, hi_t.2.2.2.2.2.2.1, (by omega), (by omega), hi_t.2.2.2.2.2.2.2.2.2.1, hi_t.2.2.2.2.2.2.2.2.2.2.1, hi_t.2.2.2.2.2.2.2.2.2.2.2.1, hi_t.2.2.2.2.2.2.2.2.2.2.2.2.1, hi_t.2.2.2.2.2.2.2.2.2.2.2.2.2.1, hi_t.2.2.2.2.2.2.2.2.2.2.2.2.2.2.1, hi_t.2.2.2.2.2.2.2.2.2.2.2.2.2.2.2.1, hi_t.2.2.2.2.2.2.2.2.2.2.2.2.2.2.2.2.1, hi_t.2.2.2.2.2.2.2.2.2.2.2.2.2.2.2.2.2.1, hi_t.2.2.2.2.2.2.2.2.2.2.2.2.2.2.2.2.2.2.1, hi_t.2.2.2.2.2.2.2.2.2.2.2.2.2.2.2.2.2.2.2.1, hi_t.2.2.2.2.2.2.2.2.2.2.2.2.2.2.2.2.2.2.2.2.1, hi_t.2.2.2.2.2.2.2.2.2.2.2.2.2.2.2.2.2.2.2.2.2⟩) (hc_t_5 := hc_t_5) (pa := (show (0 : Int) ≤ t_x6 from by omega)) _) (cwV 0 hts (fn_ginV (fn_gin wd_1445) wd_1442 wd_1444 wp_98 wd_13) rfl rfl rfl (by decide +kernel) ⟨Nat.le_of_ble_eq_true rfl, Nat.le_of_ble_eq_true rfl⟩) ⟨fn_blind, va_recv hK.1 hP (ci := 12) (q0 := 0) rfl rfl, hp⟩ rfl rfl hl.1 rfl (lv_room (Nat.le_of_ble_eq_true rfl)) dX12_begins_16 ⟨Nat.le_of_ble_eq_true rfl, Nat.le_of_ble_eq_true rfl⟩) (fun u16 H locs hwu16 hP hD hS => ?_)
  obtain ⟨u16a, u16b⟩ := u16
  obtain ⟨hqu160, -⟩ := hwu16
  have hqu16 : 0 ≤ (u16a 0) ∧ (u16a 0) ≤ 1400 ∧ 0 ≤ (u16a 1) ∧ (u16a 1) ≤ 4 ∧ 0 ≤ (u16a 2) ∧ (u16a 2) ≤ 1400 ∧ (-2147483648) ≤ (u16a 3) ∧ (u16a 3) ≤ 2147483647 ∧ (-9223372036854775808) ≤ (u16a 4) ∧ (u16a 4) ≤ 9223372036854775807 ∧ ((0 : Int) ≤ (u16a 0)) ∧ ((u16a 0) ≤ t_x6) ∧ ((u16a 1) = 0 ∨ (0 : Int) < (u16a 0)) := hqu160
  clear hqu160
  have hP : va_P D vwCl [(t, .inr (12, oX12 t_q t_x0 t_x6 (u16a 0) (u16a 1) (u16a 2) (u16a 3) (u16a 4) 0 (-1) t_x14 t_x15 t_x32 t_x33 t_x34 t_x35 t_x39 t_x40 t_x43 t_x44 t_x48 t_x49 t_x50)), ((t_q 5), .inl (K 1, 1400, .inl (fun j => iI (t_5_c j))))] H := hP
  have hD : va_D A [(t, .inr (12, oX12 t_q t_x0 t_x6 (u16a 0) (u16a 1) (u16a 2) (u16a 3) (u16a 4) 0 (-1) t_x14 t_x15 t_x32 t_x33 t_x34 t_x35 t_x39 t_x40 t_x43 t_x44 t_x48 t_x49 t_x50)), ((t_q 5), .inl (K 1, 1400, .inl (fun j => iI (t_5_c j))))] := hD
  rw [hQ]; exact fn_vret hx hb hr hlocks hP hD hS ((fun k => ([(u16a 0), (u16a 1), (u16a 2), (u16a 3), (u16a 4), 0, (-1)] : List Int).getD k 0), (fun _ _ => 0)) ⟨(by show 0 ≤ (u16a 0) ∧ (u16a 0) ≤ 1400 ∧ 0 ≤ (u16a 1) ∧ (u16a 1) ≤ 4 ∧ 0 ≤ (u16a 2) ∧ (u16a 2) ≤ 1400 ∧ (-2147483648) ≤ (u16a 3) ∧ (u16a 3) ≤ 2147483647 ∧ (-9223372036854775808) ≤ (u16a 4) ∧ (u16a 4) ≤ 9223372036854775807 ∧ 0 ≤ 0 ∧ 0 ≤ 3 ∧ (-2147483648) ≤ (-1) ∧ (-1) ≤ 2147483647 ∧ ((0 : Int) = 0) ∧ ((u16a 0) ≤ t_x6); omega), trivial⟩ [0, 1] (by decide) rfl dX12_begins_19
