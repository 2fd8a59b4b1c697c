theorem wd_68 : Cond.fieldLink "FootNotes$Text" 30 "FootNotes$Text" "lines" "I" ∈ fn_big := fn_tb (fn_l1 (List.mem_of_getElem? (i := 68) (by decide +kernel))) (by decide +kernel)
theorem wd_72 : Cond.fieldLink "FootNotes$Text" 34 "FootNotes$Text" "opens" "I" ∈ fn_big := fn_tb (fn_l1 (List.mem_of_getElem? (i := 72) (by decide +kernel))) (by decide +kernel)
theorem wd_75 : Cond.fieldLink "FootNotes$Text" 37 "FootNotes$Text" "odds" "I" ∈ fn_big := fn_tb (fn_l1 (List.mem_of_getElem? (i := 75) (by decide +kernel))) (by decide +kernel)
theorem wd_99 : Cond.fieldLink "FootNotes$Text" 49 "FootNotes$Text" "facts" "I" ∈ fn_big := fn_tb (fn_l1 (List.mem_of_getElem? (i := 99) (by decide +kernel))) (by decide +kernel)
theorem wd_103 : Cond.fieldLink "FootNotes$Text" 52 "FootNotes$Text" "dead" "I" ∈ fn_big := fn_tb (fn_l1 (List.mem_of_getElem? (i := 103) (by decide +kernel))) (by decide +kernel)
theorem dX7_clear_0 : decode cX7_clear 0 = .ok (.aload_n 0, 1) := by decide +kernel
theorem dX7_clear_1 : decode cX7_clear 1 = .ok (.iconst 0, 1) := by decide +kernel
theorem dX7_clear_2 : decode cX7_clear 2 = .ok (.putfield 30, 3) := by decide +kernel
theorem dX7_clear_5 : decode cX7_clear 5 = .ok (.aload_n 0, 1) := by decide +kernel
theorem dX7_clear_6 : decode cX7_clear 6 = .ok (.iconst 0, 1) := by decide +kernel
theorem dX7_clear_7 : decode cX7_clear 7 = .ok (.putfield 34, 3) := by decide +kernel
theorem dX7_clear_10 : decode cX7_clear 10 = .ok (.aload_n 0, 1) := by decide +kernel
theorem dX7_clear_11 : decode cX7_clear 11 = .ok (.iconst 0, 1) := by decide +kernel
theorem dX7_clear_12 : decode cX7_clear 12 = .ok (.putfield 37, 3) := by decide +kernel
theorem dX7_clear_15 : decode cX7_clear 15 = .ok (.aload_n 0, 1) := by decide +kernel
theorem dX7_clear_16 : decode cX7_clear 16 = .ok (.iconst 0, 1) := by decide +kernel
theorem dX7_clear_17 : decode cX7_clear 17 = .ok (.putfield 40, 3) := by decide +kernel
theorem dX7_clear_20 : decode cX7_clear 20 = .ok (.aload_n 0, 1) := by decide +kernel
theorem dX7_clear_21 : decode cX7_clear 21 = .ok (.iconst 0, 1) := by decide +kernel
theorem dX7_clear_22 : decode cX7_clear 22 = .ok (.putfield 43, 3) := by decide +kernel
theorem dX7_clear_25 : decode cX7_clear 25 = .ok (.aload_n 0, 1) := by decide +kernel
theorem dX7_clear_26 : decode cX7_clear 26 = .ok (.iconst 0, 1) := by decide +kernel
theorem dX7_clear_27 : decode cX7_clear 27 = .ok (.putfield 46, 3) := by decide +kernel
theorem dX7_clear_30 : decode cX7_clear 30 = .ok (.aload_n 0, 1) := by decide +kernel
theorem dX7_clear_31 : decode cX7_clear 31 = .ok (.iconst 0, 1) := by decide +kernel
theorem dX7_clear_32 : decode cX7_clear 32 = .ok (.putfield 49, 3) := by decide +kernel
theorem dX7_clear_35 : decode cX7_clear 35 = .ok (.aload_n 0, 1) := by decide +kernel
theorem dX7_clear_36 : decode cX7_clear 36 = .ok (.iconst 0, 1) := by decide +kernel
theorem dX7_clear_37 : decode cX7_clear 37 = .ok (.putfield 52, 3) := by decide +kernel
theorem dX7_clear_40 : decode cX7_clear 40 = .ok (.aload_n 0, 1) := by decide +kernel
theorem dX7_clear_41 : decode cX7_clear 41 = .ok (.iconst 0, 1) := by decide +kernel
theorem dX7_clear_42 : decode cX7_clear 42 = .ok (.putfield 55, 3) := by decide +kernel
theorem dX7_clear_45 : decode cX7_clear 45 = .ok (.return_, 1) := by decide +kernel
set_option maxHeartbeats 4000000 in
set_option maxRecDepth 100000 in
theorem k_X7_clear (l : Launch) (D : va_G) (K : Nat → ClassId) (t : Nat) (t_q : Nat → Nat) (t_x0 t_x1 t_x2 t_x3 t_x4 t_x5 t_x6 t_x7 t_x8 : Int) (hi_t : bX7 t_x0 t_x1 t_x2 t_x3 t_x4 t_x5 t_x6 t_x7 t_x8) : fn_CV (S := (Nat → Int) × (Nat → Nat → Int)) l D K yX7_clear (fn_ws yX7_clear cX7_clear 1 none) ({ frames := 4, cells := 0, slots := 0, locals := 100 } : Room) [.ref t] [(t, .inr (7, oX7 t_q t_x0 t_x1 t_x2 t_x3 t_x4 t_x5 t_x6 t_x7 t_x8))] (fun u => (0 ≤ (u.1 0) ∧ (u.1 0) ≤ 1400 ∧ 0 ≤ (u.1 1) ∧ (u.1 1) ≤ 20 ∧ 0 ≤ (u.1 2) ∧ (u.1 2) ≤ 100 ∧ 0 ≤ (u.1 3) ∧ (u.1 3) ≤ 5 ∧ 0 ≤ (u.1 4) ∧ (u.1 4) ≤ 12 ∧ 0 ≤ (u.1 5) ∧ (u.1 5) ≤ 24 ∧ 0 ≤ (u.1 6) ∧ (u.1 6) ≤ 4095 ∧ 0 ≤ (u.1 7) ∧ (u.1 7) ≤ 31 ∧ (-2147483648) ≤ (u.1 8) ∧ (u.1 8) ≤ 2147483647 ∧ ((u.1 0) = 0)) ∧ True) (fun u => [(t, .inr (7, oX7 t_q (u.1 0) (u.1 1) (u.1 2) (u.1 3) (u.1 4) (u.1 5) (u.1 6) (u.1 7) (u.1 8)))]) 0 0 := by
  refine g_inV (cc := cX7_clear) (maxL := 1) (ret := none) (by decide) rfl (Nat.le_of_ble_eq_true rfl) ?_
  intro p e s m below meth c A ls ag Q B hA hP hD hS hl hQ
  obtain ⟨hx, hb, hr, hml, hts, hown, hlocks, hin, hK⟩ := B
  have hown : s.vm.findClass RX7 = some m.cls := hown
  have hts := fun w h => hts w (List.mem_cons_of_mem _ h)
  have hl : lv_has ls 1 [(0, .ref t)] := hl
  refine lv_aload_n hx hb dX7_clear_0 rfl (lv_at hl 0 rfl) ?_
  refine lv_iconst (v := iI 0) hx hb dX7_clear_1 rfl ?_
  refine va_put (D := D) (own := RX7) (ci := 7) (v := .int (iI 0)) (ty := .int) (C := RX7) (T := TX7) (N := 15) hx hb hts inb_X7 tyX7 tyX7_ok nmX7 hown hK.1 hP hD hS 0 rfl rfl 0 (by decide) (hts _ wd_68) (fun _ h9 => h9) rfl (by decide +kernel) rfl rfl (Nat.le_of_ble_eq_true rfl) dX7_clear_2 (fun H locs hP hD hS => ?_)
  have hP : va_P D vwCl [(t, .inr (7, oX7 t_q 0 t_x1 t_x2 t_x3 t_x4 t_x5 t_x6 t_x7 t_x8))] H := hP
  have hD : va_D A [(t, .inr (7, oX7 t_q 0 t_x1 t_x2 t_x3 t_x4 t_x5 t_x6 t_x7 t_x8))] := hD
  refine lv_aload_n hx hb dX7_clear_5 rfl (lv_at hl 0 rfl) ?_
  refine lv_iconst (v := iI 0) hx hb dX7_clear_6 rfl ?_
  refine va_put (D := D) (own := RX7) (ci := 7) (v := .int (iI 0)) (ty := .int) (C := RX7) (T := TX7) (N := 15) hx hb hts inb_X7 tyX7 tyX7_ok nmX7 hown hK.1 hP hD hS 0 rfl rfl 1 (by decide) (hts _ wd_72) (fun _ h9 => h9) rfl (by decide +kernel) rfl rfl (Nat.le_of_ble_eq_true rfl) dX7_clear_7 (fun H locs hP hD hS => ?_)
  have hP : va_P D vwCl [(t, .inr (7, oX7 t_q 0 0 t_x2 t_x3 t_x4 t_x5 t_x6 t_x7 t_x8))] H := hP
  have hD : va_D A [(t, .inr (7, oX7 t_q 0 0 t_x2 t_x3 t_x4 t_x5 t_x6 t_x7 t_x8))] := hD
  refine lv_aload_n hx hb dX7_clear_10 rfl (lv_at hl 0 rfl) ?_
  refine lv_iconst (v := iI 0) hx hb dX7_clear_11 rfl ?_
  refine va_put (D := D) (own := RX7) (ci := 7) (v := .int (iI 0)) (ty := .int) (C := RX7) (T := TX7) (N := 15) hx hb hts inb_X7 tyX7 tyX7_ok nmX7 hown hK.1 hP hD hS 0 rfl rfl 2 (by decide) (hts _ wd_75) (fun _ h9 => h9) rfl (by decide +kernel) rfl rfl (Nat.le_of_ble_eq_true rfl) dX7_clear_12 (fun H locs hP hD hS => ?_)
  have hP : va_P D vwCl [(t, .inr (7, oX7 t_q 0 0 0 t_x3 t_x4 t_x5 t_x6 t_x7 t_x8))] H := hP
  have hD : va_D A [(t, .inr (7, oX7 t_q 0 0 0 t_x3 t_x4 t_x5 t_x6 t_x7 t_x8))] := hD
  refine lv_aload_n hx hb dX7_clear_15 rfl (lv_at hl 0 rfl) ?_
  refine lv_iconst (v := iI 0) hx hb dX7_clear_16 rfl ?_
  refine va_put (D := D) (own := RX7) (ci := 7) (v := .int (iI 0)) (ty := .int) (C := RX7) (T := TX7) (N := 15) hx hb hts inb_X7 tyX7 tyX7_ok nmX7 hown hK.1 hP hD hS 0 rfl rfl 3 (by decide) (hts _ wd_80) (fun _ h9 => h9) rfl (by decide +kernel) rfl rfl (Nat.le_of_ble_eq_true rfl) dX7_clear_17 (fun H locs hP hD hS => ?_)
  have hP : va_P D vwCl [(t, .inr (7, oX7 t_q 0 0 0 0 t_x4 t_x5 t_x6 t_x7 t_x8))] H := hP
  have hD : va_D A [(t, .inr (7, oX7 t_q 0 0 0 0 t_x4 t_x5 t_x6 t_x7 t_x8))] := hD
  refine lv_aload_n hx hb dX7_clear_20 rfl (lv_at hl 0 rfl) ?_
  refine lv_iconst (v := iI 0) hx hb dX7_clear_21 rfl ?_
  refine va_put (D := D) (own := RX7) (ci := 7) (v := .int (iI 0)) (ty := .int) (C := RX7) (T := TX7) (N := 15) hx hb hts inb_X7 tyX7 tyX7_ok nmX7 hown hK.1 hP hD hS 0 rfl rfl 4 (by decide) (hts _ wd_87) (fun _ h9 => h9) rfl (by decide +kernel) rfl rfl (Nat.le_of_ble_eq_true rfl) dX7_clear_22 (fun H locs hP hD hS => ?_)
  have hP : va_P D vwCl [(t, .inr (7, oX7 t_q 0 0 0 0 0 t_x5 t_x6 t_x7 t_x8))] H := hP
  have hD : va_D A [(t, .inr (7, oX7 t_q 0 0 0 0 0 t_x5 t_x6 t_x7 t_x8))] := hD
  refine lv_aload_n hx hb dX7_clear_25 rfl (lv_at hl 0 rfl) ?_
  refine lv_iconst (v := iI 0) hx hb dX7_clear_26 rfl ?_
  refine va_put (D := D) (own := RX7) (ci := 7) (v := .int (iI 0)) (ty := .int) (C := RX7) (T := TX7) (N := 15) hx hb hts inb_X7 tyX7 tyX7_ok nmX7 hown hK.1 hP hD hS 0 rfl rfl 5 (by decide) (hts _ wd_92) (fun _ h9 => h9) rfl (by decide +kernel) rfl rfl (Nat.le_of_ble_eq_true rfl) dX7_clear_27 (fun H locs hP hD hS => ?_)
  have hP : va_P D vwCl [(t, .inr (7, oX7 t_q 0 0 0 0 0 0 t_x6 t_x7 t_x8))] H := hP
  have hD : va_D A [(t, .inr (7, oX7 t_q 0 0 0 0 0 0 t_x6 t_x7 t_x8))] := hD
  refine lv_aload_n hx hb dX7_clear_30 rfl (lv_at hl 0 rfl) ?_
  refine fn_at 31 rfl ?_
  refine lv_iconst (v := iI 0) hx hb dX7_clear_31 rfl ?_
  refine va_put (D := D) (own := RX7) (ci := 7) (v := .int (iI 0)) (ty := .int) (C := RX7) (T := TX7) (N := 15) hx hb hts inb_X7 tyX7 tyX7_ok nmX7 hown hK.1 hP hD hS 0 rfl rfl 6 (by decide) (hts _ wd_99) (fun _ h9 => h9) rfl (by decide +kernel) rfl rfl (Nat.le_of_ble_eq_true rfl) dX7_clear_32 (fun H locs hP hD hS => ?_)
  have hP : va_P D vwCl [(t, .inr (7, oX7 t_q 0 0 0 0 0 0 0 t_x7 t_x8))] H := hP
  have hD : va_D A [(t, .inr (7, oX7 t_q 0 0 0 0 0 0 0 t_x7 t_x8))] := hD
  refine lv_aload_n hx hb dX7_clear_35 rfl (lv_at hl 0 rfl) ?_
  refine lv_iconst (v := iI 0) hx hb dX7_clear_36 rfl ?_
  refine va_put (D := D) (own := RX7) (ci := 7) (v := .int (iI 0)) (ty := .int) (C := RX7) (T := TX7) (N := 15) hx hb hts inb_X7 tyX7 tyX7_ok nmX7 hown hK.1 hP hD hS 0 rfl rfl 7 (by decide) (hts _ wd_103) (fun _ h9 => h9) rfl (by decide +kernel) rfl rfl (Nat.le_of_ble_eq_true rfl) dX7_clear_37 (fun H locs hP hD hS => ?_)
  have hP : va_P D vwCl [(t, .inr (7, oX7 t_q 0 0 0 0 0 0 0 0 t_x8))] H := hP
  have hD : va_D A [(t, .inr (7, oX7 t_q 0 0 0 0 0 0 0 0 t_x8))] := hD
  refine lv_aload_n hx hb dX7_clear_40 rfl (lv_at hl 0 rfl) ?_
  refine lv_iconst (v := iI 0) hx hb dX7_clear_41 rfl ?_
  refine va_put (D := D) (own := RX7) (ci := 7) (v := .int (iI 0)) (ty := .int) (C := RX7) (T := TX7) (N := 15) hx hb hts inb_X7 tyX7 tyX7_ok nmX7 hown hK.1 hP hD hS 0 rfl rfl 8 (by decide) (hts _ wd_106) (fun _ h9 => h9) rfl (by decide +kernel) rfl rfl (Nat.le_of_ble_eq_true rfl) dX7_clear_42 (fun H locs hP hD hS => ?_)
  have hP : va_P D vwCl [(t, .inr (7, oX7 t_q 0 0 0 0 0 0 0 0 0))] H := hP
  have hD : va_D A [(t, .inr (7, oX7 t_q 0 0 0 0 0 0 0 0 0))] := hD
  rw [hQ]; exact fn_vret hx hb hr hlocks hP hD hS ((fun k => ([0, 0, 0, 0, 0, 0, 0, 0, 0] : List Int).getD k 0), (fun _ _ => 0)) ⟨(by show 0 ≤ 0 ∧ 0 ≤ 1400 ∧ 0 ≤ 0 ∧ 0 ≤ 20 ∧ 0 ≤ 0 ∧ 0 ≤ 100 ∧ 0 ≤ 0 ∧ 0 ≤ 5 ∧ 0 ≤ 0 ∧ 0 ≤ 12 ∧ 0 ≤ 0 ∧ 0 ≤ 24 ∧ 0 ≤ 0 ∧ 0 ≤ 4095 ∧ 0 ≤ 0 ∧ 0 ≤ 31 ∧ (-2147483648) ≤ 0 ∧ 0 ≤ 2147483647 ∧ ((0 : Int) = 0); omega), trivial⟩ [0] (by decide) rfl dX7_clear_45
theorem wd_500 : Cond.code ⟨"FootNotes$Reader", "readLine", "()V"⟩ prog_5_method_3_code 1 (Option.none : Option Jvm.ClassFile.FieldType) ∈ fn_big := fn_tb (fn_l3 (List.mem_of_getElem? (i := 20) (by decide +kernel))) (by decide +kernel)
theorem wd_497 : Cond.methodLink "FootNotes$Reader" 41 ⟨"FootNotes$Reader", "readLine", "()V"⟩ ∈ fn_big := fn_tb (fn_l3 (List.mem_of_getElem? (i := 17) (by decide +kernel))) (by decide +kernel)
theorem wd_499 : Cond.instanceMethod ⟨"FootNotes$Reader", "readLine", "()V"⟩ ∈ fn_big := fn_tb (fn_l3 (List.mem_of_getElem? (i := 19) (by decide +kernel))) (by decide +kernel)
theorem wp_5 : Cond.selects "FootNotes$Reader" ⟨"FootNotes$Reader", "readLine", "()V"⟩ ⟨"FootNotes$Reader", "readLine", "()V"⟩ ∈ fn_big := fn_sel (q := (⟨"FootNotes$Reader", "readLine", "()V"⟩, 4)) 5 (by decide +kernel) (by decide +kernel)
theorem wd_615 : Cond.code ⟨"FootNotes$Reader", "takeSign", "()V"⟩ prog_5_method_9_code 1 (Option.none : Option Jvm.ClassFile.FieldType) ∈ fn_big := fn_tb (fn_l3 (List.mem_of_getElem? (i := 135) (by decide +kernel))) (by decide +kernel)
theorem wd_612 : Cond.methodLink "FootNotes$Reader" 44 ⟨"FootNotes$Reader", "takeSign", "()V"⟩ ∈ fn_big := fn_tb (fn_l3 (List.mem_of_getElem? (i := 132) (by decide +kernel))) (by decide +kernel)
theorem wd_614 : Cond.instanceMethod ⟨"FootNotes$Reader", "takeSign", "()V"⟩ ∈ fn_big := fn_tb (fn_l3 (List.mem_of_getElem? (i := 134) (by decide +kernel))) (by decide +kernel)
theorem wp_17 : Cond.selects "FootNotes$Reader" ⟨"FootNotes$Reader", "takeSign", "()V"⟩ ⟨"FootNotes$Reader", "takeSign", "()V"⟩ ∈ fn_big := fn_sel (q := (⟨"FootNotes$Reader", "takeSign", "()V"⟩, 4)) 17 (by decide +kernel) (by decide +kernel)
theorem wd_485 : Cond.code ⟨"FootNotes$Text", "clear", "()V"⟩ prog_9_method_2_code 1 (Option.none : Option Jvm.ClassFile.FieldType) ∈ fn_big := fn_tb (fn_l3 (List.mem_of_getElem? (i := 5) (by decide +kernel))) (by decide +kernel)
theorem wd_484 : Cond.instanceMethod ⟨"FootNotes$Text", "clear", "()V"⟩ ∈ fn_big := fn_tb (fn_l3 (List.mem_of_getElem? (i := 4) (by decide +kernel))) (by decide +kernel)
theorem wp_2 : Cond.selects "FootNotes$Text" ⟨"FootNotes$Text", "clear", "()V"⟩ ⟨"FootNotes$Text", "clear", "()V"⟩ ∈ fn_big := fn_sel (q := (⟨"FootNotes$Text", "clear", "()V"⟩, 15)) 2 (by decide +kernel) (by decide +kernel)
theorem wd_489 : Cond.code ⟨"FootNotes$Tape", "goToFirstToken", "()V"⟩ prog_8_method_3_code 1 (Option.none : Option Jvm.ClassFile.FieldType) ∈ fn_big := fn_tb (fn_l3 (List.mem_of_getElem? (i := 9) (by decide +kernel))) (by decide +kernel)
theorem wd_488 : Cond.instanceMethod ⟨"FootNotes$Tape", "goToFirstToken", "()V"⟩ ∈ fn_big := fn_tb (fn_l3 (List.mem_of_getElem? (i := 8) (by decide +kernel))) (by decide +kernel)
theorem wp_3 : Cond.selects "FootNotes$Tape" ⟨"FootNotes$Tape", "goToFirstToken", "()V"⟩ ⟨"FootNotes$Tape", "goToFirstToken", "()V"⟩ ∈ fn_big := fn_sel (q := (⟨"FootNotes$Tape", "goToFirstToken", "()V"⟩, 5)) 3 (by decide +kernel) (by decide +kernel)
theorem dX3_readLines_26 : decode cX3_readLines 26 = .ok (.iload_n 1, 1) := by decide +kernel
theorem dX3_readLines_27 : decode cX3_readLines 27 = .ok (.sipush 1400, 3) := by decide +kernel
theorem dX3_readLines_30 : decode cX3_readLines 30 = .ok (.if_icmp .ge 47, 3) := by decide +kernel
theorem dX3_readLines_77 : decode cX3_readLines 77 = .ok (.return_, 1) := by decide +kernel
theorem dX3_readLines_33 : decode cX3_readLines 33 = .ok (.aload_n 0, 1) := by decide +kernel
theorem dX3_readLines_34 : decode cX3_readLines 34 = .ok (.getfield 12, 3) := by decide +kernel
theorem dX3_readLines_37 : decode cX3_readLines 37 = .ok (.getfield 38, 3) := by decide +kernel
theorem dX3_readLines_40 : decode cX3_readLines 40 = .ok (.ifCond .eq 37, 3) := by decide +kernel
theorem dX3_readLines_43 : decode cX3_readLines 43 = .ok (.aload_n 0, 1) := by decide +kernel
theorem dX3_readLines_44 : decode cX3_readLines 44 = .ok (.getfield 29, 3) := by decide +kernel
theorem dX3_readLines_47 : decode cX3_readLines 47 = .ok (.ifCond .ne 30, 3) := by decide +kernel
theorem dX3_readLines_50 : decode cX3_readLines 50 = .ok (.aload_n 0, 1) := by decide +kernel
theorem dX3_readLines_51 : decode cX3_readLines 51 = .ok (.invokevirtual 41, 3) := by decide +kernel
theorem dX3_readLines_54 : decode cX3_readLines 54 = .ok (.aload_n 0, 1) := by decide +kernel
theorem dX3_readLines_55 : decode cX3_readLines 55 = .ok (.invokevirtual 44, 3) := by decide +kernel
theorem dX3_readLines_58 : decode cX3_readLines 58 = .ok (.aload_n 0, 1) := by decide +kernel
theorem dX3_readLines_59 : decode cX3_readLines 59 = .ok (.getfield 21, 3) := by decide +kernel
theorem dX3_readLines_62 : decode cX3_readLines 62 = .ok (.dup, 1) := by decide +kernel
theorem dX3_readLines_63 : decode cX3_readLines 63 = .ok (.getfield 47, 3) := by decide +kernel
theorem dX3_readLines_66 : decode cX3_readLines 66 = .ok (.iconst 1, 1) := by decide +kernel
theorem dX3_readLines_67 : decode cX3_readLines 67 = .ok (.iadd, 1) := by decide +kernel
theorem dX3_readLines_68 : decode cX3_readLines 68 = .ok (.putfield 47, 3) := by decide +kernel
theorem dX3_readLines_71 : decode cX3_readLines 71 = .ok (.iinc 1 1, 3) := by decide +kernel
theorem dX3_readLines_74 : decode cX3_readLines 74 = .ok (.goto (-48), 3) := by decide +kernel
theorem dX3_readLines_0 : decode cX3_readLines 0 = .ok (.aload_n 0, 1) := by decide +kernel
theorem dX3_readLines_1 : decode cX3_readLines 1 = .ok (.iconst 0, 1) := by decide +kernel
theorem dX3_readLines_2 : decode cX3_readLines 2 = .ok (.putfield 29, 3) := by decide +kernel
theorem dX3_readLines_5 : decode cX3_readLines 5 = .ok (.aload_n 0, 1) := by decide +kernel
theorem dX3_readLines_6 : decode cX3_readLines 6 = .ok (.iconst (-1), 1) := by decide +kernel
theorem dX3_readLines_7 : decode cX3_readLines 7 = .ok (.putfield 25, 3) := by decide +kernel
theorem dX3_readLines_10 : decode cX3_readLines 10 = .ok (.aload_n 0, 1) := by decide +kernel
theorem dX3_readLines_11 : decode cX3_readLines 11 = .ok (.getfield 21, 3) := by decide +kernel
theorem dX3_readLines_14 : decode cX3_readLines 14 = .ok (.invokevirtual 32, 3) := by decide +kernel
theorem dX3_readLines_17 : decode cX3_readLines 17 = .ok (.aload_n 0, 1) := by decide +kernel
theorem dX3_readLines_18 : decode cX3_readLines 18 = .ok (.getfield 12, 3) := by decide +kernel
theorem dX3_readLines_21 : decode cX3_readLines 21 = .ok (.invokevirtual 35, 3) := by decide +kernel
theorem dX3_readLines_24 : decode cX3_readLines 24 = .ok (.iconst 0, 1) := by decide +kernel
theorem dX3_readLines_25 : decode cX3_readLines 25 = .ok (.istore_n 1, 1) := by decide +kernel
set_option maxHeartbeats 4000000 in
set_option maxRecDepth 100000 in
theorem k_X3_readLines (l : Launch) (D : va_G) (K : Nat → ClassId) (adK adV : Nat → Nat) (t : Nat) (t_q t_1_q t_0_q : Nat → Nat) (t_x2 t_x3 t_1_x0 t_1_x1 t_1_x2 t_1_x3 t_1_x4 t_1_x5 t_1_x6 t_1_x7 t_1_x8 t_0_x0 t_0_x2 t_0_x3 t_0_x4 : Int) (t_0_1_c : Nat → Int) (t_1_12_c : Nat → Int) (t_1_13_c : Nat → Int) (t_1_14_c : Nat → Int) (t_1_9_c : Nat → Int) (t_1_10_c : Nat → Int) (t_1_11_c : Nat → Int) (hi_t : bX3 t_x2 t_x3) (hi_t_1 : bX7 t_1_x0 t_1_x1 t_1_x2 t_1_x3 t_1_x4 t_1_x5 t_1_x6 t_1_x7 t_1_x8) (hi_t_0 : bX6 t_0_x0 t_0_x2 t_0_x3 t_0_x4) (hc_t_0_1 : ∀ j : Nat, (-128) ≤ t_0_1_c j ∧ t_0_1_c j ≤ 127) (hc_t_1_12 : ∀ j : Nat, 0 ≤ t_1_12_c j ∧ t_1_12_c j ≤ 11) (hc_t_1_13 : ∀ j : Nat, 0 ≤ t_1_13_c j ∧ t_1_13_c j ≤ 4) (hc_t_1_14 : ∀ j : Nat, 0 ≤ t_1_14_c j ∧ t_1_14_c j ≤ 29) (hc_t_1_9 : ∀ j : Nat, 0 ≤ t_1_9_c j ∧ t_1_9_c j ≤ 4) (hc_t_1_10 : ∀ j : Nat, 0 ≤ t_1_10_c j ∧ t_1_10_c j ≤ 12) (hc_t_1_11 : ∀ j : Nat, 0 ≤ t_1_11_c j ∧ t_1_11_c j ≤ 4) : fn_CVO adK adV (S := (Nat → Int) × (Nat → Nat → Int)) l D K yX3_readLines (fn_ws yX3_readLines cX3_readLines 2 none) ({ frames := 40, cells := 0, slots := 0, locals := 1000 } : Room) [.ref t] [(t, .inr (3, oX3 t_q t_x2 t_x3)), ((t_q 1), .inr (7, oX7 t_1_q t_1_x0 t_1_x1 t_1_x2 t_1_x3 t_1_x4 t_1_x5 t_1_x6 t_1_x7 t_1_x8)), ((t_q 0), .inr (6, oX6 t_0_q t_0_x0 t_0_x2 t_0_x3 t_0_x4)), ((t_0_q 1), .inl (K 1, 1400, .inl (fun j => iI (t_0_1_c j)))), ((t_1_q 12), .inl (K 0, 24, .inl (fun j => iI (t_1_12_c j)))), ((t_1_q 13), .inl (K 0, 24, .inl (fun j => iI (t_1_13_c j)))), ((t_1_q 14), .inl (K 0, 24, .inl (fun j => iI (t_1_14_c j)))), ((t_1_q 9), .inl (K 0, 5, .inl (fun j => iI (t_1_9_c j)))), ((t_1_q 10), .inl (K 0, 6, .inl (fun j => iI (t_1_10_c j)))), ((t_1_q 11), .inl (K 0, 12, .inl (fun j => iI (t_1_11_c j))))] (fun u => (0 ≤ (u.1 0) ∧ (u.1 0) ≤ 3 ∧ (-2147483648) ≤ (u.1 1) ∧ (u.1 1) ≤ 2147483647 ∧ 0 ≤ (u.1 2) ∧ (u.1 2) ≤ 4 ∧ 0 ≤ (u.1 3) ∧ (u.1 3) ≤ 1400 ∧ 0 ≤ (u.1 4) ∧ (u.1 4) ≤ 1400 ∧ 0 ≤ (u.1 5) ∧ (u.1 5) ≤ 1400 ∧ 0 ≤ (u.1 6) ∧ (u.1 6) ≤ 20 ∧ 0 ≤ (u.1 7) ∧ (u.1 7) ≤ 100 ∧ 0 ≤ (u.1 8) ∧ (u.1 8) ≤ 5 ∧ 0 ≤ (u.1 9) ∧ (u.1 9) ≤ 12 ∧ 0 ≤ (u.1 10) ∧ (u.1 10) ≤ 24 ∧ 0 ≤ (u.1 11) ∧ (u.1 11) ≤ 4095 ∧ 0 ≤ (u.1 12) ∧ (u.1 12) ≤ 31 ∧ (-2147483648) ≤ (u.1 13) ∧ (u.1 13) ≤ 2147483647) ∧ (∀ j : Nat, 0 ≤ (u.2 0) j ∧ (u.2 0) j ≤ 12) ∧ (∀ j : Nat, 0 ≤ (u.2 1) j ∧ (u.2 1) j ≤ 4) ∧ (∀ j : Nat, 0 ≤ (u.2 2) j ∧ (u.2 2) j ≤ 11) ∧ (∀ j : Nat, 0 ≤ (u.2 3) j ∧ (u.2 3) j ≤ 4) ∧ (∀ j : Nat, 0 ≤ (u.2 4) j ∧ (u.2 4) j ≤ 29) ∧ (∀ j : Nat, 0 ≤ (u.2 5) j ∧ (u.2 5) j ≤ 4) ∧ True) (fun u => [(t, .inr (3, oX3 t_q (u.1 0) (u.1 1))), ((t_q 1), .inr (7, oX7 t_1_q (u.1 5) (u.1 6) (u.1 7) (u.1 8) (u.1 9) (u.1 10) (u.1 11) (u.1 12) (u.1 13))), ((t_q 0), .inr (6, oX6 t_0_q t_0_x0 (u.1 2) (u.1 3) (u.1 4))), ((t_0_q 1), .inl (K 1, 1400, .inl (fun j => iI (t_0_1_c j)))), ((t_1_q 12), .inl (K 0, 24, .inl (fun j => iI ((u.2 2) j)))), ((t_1_q 13), .inl (K 0, 24, .inl (fun j => iI ((u.2 3) j)))), ((t_1_q 14), .inl (K 0, 24, .inl (fun j => iI ((u.2 4) j)))), ((t_1_q 9), .inl (K 0, 5, .inl (fun j => iI ((u.2 5) j)))), ((t_1_q 10), .inl (K 0, 6, .inl (fun j => iI ((u.2 0) j)))), ((t_1_q 11), .inl (K 0, 12, .inl (fun j => iI ((u.2 1) j))))]) 0 0 := by
  refine g_inVO (cc := cX3_readLines) (maxL := 2) (ret := none) (by decide) rfl (Nat.le_of_ble_eq_true rfl) ?_
  intro p e s m below meth c A ls ag Q B hO hA hP hD hS hl hQ
  obtain ⟨hx, hb, hr, hml, hts, hown, hlocks, hin, hK⟩ := B
  have hown : s.vm.findClass RX3 = some m.cls := hown
  have hts := fun w h => hts w (List.mem_cons_of_mem _ h)
  have J26 : ∀ (n : Nat) (x26_1 : Int) (f26_t_2 : Int) (f26_t_3 : Int) (f26_t_1_0 : Int) (f26_t_1_1 : Int) (f26_t_1_2 : Int) (f26_t_1_3 : Int) (f26_t_1_4 : Int) (f26_t_1_5 : Int) (f26_t_1_6 : Int) (f26_t_1_7 : Int) (f26_t_1_8 : Int) (f26_t_0_2 : Int) (f26_t_0_3 : Int) (f26_t_0_4 : Int) (c26_t_1_12 : Nat → Int) (c26_t_1_13 : Nat → Int) (c26_t_1_14 : Nat → Int) (c26_t_1_9 : Nat → Int) (c26_t_1_10 : Nat → Int) (c26_t_1_11 : Nat → Int) (H : Heap) (locs : List Loc) (ls : Array Slot), (1400 - x26_1).toNat < n → (0 ≤ x26_1 ∧ x26_1 ≤ 1400 ∧ 0 ≤ f26_t_2 ∧ f26_t_2 ≤ 3 ∧ (-2147483648) ≤ f26_t_3 ∧ f26_t_3 ≤ 2147483647 ∧ 0 ≤ f26_t_1_0 ∧ f26_t_1_0 ≤ 1400 ∧ 0 ≤ f26_t_1_1 ∧ f26_t_1_1 ≤ 20 ∧ 0 ≤ f26_t_1_2 ∧ f26_t_1_2 ≤ 100 ∧ 0 ≤ f26_t_1_3 ∧ f26_t_1_3 ≤ 5 ∧ 0 ≤ f26_t_1_4 ∧ f26_t_1_4 ≤ 12 ∧ 0 ≤ f26_t_1_5 ∧ f26_t_1_5 ≤ 24 ∧ 0 ≤ f26_t_1_6 ∧ f26_t_1_6 ≤ 4095 ∧ 0 ≤ f26_t_1_7 ∧ f26_t_1_7 ≤ 31 ∧ (-2147483648) ≤ f26_t_1_8 ∧ f26_t_1_8 ≤ 2147483647 ∧ 0 ≤ f26_t_0_2 ∧ f26_t_0_2 ≤ 4 ∧ 0 ≤ f26_t_0_3 ∧ f26_t_0_3 ≤ 1400 ∧ 0 ≤ f26_t_0_4 ∧ f26_t_0_4 ≤ 1400 ∧ f26_t_1_0 = x26_1) → (∀ j : Nat, 0 ≤ c26_t_1_12 j ∧ c26_t_1_12 j ≤ 11) → (∀ j : Nat, 0 ≤ c26_t_1_13 j ∧ c26_t_1_13 j ≤ 4) → (∀ j : Nat, 0 ≤ c26_t_1_14 j ∧ c26_t_1_14 j ≤ 29) → (∀ j : Nat, 0 ≤ c26_t_1_9 j ∧ c26_t_1_9 j ≤ 4) → (∀ j : Nat, 0 ≤ c26_t_1_10 j ∧ c26_t_1_10 j ≤ 12) → (∀ j : Nat, 0 ≤ c26_t_1_11 j ∧ c26_t_1_11 j ≤ 4) → va_P D vwCl [(t, .inr (3, oX3 t_q f26_t_2 f26_t_3)), ((t_q 1), .inr (7, oX7 t_1_q f26_t_1_0 f26_t_1_1 f26_t_1_2 f26_t_1_3 f26_t_1_4 f26_t_1_5 f26_t_1_6 f26_t_1_7 f26_t_1_8)), ((t_q 0), .inr (6, oX6 t_0_q t_0_x0 f26_t_0_2 f26_t_0_3 f26_t_0_4)), ((t_0_q 1), .inl (K 1, 1400, .inl (fun j => iI (t_0_1_c j)))), ((t_1_q 12), .inl (K 0, 24, .inl (fun j => iI (c26_t_1_12 j)))), ((t_1_q 13), .inl (K 0, 24, .inl (fun j => iI (c26_t_1_13 j)))), ((t_1_q 14), .inl (K 0, 24, .inl (fun j => iI (c26_t_1_14 j)))), ((t_1_q 9), .inl (K 0, 5, .inl (fun j => iI (c26_t_1_9 j)))), ((t_1_q 10), .inl (K 0, 6, .inl (fun j => iI (c26_t_1_10 j)))), ((t_1_q 11), .inl (K 0, 12, .inl (fun j => iI (c26_t_1_11 j))))] H → va_D A [(t, .inr (3, oX3 t_q f26_t_2 f26_t_3)), ((t_q 1), .inr (7, oX7 t_1_q f26_t_1_0 f26_t_1_1 f26_t_1_2 f26_t_1_3 f26_t_1_4 f26_t_1_5 f26_t_1_6 f26_t_1_7 f26_t_1_8)), ((t_q 0), .inr (6, oX6 t_0_q t_0_x0 f26_t_0_2 f26_t_0_3 f26_t_0_4)), ((t_0_q 1), .inl (K 1, 1400, .inl (fun j => iI (t_0_1_c j)))), ((t_1_q 12), .inl (K 0, 24, .inl (fun j => iI (c26_t_1_12 j)))), ((t_1_q 13), .inl (K 0, 24, .inl (fun j => iI (c26_t_1_13 j)))), ((t_1_q 14), .inl (K 0, 24, .inl (fun j => iI (c26_t_1_14 j)))), ((t_1_q 9), .inl (K 0, 5, .inl (fun j => iI (c26_t_1_9 j)))), ((t_1_q 10), .inl (K 0, 6, .inl (fun j => iI (c26_t_1_10 j)))), ((t_1_q 11), .inl (K 0, 12, .inl (fun j => iI (c26_t_1_11 j))))] → va_S A s.heap H locs → lv_has ls 2 [(0, .ref t), (1, .int (iI x26_1))] → W p l e ({ frames := 40, cells := 0, slots := 0, locals := 1000 } : Room) s m ag below meth c H locs 0 0 Q (F0 m 26 ls []) := by
    intro n
    induction n with
    | zero =>
      intro x26_1 f26_t_2 f26_t_3 f26_t_1_0 f26_t_1_1 f26_t_1_2 f26_t_1_3 f26_t_1_4 f26_t_1_5 f26_t_1_6 f26_t_1_7 f26_t_1_8 f26_t_0_2 f26_t_0_3 f26_t_0_4 c26_t_1_12 c26_t_1_13 c26_t_1_14 c26_t_1_9 c26_t_1_10 c26_t_1_11 H locs ls hm26 hf26 hc26_t_1_12 hc26_t_1_13 hc26_t_1_14 hc26_t_1_9 hc26_t_1_10 hc26_t_1_11 hP hD hS hl
      exact absurd hm26 (Nat.not_lt_zero _)
    | succ n ih26 =>
      intro x26_1 f26_t_2 f26_t_3 f26_t_1_0 f26_t_1_1 f26_t_1_2 f26_t_1_3 f26_t_1_4 f26_t_1_5 f26_t_1_6 f26_t_1_7 f26_t_1_8 f26_t_0_2 f26_t_0_3 f26_t_0_4 c26_t_1_12 c26_t_1_13 c26_t_1_14 c26_t_1_9 c26_t_1_10 c26_t_1_11 H locs ls hm26 hf26 hc26_t_1_12 hc26_t_1_13 hc26_t_1_14 hc26_t_1_9 hc26_t_1_10 hc26_t_1_11 hP hD hS hl
      refine lv_iload_n hx hb dX3_readLines_26 rfl (lv_at hl 1 rfl) ?_
      refine lv_sipush (v := iI 1400) hx hb dX3_readLines_27 (by decide) ?_
      refine g_icmp_ge (tgt := 77) hx hb (by omega) (by omega) dX3_readLines_30 (by decide) (fun c30 => ?_) (fun c30 => ?_)
      · rw [hQ]; exact fn_vret hx hb hr hlocks hP hD hS ((fun k => ([f26_t_2, f26_t_3, f26_t_0_2, f26_t_0_3, f26_t_0_4, f26_t_1_0, f26_t_1_1, f26_t_1_2, f26_t_1_3, f26_t_1_4, f26_t_1_5, f26_t_1_6, f26_t_1_7, f26_t_1_8] : List Int).getD k 0), (fun k => ([c26_t_1_10, c26_t_1_11, c26_t_1_12, c26_t_1_13, c26_t_1_14, c26_t_1_9] : List (Nat → Int)).getD k (fun _ => 0))) ⟨(by show 0 ≤ f26_t_2 ∧ f26_t_2 ≤ 3 ∧ (-2147483648) ≤ f26_t_3 ∧ f26_t_3 ≤ 2147483647 ∧ 0 ≤ f26_t_0_2 ∧ f26_t_0_2 ≤ 4 ∧ 0 ≤ f26_t_0_3 ∧ f26_t_0_3 ≤ 1400 ∧ 0 ≤ f26_t_0_4 ∧ f26_t_0_4 ≤ 1400 ∧ 0 ≤ f26_t_1_0 ∧ f26_t_1_0 ≤ 1400 ∧ 0 ≤ f26_t_1_1 ∧ f26_t_1_1 ≤ 20 ∧ 0 ≤ f26_t_1_2 ∧ f26_t_1_2 ≤ 100 ∧ 0 ≤ f26_t_1_3 ∧ f26_t_1_3 ≤ 5 ∧ 0 ≤ f26_t_1_4 ∧ f26_t_1_4 ≤ 12 ∧ 0 ≤ f26_t_1_5 ∧ f26_t_1_5 ≤ 24 ∧ 0 ≤ f26_t_1_6 ∧ f26_t_1_6 ≤ 4095 ∧ 0 ≤ f26_t_1_7 ∧ f26_t_1_7 ≤ 31 ∧ (-2147483648) ≤ f26_t_1_8 ∧ f26_t_1_8 ≤ 2147483647; omega), (hc26_t_1_10), (hc26_t_1_11), (hc26_t_1_12), (hc26_t_1_13), (hc26_t_1_14), (hc26_t_1_9), trivial⟩ [0, 1, 2, 3, 4, 5, 6, 7, 8, 9] (by decide) rfl dX3_readLines_77
      · refine lv_aload_n hx hb dX3_readLines_33 rfl (lv_at hl 0 rfl) ?_
        refine va_get (D := D) (own := RX3) (ci := 3) (v := .ref (t_q 0)) (C := RX3) (T := TX3) (N := 4) hx hb hts inb_X3 hown hK.1 hP 0 rfl rfl 0 (by decide) (hts _ wd_159) (fun _ h9 => h9) rfl dX3_readLines_34 ?_
        refine va_getN (D := D) (own := RX3) (ci := 6) (v := .int (iI f26_t_0_2)) (C := RX6) (T := TX6) (N := 5) hx hb hts inb_X6 hown hK.1 hP 2 rfl rfl 2 (by decide) (hK.nf 3 rfl) (fun _ h9 => h9) rfl dX3_readLines_37 ?_
        refine g_if_eq (tgt := 77) hx hb (by omega) dX3_readLines_40 (by decide) (fun c40 => ?_) (fun c40 => ?_)
        · rw [hQ]; exact fn_vret hx hb hr hlocks hP hD hS ((fun k => ([f26_t_2, f26_t_3, f26_t_0_2, f26_t_0_3, f26_t_0_4, f26_t_1_0, f26_t_1_1, f26_t_1_2, f26_t_1_3, f26_t_1_4, f26_t_1_5, f26_t_1_6, f26_t_1_7, f26_t_1_8] : List Int).getD k 0), (fun k => ([c26_t_1_10, c26_t_1_11, c26_t_1_12, c26_t_1_13, c26_t_1_14, c26_t_1_9] : List (Nat → Int)).getD k (fun _ => 0))) ⟨(by show 0 ≤ f26_t_2 ∧ f26_t_2 ≤ 3 ∧ (-2147483648) ≤ f26_t_3 ∧ f26_t_3 ≤ 2147483647 ∧ 0 ≤ f26_t_0_2 ∧ f26_t_0_2 ≤ 4 ∧ 0 ≤ f26_t_0_3 ∧ f26_t_0_3 ≤ 1400 ∧ 0 ≤ f26_t_0_4 ∧ f26_t_0_4 ≤ 1400 ∧ 0 ≤ f26_t_1_0 ∧ f26_t_1_0 ≤ 1400 ∧ 0 ≤ f26_t_1_1 ∧ f26_t_1_1 ≤ 20 ∧ 0 ≤ f26_t_1_2 ∧ f26_t_1_2 ≤ 100 ∧ 0 ≤ f26_t_1_3 ∧ f26_t_1_3 ≤ 5 ∧ 0 ≤ f26_t_1_4 ∧ f26_t_1_4 ≤ 12 ∧ 0 ≤ f26_t_1_5 ∧ f26_t_1_5 ≤ 24 ∧ 0 ≤ f26_t_1_6 ∧ f26_t_1_6 ≤ 4095 ∧ 0 ≤ f26_t_1_7 ∧ f26_t_1_7 ≤ 31 ∧ (-2147483648) ≤ f26_t_1_8 ∧ f26_t_1_8 ≤ 2147483647; omega), (hc26_t_1_10), (hc26_t_1_11), (hc26_t_1_12), (hc26_t_1_13), (hc26_t_1_14), (hc26_t_1_9), trivial⟩ [0, 1, 2, 3, 4, 5, 6, 7, 8, 9] (by decide) rfl dX3_readLines_77
        · refine lv_aload_n hx hb dX3_readLines_43 rfl (lv_at hl 0 rfl) ?_
          refine va_get (D := D) (own := RX3) (ci := 3) (v := .int (iI f26_t_2)) (C := RX3) (T := TX3) (N := 4) hx hb hts inb_X3 hown hK.1 hP 0 rfl rfl 2 (by decide) (hts _ wd_163) (fun _ h9 => h9) rfl dX3_readLines_44 ?_
          refine g_if_ne (tgt := 77) hx hb (by omega) dX3_readLines_47 (by decide) (fun c47 => ?_) (fun c47 => ?_)
          · rw [hQ]; exact fn_vret hx hb hr hlocks hP hD hS ((fun k => ([f26_t_2, f26_t_3, f26_t_0_2, f26_t_0_3, f26_t_0_4, f26_t_1_0, f26_t_1_1, f26_t_1_2, f26_t_1_3, f26_t_1_4, f26_t_1_5, f26_t_1_6, f26_t_1_7, f26_t_1_8] : List Int).getD k 0), (fun k => ([c26_t_1_10, c26_t_1_11, c26_t_1_12, c26_t_1_13, c26_t_1_14, c26_t_1_9] : List (Nat → Int)).getD k (fun _ => 0))) ⟨(by show 0 ≤ f26_t_2 ∧ f26_t_2 ≤ 3 ∧ (-2147483648) ≤ f26_t_3 ∧ f26_t_3 ≤ 2147483647 ∧ 0 ≤ f26_t_0_2 ∧ f26_t_0_2 ≤ 4 ∧ 0 ≤ f26_t_0_3 ∧ f26_t_0_3 ≤ 1400 ∧ 0 ≤ f26_t_0_4 ∧ f26_t_0_4 ≤ 1400 ∧ 0 ≤ f26_t_1_0 ∧ f26_t_1_0 ≤ 1400 ∧ 0 ≤ f26_t_1_1 ∧ f26_t_1_1 ≤ 20 ∧ 0 ≤ f26_t_1_2 ∧ f26_t_1_2 ≤ 100 ∧ 0 ≤ f26_t_1_3 ∧ f26_t_1_3 ≤ 5 ∧ 0 ≤ f26_t_1_4 ∧ f26_t_1_4 ≤ 12 ∧ 0 ≤ f26_t_1_5 ∧ f26_t_1_5 ≤ 24 ∧ 0 ≤ f26_t_1_6 ∧ f26_t_1_6 ≤ 4095 ∧ 0 ≤ f26_t_1_7 ∧ f26_t_1_7 ≤ 31 ∧ (-2147483648) ≤ f26_t_1_8 ∧ f26_t_1_8 ≤ 2147483647; omega), (hc26_t_1_10), (hc26_t_1_11), (hc26_t_1_12), (hc26_t_1_13), (hc26_t_1_14), (hc26_t_1_9), trivial⟩ [0, 1, 2, 3, 4, 5, 6, 7, 8, 9] (by decide) rfl dX3_readLines_77
          · refine lv_aload_n hx hb dX3_readLines_50 rfl (lv_at hl 0 rfl) ?_
            refine fn_govO (wc := [(t, .inr (3, oX3 t_q f26_t_2 f26_t_3)), ((t_q 1), .inr (7, oX7 t_1_q f26_t_1_0 f26_t_1_1 f26_t_1_2 f26_t_1_3 f26_t_1_4 f26_t_1_5 f26_t_1_6 f26_t_1_7 f26_t_1_8)), ((t_q 0), .inr (6, oX6 t_0_q t_0_x0 f26_t_0_2 f26_t_0_3 f26_t_0_4)), ((t_0_q 1), .inl (K 1, 1400, .inl (fun j => iI (t_0_1_c j)))), ((t_1_q 12), .inl (K 0, 24, .inl (fun j => iI (c26_t_1_12 j)))), ((t_1_q 13), .inl (K 0, 24, .inl (fun j => iI (c26_t_1_13 j)))), ((t_1_q 14), .inl (K 0, 24, .inl (fun j => iI (c26_t_1_14 j)))), ((t_1_q 9), .inl (K 0, 5, .inl (fun j => iI (c26_t_1_9 j)))), ((t_1_q 10), .inl (K 0, 6, .inl (fun j => iI (c26_t_1_10 j)))), ((t_1_q 11), .inl (K 0, 12, .inl (fun j => iI (c26_t_1_11 j))))]) (wr := []) hO hK hP hD hS hA [0, 1, 2, 3, 4, 5, 6, 7, 8, 9] [] rfl rfl (by decide) (fun hp => va_runV (C := RX3) (As := []) (rest := []) ⟨hx, hb, hml, hown, hts⟩ (k_X3_readLine (l := l) (D := D) (K := K) (adK := adK) (adV := adV) (t := t) (t_q := t_q) (t_x2 := f26_t_2) (t_x3 := f26_t_3) (t_1_q := t_1_q) (t_1_x0 := f26_t_1_0) (t_1_x1 := f26_t_1_1) (t_1_x2 := f26_t_1_2) (t_1_x3 := f26_t_1_3) (t_1_x4 := f26_t_1_4) (t_1_x5 := f26_t_1_5) (t_1_x6 := f26_t_1_6) (t_1_x7 := f26_t_1_7) (t_1_x8 := f26_t_1_8) (t_0_q := t_0_q) (t_0_x0 := t_0_x0) (t_0_x2 := f26_t_0_2) (t_0_x3 := f26_t_0_3) (t_0_x4 := f26_t_0_4) (t_0_1_c := t_0_1_c) (t_1_12_c := c26_t_1_12) (t_1_13_c := c26_t_1_13) (t_1_14_c := c26_t_1_14) (t_1_9_c := c26_t_1_9) (t_1_10_c := c26_t_1_10) (t_1_11_c := c26_t_1_11) (hi_t := ⟨(by omega), (by omega)⟩) (hi_t_1 := ⟨(by omega), (by omega), (by omega), (by omega), (by omega), (by omega), (by omega), (by omega), (by omega)⟩) (hi_t_0 := ⟨hi_t_0.1, (by omega), (by omega), (by omega)⟩) (hc_t_0_1 := hc_t_0_1) (hc_t_1_12 := hc26_t_1_12) (hc_t_1_13 := hc26_t_1_13) (hc_t_1_14 := hc26_t_1_14) (hc_t_1_9 := hc26_t_1_9) (hc_t_1_10 := hc26_t_1_10) (hc_t_1_11 := hc26_t_1_11) _) (cwV 0 hts (fn_ginV (fn_gin wd_500) wd_497 wd_499 wp_5 wd_2) rfl rfl rfl (by decide +kernel) ⟨Nat.le_of_ble_eq_true rfl, Nat.le_of_ble_eq_true rfl⟩) ⟨fn_blindO, va_recv hK.1 hP (ci := 3) (q0 := 0) rfl rfl, hp⟩ rfl rfl hl.1 rfl (lv_room (Nat.le_of_ble_eq_true rfl)) dX3_readLines_51 ⟨Nat.le_of_ble_eq_true rfl, Nat.le_of_ble_eq_true rfl⟩) (fun u51 H locs hwu51 hP hD hS => ?_)
            obtain ⟨u51a, u51b⟩ := u51
            obtain ⟨hqu510, hu51_00, hu51_10, hu51_20, hu51_30, hu51_40, hu51_50, -⟩ := hwu51
            have hqu51 : 0 ≤ (u51a 0) ∧ (u51a 0) ≤ 3 ∧ (-2147483648) ≤ (u51a 1) ∧ (u51a 1) ≤ 2147483647 ∧ 0 ≤ (u51a 2) ∧ (u51a 2) ≤ 4 ∧ 0 ≤ (u51a 3) ∧ (u51a 3) ≤ 1400 ∧ 0 ≤ (u51a 4) ∧ (u51a 4) ≤ 1400 ∧ 0 ≤ (u51a 5) ∧ (u51a 5) ≤ 20 ∧ 0 ≤ (u51a 6) ∧ (u51a 6) ≤ 100 ∧ 0 ≤ (u51a 7) ∧ (u51a 7) ≤ 5 ∧ 0 ≤ (u51a 8) ∧ (u51a 8) ≤ 12 ∧ 0 ≤ (u51a 9) ∧ (u51a 9) ≤ 24 ∧ 0 ≤ (u51a 10) ∧ (u51a 10) ≤ 4095 ∧ 0 ≤ (u51a 11) ∧ (u51a 11) ≤ 31 ∧ (-2147483648) ≤ (u51a 12) ∧ (u51a 12) ≤ 2147483647 := hqu510
            have hu51_0 : ∀ j : Nat, 0 ≤ (u51b 0) j ∧ (u51b 0) j ≤ 12 := hu51_00
            have hu51_1 : ∀ j : Nat, 0 ≤ (u51b 1) j ∧ (u51b 1) j ≤ 4 := hu51_10
            have hu51_2 : ∀ j : Nat, 0 ≤ (u51b 2) j ∧ (u51b 2) j ≤ 11 := hu51_20
            have hu51_3 : ∀ j : Nat, 0 ≤ (u51b 3) j ∧ (u51b 3) j ≤ 4 := hu51_30
            have hu51_4 : ∀ j : Nat, 0 ≤ (u51b 4) j ∧ (u51b 4) j ≤ 29 := hu51_40
            have hu51_5 : ∀ j : Nat, 0 ≤ (u51b 5) j ∧ (u51b 5) j ≤ 4 := hu51_50
            clear hqu510 hu51_00 hu51_10 hu51_20 hu51_30 hu51_40 hu51_50
            have hP : va_P D vwCl [(t, .inr (3, oX3 t_q (u51a 0) (u51a 1))), ((t_q 1), .inr (7, oX7 t_1_q f26_t_1_0 (u51a 5) (u51a 6) (u51a 7) (u51a 8) (u51a 9) (u51a 10) (u51a 11) (u51a 12))), ((t_q 0), .inr (6, oX6 t_0_q t_0_x0 (u51a 2) (u51a 3) (u51a 4))), ((t_0_q 1), .inl (K 1, 1400, .inl (fun j => iI (t_0_1_c j)))), ((t_1_q 12), .inl (K 0, 24, .inl (fun j => iI ((u51b 2) j)))), ((t_1_q 13), .inl (K 0, 24, .inl (fun j => iI ((u51b 3) j)))), ((t_1_q 14), .inl (K 0, 24, .inl (fun j => iI ((u51b 4) j)))), ((t_1_q 9), .inl (K 0, 5, .inl (fun j => iI ((u51b 5) j)))), ((t_1_q 10), .inl (K 0, 6, .inl (fun j => iI ((u51b 0) j)))), ((t_1_q 11), .inl (K 0, 12, .inl (fun j => iI ((u51b 1) j))))] H := hP
            have hD : va_D A [(t, .inr (3, oX3 t_q (u51a 0) (u51a 1))), ((t_q 1), .inr (7, oX7 t_1_q f26_t_1_0 (u51a 5) (u51a 6) (u51a 7) (u51a 8) (u51a 9) (u51a 10) (u51a 11) (u51a 12))), ((t_q 0), .inr (6, oX6 t_0_q t_0_x0 (u51a 2) (u51a 3) (u51a 4))), ((t_0_q 1), .inl (K 1, 1400, .inl (fun j => iI (t_0_1_c j)))), ((t_1_q 12), .inl (K 0, 24, .inl (fun j => iI ((u51b 2) j)))), ((t_1_q 13), .inl (K 0, 24, .inl (fun j => iI ((u51b 3) j)))), ((t_1_q 14), .inl (K 0, 24, .inl (fun j => iI ((u51b 4) j)))), ((t_1_q 9), .inl (K 0, 5, .inl (fun j => iI ((u51b 5) j)))), ((t_1_q 10), .inl (K 0, 6, .inl (fun j => iI ((u51b 0) j)))), ((t_1_q 11), .inl (K 0, 12, .inl (fun j => iI ((u51b 1) j))))] := hD
            refine lv_aload_n hx hb dX3_readLines_54 rfl (lv_at hl 0 rfl) ?_
            refine fn_gov (wc := [(t, .inr (3, oX3 t_q (u51a 0) (u51a 1))), ((t_q 0), .inr (6, oX6 t_0_q t_0_x0 (u51a 2) (u51a 3) (u51a 4))), ((t_0_q 1), .inl (K 1, 1400, .inl (fun j => iI (t_0_1_c j))))]) (wr := [((t_q 1), .inr (7, oX7 t_1_q f26_t_1_0 (u51a 5) (u51a 6) (u51a 7) (u51a 8) (u51a 9) (u51a 10) (u51a 11) (u51a 12))), ((t_1_q 12), .inl (K 0, 24, .inl (fun j => iI ((u51b 2) j)))), ((t_1_q 13), .inl (K 0, 24, .inl (fun j => iI ((u51b 3) j)))), ((t_1_q 14), .inl (K 0, 24, .inl (fun j => iI ((u51b 4) j)))), ((t_1_q 9), .inl (K 0, 5, .inl (fun j => iI ((u51b 5) j)))), ((t_1_q 10), .inl (K 0, 6, .inl (fun j => iI ((u51b 0) j)))), ((t_1_q 11), .inl (K 0, 12, .inl (fun j => iI ((u51b 1) j))))]) hK hP hD hS hA [0, 2, 3] [1, 4, 5, 6, 7, 8, 9] rfl rfl (by decide) (fun hp => va_runV (C := RX3) (As := []) (rest := []) ⟨hx, hb, hml, hown, hts⟩ (k_X3_takeSign (l := l) (D := D) (K := K) (t := t) (t_q := t_q) (t_x2 := (u51a 0)) (t_x3 := (u51a 1)) (t_0_q := t_0_q) (t_0_x0 := t_0_x0) (t_0_x2 := (u51a 2)) (t_0_x3 := (u51a 3)) (t_0_x4 := (u51a 4)) (t_0_1_c := t_0_1_c) (hi_t := ⟨(by omega), (by omega)⟩) (hi_t_0 := ⟨hi_t_0.1, (by omega), (by omega), (by omega)⟩) (hc_t_0_1 := hc_t_0_1) _) (cwV 0 hts (fn_ginV (fn_gin wd_615) wd_612 wd_614 wp_17 wd_2) rfl rfl rfl (by decide +kernel) ⟨Nat.le_of_ble_eq_true rfl, Nat.le_of_ble_eq_true rfl⟩) ⟨fn_blind, va_recv hK.1 hP (ci := 3) (q0 := 0) rfl rfl, hp⟩ rfl rfl hl.1 rfl (lv_room (Nat.le_of_ble_eq_true rfl)) dX3_readLines_55 ⟨Nat.le_of_ble_eq_true rfl, Nat.le_of_ble_eq_true rfl⟩) (fun u55 H locs hwu55 hP hD hS => ?_)
            obtain ⟨u55a, u55b⟩ := u55
            obtain ⟨hqu550, -⟩ := hwu55
            have hqu55 : 0 ≤ (u55a 0) ∧ (u55a 0) ≤ 3 ∧ (-2147483648) ≤ (u55a 1) ∧ (u55a 1) ≤ 2147483647 ∧ 0 ≤ (u55a 2) ∧ (u55a 2) ≤ 4 ∧ 0 ≤ (u55a 3) ∧ (u55a 3) ≤ 1400 ∧ 0 ≤ (u55a 4) ∧ (u55a 4) ≤ 1400 := hqu550
            clear hqu550
            have hP : va_P D vwCl [((t_q 1), .inr (7, oX7 t_1_q f26_t_1_0 (u51a 5) (u51a 6) (u51a 7) (u51a 8) (u51a 9) (u51a 10) (u51a 11) (u51a 12))), ((t_1_q 12), .inl (K 0, 24, .inl (fun j => iI ((u51b 2) j)))), ((t_1_q 13), .inl (K 0, 24, .inl (fun j => iI ((u51b 3) j)))), ((t_1_q 14), .inl (K 0, 24, .inl (fun j => iI ((u51b 4) j)))), ((t_1_q 9), .inl (K 0, 5, .inl (fun j => iI ((u51b 5) j)))), ((t_1_q 10), .inl (K 0, 6, .inl (fun j => iI ((u51b 0) j)))), ((t_1_q 11), .inl (K 0, 12, .inl (fun j => iI ((u51b 1) j)))), (t, .inr (3, oX3 t_q (u55a 0) (u55a 1))), ((t_q 0), .inr (6, oX6 t_0_q t_0_x0 (u55a 2) (u55a 3) (u55a 4))), ((t_0_q 1), .inl (K 1, 1400, .inl (fun j => iI (t_0_1_c j))))] H := hP
            have hD : va_D A [((t_q 1), .inr (7, oX7 t_1_q f26_t_1_0 (u51a 5) (u51a 6) (u51a 7) (u51a 8) (u51a 9) (u51a 10) (u51a 11) (u51a 12))), ((t_1_q 12), .inl (K 0, 24, .inl (fun j => iI ((u51b 2) j)))), ((t_1_q 13), .inl (K 0, 24, .inl (fun j => iI ((u51b 3) j)))), ((t_1_q 14), .inl (K 0, 24, .inl (fun j => iI ((u51b 4) j)))), ((t_1_q 9), .inl (K 0, 5, .inl (fun j => iI ((u51b 5) j)))), ((t_1_q 10), .inl (K 0, 6, .inl (fun j => iI ((u51b 0) j)))), ((t_1_q 11), .inl (K 0, 12, .inl (fun j => iI ((u51b 1) j)))), (t, .inr (3, oX3 t_q (u55a 0) (u55a 1))), ((t_q 0), .inr (6, oX6 t_0_q t_0_x0 (u55a 2) (u55a 3) (u55a 4))), ((t_0_q 1), .inl (K 1, 1400, .inl (fun j => iI (t_0_1_c j))))] := hD
            refine lv_aload_n hx hb dX3_readLines_58 rfl (lv_at hl 0 rfl) ?_
            refine va_get (D := D) (own := RX3) (ci := 3) (v := .ref (t_q 1)) (C := RX3) (T := TX3) (N := 4) hx hb hts inb_X3 hown hK.1 hP 7 rfl rfl 1 (by decide) (hts _ wd_161) (fun _ h9 => h9) rfl dX3_readLines_59 ?_
            refine lv_dup hx hb dX3_readLines_62 rfl ?_
            refine va_getN (D := D) (own := RX3) (ci := 7) (v := .int (iI f26_t_1_0)) (C := RX7) (T := TX7) (N := 15) hx hb hts inb_X7 hown hK.1 hP 0 rfl rfl 0 (by decide) (hK.nf 6 rfl) (fun _ h9 => h9) rfl dX3_readLines_63 ?_
            refine lv_iconst (v := iI 1) hx hb dX3_readLines_66 rfl ?_
            refine fn_at 67 rfl ?_
            refine g_iadd hx hb dX3_readLines_67 ?_
            refine va_putN (D := D) (own := RX3) (ci := 7) (v := .int (iI (f26_t_1_0 + 1))) (ty := .int) (C := RX7) (T := TX7) (N := 15) hx hb hts inb_X7 tyX7 tyX7_ok nmX7 hown hK.1 hP hD hS 0 rfl rfl 0 (by decide) (hK.nf 6 rfl) (fun _ h9 => h9) rfl (by decide +kernel) rfl rfl (Nat.le_of_ble_eq_true rfl) dX3_readLines_68 (fun H locs hP hD hS => ?_)
            have hP : va_P D vwCl [((t_q 1), .inr (7, oX7 t_1_q (f26_t_1_0 + 1) (u51a 5) (u51a 6) (u51a 7) (u51a 8) (u51a 9) (u51a 10) (u51a 11) (u51a 12))), ((t_1_q 12), .inl (K 0, 24, .inl (fun j => iI ((u51b 2) j)))), ((t_1_q 13), .inl (K 0, 24, .inl (fun j => iI ((u51b 3) j)))), ((t_1_q 14), .inl (K 0, 24, .inl (fun j => iI ((u51b 4) j)))), ((t_1_q 9), .inl (K 0, 5, .inl (fun j => iI ((u51b 5) j)))), ((t_1_q 10), .inl (K 0, 6, .inl (fun j => iI ((u51b 0) j)))), ((t_1_q 11), .inl (K 0, 12, .inl (fun j => iI ((u51b 1) j)))), (t, .inr (3, oX3 t_q (u55a 0) (u55a 1))), ((t_q 0), .inr (6, oX6 t_0_q t_0_x0 (u55a 2) (u55a 3) (u55a 4))), ((t_0_q 1), .inl (K 1, 1400, .inl (fun j => iI (t_0_1_c j))))] H := hP
            have hD : va_D A [((t_q 1), .inr (7, oX7 t_1_q (f26_t_1_0 + 1) (u51a 5) (u51a 6) (u51a 7) (u51a 8) (u51a 9) (u51a 10) (u51a 11) (u51a 12))), ((t_1_q 12), .inl (K 0, 24, .inl (fun j => iI ((u51b 2) j)))), ((t_1_q 13), .inl (K 0, 24, .inl (fun j => iI ((u51b 3) j)))), ((t_1_q 14), .inl (K 0, 24, .inl (fun j => iI ((u51b 4) j)))), ((t_1_q 9), .inl (K 0, 5, .inl (fun j => iI ((u51b 5) j)))), ((t_1_q 10), .inl (K 0, 6, .inl (fun j => iI ((u51b 0) j)))), ((t_1_q 11), .inl (K 0, 12, .inl (fun j => iI ((u51b 1) j)))), (t, .inr (3, oX3 t_q (u55a 0) (u55a 1))), ((t_q 0), .inr (6, oX6 t_0_q t_0_x0 (u55a 2) (u55a 3) (u55a 4))), ((t_0_q 1), .inl (K 1, 1400, .inl (fun j => iI (t_0_1_c j))))] := hD
            refine lv_iinc (v := iI (x26_1 + 1)) (lv' := [(1, .int (iI (x26_1 + 1))), (0, .ref t)]) hx hb dX3_readLines_71 hl (k := 1) rfl (iI_add _ _) (by decide) rfl (fun ls hl => ?_)
            refine lv_goto (tgt := 26) hx hb dX3_readLines_74 (by decide) ?_
            exact ih26 (x26_1 + 1) (u55a 0) (u55a 1) (f26_t_1_0 + 1) (u51a 5) (u51a 6) (u51a 7) (u51a 8) (u51a 9) (u51a 10) (u51a 11) (u51a 12) (u55a 2) (u55a 3) (u55a 4) (u51b 2) (u51b 3) (u51b 4) (u51b 5) (u51b 0) (u51b 1) _ _ ls (by omega) (by omega) hu51_2 hu51_3 hu51_4 hu51_5 hu51_0 hu51_1 (hP.sub [7, 0, 8, 9, 1, 2, 3, 4, 5, 6] rfl) (hD.sub [7, 0, 8, 9, 1, 2, 3, 4, 5, 6] (by decide) rfl) hS (lv_sub hl [1, 0] rfl)
  have hl : lv_has ls 2 [(0, .ref t)] := hl
  refine lv_aload_n hx hb dX3_readLines_0 rfl (lv_at hl 0 rfl) ?_
  refine lv_iconst (v := iI 0) hx hb dX3_readLines_1 rfl ?_
  refine va_put (D := D) (own := RX3) (ci := 3) (v := .int (iI 0)) (ty := .int) (C := RX3) (T := TX3) (N := 4) hx hb hts inb_X3 tyX3 tyX3_ok nmX3 hown hK.1 hP hD hS 0 rfl rfl 2 (by decide) (hts _ wd_163) (fun _ h9 => h9) rfl (by decide +kernel) rfl rfl (Nat.le_of_ble_eq_true rfl) dX3_readLines_2 (fun H locs hP hD hS => ?_)
  have hP : va_P D vwCl [(t, .inr (3, oX3 t_q 0 t_x3)), ((t_q 1), .inr (7, oX7 t_1_q t_1_x0 t_1_x1 t_1_x2 t_1_x3 t_1_x4 t_1_x5 t_1_x6 t_1_x7 t_1_x8)), ((t_q 0), .inr (6, oX6 t_0_q t_0_x0 t_0_x2 t_0_x3 t_0_x4)), ((t_0_q 1), .inl (K 1, 1400, .inl (fun j => iI (t_0_1_c j)))), ((t_1_q 12), .inl (K 0, 24, .inl (fun j => iI (t_1_12_c j)))), ((t_1_q 13), .inl (K 0, 24, .inl (fun j => iI (t_1_13_c j)))), ((t_1_q 14), .inl (K 0, 24, .inl (fun j => iI (t_1_14_c j)))), ((t_1_q 9), .inl (K 0, 5, .inl (fun j => iI (t_1_9_c j)))), ((t_1_q 10), .inl (K 0, 6, .inl (fun j => iI (t_1_10_c j)))), ((t_1_q 11), .inl (K 0, 12, .inl (fun j => iI (t_1_11_c j))))] H := hP
  have hD : va_D A [(t, .inr (3, oX3 t_q 0 t_x3)), ((t_q 1), .inr (7, oX7 t_1_q t_1_x0 t_1_x1 t_1_x2 t_1_x3 t_1_x4 t_1_x5 t_1_x6 t_1_x7 t_1_x8)), ((t_q 0), .inr (6, oX6 t_0_q t_0_x0 t_0_x2 t_0_x3 t_0_x4)), ((t_0_q 1), .inl (K 1, 1400, .inl (fun j => iI (t_0_1_c j)))), ((t_1_q 12), .inl (K 0, 24, .inl (fun j => iI (t_1_12_c j)))), ((t_1_q 13), .inl (K 0, 24, .inl (fun j => iI (t_1_13_c j)))), ((t_1_q 14), .inl (K 0, 24, .inl (fun j => iI (t_1_14_c j)))), ((t_1_q 9), .inl (K 0, 5, .inl (fun j => iI (t_1_9_c j)))), ((t_1_q 10), .inl (K 0, 6, .inl (fun j => iI (t_1_10_c j)))), ((t_1_q 11), .inl (K 0, 12, .inl (fun j => iI (t_1_11_c j))))] := hD
  refine lv_aload_n hx hb dX3_readLines_5 rfl (lv_at hl 0 rfl) ?_
  refine lv_iconst (v := iI (-1)) hx hb dX3_readLines_6 rfl ?_
  refine va_put (D := D) (own := RX3) (ci := 3) (v := .int (iI (-1))) (ty := .int) (C := RX3) (T := TX3) (N := 4) hx hb hts inb_X3 tyX3 tyX3_ok nmX3 hown hK.1 hP hD hS 0 rfl rfl 3 (by decide) (hts _ wd_165) (fun _ h9 => h9) rfl (by decide +kernel) rfl rfl (Nat.le_of_ble_eq_true rfl) dX3_readLines_7 (fun H locs hP hD hS => ?_)
  have hP : va_P D vwCl [(t, .inr (3, oX3 t_q 0 (-1))), ((t_q 1), .inr (7, oX7 t_1_q t_1_x0 t_1_x1 t_1_x2 t_1_x3 t_1_x4 t_1_x5 t_1_x6 t_1_x7 t_1_x8)), ((t_q 0), .inr (6, oX6 t_0_q t_0_x0 t_0_x2 t_0_x3 t_0_x4)), ((t_0_q 1), .inl (K 1, 1400, .inl (fun j => iI (t_0_1_c j)))), ((t_1_q 12), .inl (K 0, 24, .inl (fun j => iI (t_1_12_c j)))), ((t_1_q 13), .inl (K 0, 24, .inl (fun j => iI (t_1_13_c j)))), ((t_1_q 14), .inl (K 0, 24, .inl (fun j => iI (t_1_14_c j)))), ((t_1_q 9), .inl (K 0, 5, .inl (fun j => iI (t_1_9_c j)))), ((t_1_q 10), .inl (K 0, 6, .inl (fun j => iI (t_1_10_c j)))), ((t_1_q 11), .inl (K 0, 12, .inl (fun j => iI (t_1_11_c j))))] H := hP
  have hD : va_D A [(t, .inr (3, oX3 t_q 0 (-1))), ((t_q 1), .inr (7, oX7 t_1_q t_1_x0 t_1_x1 t_1_x2 t_1_x3 t_1_x4 t_1_x5 t_1_x6 t_1_x7 t_1_x8)), ((t_q 0), .inr (6, oX6 t_0_q t_0_x0 t_0_x2 t_0_x3 t_0_x4)), ((t_0_q 1), .inl (K 1, 1400, .inl (fun j => iI (t_0_1_c j)))), ((t_1_q 12), .inl (K 0, 24, .inl (fun j => iI (t_1_12_c j)))), ((t_1_q 13), .inl (K 0, 24, .inl (fun j => iI (t_1_13_c j)))), ((t_1_q 14), .inl (K 0, 24, .inl (fun j => iI (t_1_14_c j)))), ((t_1_q 9), .inl (K 0, 5, .inl (fun j => iI (t_1_9_c j)))), ((t_1_q 10), .inl (K 0, 6, .inl (fun j => iI (t_1_10_c j)))), ((t_1_q 11), .inl (K 0, 12, .inl (fun j => iI (t_1_11_c j))))] := hD
  refine lv_aload_n hx hb dX3_readLines_10 rfl (lv_at hl 0 rfl) ?_
  refine va_get (D := D) (own := RX3) (ci := 3) (v := .ref (t_q 1)) (C := RX3) (T := TX3) (N := 4) hx hb hts inb_X3 hown hK.1 hP 0 rfl rfl 1 (by decide) (hts _ wd_161) (fun _ h9 => h9) rfl dX3_readLines_11 ?_
  refine fn_gov (wc := [((t_q 1), .inr (7, oX7 t_1_q t_1_x0 t_1_x1 t_1_x2 t_1_x3 t_1_x4 t_1_x5 t_1_x6 t_1_x7 t_1_x8))]) (wr := [(t, .inr (3, oX3 t_q 0 (-1))), ((t_q 0), .inr (6, oX6 t_0_q t_0_x0 t_0_x2 t_0_x3 t_0_x4)), ((t_0_q 1), .inl (K 1, 1400, .inl (fun j => iI (t_0_1_c j)))), ((t_1_q 12), .inl (K 0, 24, .inl (fun j => iI (t_1_12_c j)))), ((t_1_q 13), .inl (K 0, 24, .inl (fun j => iI (t_1_13_c j)))), ((t_1_q 14), .inl (K 0, 24, .inl (fun j => iI (t_1_14_c j)))), ((t_1_q 9), .inl (K 0, 5, .inl (fun j => iI (t_1_9_c j)))), ((t_1_q 10), .inl (K 0, 6, .inl (fun j => iI (t_1_10_c j)))), ((t_1_q 11), .inl (K 0, 12, .inl (fun j => iI (t_1_11_c j))))]) hK hP hD hS hA [1] [0, 2, 3, 4, 5, 6, 7, 8, 9] rfl rfl (by decide) (fun hp => va_runVN (C := RX7) (As := []) (rest := []) ⟨hx, hb, hml, hown, hts⟩ (k_X7_clear (l := l) (D := D) (K := K) (t := (t_q 1)) (t_q := t_1_q) (t_x0 := t_1_x0) (t_x1 := t_1_x1) (t_x2 := t_1_x2) (t_x3 := t_1_x3) (t_x4 := t_1_x4) (t_x5 := t_1_x5) (t_x6 := t_1_x6) (t_x7 := t_1_x7) (t_x8 := t_1_x8) (hi_t := hi_t_1) _) ⟨va_cnB (own := RX3) 0 hts (fn_gin wd_485) rfl rfl rfl (hK.nw 95 rfl) (hts _ wd_4) (by decide +kernel) ⟨Nat.le_of_ble_eq_true rfl, Nat.le_of_ble_eq_true rfl⟩, hts _ wd_484, hts _ wp_2⟩ ⟨fn_blind, va_recv hK.1 hP (ci := 7) (q0 := 1) rfl rfl, hp⟩ rfl rfl hl.1 rfl (lv_room (Nat.le_of_ble_eq_true rfl)) dX3_readLines_14 ⟨Nat.le_of_ble_eq_true rfl, Nat.le_of_ble_eq_true rfl⟩) (fun u14 H locs hwu14 hP hD hS => ?_)
  obtain ⟨u14a, u14b⟩ := u14
  obtain ⟨hqu140, -⟩ := hwu14
  have hqu14 : 0 ≤ (u14a 0) ∧ (u14a 0) ≤ 1400 ∧ 0 ≤ (u14a 1) ∧ (u14a 1) ≤ 20 ∧ 0 ≤ (u14a 2) ∧ (u14a 2) ≤ 100 ∧ 0 ≤ (u14a 3) ∧ (u14a 3) ≤ 5 ∧ 0 ≤ (u14a 4) ∧ (u14a 4) ≤ 12 ∧ 0 ≤ (u14a 5) ∧ (u14a 5) ≤ 24 ∧ 0 ≤ (u14a 6) ∧ (u14a 6) ≤ 4095 ∧ 0 ≤ (u14a 7) ∧ (u14a 7) ≤ 31 ∧ (-2147483648) ≤ (u14a 8) ∧ (u14a 8) ≤ 2147483647 ∧ ((u14a 0) = 0) := hqu140
  clear hqu140
  have hP : va_P D vwCl [(t, .inr (3, oX3 t_q 0 (-1))), ((t_q 0), .inr (6, oX6 t_0_q t_0_x0 t_0_x2 t_0_x3 t_0_x4)), ((t_0_q 1), .inl (K 1, 1400, .inl (fun j => iI (t_0_1_c j)))), ((t_1_q 12), .inl (K 0, 24, .inl (fun j => iI (t_1_12_c j)))), ((t_1_q 13), .inl (K 0, 24, .inl (fun j => iI (t_1_13_c j)))), ((t_1_q 14), .inl (K 0, 24, .inl (fun j => iI (t_1_14_c j)))), ((t_1_q 9), .inl (K 0, 5, .inl (fun j => iI (t_1_9_c j)))), ((t_1_q 10), .inl (K 0, 6, .inl (fun j => iI (t_1_10_c j)))), ((t_1_q 11), .inl (K 0, 12, .inl (fun j => iI (t_1_11_c j)))), ((t_q 1), .inr (7, oX7 t_1_q (u14a 0) (u14a 1) (u14a 2) (u14a 3) (u14a 4) (u14a 5) (u14a 6) (u14a 7) (u14a 8)))] H := hP
  have hD : va_D A [(t, .inr (3, oX3 t_q 0 (-1))), ((t_q 0), .inr (6, oX6 t_0_q t_0_x0 t_0_x2 t_0_x3 t_0_x4)), ((t_0_q 1), .inl (K 1, 1400, .inl (fun j => iI (t_0_1_c j)))), ((t_1_q 12), .inl (K 0, 24, .inl (fun j => iI (t_1_12_c j)))), ((t_1_q 13), .inl (K 0, 24, .inl (fun j => iI (t_1_13_c j)))), ((t_1_q 14), .inl (K 0, 24, .inl (fun j => iI (t_1_14_c j)))), ((t_1_q 9), .inl (K 0, 5, .inl (fun j => iI (t_1_9_c j)))), ((t_1_q 10), .inl (K 0, 6, .inl (fun j => iI (t_1_10_c j)))), ((t_1_q 11), .inl (K 0, 12, .inl (fun j => iI (t_1_11_c j)))), ((t_q 1), .inr (7, oX7 t_1_q (u14a 0) (u14a 1) (u14a 2) (u14a 3) (u14a 4) (u14a 5) (u14a 6) (u14a 7) (u14a 8)))] := hD
  refine lv_aload_n hx hb dX3_readLines_17 rfl (lv_at hl 0 rfl) ?_
  refine va_get (D := D) (own := RX3) (ci := 3) (v := .ref (t_q 0)) (C := RX3) (T := TX3) (N := 4) hx hb hts inb_X3 hown hK.1 hP 0 rfl rfl 0 (by decide) (hts _ wd_159) (fun _ h9 => h9) rfl dX3_readLines_18 ?_
  refine fn_gov (wc := [((t_q 0), .inr (6, oX6 t_0_q t_0_x0 t_0_x2 t_0_x3 t_0_x4)), ((t_0_q 1), .inl (K 1, 1400, .inl (fun j => iI (t_0_1_c j))))]) (wr := [(t, .inr (3, oX3 t_q 0 (-1))), ((t_1_q 12), .inl (K 0, 24, .inl (fun j => iI (t_1_12_c j)))), ((t_1_q 13), .inl (K 0, 24, .inl (fun j => iI (t_1_13_c j)))), ((t_1_q 14), .inl (K 0, 24, .inl (fun j => iI (t_1_14_c j)))), ((t_1_q 9), .inl (K 0, 5, .inl (fun j => iI (t_1_9_c j)))), ((t_1_q 10), .inl (K 0, 6, .inl (fun j => iI (t_1_10_c j)))), ((t_1_q 11), .inl (K 0, 12, .inl (fun j => iI (t_1_11_c j)))), ((t_q 1), .inr (7, oX7 t_1_q (u14a 0) (u14a 1) (u14a 2) (u14a 3) (u14a 4) (u14a 5) (u14a 6) (u14a 7) (u14a 8)))]) hK hP hD hS hA [1, 2] [0, 3, 4, 5, 6, 7, 8, 9] rfl rfl (by decide) (fun hp => va_runVN (C := RX6) (As := []) (rest := []) ⟨hx, hb, hml, hown, hts⟩ (k_X6_goToFirstToken (l := l) (D := D) (K := K) (t := (t_q 0)) (t_q := t_0_q) (t_x0 := t_0_x0) (t_x2 := t_0_x2) (t_x3 := t_0_x3) (t_x4 := t_0_x4) (t_1_c := t_0_1_c) (hi_t := hi_t_0) (hc_t_1 := hc_t_0_1) _) ⟨va_cnB (own := RX3) 0 hts (fn_gin wd_489) rfl rfl rfl (hK.nw 96 rfl) (hts _ wd_3) (by decide +kernel) ⟨Nat.le_of_ble_eq_true rfl, Nat.le_of_ble_eq_true rfl⟩, hts _ wd_488, hts _ wp_3⟩ ⟨fn_blind, va_recv hK.1 hP (ci := 6) (q0 := 1) rfl rfl, hp⟩ rfl rfl hl.1 rfl (lv_room (Nat.le_of_ble_eq_true rfl)) dX3_readLines_21 ⟨Nat.le_of_ble_eq_true rfl, Nat.le_of_ble_eq_true rfl⟩) (fun u21 H locs hwu21 hP hD hS => ?_)
  obtain ⟨u21a, u21b⟩ := u21
  obtain ⟨hqu210, -⟩ := hwu21
  have hqu21 : 0 ≤ (u21a 0) ∧ (u21a 0) ≤ 4 ∧ 0 ≤ (u21a 1) ∧ (u21a 1) ≤ 1400 ∧ 0 ≤ (u21a 2) ∧ (u21a 2) ≤ 1400 := hqu210
  clear hqu210
  have hP : va_P D vwCl [(t, .inr (3, oX3 t_q 0 (-1))), ((t_1_q 12), .inl (K 0, 24, .inl (fun j => iI (t_1_12_c j)))), ((t_1_q 13), .inl (K 0, 24, .inl (fun j => iI (t_1_13_c j)))), ((t_1_q 14), .inl (K 0, 24, .inl (fun j => iI (t_1_14_c j)))), ((t_1_q 9), .inl (K 0, 5, .inl (fun j => iI (t_1_9_c j)))), ((t_1_q 10), .inl (K 0, 6, .inl (fun j => iI (t_1_10_c j)))), ((t_1_q 11), .inl (K 0, 12, .inl (fun j => iI (t_1_11_c j)))), ((t_q 1), .inr (7, oX7 t_1_q (u14a 0) (u14a 1) (u14a 2) (u14a 3) (u14a 4) (u14a 5) (u14a 6) (u14a 7) (u14a 8))), ((t_q 0), .inr (6, oX6 t_0_q t_0_x0 (u21a 0) (u21a 1) (u21a 2))), ((t_0_q 1), .inl (K 1, 1400, .inl (fun j => iI (t_0_1_c j))))] H := hP
  have hD : va_D A [(t, .inr (3, oX3 t_q 0 (-1))), ((t_1_q 12), .inl (K 0, 24, .inl (fun j => iI (t_1_12_c j)))), ((t_1_q 13), .inl (K 0, 24, .inl (fun j => iI (t_1_13_c j)))), ((t_1_q 14), .inl (K 0, 24, .inl (fun j => iI (t_1_14_c j)))), ((t_1_q 9), .inl (K 0, 5, .inl (fun j => iI (t_1_9_c j)))), ((t_1_q 10), .inl (K 0, 6, .inl (fun j => iI (t_1_10_c j)))), ((t_1_q 11), .inl (K 0, 12, .inl (fun j => iI (t_1_11_c j)))), ((t_q 1), .inr (7, oX7 t_1_q (u14a 0) (u14a 1) (u14a 2) (u14a 3) (u14a 4) (u14a 5) (u14a 6) (u14a 7) (u14a 8))), ((t_q 0), .inr (6, oX6 t_0_q t_0_x0 (u21a 0) (u21a 1) (u21a 2))), ((t_0_q 1), .inl (K 1, 1400, .inl (fun j => iI (t_0_1_c j))))] := hD
  refine lv_iconst (v := iI 0) hx hb dX3_readLines_24 rfl ?_
  refine lv_istore_n (lv' := [(1, .int (iI 0)), (0, .ref t)]) hx hb dX3_readLines_25 rfl hl (by decide) rfl (fun ls hl => ?_)
  exact J26 _ 0 0 (-1) (u14a 0) (u14a 1) (u14a 2) (u14a 3) (u14a 4) (u14a 5) (u14a 6) (u14a 7) (u14a 8) (u21a 0) (u21a 1) (u21a 2) t_1_12_c t_1_13_c t_1_14_c t_1_9_c t_1_10_c t_1_11_c _ _ ls (Nat.lt_succ_self _) (by omega) hc_t_1_12 hc_t_1_13 hc_t_1_14 hc_t_1_9 hc_t_1_10 hc_t_1_11 (hP.sub [0, 7, 8, 9, 1, 2, 3, 4, 5, 6] rfl) (hD.sub [0, 7, 8, 9, 1, 2, 3, 4, 5, 6] (by decide) rfl) hS (lv_sub hl [1, 0] rfl)
theorem dJ7_fill_d0a16_6 : decode cJ7_fill_d0a16 6 = .ok (.iload_n 3, 1) := by decide +kernel
theorem dJ7_fill_d0a16_7 : decode cJ7_fill_d0a16 7 = .ok (.iload 4, 2) := by decide +kernel
theorem dJ7_fill_d0a16_9 : decode cJ7_fill_d0a16 9 = .ok (.if_icmp .ge 13, 3) := by decide +kernel
theorem dJ7_fill_d0a16_22 : decode cJ7_fill_d0a16 22 = .ok (.return_, 1) := by decide +kernel
theorem dJ7_fill_d0a16_12 : decode cJ7_fill_d0a16 12 = .ok (.aload_n 0, 1) := by decide +kernel
theorem dJ7_fill_d0a16_13 : decode cJ7_fill_d0a16 13 = .ok (.iload_n 3, 1) := by decide +kernel
theorem dJ7_fill_d0a16_14 : decode cJ7_fill_d0a16 14 = .ok (.lload_n 1, 1) := by decide +kernel
theorem dJ7_fill_d0a16_15 : decode cJ7_fill_d0a16 15 = .ok (.lastore, 1) := by decide +kernel
theorem dJ7_fill_d0a16_16 : decode cJ7_fill_d0a16 16 = .ok (.iinc 3 1, 3) := by decide +kernel
theorem dJ7_fill_d0a16_19 : decode cJ7_fill_d0a16 19 = .ok (.goto (-13), 3) := by decide +kernel
theorem dJ7_fill_d0a16_0 : decode cJ7_fill_d0a16 0 = .ok (.iconst 0, 1) := by decide +kernel
theorem dJ7_fill_d0a16_1 : decode cJ7_fill_d0a16 1 = .ok (.istore_n 3, 1) := by decide +kernel
theorem dJ7_fill_d0a16_2 : decode cJ7_fill_d0a16 2 = .ok (.aload_n 0, 1) := by decide +kernel
theorem dJ7_fill_d0a16_3 : decode cJ7_fill_d0a16 3 = .ok (.arraylength, 1) := by decide +kernel
theorem dJ7_fill_d0a16_4 : decode cJ7_fill_d0a16 4 = .ok (.istore 4, 2) := by decide +kernel
set_option maxHeartbeats 4000000 in
set_option maxRecDepth 100000 in
theorem k_J7_fill_d0a16 (l : Launch) (D : va_G) (K : Nat → ClassId) (a1 a1_n : Nat) (p2 : Int) (a1_c : Nat → Int) (hp2 : (-9223372036854775808) ≤ p2 ∧ p2 ≤ 9223372036854775807) (hc_a1 : ∀ j : Nat, (-9223372036854775808) ≤ a1_c j ∧ a1_c j ≤ 9223372036854775807) (hn_a1 : a1_n < 2147483648) : fn_CV (S := (Nat → Int) × (Nat → Nat → Int)) l D K yJ7_fill_d0a16 (fn_ws yJ7_fill_d0a16 cJ7_fill_d0a16 5 none) ({ frames := 4, cells := 0, slots := 0, locals := 100 } : Room) [.ref a1, .long (lI p2)] [(a1, .inl (K 3, a1_n, .inr (.inl (fun j => lI (a1_c j)))))] (fun u => (∀ j : Nat, (u.2 0) j = p2 ∨ (u.2 0) j = a1_c j) ∧ (∀ j : Nat, (-9223372036854775808) ≤ (u.2 0) j ∧ (u.2 0) j ≤ 9223372036854775807) ∧ True) (fun u => [(a1, .inl (K 3, a1_n, .inr (.inl (fun j => lI ((u.2 0) j)))))]) 0 0 := by
  refine g_inV (cc := cJ7_fill_d0a16) (maxL := 5) (ret := none) (by decide) rfl (Nat.le_of_ble_eq_true rfl) ?_
  intro p e s m below meth c A ls ag Q B hA hP hD hS hl hQ
  obtain ⟨hx, hb, hr, hml, hts, hown, hlocks, hin, hK⟩ := B
  have hown : s.vm.findClass RJ7 = some m.cls := hown
  have hts := fun w h => hts w (List.mem_cons_of_mem _ h)
  have J6 : ∀ (n : Nat) (x6_3 : Int) (c6_a1 : Nat → Int) (H : Heap) (locs : List Loc) (ls : Array Slot), ((a1_n : Int) - x6_3).toNat < n → (0 ≤ x6_3 ∧ x6_3 ≤ 2147483647 ∧ x6_3 ≤ (a1_n : Int)) → (∀ j : Nat, c6_a1 j = p2 ∨ c6_a1 j = a1_c j) → (∀ j : Nat, (-9223372036854775808) ≤ c6_a1 j ∧ c6_a1 j ≤ 9223372036854775807) → va_P D vwCl [(a1, .inl (K 3, a1_n, .inr (.inl (fun j => lI (c6_a1 j)))))] H → va_D A [(a1, .inl (K 3, a1_n, .inr (.inl (fun j => lI (c6_a1 j)))))] → va_S A s.heap H locs → lv_has ls 5 [(0, .ref a1), (1, .long (lI p2)), (3, .int (iI x6_3)), (4, .int (iI (a1_n : Int)))] → W p l e ({ frames := 4, cells := 0, slots := 0, locals := 100 } : Room) s m ag below meth c H locs 0 0 Q (F0 m 6 ls []) := by
    intro n
    induction n with
    | zero =>
      intro x6_3 c6_a1 H locs ls hm6 hf6 f hc6_a1 hP hD hS hl
      exact absurd hm6 (Nat.not_lt_zero _)
    | succ n ih6 =>
      intro x6_3 c6_a1 H locs ls hm6 hf6 f hc6_a1 hP hD hS hl
      refine lv_iload_n hx hb dJ7_fill_d0a16_6 rfl (lv_at hl 2 rfl) ?_
      refine lv_iload hx hb dJ7_fill_d0a16_7 (lv_at hl 3 rfl) ?_
      refine g_icmp_ge (tgt := 22) hx hb (by omega) (by omega) dJ7_fill_d0a16_9 (by decide) (fun c9 => ?_) (fun c9 => ?_)
      · rw [hQ]; exact fn_vret hx hb hr hlocks hP hD hS ((fun _ => 0), (fun k => ([c6_a1] : List (Nat → Int)).getD k (fun _ => 0))) ⟨(show ∀ j : Nat, c6_a1 j = p2 ∨ c6_a1 j = a1_c j from by assumption), (hc6_a1), trivial⟩ [0] (by decide) rfl dJ7_fill_d0a16_22
      · refine lv_aload_n hx hb dJ7_fill_d0a16_12 rfl (lv_at hl 0 rfl) ?_
        refine lv_iload_n hx hb dJ7_fill_d0a16_13 rfl (lv_at hl 2 rfl) ?_
        refine lv_lload_n hx hb dJ7_fill_d0a16_14 rfl (lv_at hl 1 rfl) ?_
        refine g_last hx hb hK.1 hP hD hS 0 3 rfl rfl (by omega) (by omega) hn_a1 dJ7_fill_d0a16_15 (fun H locs g15 eg15 hP hD hS => ?_)
        have hg15 : ∀ j : Nat, (-9223372036854775808) ≤ g15 j ∧ g15 j ≤ 9223372036854775807 := by rw [eg15]; exact uI_all hc6_a1 (by omega)
        have hP : va_P D vwCl [(a1, .inl (K 3, a1_n, .inr (.inl (fun j => lI (g15 j)))))] H := hP
        have hD : va_D A [(a1, .inl (K 3, a1_n, .inr (.inl (fun j => lI (g15 j)))))] := hD
        refine lv_iinc (v := iI (x6_3 + 1)) (lv' := [(3, .int (iI (x6_3 + 1))), (0, .ref a1), (1, .long (lI p2)), (4, .int (iI (a1_n : Int)))]) hx hb dJ7_fill_d0a16_16 hl (k := 2) rfl (iI_add _ _) (by decide) rfl (fun ls hl => ?_)
        refine lv_goto (tgt := 6) hx hb dJ7_fill_d0a16_19 (by decide) ?_
        exact ih6 (x6_3 + 1) g15 _ _ ls (by omega) (by omega) (show ∀ j : Nat, g15 j = p2 ∨ g15 j = a1_c j from by first | assumption | exact fun j => Or.inr rfl | (intro j; rw [eg15]; unfold uI; split; exact Or.inl rfl; exact f j)) hg15 (hP.sub [0] rfl) (hD.sub [0] (by decide) rfl) hS (lv_sub hl [1, 2, 0, 3] rfl)
  have hl : lv_has ls 5 [(0, .ref a1), (1, .long (lI p2))] := hl
  refine lv_iconst (v := iI 0) hx hb dJ7_fill_d0a16_0 rfl ?_
  refine lv_istore_n (lv' := [(3, .int (iI 0)), (0, .ref a1), (1, .long (lI p2))]) hx hb dJ7_fill_d0a16_1 rfl hl (by decide) rfl (fun ls hl => ?_)
  refine lv_aload_n hx hb dJ7_fill_d0a16_2 rfl (lv_at hl 1 rfl) ?_
  refine va_alen (v := iI (a1_n : Int)) hx hb hK.1 hP 0 3 rfl rfl (iI_nat hn_a1) dJ7_fill_d0a16_3 ?_
  refine lv_istore (lv' := [(4, .int (iI (a1_n : Int))), (3, .int (iI 0)), (0, .ref a1), (1, .long (lI p2))]) hx hb dJ7_fill_d0a16_4 hl (by decide) rfl (fun ls hl => ?_)
  exact J6 _ 0 a1_c _ _ ls (Nat.lt_succ_self _) (by omega) (show ∀ j : Nat, a1_c j = p2 ∨ a1_c j = a1_c j from by first | assumption | exact fun j => Or.inr rfl | (intro j; rw [eg15]; unfold uI; split; exact Or.inl rfl; exact f j)) hc_a1 (hP.sub [0] rfl) (hD.sub [0] (by decide) rfl) hS (lv_sub hl [2, 3, 1, 0] rfl)
theorem wd_406 : Cond.fieldLink "FootNotes$Row" 19 "FootNotes$Row" "width" "I" ∈ fn_big := fn_tb (fn_l2 (List.mem_of_getElem? (i := 166) (by decide +kernel))) (by decide +kernel)
theorem dX4_cutToWidth_0 : decode cX4_cutToWidth 0 = .ok (.aload_n 0, 1) := by decide +kernel
theorem dX4_cutToWidth_1 : decode cX4_cutToWidth 1 = .ok (.getfield 19, 3) := by decide +kernel
theorem dX4_cutToWidth_4 : decode cX4_cutToWidth 4 = .ok (.tableswitch 42 0 2 #[28, 33, 38], 28) := by decide +kernel
theorem dX4_cutToWidth_46 : decode cX4_cutToWidth 46 = .ok (.lload_n 1, 1) := by decide +kernel
theorem dX4_cutToWidth_47 : decode cX4_cutToWidth 47 = .ok (.lreturn, 1) := by decide +kernel
theorem dX4_cutToWidth_32 : decode cX4_cutToWidth 32 = .ok (.lload_n 1, 1) := by decide +kernel
theorem dX4_cutToWidth_33 : decode cX4_cutToWidth 33 = .ok (.l2i, 1) := by decide +kernel
theorem dX4_cutToWidth_34 : decode cX4_cutToWidth 34 = .ok (.i2b, 1) := by decide +kernel
theorem dX4_cutToWidth_35 : decode cX4_cutToWidth 35 = .ok (.i2l, 1) := by decide +kernel
theorem dX4_cutToWidth_36 : decode cX4_cutToWidth 36 = .ok (.lreturn, 1) := by decide +kernel
theorem dX4_cutToWidth_37 : decode cX4_cutToWidth 37 = .ok (.lload_n 1, 1) := by decide +kernel
theorem dX4_cutToWidth_38 : decode cX4_cutToWidth 38 = .ok (.l2i, 1) := by decide +kernel
theorem dX4_cutToWidth_39 : decode cX4_cutToWidth 39 = .ok (.i2s, 1) := by decide +kernel
theorem dX4_cutToWidth_40 : decode cX4_cutToWidth 40 = .ok (.i2l, 1) := by decide +kernel
theorem dX4_cutToWidth_41 : decode cX4_cutToWidth 41 = .ok (.lreturn, 1) := by decide +kernel
theorem dX4_cutToWidth_42 : decode cX4_cutToWidth 42 = .ok (.lload_n 1, 1) := by decide +kernel
theorem dX4_cutToWidth_43 : decode cX4_cutToWidth 43 = .ok (.l2i, 1) := by decide +kernel
theorem dX4_cutToWidth_44 : decode cX4_cutToWidth 44 = .ok (.i2l, 1) := by decide +kernel
theorem dX4_cutToWidth_45 : decode cX4_cutToWidth 45 = .ok (.lreturn, 1) := by decide +kernel
set_option maxHeartbeats 4000000 in
set_option maxRecDepth 100000 in
theorem k_X4_cutToWidth (l : Launch) (D : va_G) (K : Nat → ClassId) (t : Nat) (t_q : Nat → Nat) (p1 t_x0 t_x1 t_x2 : Int) (hp1 : (-9223372036854775808) ≤ p1 ∧ p1 ≤ 9223372036854775807) (hi_t : bX4 t_x0 t_x1 t_x2) : fn_CL (S := (Nat → Int) × (Nat → Nat → Int)) l D K yX4_cutToWidth (fn_ws yX4_cutToWidth cX4_cutToWidth 3 (some .long)) ({ frames := 4, cells := 0, slots := 0, locals := 100 } : Room) [.ref t, .long (lI p1)] [(t, .inr (4, oX4 t_q t_x0 t_x1 t_x2))] (fun r u => ∃ k : Int, r = lI k ∧ ((-9223372036854775808) ≤ k ∧ k ≤ 9223372036854775807) ∧ True) (fun u => [(t, .inr (4, oX4 t_q t_x0 t_x1 t_x2))]) 0 0 := by
  refine g_inL (cc := cX4_cutToWidth) (maxL := 3) (ret := (some .long)) (by decide) rfl (Nat.le_of_ble_eq_true rfl) ?_
  intro p e s m below meth c A ls ag Q B hA hP hD hS hl hQ
  obtain ⟨hx, hb, hr, hml, hts, hown, hlocks, hin, hK⟩ := B
  have hown : s.vm.findClass RX4 = some m.cls := hown
  have hts := fun w h => hts w (List.mem_cons_of_mem _ h)
  have hl : lv_has ls 3 [(0, .ref t), (1, .long (lI p1))] := hl
  refine lv_aload_n hx hb dX4_cutToWidth_0 rfl (lv_at hl 0 rfl) ?_
  refine va_get (D := D) (own := RX4) (ci := 4) (v := .int (iI t_x1)) (C := RX4) (T := TX4) (N := 4) hx hb hts inb_X4 hown hK.1 hP 0 rfl rfl 1 (by decide) (hts _ wd_406) (fun _ h9 => h9) rfl dX4_cutToWidth_1 ?_
  have y1_1 : 0 ≤ t_x1 ∧ t_x1 ≤ 3 := hi_t.2.1
  rcases (show (t_x1 < 0 ∨ 2 < t_x1) ∨ t_x1 = 0 ∨ t_x1 = 1 ∨ t_x1 = 2 by omega) with c4 | c4 | c4 | c4
  · refine lv_tableOut (tgt := 46) hx hb dX4_cutToWidth_4 (by rw [iI_toInt (by omega)]; exact c4) (by decide) ?_
    refine lv_lload_n hx hb dX4_cutToWidth_46 rfl (lv_at hl 1 rfl) ?_
    rw [hQ]; exact fn_lret hx hb hr hlocks hP hD hS ((fun _ => 0), (fun _ _ => 0)) ⟨p1, rfl, by omega, trivial⟩ [0] (by decide) rfl dX4_cutToWidth_47
  · refine lv_tableIn (tgt := 32) (off := 28) hx hb dX4_cutToWidth_4 (by rw [iI_toInt (by omega)]; omega) (by rw [iI_toInt (by omega)]; omega) (by rw [iI_toInt (by omega), c4]; decide) (by decide) ?_
    refine lv_lload_n hx hb dX4_cutToWidth_32 rfl (lv_at hl 1 rfl) ?_
    refine lv_l2i hx hb dX4_cutToWidth_33 rfl ?_
    refine g_any (fun w33 hw33 ew33 => ?_)
    refine lv_i2b hx hb dX4_cutToWidth_34 rfl ?_
    obtain ⟨w34, ew34, hw34⟩ := iI_i2b w33
    refine fn_top (iI w34) ew34 ?_
    refine lv_i2l (v := lI w34) hx hb dX4_cutToWidth_35 (iI_2l (by omega)) ?_
    rw [hQ]; exact fn_lret hx hb hr hlocks hP hD hS ((fun _ => 0), (fun _ _ => 0)) ⟨w34, rfl, by omega, trivial⟩ [0] (by decide) rfl dX4_cutToWidth_36
  · refine lv_tableIn (tgt := 37) (off := 33) hx hb dX4_cutToWidth_4 (by rw [iI_toInt (by omega)]; omega) (by rw [iI_toInt (by omega)]; omega) (by rw [iI_toInt (by omega), c4]; decide) (by decide) ?_
    refine lv_lload_n hx hb dX4_cutToWidth_37 rfl (lv_at hl 1 rfl) ?_
    refine lv_l2i hx hb dX4_cutToWidth_38 rfl ?_
    refine g_any (fun w38 hw38 ew38 => ?_)
    refine lv_i2s hx hb dX4_cutToWidth_39 rfl ?_
    obtain ⟨w39, ew39, hw39⟩ := iI_i2s w38
    refine fn_top (iI w39) ew39 ?_
    refine lv_i2l (v := lI w39) hx hb dX4_cutToWidth_40 (iI_2l (by omega)) ?_
    rw [hQ]; exact fn_lret hx hb hr hlocks hP hD hS ((fun _ => 0), (fun _ _ => 0)) ⟨w39, rfl, by omega, trivial⟩ [0] (by decide) rfl dX4_cutToWidth_41
  · refine lv_tableIn (tgt := 42) (off := 38) hx hb dX4_cutToWidth_4 (by rw [iI_toInt (by omega)]; omega) (by rw [iI_toInt (by omega)]; omega) (by rw [iI_toInt (by omega), c4]; decide) (by decide) ?_
    refine lv_lload_n hx hb dX4_cutToWidth_42 rfl (lv_at hl 1 rfl) ?_
    refine lv_l2i hx hb dX4_cutToWidth_43 rfl ?_
    refine g_any (fun w43 hw43 ew43 => ?_)
    refine lv_i2l (v := lI w43) hx hb dX4_cutToWidth_44 (iI_2l (by omega)) ?_
    rw [hQ]; exact fn_lret hx hb hr hlocks hP hD hS ((fun _ => 0), (fun _ _ => 0)) ⟨w43, rfl, by omega, trivial⟩ [0] (by decide) rfl dX4_cutToWidth_45
theorem dX7_pagesIn_0 : decode cX7_pagesIn 0 = .ok (.aload_n 0, 1) := by decide +kernel
theorem dX7_pagesIn_1 : decode cX7_pagesIn 1 = .ok (.getfield 15, 3) := by decide +kernel
theorem dX7_pagesIn_4 : decode cX7_pagesIn 4 = .ok (.iload_n 1, 1) := by decide +kernel
theorem dX7_pagesIn_5 : decode cX7_pagesIn 5 = .ok (.iconst 1, 1) := by decide +kernel
theorem dX7_pagesIn_6 : decode cX7_pagesIn 6 = .ok (.iadd, 1) := by decide +kernel
theorem dX7_pagesIn_7 : decode cX7_pagesIn 7 = .ok (.iaload, 1) := by decide +kernel
theorem dX7_pagesIn_8 : decode cX7_pagesIn 8 = .ok (.aload_n 0, 1) := by decide +kernel
theorem dX7_pagesIn_9 : decode cX7_pagesIn 9 = .ok (.getfield 15, 3) := by decide +kernel
theorem dX7_pagesIn_12 : decode cX7_pagesIn 12 = .ok (.iload_n 1, 1) := by decide +kernel
theorem dX7_pagesIn_13 : decode cX7_pagesIn 13 = .ok (.iaload, 1) := by decide +kernel
theorem dX7_pagesIn_14 : decode cX7_pagesIn 14 = .ok (.isub, 1) := by decide +kernel
theorem dX7_pagesIn_15 : decode cX7_pagesIn 15 = .ok (.ireturn, 1) := by decide +kernel
set_option maxHeartbeats 4000000 in
set_option maxRecDepth 100000 in
theorem k_X7_pagesIn (l : Launch) (D : va_G) (K : Nat → ClassId) (t : Nat) (t_q : Nat → Nat) (p1 t_x0 t_x1 t_x2 t_x3 t_x4 t_x5 t_x6 t_x7 t_x8 : Int) (t_10_c : Nat → Int) (hp1 : 0 ≤ p1 ∧ p1 ≤ 4) (hi_t : bX7 t_x0 t_x1 t_x2 t_x3 t_x4 t_x5 t_x6 t_x7 t_x8) (hc_t_10 : ∀ j : Nat, 0 ≤ t_10_c j ∧ t_10_c j ≤ 12) : fn_CI (S := (Nat → Int) × (Nat → Nat → Int)) l D K yX7_pagesIn (fn_ws yX7_pagesIn cX7_pagesIn 2 (some .int)) ({ frames := 4, cells := 0, slots := 0, locals := 100 } : Room) [.ref t, .int (iI p1)] [(t, .inr (7, oX7 t_q t_x0 t_x1 t_x2 t_x3 t_x4 t_x5 t_x6 t_x7 t_x8)), ((t_q 10), .inl (K 0, 6, .inl (fun j => iI (t_10_c j))))] (fun r u => ∃ k : Int, r = iI k ∧ ((-12) ≤ k ∧ k ≤ 12) ∧ ((k = t_10_c (Int.toNat (p1 + 1)) - t_10_c (Int.toNat p1))) ∧ True) (fun u => [(t, .inr (7, oX7 t_q t_x0 t_x1 t_x2 t_x3 t_x4 t_x5 t_x6 t_x7 t_x8)), ((t_q 10), .inl (K 0, 6, .inl (fun j => iI (t_10_c j))))]) 0 0 := by
  refine g_inI (cc := cX7_pagesIn) (maxL := 2) (ret := (some .int)) (by decide) rfl (Nat.le_of_ble_eq_true rfl) ?_
  intro p e s m below meth c A ls ag Q B hA hP hD hS hl hQ
  obtain ⟨hx, hb, hr, hml, hts, hown, hlocks, hin, hK⟩ := B
  have hown : s.vm.findClass RX7 = some m.cls := hown
  have hts := fun w h => hts w (List.mem_cons_of_mem _ h)
  have hl : lv_has ls 2 [(0, .ref t), (1, .int (iI p1))] := hl
  refine lv_aload_n hx hb dX7_pagesIn_0 rfl (lv_at hl 0 rfl) ?_
  refine va_get (D := D) (own := RX7) (ci := 7) (v := .ref (t_q 10)) (C := RX7) (T := TX7) (N := 15) hx hb hts inb_X7 hown hK.1 hP 0 rfl rfl 10 (by decide) (hts _ wd_111) (fun _ h9 => h9) rfl dX7_pagesIn_1 ?_
  refine lv_iload_n hx hb dX7_pagesIn_4 rfl (lv_at hl 1 rfl) ?_
  refine lv_iconst (v := iI 1) hx hb dX7_pagesIn_5 rfl ?_
  refine g_iadd hx hb dX7_pagesIn_6 ?_
  refine g_iald hx hb hK.1 hP 1 0 rfl rfl (by omega) (by omega) (by decide) dX7_pagesIn_7 ?_
  have y7 : 0 ≤ (t_10_c ((p1 + 1).toNat)) ∧ (t_10_c ((p1 + 1).toNat)) ≤ 12 := hc_t_10 ((p1 + 1).toNat)
  refine lv_aload_n hx hb dX7_pagesIn_8 rfl (lv_at hl 0 rfl) ?_
  refine va_get (D := D) (own := RX7) (ci := 7) (v := .ref (t_q 10)) (C := RX7) (T := TX7) (N := 15) hx hb hts inb_X7 hown hK.1 hP 0 rfl rfl 10 (by decide) (hts _ wd_111) (fun _ h9 => h9) rfl dX7_pagesIn_9 ?_
  refine lv_iload_n hx hb dX7_pagesIn_12 rfl (lv_at hl 1 rfl) ?_
  refine g_iald hx hb hK.1 hP 1 0 rfl rfl (by omega) (by omega) (by decide) dX7_pagesIn_13 ?_
  have y13 : 0 ≤ (t_10_c p1.toNat) ∧ (t_10_c p1.toNat) ≤ 12 := hc_t_10 p1.toNat
  refine g_isub hx hb dX7_pagesIn_14 ?_
  rw [hQ]; exact fn_iret hx hb hr hlocks rfl hP hD hS ((fun _ => 0), (fun _ _ => 0)) ⟨t_10_c ((p1 + 1).toNat) - (t_10_c p1.toNat), rfl, by omega, (by show ((t_10_c ((p1 + 1).toNat) - (t_10_c p1.toNat)) = t_10_c (Int.toNat (p1 + 1)) - t_10_c (Int.toNat p1)); omega), trivial⟩ [0, 1] (by decide) rfl dX7_pagesIn_15
theorem wd_184 : Cond.fieldLink "FootNotes$Shelf" 33 "FootNotes$Shelf" "acts" "I" ∈ fn_big := fn_tb (fn_l1 (List.mem_of_getElem? (i := 184) (by decide +kernel))) (by decide +kernel)
theorem wd_191 : Cond.fieldLink "FootNotes$Shelf" 18 "FootNotes$Shelf" "says" "[I" ∈ fn_big := fn_tb (fn_l1 (List.mem_of_getElem? (i := 191) (by decide +kernel))) (by decide +kernel)
theorem wd_631 : Cond.methodLink "FootNotes$Shelf" 52 ⟨"java/lang/System", "arraycopy", "(Ljava/lang/Object;ILjava/lang/Object;II)V"⟩ ∈ fn_big := fn_tb (fn_l3 (List.mem_of_getElem? (i := 151) (by decide +kernel))) (by decide +kernel)
theorem wd_186 : Cond.fieldLink "FootNotes$Shelf" 9 "FootNotes$Shelf" "leafCount" "[I" ∈ fn_big := fn_tb (fn_l1 (List.mem_of_getElem? (i := 186) (by decide +kernel))) (by decide +kernel)
theorem wd_190 : Cond.fieldLink "FootNotes$Shelf" 15 "FootNotes$Shelf" "content" "[I" ∈ fn_big := fn_tb (fn_l1 (List.mem_of_getElem? (i := 190) (by decide +kernel))) (by decide +kernel)
theorem wd_630 : Cond.code ⟨"FootNotes$Text", "pagesIn", "(I)I"⟩ prog_9_method_9_code 2 (Option.some Jvm.ClassFile.FieldType.int) ∈ fn_big := fn_tb (fn_l3 (List.mem_of_getElem? (i := 150) (by decide +kernel))) (by decide +kernel)
theorem wd_629 : Cond.instanceMethod ⟨"FootNotes$Text", "pagesIn", "(I)I"⟩ ∈ fn_big := fn_tb (fn_l3 (List.mem_of_getElem? (i := 149) (by decide +kernel))) (by decide +kernel)
theorem wp_20 : Cond.selects "FootNotes$Text" ⟨"FootNotes$Text", "pagesIn", "(I)I"⟩ ⟨"FootNotes$Text", "pagesIn", "(I)I"⟩ ∈ fn_big := fn_sel (q := (⟨"FootNotes$Text", "pagesIn", "(I)I"⟩, 15)) 20 (by decide +kernel) (by decide +kernel)
theorem dX5_lay_28 : decode cX5_lay 28 = .ok (.iload_n 3, 1) := by decide +kernel
theorem dX5_lay_29 : decode cX5_lay 29 = .ok (.aload_n 0, 1) := by decide +kernel
theorem dX5_lay_30 : decode cX5_lay 30 = .ok (.getfield 9, 3) := by decide +kernel
theorem dX5_lay_33 : decode cX5_lay 33 = .ok (.iload_n 2, 1) := by decide +kernel
theorem dX5_lay_34 : decode cX5_lay 34 = .ok (.iaload, 1) := by decide +kernel
theorem dX5_lay_35 : decode cX5_lay 35 = .ok (.if_icmp .ge 28, 3) := by decide +kernel
theorem dX5_lay_63 : decode cX5_lay 63 = .ok (.iinc 2 1, 3) := by decide +kernel
theorem dX5_lay_66 : decode cX5_lay 66 = .ok (.goto (-59), 3) := by decide +kernel
theorem dX5_lay_38 : decode cX5_lay 38 = .ok (.aload_n 0, 1) := by decide +kernel
theorem dX5_lay_39 : decode cX5_lay 39 = .ok (.getfield 15, 3) := by decide +kernel
theorem dX5_lay_42 : decode cX5_lay 42 = .ok (.iload_n 2, 1) := by decide +kernel
theorem dX5_lay_43 : decode cX5_lay 43 = .ok (.bipush 30, 2) := by decide +kernel
theorem dX5_lay_45 : decode cX5_lay 45 = .ok (.imul, 1) := by decide +kernel
theorem dX5_lay_46 : decode cX5_lay 46 = .ok (.iload_n 3, 1) := by decide +kernel
theorem dX5_lay_47 : decode cX5_lay 47 = .ok (.iadd, 1) := by decide +kernel
theorem dX5_lay_48 : decode cX5_lay 48 = .ok (.aload_n 1, 1) := by decide +kernel
theorem dX5_lay_49 : decode cX5_lay 49 = .ok (.getfield 46, 3) := by decide +kernel
theorem dX5_lay_52 : decode cX5_lay 52 = .ok (.iload_n 2, 1) := by decide +kernel
theorem dX5_lay_53 : decode cX5_lay 53 = .ok (.iaload, 1) := by decide +kernel
theorem dX5_lay_54 : decode cX5_lay 54 = .ok (.iload_n 3, 1) := by decide +kernel
theorem dX5_lay_55 : decode cX5_lay 55 = .ok (.iadd, 1) := by decide +kernel
theorem dX5_lay_56 : decode cX5_lay 56 = .ok (.iastore, 1) := by decide +kernel
theorem dX5_lay_57 : decode cX5_lay 57 = .ok (.iinc 3 1, 3) := by decide +kernel
theorem dX5_lay_60 : decode cX5_lay 60 = .ok (.goto (-32), 3) := by decide +kernel
theorem dX5_lay_7 : decode cX5_lay 7 = .ok (.iload_n 2, 1) := by decide +kernel
theorem dX5_lay_8 : decode cX5_lay 8 = .ok (.aload_n 1, 1) := by decide +kernel
theorem dX5_lay_9 : decode cX5_lay 9 = .ok (.getfield 37, 3) := by decide +kernel
theorem dX5_lay_12 : decode cX5_lay 12 = .ok (.if_icmp .ge 57, 3) := by decide +kernel
theorem dX5_lay_69 : decode cX5_lay 69 = .ok (.aload_n 1, 1) := by decide +kernel
theorem dX5_lay_70 : decode cX5_lay 70 = .ok (.getfield 49, 3) := by decide +kernel
theorem dX5_lay_73 : decode cX5_lay 73 = .ok (.iconst 0, 1) := by decide +kernel
theorem dX5_lay_74 : decode cX5_lay 74 = .ok (.aload_n 0, 1) := by decide +kernel
theorem dX5_lay_75 : decode cX5_lay 75 = .ok (.getfield 18, 3) := by decide +kernel
theorem dX5_lay_78 : decode cX5_lay 78 = .ok (.iconst 0, 1) := by decide +kernel
theorem dX5_lay_79 : decode cX5_lay 79 = .ok (.bipush 24, 2) := by decide +kernel
theorem dX5_lay_81 : decode cX5_lay 81 = .ok (.invokestatic 52, 3) := by decide +kernel
theorem dX5_lay_84 : decode cX5_lay 84 = .ok (.return_, 1) := by decide +kernel
theorem dX5_lay_15 : decode cX5_lay 15 = .ok (.aload_n 0, 1) := by decide +kernel
theorem dX5_lay_16 : decode cX5_lay 16 = .ok (.getfield 9, 3) := by decide +kernel
theorem dX5_lay_19 : decode cX5_lay 19 = .ok (.iload_n 2, 1) := by decide +kernel
theorem dX5_lay_20 : decode cX5_lay 20 = .ok (.aload_n 1, 1) := by decide +kernel
theorem dX5_lay_21 : decode cX5_lay 21 = .ok (.iload_n 2, 1) := by decide +kernel
theorem dX5_lay_22 : decode cX5_lay 22 = .ok (.invokevirtual 42, 3) := by decide +kernel
theorem dX5_lay_25 : decode cX5_lay 25 = .ok (.iastore, 1) := by decide +kernel
theorem dX5_lay_26 : decode cX5_lay 26 = .ok (.iconst 0, 1) := by decide +kernel
theorem dX5_lay_27 : decode cX5_lay 27 = .ok (.istore_n 3, 1) := by decide +kernel
theorem dX5_lay_0 : decode cX5_lay 0 = .ok (.aload_n 0, 1) := by decide +kernel
theorem dX5_lay_1 : decode cX5_lay 1 = .ok (.iconst 0, 1) := by decide +kernel
theorem dX5_lay_2 : decode cX5_lay 2 = .ok (.putfield 33, 3) := by decide +kernel
theorem dX5_lay_5 : decode cX5_lay 5 = .ok (.iconst 0, 1) := by decide +kernel
theorem dX5_lay_6 : decode cX5_lay 6 = .ok (.istore_n 2, 1) := by decide +kernel
set_option maxHeartbeats 4000000 in
set_option maxRecDepth 100000 in
theorem k_X5_lay (l : Launch) (D : va_G) (K : Nat → ClassId) (t a1 : Nat) (t_q a1_q : Nat → Nat) (t_x0 a1_x0 a1_x1 a1_x2 a1_x3 a1_x4 a1_x5 a1_x6 a1_x7 a1_x8 : Int) (a1_14_c : Nat → Int) (t_3_c : Nat → Int) (a1_10_c : Nat → Int) (t_1_c : Nat → Int) (t_2_c : Nat → Int) (hi_t : bX5 t_x0) (hi_a1 : bX7 a1_x0 a1_x1 a1_x2 a1_x3 a1_x4 a1_x5 a1_x6 a1_x7 a1_x8) (hc_a1_14 : ∀ j : Nat, 0 ≤ a1_14_c j ∧ a1_14_c j ≤ 29) (hc_t_3 : ∀ j : Nat, 0 ≤ t_3_c j ∧ t_3_c j ≤ 29) (hc_a1_10 : ∀ j : Nat, 0 ≤ a1_10_c j ∧ a1_10_c j ≤ 12) (hc_t_1 : ∀ j : Nat, (-1000) ≤ t_1_c j ∧ t_1_c j ≤ 30) (hc_t_2 : ∀ j : Nat, (-4) ≤ t_2_c j ∧ t_2_c j ≤ 11) : fn_CV (S := (Nat → Int) × (Nat → Nat → Int)) l D K yX5_lay (fn_ws yX5_lay cX5_lay 4 none) ({ frames := 8, cells := 0, slots := 0, locals := 200 } : Room) [.ref t, .ref a1] [(t, .inr (5, oX5 t_q t_x0)), (a1, .inr (7, oX7 a1_q a1_x0 a1_x1 a1_x2 a1_x3 a1_x4 a1_x5 a1_x6 a1_x7 a1_x8)), ((a1_q 14), .inl (K 0, 24, .inl (fun j => iI (a1_14_c j)))), ((t_q 3), .inl (K 0, 24, .inl (fun j => iI (t_3_c j)))), ((a1_q 10), .inl (K 0, 6, .inl (fun j => iI (a1_10_c j)))), ((t_q 1), .inl (K 0, 5, .inl (fun j => iI (t_1_c j)))), ((t_q 2), .inl (K 0, 150, .inl (fun j => iI (t_2_c j))))] (fun u => (0 ≤ (u.1 0) ∧ (u.1 0) ≤ 40) ∧ (∀ j : Nat, -12 ≤ (u.2 0) j ∨ t_1_c j ≤ (u.2 0) j) ∧ (∀ j : Nat, (-1000) ≤ (u.2 0) j ∧ (u.2 0) j ≤ 30) ∧ (∀ j : Nat, (-4) ≤ (u.2 1) j ∧ (u.2 1) j ≤ 11) ∧ (∀ j : Nat, 0 ≤ (u.2 2) j ∧ (u.2 2) j ≤ 29) ∧ True) (fun u => [(t, .inr (5, oX5 t_q (u.1 0))), (a1, .inr (7, oX7 a1_q a1_x0 a1_x1 a1_x2 a1_x3 a1_x4 a1_x5 a1_x6 a1_x7 a1_x8)), ((a1_q 14), .inl (K 0, 24, .inl (fun j => iI (a1_14_c j)))), ((t_q 3), .inl (K 0, 24, .inl (fun j => iI ((u.2 2) j)))), ((a1_q 10), .inl (K 0, 6, .inl (fun j => iI (a1_10_c j)))), ((t_q 1), .inl (K 0, 5, .inl (fun j => iI ((u.2 0) j)))), ((t_q 2), .inl (K 0, 150, .inl (fun j => iI ((u.2 1) j))))]) 0 0 := by
  refine g_inV (cc := cX5_lay) (maxL := 4) (ret := none) (by decide) rfl (Nat.le_of_ble_eq_true rfl) ?_
  intro p e s m below meth c A ls ag Q B hA hP hD hS hl hQ
  obtain ⟨hx, hb, hr, hml, hts, hown, hlocks, hin, hK⟩ := B
  have hown : s.vm.findClass RX5 = some m.cls := hown
  have hts := fun w h => hts w (List.mem_cons_of_mem _ h)
  have J7 : ∀ (n : Nat) (x7_2 : Int) (c7_t_1 : Nat → Int) (c7_t_2 : Nat → Int) (H : Heap) (locs : List Loc) (ls : Array Slot), (5 - x7_2).toNat < n → (0 ≤ x7_2 ∧ x7_2 ≤ 5) → (∀ j : Nat, -12 ≤ c7_t_1 j ∨ t_1_c j ≤ c7_t_1 j) → (∀ j : Nat, (-1000) ≤ c7_t_1 j ∧ c7_t_1 j ≤ 30) → (∀ j : Nat, (-4) ≤ c7_t_2 j ∧ c7_t_2 j ≤ 11) → va_P D vwCl [(t, .inr (5, oX5 t_q 0)), (a1, .inr (7, oX7 a1_q a1_x0 a1_x1 a1_x2 a1_x3 a1_x4 a1_x5 a1_x6 a1_x7 a1_x8)), ((a1_q 14), .inl (K 0, 24, .inl (fun j => iI (a1_14_c j)))), ((t_q 3), .inl (K 0, 24, .inl (fun j => iI (t_3_c j)))), ((a1_q 10), .inl (K 0, 6, .inl (fun j => iI (a1_10_c j)))), ((t_q 1), .inl (K 0, 5, .inl (fun j => iI (c7_t_1 j)))), ((t_q 2), .inl (K 0, 150, .inl (fun j => iI (c7_t_2 j))))] H → va_D A [(t, .inr (5, oX5 t_q 0)), (a1, .inr (7, oX7 a1_q a1_x0 a1_x1 a1_x2 a1_x3 a1_x4 a1_x5 a1_x6 a1_x7 a1_x8)), ((a1_q 14), .inl (K 0, 24, .inl (fun j => iI (a1_14_c j)))), ((t_q 3), .inl (K 0, 24, .inl (fun j => iI (t_3_c j)))), ((a1_q 10), .inl (K 0, 6, .inl (fun j => iI (a1_10_c j)))), ((t_q 1), .inl (K 0, 5, .inl (fun j => iI (c7_t_1 j)))), ((t_q 2), .inl (K 0, 150, .inl (fun j => iI (c7_t_2 j))))] → va_S A s.heap H locs → lv_has ls 4 [(0, .ref t), (1, .ref a1), (2, .int (iI x7_2))] → W p l e ({ frames := 8, cells := 0, slots := 0, locals := 200 } : Room) s m ag below meth c H locs 0 0 Q (F0 m 7 ls []) := by
    intro n
    induction n with
    | zero =>
      intro x7_2 c7_t_1 c7_t_2 H locs ls hm7 hf7 lb hc7_t_1 hc7_t_2 hP hD hS hl
      exact absurd hm7 (Nat.not_lt_zero _)
    | succ n ih7 =>
      intro x7_2 c7_t_1 c7_t_2 H locs ls hm7 hf7 lb hc7_t_1 hc7_t_2 hP hD hS hl
      have J28 : ∀ (n : Nat) (x28_3 : Int) (c28_t_1 : Nat → Int) (c28_t_2 : Nat → Int) (H : Heap) (locs : List Loc) (ls : Array Slot), (30 - x28_3).toNat < n → (0 ≤ x7_2 ∧ x7_2 ≤ 4 ∧ 0 ≤ x28_3 ∧ x28_3 ≤ 30 ∧ 1 ≤ a1_x3 ∧ a1_x3 ≤ 5 ∧ c28_t_1 (Int.toNat x7_2) = a1_10_c (Int.toNat (x7_2 + 1)) - a1_10_c (Int.toNat x7_2)) → (∀ j : Nat, -12 ≤ c28_t_1 j ∨ t_1_c j ≤ c28_t_1 j) → (∀ j : Nat, (-1000) ≤ c28_t_1 j ∧ c28_t_1 j ≤ 30) → (∀ j : Nat, (-4) ≤ c28_t_2 j ∧ c28_t_2 j ≤ 11) → va_P D vwCl [(t, .inr (5, oX5 t_q 0)), (a1, .inr (7, oX7 a1_q a1_x0 a1_x1 a1_x2 a1_x3 a1_x4 a1_x5 a1_x6 a1_x7 a1_x8)), ((a1_q 14), .inl (K 0, 24, .inl (fun j => iI (a1_14_c j)))), ((t_q 3), .inl (K 0, 24, .inl (fun j => iI (t_3_c j)))), ((a1_q 10), .inl (K 0, 6, .inl (fun j => iI (a1_10_c j)))), ((t_q 1), .inl (K 0, 5, .inl (fun j => iI (c28_t_1 j)))), ((t_q 2), .inl (K 0, 150, .inl (fun j => iI (c28_t_2 j))))] H → va_D A [(t, .inr (5, oX5 t_q 0)), (a1, .inr (7, oX7 a1_q a1_x0 a1_x1 a1_x2 a1_x3 a1_x4 a1_x5 a1_x6 a1_x7 a1_x8)), ((a1_q 14), .inl (K 0, 24, .inl (fun j => iI (a1_14_c j)))), ((t_q 3), .inl (K 0, 24, .inl (fun j => iI (t_3_c j)))), ((a1_q 10), .inl (K 0, 6, .inl (fun j => iI (a1_10_c j)))), ((t_q 1), .inl (K 0, 5, .inl (fun j => iI (c28_t_1 j)))), ((t_q 2), .inl (K 0, 150, .inl (fun j => iI (c28_t_2 j))))] → va_S A s.heap H locs → lv_has ls 4 [(0, .ref t), (1, .ref a1), (2, .int (iI x7_2)), (3, .int (iI x28_3))] → W p l e ({ frames := 8, cells := 0, slots := 0, locals := 200 } : Room) s m ag below meth c H locs 0 0 Q (F0 m 28 ls []) := by
        intro n
        induction n with
        | zero =>
          intro x28_3 c28_t_1 c28_t_2 H locs ls hm28 hf28 lb hc28_t_1 hc28_t_2 hP hD hS hl
          exact absurd hm28 (Nat.not_lt_zero _)
        | succ n ih28 =>
          intro x28_3 c28_t_1 c28_t_2 H locs ls hm28 hf28 lb hc28_t_1 hc28_t_2 hP hD hS hl
          refine lv_iload_n hx hb dX5_lay_28 rfl (lv_at hl 3 rfl) ?_
          refine lv_aload_n hx hb dX5_lay_29 rfl (lv_at hl 0 rfl) ?_
          refine va_get (D := D) (own := RX5) (ci := 5) (v := .ref (t_q 1)) (C := RX5) (T := TX5) (N := 8) hx hb hts inb_X5 hown hK.1 hP 0 rfl rfl 1 (by decide) (hts _ wd_186) (fun _ h9 => h9) rfl dX5_lay_30 ?_
          refine lv_iload_n hx hb dX5_lay_33 rfl (lv_at hl 2 rfl) ?_
          refine g_iald hx hb hK.1 hP 5 0 rfl rfl (by omega) (by omega) (by decide) dX5_lay_34 ?_
          have y34 : (-1000) ≤ (c28_t_1 x7_2.toNat) ∧ (c28_t_1 x7_2.toNat) ≤ 30 := hc28_t_1 x7_2.toNat
          refine g_icmp_ge (tgt := 63) hx hb (by omega) (by omega) dX5_lay_35 (by decide) (fun c35 => ?_) (fun c35 => ?_)
          · refine lv_iinc (v := iI (x7_2 + 1)) (lv' := [(2, .int (iI (x7_2 + 1))), (0, .ref t), (1, .ref a1), (3, .int (iI x28_3))]) hx hb dX5_lay_63 hl (k := 2) rfl (iI_add _ _) (by decide) rfl (fun ls hl => ?_)
            refine lv_goto (tgt := 7) hx hb dX5_lay_66 (by decide) ?_
            exact ih7 (x7_2 + 1) c28_t_1 c28_t_2 _ _ ls (by omega) (by omega) (show ∀ j : Nat, -12 ≤ c28_t_1 j ∨ t_1_c j ≤ c28_t_1 j from by assumption) hc28_t_1 hc28_t_2 (hP.sub [0, 1, 2, 3, 4, 5, 6] rfl) (hD.sub [0, 1, 2, 3, 4, 5, 6] (by decide) rfl) hS (lv_sub hl [1, 2, 0] rfl)
          · refine lv_aload_n hx hb dX5_lay_38 rfl (lv_at hl 0 rfl) ?_
            refine va_get (D := D) (own := RX5) (ci := 5) (v := .ref (t_q 2)) (C := RX5) (T := TX5) (N := 8) hx hb hts inb_X5 hown hK.1 hP 0 rfl rfl 2 (by decide) (hts _ wd_190) (fun _ h9 => h9) rfl dX5_lay_39 ?_
            refine lv_iload_n hx hb dX5_lay_42 rfl (lv_at hl 2 rfl) ?_
            refine lv_bipush (v := iI 30) hx hb dX5_lay_43 (by decide) ?_
            refine g_imul hx hb dX5_lay_45 ?_
            refine lv_iload_n hx hb dX5_lay_46 rfl (lv_at hl 3 rfl) ?_
            refine g_iadd hx hb dX5_lay_47 ?_
            refine lv_aload_n hx hb dX5_lay_48 rfl (lv_at hl 1 rfl) ?_
            refine va_getN (D := D) (own := RX5) (ci := 7) (v := .ref (a1_q 10)) (C := RX7) (T := TX7) (N := 15) hx hb hts inb_X7 hown hK.1 hP 1 rfl rfl 10 (by decide) (hK.nf 39 rfl) (fun _ h9 => h9) rfl dX5_lay_49 ?_
            refine lv_iload_n hx hb dX5_lay_52 rfl (lv_at hl 2 rfl) ?_
            refine g_iald hx hb hK.1 hP 4 0 rfl rfl (by omega) (by omega) (by decide) dX5_lay_53 ?_
            have y53 : 0 ≤ (a1_10_c x7_2.toNat) ∧ (a1_10_c x7_2.toNat) ≤ 12 := hc_a1_10 x7_2.toNat
            refine lv_iload_n hx hb dX5_lay_54 rfl (lv_at hl 3 rfl) ?_
            refine g_iadd hx hb dX5_lay_55 ?_
            have z56 := hc_a1_10 (Int.toNat (x7_2 + 1))
            refine fn_at 56 rfl ?_
            refine g_iast hx hb hK.1 hP hD hS 6 0 rfl rfl (by omega) (by omega) (by decide) dX5_lay_56 (fun H locs g56 eg56 hP hD hS => ?_)
            have hg56 : ∀ j : Nat, (-4) ≤ g56 j ∧ g56 j ≤ 11 := by rw [eg56]; exact uI_all hc28_t_2 (by omega)
            have hP : va_P D vwCl [(t, .inr (5, oX5 t_q 0)), (a1, .inr (7, oX7 a1_q a1_x0 a1_x1 a1_x2 a1_x3 a1_x4 a1_x5 a1_x6 a1_x7 a1_x8)), ((a1_q 14), .inl (K 0, 24, .inl (fun j => iI (a1_14_c j)))), ((t_q 3), .inl (K 0, 24, .inl (fun j => iI (t_3_c j)))), ((a1_q 10), .inl (K 0, 6, .inl (fun j => iI (a1_10_c j)))), ((t_q 1), .inl (K 0, 5, .inl (fun j => iI (c28_t_1 j)))), ((t_q 2), .inl (K 0, 150, .inl (fun j => iI (g56 j))))] H := hP
            have hD : va_D A [(t, .inr (5, oX5 t_q 0)), (a1, .inr (7, oX7 a1_q a1_x0 a1_x1 a1_x2 a1_x3 a1_x4 a1_x5 a1_x6 a1_x7 a1_x8)), ((a1_q 14), .inl (K 0, 24, .inl (fun j => iI (a1_14_c j)))), ((t_q 3), .inl (K 0, 24, .inl (fun j => iI (t_3_c j)))), ((a1_q 10), .inl (K 0, 6, .inl (fun j => iI (a1_10_c j)))), ((t_q 1), .inl (K 0, 5, .inl (fun j => iI (c28_t_1 j)))), ((t_q 2), .inl (K 0, 150, .inl (fun j => iI (g56 j))))] := hD
            refine lv_iinc (v := iI (x28_3 + 1)) (lv' := [(3, .int (iI (x28_3 + 1))), (0, .ref t), (1, .ref a1), (2, .int (iI x7_2))]) hx hb dX5_lay_57 hl (k := 3) rfl (iI_add _ _) (by decide) rfl (fun ls hl => ?_)
            refine lv_goto (tgt := 28) hx hb dX5_lay_60 (by decide) ?_
            exact ih28 (x28_3 + 1) c28_t_1 g56 _ _ ls (by omega) (by omega) (show ∀ j : Nat, -12 ≤ c28_t_1 j ∨ t_1_c j ≤ c28_t_1 j from by assumption) hc28_t_1 hg56 (hP.sub [0, 1, 2, 3, 4, 5, 6] rfl) (hD.sub [0, 1, 2, 3, 4, 5, 6] (by decide) rfl) hS (lv_sub hl [1, 2, 3, 0] rfl)
      refine lv_iload_n hx hb dX5_lay_7 rfl (lv_at hl 2 rfl) ?_
      refine lv_aload_n hx hb dX5_lay_8 rfl (lv_at hl 1 rfl) ?_
      refine va_getN (D := D) (own := RX5) (ci := 7) (v := .int (iI a1_x3)) (C := RX7) (T := TX7) (N := 15) hx hb hts inb_X7 hown hK.1 hP 1 rfl rfl 3 (by decide) (hK.nf 14 rfl) (fun _ h9 => h9) rfl dX5_lay_9 ?_
      have y9_1 : 0 ≤ a1_x3 ∧ a1_x3 ≤ 5 := hi_a1.2.2.2.1
      refine g_icmp_ge (tgt := 69) hx hb (by omega) (by omega) dX5_lay_12 (by decide) (fun c12 => ?_) (fun c12 => ?_)
      · refine lv_aload_n hx hb dX5_lay_69 rfl (lv_at hl 1 rfl) ?_
        refine va_getN (D := D) (own := RX5) (ci := 7) (v := .ref (a1_q 14)) (C := RX7) (T := TX7) (N := 15) hx hb hts inb_X7 hown hK.1 hP 1 rfl rfl 14 (by decide) (hK.nf 49 rfl) (fun _ h9 => h9) rfl dX5_lay_70 ?_
        refine lv_iconst (v := iI 0) hx hb dX5_lay_73 rfl ?_
        refine lv_aload_n hx hb dX5_lay_74 rfl (lv_at hl 0 rfl) ?_
        refine va_get (D := D) (own := RX5) (ci := 5) (v := .ref (t_q 3)) (C := RX5) (T := TX5) (N := 8) hx hb hts inb_X5 hown hK.1 hP 0 rfl rfl 3 (by decide) (hts _ wd_191) (fun _ h9 => h9) rfl dX5_lay_75 ?_
        refine lv_iconst (v := iI 0) hx hb dX5_lay_78 rfl ?_
        refine lv_bipush (v := iI 24) hx hb dX5_lay_79 (by decide) ?_
        refine g_cpy (own := RX5) hx hb (hml.trans hl.1.symm) hown (hts _ wd_631) (hts _ wd_622) (hts _ wd_621) (hts _ wd_19) hK.1 hP hD hS 2 3 0 0 rfl rfl rfl rfl (by omega) (by omega) (by omega) (Nat.le_of_ble_eq_true rfl) (Nat.le_of_ble_eq_true rfl) dX5_lay_81 (fun H locs g81 eg81 hP hD hS => ?_)
        have hg81 : ∀ j : Nat, 0 ≤ g81 j ∧ g81 j ≤ 29 := by rw [eg81]; exact cI_all hc_a1_14 hc_t_3
        have hP : va_P D vwCl [(t, .inr (5, oX5 t_q 0)), (a1, .inr (7, oX7 a1_q a1_x0 a1_x1 a1_x2 a1_x3 a1_x4 a1_x5 a1_x6 a1_x7 a1_x8)), ((a1_q 14), .inl (K 0, 24, .inl (fun j => iI (a1_14_c j)))), ((t_q 3), .inl (K 0, 24, .inl (fun j => iI (g81 j)))), ((a1_q 10), .inl (K 0, 6, .inl (fun j => iI (a1_10_c j)))), ((t_q 1), .inl (K 0, 5, .inl (fun j => iI (c7_t_1 j)))), ((t_q 2), .inl (K 0, 150, .inl (fun j => iI (c7_t_2 j))))] H := hP
        have hD : va_D A [(t, .inr (5, oX5 t_q 0)), (a1, .inr (7, oX7 a1_q a1_x0 a1_x1 a1_x2 a1_x3 a1_x4 a1_x5 a1_x6 a1_x7 a1_x8)), ((a1_q 14), .inl (K 0, 24, .inl (fun j => iI (a1_14_c j)))), ((t_q 3), .inl (K 0, 24, .inl (fun j => iI (g81 j)))), ((a1_q 10), .inl (K 0, 6, .inl (fun j => iI (a1_10_c j)))), ((t_q 1), .inl (K 0, 5, .inl (fun j => iI (c7_t_1 j)))), ((t_q 2), .inl (K 0, 150, .inl (fun j => iI (c7_t_2 j))))] := hD
        rw [hQ]; exact fn_vret hx hb hr hlocks hP hD hS ((fun k => ([0] : List Int).getD k 0), (fun k => ([c7_t_1, c7_t_2, g81] : List (Nat → Int)).getD k (fun _ => 0))) ⟨(by show 0 ≤ 0 ∧ 0 ≤ 40; omega), (show ∀ j : Nat, -12 ≤ c7_t_1 j ∨ t_1_c j ≤ c7_t_1 j from by assumption), (hc7_t_1), (hc7_t_2), (hg81), trivial⟩ [0, 1, 2, 3, 4, 5, 6] (by decide) rfl dX5_lay_84
      · refine lv_aload_n hx hb dX5_lay_15 rfl (lv_at hl 0 rfl) ?_
        refine va_get (D := D) (own := RX5) (ci := 5) (v := .ref (t_q 1)) (C := RX5) (T := TX5) (N := 8) hx hb hts inb_X5 hown hK.1 hP 0 rfl rfl 1 (by decide) (hts _ wd_186) (fun _ h9 => h9) rfl dX5_lay_16 ?_
        refine lv_iload_n hx hb dX5_lay_19 rfl (lv_at hl 2 rfl) ?_
        refine lv_aload_n hx hb dX5_lay_20 rfl (lv_at hl 1 rfl) ?_
        refine lv_iload_n hx hb dX5_lay_21 rfl (lv_at hl 2 rfl) ?_
        refine fn_goi (wc := [(a1, .inr (7, oX7 a1_q a1_x0 a1_x1 a1_x2 a1_x3 a1_x4 a1_x5 a1_x6 a1_x7 a1_x8)), ((a1_q 10), .inl (K 0, 6, .inl (fun j => iI (a1_10_c j))))]) (wr := [(t, .inr (5, oX5 t_q 0)), ((a1_q 14), .inl (K 0, 24, .inl (fun j => iI (a1_14_c j)))), ((t_q 3), .inl (K 0, 24, .inl (fun j => iI (t_3_c j)))), ((t_q 1), .inl (K 0, 5, .inl (fun j => iI (c7_t_1 j)))), ((t_q 2), .inl (K 0, 150, .inl (fun j => iI (c7_t_2 j))))]) hK hP hD hS hA [1, 4] [0, 2, 3, 5, 6] rfl rfl (by decide) (fun hp => va_runVN (C := RX7) (As := [.int (iI x7_2)]) (rest := [.int (iI x7_2), .ref (t_q 1)]) ⟨hx, hb, hml, hown, hts⟩ (k_X7_pagesIn (l := l) (D := D) (K := K) (t := a1) (p1 := x7_2) (t_q := a1_q) (t_x0 := a1_x0) (t_x1 := a1_x1) (t_x2 := a1_x2) (t_x3 := a1_x3) (t_x4 := a1_x4) (t_x5 := a1_x5) (t_x6 := a1_x6) (t_x7 := a1_x7) (t_x8 := a1_x8) (t_10_c := a1_10_c) (hp1 := (by omega)) (hi_t := hi_a1) (hc_t_10 := hc_a1_10) _) ⟨va_cnB (own := RX5) 1 hts (fn_gin wd_630) rfl rfl rfl (hK.nw 105 rfl) (hts _ wd_4) (by decide +kernel) ⟨Nat.le_of_ble_eq_true rfl, Nat.le_of_ble_eq_true rfl⟩, hts _ wd_629, hts _ wp_20⟩ ⟨fn_blind, va_recv hK.1 hP (ci := 7) (q0 := 1) rfl rfl, hp⟩ rfl rfl hl.1 rfl (lv_room (Nat.le_of_ble_eq_true rfl)) dX5_lay_22 ⟨Nat.le_of_ble_eq_true rfl, Nat.le_of_ble_eq_true rfl⟩) (fun r22 u22 H locs hwu22 hP hD hS => ?_)
        obtain ⟨u22a, u22b⟩ := u22
        obtain ⟨kr22, rfl, hkr22, hqu220, -⟩ := hwu22
        have hqu22 : (kr22 = a1_10_c (Int.toNat (x7_2 + 1)) - a1_10_c (Int.toNat x7_2)) := hqu220
        clear hqu220
        have hP : va_P D vwCl [(t, .inr (5, oX5 t_q 0)), ((a1_q 14), .inl (K 0, 24, .inl (fun j => iI (a1_14_c j)))), ((t_q 3), .inl (K 0, 24, .inl (fun j => iI (t_3_c j)))), ((t_q 1), .inl (K 0, 5, .inl (fun j => iI (c7_t_1 j)))), ((t_q 2), .inl (K 0, 150, .inl (fun j => iI (c7_t_2 j)))), (a1, .inr (7, oX7 a1_q a1_x0 a1_x1 a1_x2 a1_x3 a1_x4 a1_x5 a1_x6 a1_x7 a1_x8)), ((a1_q 10), .inl (K 0, 6, .inl (fun j => iI (a1_10_c j))))] H := hP
        have hD : va_D A [(t, .inr (5, oX5 t_q 0)), ((a1_q 14), .inl (K 0, 24, .inl (fun j => iI (a1_14_c j)))), ((t_q 3), .inl (K 0, 24, .inl (fun j => iI (t_3_c j)))), ((t_q 1), .inl (K 0, 5, .inl (fun j => iI (c7_t_1 j)))), ((t_q 2), .inl (K 0, 150, .inl (fun j => iI (c7_t_2 j)))), (a1, .inr (7, oX7 a1_q a1_x0 a1_x1 a1_x2 a1_x3 a1_x4 a1_x5 a1_x6 a1_x7 a1_x8)), ((a1_q 10), .inl (K 0, 6, .inl (fun j => iI (a1_10_c j))))] := hD
        refine g_iast hx hb hK.1 hP hD hS 3 0 rfl rfl (by omega) (by omega) (by decide) dX5_lay_25 (fun H locs g25 eg25 hP hD hS => ?_)
        have hg25 : ∀ j : Nat, (-1000) ≤ g25 j ∧ g25 j ≤ 30 := by rw [eg25]; exact uI_all hc7_t_1 (by omega)
        have hP : va_P D vwCl [(t, .inr (5, oX5 t_q 0)), ((a1_q 14), .inl (K 0, 24, .inl (fun j => iI (a1_14_c j)))), ((t_q 3), .inl (K 0, 24, .inl (fun j => iI (t_3_c j)))), ((t_q 1), .inl (K 0, 5, .inl (fun j => iI (g25 j)))), ((t_q 2), .inl (K 0, 150, .inl (fun j => iI (c7_t_2 j)))), (a1, .inr (7, oX7 a1_q a1_x0 a1_x1 a1_x2 a1_x3 a1_x4 a1_x5 a1_x6 a1_x7 a1_x8)), ((a1_q 10), .inl (K 0, 6, .inl (fun j => iI (a1_10_c j))))] H := hP
        have hD : va_D A [(t, .inr (5, oX5 t_q 0)), ((a1_q 14), .inl (K 0, 24, .inl (fun j => iI (a1_14_c j)))), ((t_q 3), .inl (K 0, 24, .inl (fun j => iI (t_3_c j)))), ((t_q 1), .inl (K 0, 5, .inl (fun j => iI (g25 j)))), ((t_q 2), .inl (K 0, 150, .inl (fun j => iI (c7_t_2 j)))), (a1, .inr (7, oX7 a1_q a1_x0 a1_x1 a1_x2 a1_x3 a1_x4 a1_x5 a1_x6 a1_x7 a1_x8)), ((a1_q 10), .inl (K 0, 6, .inl (fun j => iI (a1_10_c j))))] := hD
        have z26 := congrFun eg25 (Int.toNat x7_2)
        rw [uI_s] at z26
        refine lv_iconst (v := iI 0) hx hb dX5_lay_26 rfl ?_
        refine lv_istore_n (lv' := [(3, .int (iI 0)), (0, .ref t), (1, .ref a1), (2, .int (iI x7_2))]) hx hb dX5_lay_27 rfl hl (by decide) rfl (fun ls hl => ?_)
        exact J28 _ 0 g25 c7_t_2 _ _ ls (Nat.lt_succ_self _) (by omega) (show ∀ j : Nat, -12 ≤ g25 j ∨ t_1_c j ≤ g25 j from fun j => by rw [eg25]; exact uI_lay lb (by omega) j) hg25 hc7_t_2 (hP.sub [0, 5, 1, 2, 6, 3, 4] rfl) (hD.sub [0, 5, 1, 2, 6, 3, 4] (by decide) rfl) hS (lv_sub hl [1, 2, 3, 0] rfl)
  have hl : lv_has ls 4 [(0, .ref t), (1, .ref a1)] := hl
  refine lv_aload_n hx hb dX5_lay_0 rfl (lv_at hl 0 rfl) ?_
  refine lv_iconst (v := iI 0) hx hb dX5_lay_1 rfl ?_
  refine va_put (D := D) (own := RX5) (ci := 5) (v := .int (iI 0)) (ty := .int) (C := RX5) (T := TX5) (N := 8) hx hb hts inb_X5 tyX5 tyX5_ok nmX5 hown hK.1 hP hD hS 0 rfl rfl 0 (by decide) (hts _ wd_184) (fun _ h9 => h9) rfl (by decide +kernel) rfl rfl (Nat.le_of_ble_eq_true rfl) dX5_lay_2 (fun H locs hP hD hS => ?_)
  have hP : va_P D vwCl [(t, .inr (5, oX5 t_q 0)), (a1, .inr (7, oX7 a1_q a1_x0 a1_x1 a1_x2 a1_x3 a1_x4 a1_x5 a1_x6 a1_x7 a1_x8)), ((a1_q 14), .inl (K 0, 24, .inl (fun j => iI (a1_14_c j)))), ((t_q 3), .inl (K 0, 24, .inl (fun j => iI (t_3_c j)))), ((a1_q 10), .inl (K 0, 6, .inl (fun j => iI (a1_10_c j)))), ((t_q 1), .inl (K 0, 5, .inl (fun j => iI (t_1_c j)))), ((t_q 2), .inl (K 0, 150, .inl (fun j => iI (t_2_c j))))] H := hP
  have hD : va_D A [(t, .inr (5, oX5 t_q 0)), (a1, .inr (7, oX7 a1_q a1_x0 a1_x1 a1_x2 a1_x3 a1_x4 a1_x5 a1_x6 a1_x7 a1_x8)), ((a1_q 14), .inl (K 0, 24, .inl (fun j => iI (a1_14_c j)))), ((t_q 3), .inl (K 0, 24, .inl (fun j => iI (t_3_c j)))), ((a1_q 10), .inl (K 0, 6, .inl (fun j => iI (a1_10_c j)))), ((t_q 1), .inl (K 0, 5, .inl (fun j => iI (t_1_c j)))), ((t_q 2), .inl (K 0, 150, .inl (fun j => iI (t_2_c j))))] := hD
  refine lv_iconst (v := iI 0) hx hb dX5_lay_5 rfl ?_
  refine lv_istore_n (lv' := [(2, .int (iI 0)), (0, .ref t), (1, .ref a1)]) hx hb dX5_lay_6 rfl hl (by decide) rfl (fun ls hl => ?_)
  exact J7 _ 0 t_1_c t_2_c _ _ ls (Nat.lt_succ_self _) (by omega) (show ∀ j : Nat, -12 ≤ t_1_c j ∨ t_1_c j ≤ t_1_c j from fun j => Or.inr (Int.le_refl _)) hc_t_1 hc_t_2 (hP.sub [0, 1, 2, 3, 4, 5, 6] rfl) (hD.sub [0, 1, 2, 3, 4, 5, 6] (by decide) rfl) hS (lv_sub hl [1, 2, 0] rfl)
theorem wd_194 : Cond.fieldLink "FootNotes$Shelf" 21 "FootNotes$Shelf" "actKind" "[I" ∈ fn_big := fn_tb (fn_l1 (List.mem_of_getElem? (i := 194) (by decide +kernel))) (by decide +kernel)
theorem wd_195 : Cond.fieldLink "FootNotes$Shelf" 24 "FootNotes$Shelf" "actOn" "[I" ∈ fn_big := fn_tb (fn_l1 (List.mem_of_getElem? (i := 195) (by decide +kernel))) (by decide +kernel)
theorem wd_196 : Cond.fieldLink "FootNotes$Shelf" 27 "FootNotes$Shelf" "actLeaf" "[I" ∈ fn_big := fn_tb (fn_l1 (List.mem_of_getElem? (i := 196) (by decide +kernel))) (by decide +kernel)
theorem wd_197 : Cond.fieldLink "FootNotes$Shelf" 30 "FootNotes$Shelf" "actWas" "[I" ∈ fn_big := fn_tb (fn_l1 (List.mem_of_getElem? (i := 197) (by decide +kernel))) (by decide +kernel)
theorem dX5_copyFrom_0 : decode cX5_copyFrom 0 = .ok (.aload_n 0, 1) := by decide +kernel
theorem dX5_copyFrom_1 : decode cX5_copyFrom 1 = .ok (.aload_n 1, 1) := by decide +kernel
theorem dX5_copyFrom_2 : decode cX5_copyFrom 2 = .ok (.getfield 33, 3) := by decide +kernel
theorem dX5_copyFrom_5 : decode cX5_copyFrom 5 = .ok (.putfield 33, 3) := by decide +kernel
theorem dX5_copyFrom_8 : decode cX5_copyFrom 8 = .ok (.aload_n 1, 1) := by decide +kernel
theorem dX5_copyFrom_9 : decode cX5_copyFrom 9 = .ok (.getfield 9, 3) := by decide +kernel
theorem dX5_copyFrom_12 : decode cX5_copyFrom 12 = .ok (.iconst 0, 1) := by decide +kernel
theorem dX5_copyFrom_13 : decode cX5_copyFrom 13 = .ok (.aload_n 0, 1) := by decide +kernel
theorem dX5_copyFrom_14 : decode cX5_copyFrom 14 = .ok (.getfield 9, 3) := by decide +kernel
theorem dX5_copyFrom_17 : decode cX5_copyFrom 17 = .ok (.iconst 0, 1) := by decide +kernel
theorem dX5_copyFrom_18 : decode cX5_copyFrom 18 = .ok (.iconst 5, 1) := by decide +kernel
theorem dX5_copyFrom_19 : decode cX5_copyFrom 19 = .ok (.invokestatic 52, 3) := by decide +kernel
theorem dX5_copyFrom_22 : decode cX5_copyFrom 22 = .ok (.aload_n 1, 1) := by decide +kernel
theorem dX5_copyFrom_23 : decode cX5_copyFrom 23 = .ok (.getfield 15, 3) := by decide +kernel
theorem dX5_copyFrom_26 : decode cX5_copyFrom 26 = .ok (.iconst 0, 1) := by decide +kernel
theorem dX5_copyFrom_27 : decode cX5_copyFrom 27 = .ok (.aload_n 0, 1) := by decide +kernel
theorem dX5_copyFrom_28 : decode cX5_copyFrom 28 = .ok (.getfield 15, 3) := by decide +kernel
theorem dX5_copyFrom_31 : decode cX5_copyFrom 31 = .ok (.iconst 0, 1) := by decide +kernel
theorem dX5_copyFrom_32 : decode cX5_copyFrom 32 = .ok (.sipush 150, 3) := by decide +kernel
theorem dX5_copyFrom_35 : decode cX5_copyFrom 35 = .ok (.invokestatic 52, 3) := by decide +kernel
theorem dX5_copyFrom_38 : decode cX5_copyFrom 38 = .ok (.aload_n 1, 1) := by decide +kernel
theorem dX5_copyFrom_39 : decode cX5_copyFrom 39 = .ok (.getfield 18, 3) := by decide +kernel
theorem dX5_copyFrom_42 : decode cX5_copyFrom 42 = .ok (.iconst 0, 1) := by decide +kernel
theorem dX5_copyFrom_43 : decode cX5_copyFrom 43 = .ok (.aload_n 0, 1) := by decide +kernel
theorem dX5_copyFrom_44 : decode cX5_copyFrom 44 = .ok (.getfield 18, 3) := by decide +kernel
theorem dX5_copyFrom_47 : decode cX5_copyFrom 47 = .ok (.iconst 0, 1) := by decide +kernel
theorem dX5_copyFrom_48 : decode cX5_copyFrom 48 = .ok (.bipush 24, 2) := by decide +kernel
theorem dX5_copyFrom_50 : decode cX5_copyFrom 50 = .ok (.invokestatic 52, 3) := by decide +kernel
theorem dX5_copyFrom_53 : decode cX5_copyFrom 53 = .ok (.aload_n 1, 1) := by decide +kernel
theorem dX5_copyFrom_54 : decode cX5_copyFrom 54 = .ok (.getfield 21, 3) := by decide +kernel
theorem dX5_copyFrom_57 : decode cX5_copyFrom 57 = .ok (.iconst 0, 1) := by decide +kernel
theorem dX5_copyFrom_58 : decode cX5_copyFrom 58 = .ok (.aload_n 0, 1) := by decide +kernel
theorem dX5_copyFrom_59 : decode cX5_copyFrom 59 = .ok (.getfield 21, 3) := by decide +kernel
theorem dX5_copyFrom_62 : decode cX5_copyFrom 62 = .ok (.iconst 0, 1) := by decide +kernel
theorem dX5_copyFrom_63 : decode cX5_copyFrom 63 = .ok (.bipush 40, 2) := by decide +kernel
theorem dX5_copyFrom_65 : decode cX5_copyFrom 65 = .ok (.invokestatic 52, 3) := by decide +kernel
theorem dX5_copyFrom_68 : decode cX5_copyFrom 68 = .ok (.aload_n 1, 1) := by decide +kernel
theorem dX5_copyFrom_69 : decode cX5_copyFrom 69 = .ok (.getfield 24, 3) := by decide +kernel
theorem dX5_copyFrom_72 : decode cX5_copyFrom 72 = .ok (.iconst 0, 1) := by decide +kernel
theorem dX5_copyFrom_73 : decode cX5_copyFrom 73 = .ok (.aload_n 0, 1) := by decide +kernel
theorem dX5_copyFrom_74 : decode cX5_copyFrom 74 = .ok (.getfield 24, 3) := by decide +kernel
theorem dX5_copyFrom_77 : decode cX5_copyFrom 77 = .ok (.iconst 0, 1) := by decide +kernel
theorem dX5_copyFrom_78 : decode cX5_copyFrom 78 = .ok (.bipush 40, 2) := by decide +kernel
theorem dX5_copyFrom_80 : decode cX5_copyFrom 80 = .ok (.invokestatic 52, 3) := by decide +kernel
theorem dX5_copyFrom_83 : decode cX5_copyFrom 83 = .ok (.aload_n 1, 1) := by decide +kernel
theorem dX5_copyFrom_84 : decode cX5_copyFrom 84 = .ok (.getfield 27, 3) := by decide +kernel
theorem dX5_copyFrom_87 : decode cX5_copyFrom 87 = .ok (.iconst 0, 1) := by decide +kernel
theorem dX5_copyFrom_88 : decode cX5_copyFrom 88 = .ok (.aload_n 0, 1) := by decide +kernel
theorem dX5_copyFrom_89 : decode cX5_copyFrom 89 = .ok (.getfield 27, 3) := by decide +kernel
theorem dX5_copyFrom_92 : decode cX5_copyFrom 92 = .ok (.iconst 0, 1) := by decide +kernel
theorem dX5_copyFrom_93 : decode cX5_copyFrom 93 = .ok (.bipush 40, 2) := by decide +kernel
theorem dX5_copyFrom_95 : decode cX5_copyFrom 95 = .ok (.invokestatic 52, 3) := by decide +kernel
theorem dX5_copyFrom_98 : decode cX5_copyFrom 98 = .ok (.aload_n 1, 1) := by decide +kernel
theorem dX5_copyFrom_99 : decode cX5_copyFrom 99 = .ok (.getfield 30, 3) := by decide +kernel
theorem dX5_copyFrom_102 : decode cX5_copyFrom 102 = .ok (.iconst 0, 1) := by decide +kernel
theorem dX5_copyFrom_103 : decode cX5_copyFrom 103 = .ok (.aload_n 0, 1) := by decide +kernel
theorem dX5_copyFrom_104 : decode cX5_copyFrom 104 = .ok (.getfield 30, 3) := by decide +kernel
theorem dX5_copyFrom_107 : decode cX5_copyFrom 107 = .ok (.iconst 0, 1) := by decide +kernel
theorem dX5_copyFrom_108 : decode cX5_copyFrom 108 = .ok (.bipush 40, 2) := by decide +kernel
theorem dX5_copyFrom_110 : decode cX5_copyFrom 110 = .ok (.invokestatic 52, 3) := by decide +kernel
theorem dX5_copyFrom_113 : decode cX5_copyFrom 113 = .ok (.return_, 1) := by decide +kernel
set_option maxHeartbeats 4000000 in
set_option maxRecDepth 100000 in
theorem k_X5_copyFrom (l : Launch) (D : va_G) (K : Nat → ClassId) (t a1 : Nat) (a1_q t_q : Nat → Nat) (a1_x0 t_x0 : Int) (a1_1_c : Nat → Int) (t_1_c : Nat → Int) (a1_2_c : Nat → Int) (t_2_c : Nat → Int) (a1_3_c : Nat → Int) (t_3_c : Nat → Int) (a1_4_c : Nat → Int) (t_4_c : Nat → Int) (a1_5_c : Nat → Int) (t_5_c : Nat → Int) (a1_6_c : Nat → Int) (t_6_c : Nat → Int) (a1_7_c : Nat → Int) (t_7_c : Nat → Int) (hi_a1 : bX5 a1_x0) (hi_t : bX5 t_x0) (hc_a1_1 : ∀ j : Nat, (-1000) ≤ a1_1_c j ∧ a1_1_c j ≤ 30) (hc_t_1 : ∀ j : Nat, (-1000) ≤ t_1_c j ∧ t_1_c j ≤ 30) (hc_a1_2 : ∀ j : Nat, (-4) ≤ a1_2_c j ∧ a1_2_c j ≤ 11) (hc_t_2 : ∀ j : Nat, (-4) ≤ t_2_c j ∧ t_2_c j ≤ 11) (hc_a1_3 : ∀ j : Nat, 0 ≤ a1_3_c j ∧ a1_3_c j ≤ 29) (hc_t_3 : ∀ j : Nat, 0 ≤ t_3_c j ∧ t_3_c j ≤ 29) (hc_a1_4 : ∀ j : Nat, 0 ≤ a1_4_c j ∧ a1_4_c j ≤ 2) (hc_t_4 : ∀ j : Nat, 0 ≤ t_4_c j ∧ t_4_c j ≤ 2) (hc_a1_5 : ∀ j : Nat, 0 ≤ a1_5_c j ∧ a1_5_c j ≤ 23) (hc_t_5 : ∀ j : Nat, 0 ≤ t_5_c j ∧ t_5_c j ≤ 23) (hc_a1_6 : ∀ j : Nat, 0 ≤ a1_6_c j ∧ a1_6_c j ≤ 29) (hc_t_6 : ∀ j : Nat, 0 ≤ t_6_c j ∧ t_6_c j ≤ 29) (hc_a1_7 : ∀ j : Nat, (-4) ≤ a1_7_c j ∧ a1_7_c j ≤ 29) (hc_t_7 : ∀ j : Nat, (-4) ≤ t_7_c j ∧ t_7_c j ≤ 29) (ar : AR t_4_c t_5_c t_7_c) (ar1 : AR a1_4_c a1_5_c a1_7_c) : fn_CV (S := (Nat → Int) × (Nat → Nat → Int)) l D K yX5_copyFrom (fn_ws yX5_copyFrom cX5_copyFrom 2 none) ({ frames := 8, cells := 0, slots := 0, locals := 200 } : Room) [.ref t, .ref a1] [(a1, .inr (5, oX5 a1_q a1_x0)), (t, .inr (5, oX5 t_q t_x0)), ((a1_q 1), .inl (K 0, 5, .inl (fun j => iI (a1_1_c j)))), ((t_q 1), .inl (K 0, 5, .inl (fun j => iI (t_1_c j)))), ((a1_q 2), .inl (K 0, 150, .inl (fun j => iI (a1_2_c j)))), ((t_q 2), .inl (K 0, 150, .inl (fun j => iI (t_2_c j)))), ((a1_q 3), .inl (K 0, 24, .inl (fun j => iI (a1_3_c j)))), ((t_q 3), .inl (K 0, 24, .inl (fun j => iI (t_3_c j)))), ((a1_q 4), .inl (K 0, 40, .inl (fun j => iI (a1_4_c j)))), ((t_q 4), .inl (K 0, 40, .inl (fun j => iI (t_4_c j)))), ((a1_q 5), .inl (K 0, 40, .inl (fun j => iI (a1_5_c j)))), ((t_q 5), .inl (K 0, 40, .inl (fun j => iI (t_5_c j)))), ((a1_q 6), .inl (K 0, 40, .inl (fun j => iI (a1_6_c j)))), ((t_q 6), .inl (K 0, 40, .inl (fun j => iI (t_6_c j)))), ((a1_q 7), .inl (K 0, 40, .inl (fun j => iI (a1_7_c j)))), ((t_q 7), .inl (K 0, 40, .inl (fun j => iI (t_7_c j))))] (fun u => (0 ≤ (u.1 0) ∧ (u.1 0) ≤ 40) ∧ (AR (u.2 3) (u.2 4) (u.2 6)) ∧ (∀ j : Nat, (u.2 0) j = a1_1_c j ∨ (u.2 0) j = t_1_c j) ∧ (∀ j : Nat, (-1000) ≤ (u.2 0) j ∧ (u.2 0) j ≤ 30) ∧ (∀ j : Nat, (-4) ≤ (u.2 1) j ∧ (u.2 1) j ≤ 11) ∧ (∀ j : Nat, 0 ≤ (u.2 2) j ∧ (u.2 2) j ≤ 29) ∧ (∀ j : Nat, 0 ≤ (u.2 3) j ∧ (u.2 3) j ≤ 2) ∧ (∀ j : Nat, 0 ≤ (u.2 4) j ∧ (u.2 4) j ≤ 23) ∧ (∀ j : Nat, 0 ≤ (u.2 5) j ∧ (u.2 5) j ≤ 29) ∧ (∀ j : Nat, (-4) ≤ (u.2 6) j ∧ (u.2 6) j ≤ 29) ∧ True) (fun u => [(a1, .inr (5, oX5 a1_q a1_x0)), (t, .inr (5, oX5 t_q (u.1 0))), ((a1_q 1), .inl (K 0, 5, .inl (fun j => iI (a1_1_c j)))), ((t_q 1), .inl (K 0, 5, .inl (fun j => iI ((u.2 0) j)))), ((a1_q 2), .inl (K 0, 150, .inl (fun j => iI (a1_2_c j)))), ((t_q 2), .inl (K 0, 150, .inl (fun j => iI ((u.2 1) j)))), ((a1_q 3), .inl (K 0, 24, .inl (fun j => iI (a1_3_c j)))), ((t_q 3), .inl (K 0, 24, .inl (fun j => iI ((u.2 2) j)))), ((a1_q 4), .inl (K 0, 40, .inl (fun j => iI (a1_4_c j)))), ((t_q 4), .inl (K 0, 40, .inl (fun j => iI ((u.2 3) j)))), ((a1_q 5), .inl (K 0, 40, .inl (fun j => iI (a1_5_c j)))), ((t_q 5), .inl (K 0, 40, .inl (fun j => iI ((u.2 4) j)))), ((a1_q 6), .inl (K 0, 40, .inl (fun j => iI (a1_6_c j)))), ((t_q 6), .inl (K 0, 40, .inl (fun j => iI ((u.2 5) j)))), ((a1_q 7), .inl (K 0, 40, .inl (fun j => iI (a1_7_c j)))), ((t_q 7), .inl (K 0, 40, .inl (fun j => iI ((u.2 6) j))))]) 0 0 := by
  refine g_inV (cc := cX5_copyFrom) (maxL := 2) (ret := none) (by decide) rfl (Nat.le_of_ble_eq_true rfl) ?_
  intro p e s m below meth c A ls ag Q B hA hP hD hS hl hQ
  obtain ⟨hx, hb, hr, hml, hts, hown, hlocks, hin, hK⟩ := B
  have hown : s.vm.findClass RX5 = some m.cls := hown
  have hts := fun w h => hts w (List.mem_cons_of_mem _ h)
  have hl : lv_has ls 2 [(0, .ref t), (1, .ref a1)] := hl
  refine lv_aload_n hx hb dX5_copyFrom_0 rfl (lv_at hl 0 rfl) ?_
  refine lv_aload_n hx hb dX5_copyFrom_1 rfl (lv_at hl 1 rfl) ?_
  refine va_get (D := D) (own := RX5) (ci := 5) (v := .int (iI a1_x0)) (C := RX5) (T := TX5) (N := 8) hx hb hts inb_X5 hown hK.1 hP 0 rfl rfl 0 (by decide) (hts _ wd_184) (fun _ h9 => h9) rfl dX5_copyFrom_2 ?_
  have y2_1 : 0 ≤ a1_x0 ∧ a1_x0 ≤ 40 := hi_a1
  refine va_put (D := D) (own := RX5) (ci := 5) (v := .int (iI a1_x0)) (ty := .int) (C := RX5) (T := TX5) (N := 8) hx hb hts inb_X5 tyX5 tyX5_ok nmX5 hown hK.1 hP hD hS 1 rfl rfl 0 (by decide) (hts _ wd_184) (fun _ h9 => h9) rfl (by decide +kernel) rfl rfl (Nat.le_of_ble_eq_true rfl) dX5_copyFrom_5 (fun H locs hP hD hS => ?_)
  have hP : va_P D vwCl [(a1, .inr (5, oX5 a1_q a1_x0)), (t, .inr (5, oX5 t_q a1_x0)), ((a1_q 1), .inl (K 0, 5, .inl (fun j => iI (a1_1_c j)))), ((t_q 1), .inl (K 0, 5, .inl (fun j => iI (t_1_c j)))), ((a1_q 2), .inl (K 0, 150, .inl (fun j => iI (a1_2_c j)))), ((t_q 2), .inl (K 0, 150, .inl (fun j => iI (t_2_c j)))), ((a1_q 3), .inl (K 0, 24, .inl (fun j => iI (a1_3_c j)))), ((t_q 3), .inl (K 0, 24, .inl (fun j => iI (t_3_c j)))), ((a1_q 4), .inl (K 0, 40, .inl (fun j => iI (a1_4_c j)))), ((t_q 4), .inl (K 0, 40, .inl (fun j => iI (t_4_c j)))), ((a1_q 5), .inl (K 0, 40, .inl (fun j => iI (a1_5_c j)))), ((t_q 5), .inl (K 0, 40, .inl (fun j => iI (t_5_c j)))), ((a1_q 6), .inl (K 0, 40, .inl (fun j => iI (a1_6_c j)))), ((t_q 6), .inl (K 0, 40, .inl (fun j => iI (t_6_c j)))), ((a1_q 7), .inl (K 0, 40, .inl (fun j => iI (a1_7_c j)))), ((t_q 7), .inl (K 0, 40, .inl (fun j => iI (t_7_c j))))] H := hP
  have hD : va_D A [(a1, .inr (5, oX5 a1_q a1_x0)), (t, .inr (5, oX5 t_q a1_x0)), ((a1_q 1), .inl (K 0, 5, .inl (fun j => iI (a1_1_c j)))), ((t_q 1), .inl (K 0, 5, .inl (fun j => iI (t_1_c j)))), ((a1_q 2), .inl (K 0, 150, .inl (fun j => iI (a1_2_c j)))), ((t_q 2), .inl (K 0, 150, .inl (fun j => iI (t_2_c j)))), ((a1_q 3), .inl (K 0, 24, .inl (fun j => iI (a1_3_c j)))), ((t_q 3), .inl (K 0, 24, .inl (fun j => iI (t_3_c j)))), ((a1_q 4), .inl (K 0, 40, .inl (fun j => iI (a1_4_c j)))), ((t_q 4), .inl (K 0, 40, .inl (fun j => iI (t_4_c j)))), ((a1_q 5), .inl (K 0, 40, .inl (fun j => iI (a1_5_c j)))), ((t_q 5), .inl (K 0, 40, .inl (fun j => iI (t_5_c j)))), ((a1_q 6), .inl (K 0, 40, .inl (fun j => iI (a1_6_c j)))), ((t_q 6), .inl (K 0, 40, .inl (fun j => iI (t_6_c j)))), ((a1_q 7), .inl (K 0, 40, .inl (fun j => iI (a1_7_c j)))), ((t_q 7), .inl (K 0, 40, .inl (fun j => iI (t_7_c j))))] := hD
  refine lv_aload_n hx hb dX5_copyFrom_8 rfl (lv_at hl 1 rfl) ?_
  refine va_get (D := D) (own := RX5) (ci := 5) (v := .ref (a1_q 1)) (C := RX5) (T := TX5) (N := 8) hx hb hts inb_X5 hown hK.1 hP 0 rfl rfl 1 (by decide) (hts _ wd_186) (fun _ h9 => h9) rfl dX5_copyFrom_9 ?_
  refine lv_iconst (v := iI 0) hx hb dX5_copyFrom_12 rfl ?_
  refine lv_aload_n hx hb dX5_copyFrom_13 rfl (lv_at hl 0 rfl) ?_
  refine va_get (D := D) (own := RX5) (ci := 5) (v := .ref (t_q 1)) (C := RX5) (T := TX5) (N := 8) hx hb hts inb_X5 hown hK.1 hP 1 rfl rfl 1 (by decide) (hts _ wd_186) (fun _ h9 => h9) rfl dX5_copyFrom_14 ?_
  refine lv_iconst (v := iI 0) hx hb dX5_copyFrom_17 rfl ?_
  refine lv_iconst (v := iI 5) hx hb dX5_copyFrom_18 rfl ?_
  refine g_cpy (own := RX5) hx hb (hml.trans hl.1.symm) hown (hts _ wd_631) (hts _ wd_622) (hts _ wd_621) (hts _ wd_19) hK.1 hP hD hS 2 3 0 0 rfl rfl rfl rfl (by omega) (by omega) (by omega) (Nat.le_of_ble_eq_true rfl) (Nat.le_of_ble_eq_true rfl) dX5_copyFrom_19 (fun H locs g19 eg19 hP hD hS => ?_)
  have hg19 : ∀ j : Nat, (-1000) ≤ g19 j ∧ g19 j ≤ 30 := by rw [eg19]; exact cI_all hc_a1_1 hc_t_1
  have hP : va_P D vwCl [(a1, .inr (5, oX5 a1_q a1_x0)), (t, .inr (5, oX5 t_q a1_x0)), ((a1_q 1), .inl (K 0, 5, .inl (fun j => iI (a1_1_c j)))), ((t_q 1), .inl (K 0, 5, .inl (fun j => iI (g19 j)))), ((a1_q 2), .inl (K 0, 150, .inl (fun j => iI (a1_2_c j)))), ((t_q 2), .inl (K 0, 150, .inl (fun j => iI (t_2_c j)))), ((a1_q 3), .inl (K 0, 24, .inl (fun j => iI (a1_3_c j)))), ((t_q 3), .inl (K 0, 24, .inl (fun j => iI (t_3_c j)))), ((a1_q 4), .inl (K 0, 40, .inl (fun j => iI (a1_4_c j)))), ((t_q 4), .inl (K 0, 40, .inl (fun j => iI (t_4_c j)))), ((a1_q 5), .inl (K 0, 40, .inl (fun j => iI (a1_5_c j)))), ((t_q 5), .inl (K 0, 40, .inl (fun j => iI (t_5_c j)))), ((a1_q 6), .inl (K 0, 40, .inl (fun j => iI (a1_6_c j)))), ((t_q 6), .inl (K 0, 40, .inl (fun j => iI (t_6_c j)))), ((a1_q 7), .inl (K 0, 40, .inl (fun j => iI (a1_7_c j)))), ((t_q 7), .inl (K 0, 40, .inl (fun j => iI (t_7_c j))))] H := hP
  have hD : va_D A [(a1, .inr (5, oX5 a1_q a1_x0)), (t, .inr (5, oX5 t_q a1_x0)), ((a1_q 1), .inl (K 0, 5, .inl (fun j => iI (a1_1_c j)))), ((t_q 1), .inl (K 0, 5, .inl (fun j => iI (g19 j)))), ((a1_q 2), .inl (K 0, 150, .inl (fun j => iI (a1_2_c j)))), ((t_q 2), .inl (K 0, 150, .inl (fun j => iI (t_2_c j)))), ((a1_q 3), .inl (K 0, 24, .inl (fun j => iI (a1_3_c j)))), ((t_q 3), .inl (K 0, 24, .inl (fun j => iI (t_3_c j)))), ((a1_q 4), .inl (K 0, 40, .inl (fun j => iI (a1_4_c j)))), ((t_q 4), .inl (K 0, 40, .inl (fun j => iI (t_4_c j)))), ((a1_q 5), .inl (K 0, 40, .inl (fun j => iI (a1_5_c j)))), ((t_q 5), .inl (K 0, 40, .inl (fun j => iI (t_5_c j)))), ((a1_q 6), .inl (K 0, 40, .inl (fun j => iI (a1_6_c j)))), ((t_q 6), .inl (K 0, 40, .inl (fun j => iI (t_6_c j)))), ((a1_q 7), .inl (K 0, 40, .inl (fun j => iI (a1_7_c j)))), ((t_q 7), .inl (K 0, 40, .inl (fun j => iI (t_7_c j))))] := hD
  refine lv_aload_n hx hb dX5_copyFrom_22 rfl (lv_at hl 1 rfl) ?_
  refine va_get (D := D) (own := RX5) (ci := 5) (v := .ref (a1_q 2)) (C := RX5) (T := TX5) (N := 8) hx hb hts inb_X5 hown hK.1 hP 0 rfl rfl 2 (by decide) (hts _ wd_190) (fun _ h9 => h9) rfl dX5_copyFrom_23 ?_
  refine lv_iconst (v := iI 0) hx hb dX5_copyFrom_26 rfl ?_
  refine lv_aload_n hx hb dX5_copyFrom_27 rfl (lv_at hl 0 rfl) ?_
  refine va_get (D := D) (own := RX5) (ci := 5) (v := .ref (t_q 2)) (C := RX5) (T := TX5) (N := 8) hx hb hts inb_X5 hown hK.1 hP 1 rfl rfl 2 (by decide) (hts _ wd_190) (fun _ h9 => h9) rfl dX5_copyFrom_28 ?_
  refine lv_iconst (v := iI 0) hx hb dX5_copyFrom_31 rfl ?_
  refine lv_sipush (v := iI 150) hx hb dX5_copyFrom_32 (by decide) ?_
  refine fn_at 35 rfl ?_
  refine g_cpy (own := RX5) hx hb (hml.trans hl.1.symm) hown (hts _ wd_631) (hts _ wd_622) (hts _ wd_621) (hts _ wd_19) hK.1 hP hD hS 4 5 0 0 rfl rfl rfl rfl (by omega) (by omega) (by omega) (Nat.le_of_ble_eq_true rfl) (Nat.le_of_ble_eq_true rfl) dX5_copyFrom_35 (fun H locs g35 eg35 hP hD hS => ?_)
  have hg35 : ∀ j : Nat, (-4) ≤ g35 j ∧ g35 j ≤ 11 := by rw [eg35]; exact cI_all hc_a1_2 hc_t_2
  have hP : va_P D vwCl [(a1, .inr (5, oX5 a1_q a1_x0)), (t, .inr (5, oX5 t_q a1_x0)), ((a1_q 1), .inl (K 0, 5, .inl (fun j => iI (a1_1_c j)))), ((t_q 1), .inl (K 0, 5, .inl (fun j => iI (g19 j)))), ((a1_q 2), .inl (K 0, 150, .inl (fun j => iI (a1_2_c j)))), ((t_q 2), .inl (K 0, 150, .inl (fun j => iI (g35 j)))), ((a1_q 3), .inl (K 0, 24, .inl (fun j => iI (a1_3_c j)))), ((t_q 3), .inl (K 0, 24, .inl (fun j => iI (t_3_c j)))), ((a1_q 4), .inl (K 0, 40, .inl (fun j => iI (a1_4_c j)))), ((t_q 4), .inl (K 0, 40, .inl (fun j => iI (t_4_c j)))), ((a1_q 5), .inl (K 0, 40, .inl (fun j => iI (a1_5_c j)))), ((t_q 5), .inl (K 0, 40, .inl (fun j => iI (t_5_c j)))), ((a1_q 6), .inl (K 0, 40, .inl (fun j => iI (a1_6_c j)))), ((t_q 6), .inl (K 0, 40, .inl (fun j => iI (t_6_c j)))), ((a1_q 7), .inl (K 0, 40, .inl (fun j => iI (a1_7_c j)))), ((t_q 7), .inl (K 0, 40, .inl (fun j => iI (t_7_c j))))] H := hP
  have hD : va_D A [(a1, .inr (5, oX5 a1_q a1_x0)), (t, .inr (5, oX5 t_q a1_x0)), ((a1_q 1), .inl (K 0, 5, .inl (fun j => iI (a1_1_c j)))), ((t_q 1), .inl (K 0, 5, .inl (fun j => iI (g19 j)))), ((a1_q 2), .inl (K 0, 150, .inl (fun j => iI (a1_2_c j)))), ((t_q 2), .inl (K 0, 150, .inl (fun j => iI (g35 j)))), ((a1_q 3), .inl (K 0, 24, .inl (fun j => iI (a1_3_c j)))), ((t_q 3), .inl (K 0, 24, .inl (fun j => iI (t_3_c j)))), ((a1_q 4), .inl (K 0, 40, .inl (fun j => iI (a1_4_c j)))), ((t_q 4), .inl (K 0, 40, .inl (fun j => iI (t_4_c j)))), ((a1_q 5), .inl (K 0, 40, .inl (fun j => iI (a1_5_c j)))), ((t_q 5), .inl (K 0, 40, .inl (fun j => iI (t_5_c j)))), ((a1_q 6), .inl (K 0, 40, .inl (fun j => iI (a1_6_c j)))), ((t_q 6), .inl (K 0, 40, .inl (fun j => iI (t_6_c j)))), ((a1_q 7), .inl (K 0, 40, .inl (fun j => iI (a1_7_c j)))), ((t_q 7), .inl (K 0, 40, .inl (fun j => iI (t_7_c j))))] := hD
  refine lv_aload_n hx hb dX5_copyFrom_38 rfl (lv_at hl 1 rfl) ?_
  refine va_get (D := D) (own := RX5) (ci := 5) (v := .ref (a1_q 3)) (C := RX5) (T := TX5) (N := 8) hx hb hts inb_X5 hown hK.1 hP 0 rfl rfl 3 (by decide) (hts _ wd_191) (fun _ h9 => h9) rfl dX5_copyFrom_39 ?_
  refine lv_iconst (v := iI 0) hx hb dX5_copyFrom_42 rfl ?_
  refine lv_aload_n hx hb dX5_copyFrom_43 rfl (lv_at hl 0 rfl) ?_
  refine va_get (D := D) (own := RX5) (ci := 5) (v := .ref (t_q 3)) (C := RX5) (T := TX5) (N := 8) hx hb hts inb_X5 hown hK.1 hP 1 rfl rfl 3 (by decide) (hts _ wd_191) (fun _ h9 => h9) rfl dX5_copyFrom_44 ?_
  refine lv_iconst (v := iI 0) hx hb dX5_copyFrom_47 rfl ?_
  refine lv_bipush (v := iI 24) hx hb dX5_copyFrom_48 (by decide) ?_
  refine g_cpy (own := RX5) hx hb (hml.trans hl.1.symm) hown (hts _ wd_631) (hts _ wd_622) (hts _ wd_621) (hts _ wd_19) hK.1 hP hD hS 6 7 0 0 rfl rfl rfl rfl (by omega) (by omega) (by omega) (Nat.le_of_ble_eq_true rfl) (Nat.le_of_ble_eq_true rfl) dX5_copyFrom_50 (fun H locs g50 eg50 hP hD hS => ?_)
  have hg50 : ∀ j : Nat, 0 ≤ g50 j ∧ g50 j ≤ 29 := by rw [eg50]; exact cI_all hc_a1_3 hc_t_3
  have hP : va_P D vwCl [(a1, .inr (5, oX5 a1_q a1_x0)), (t, .inr (5, oX5 t_q a1_x0)), ((a1_q 1), .inl (K 0, 5, .inl (fun j => iI (a1_1_c j)))), ((t_q 1), .inl (K 0, 5, .inl (fun j => iI (g19 j)))), ((a1_q 2), .inl (K 0, 150, .inl (fun j => iI (a1_2_c j)))), ((t_q 2), .inl (K 0, 150, .inl (fun j => iI (g35 j)))), ((a1_q 3), .inl (K 0, 24, .inl (fun j => iI (a1_3_c j)))), ((t_q 3), .inl (K 0, 24, .inl (fun j => iI (g50 j)))), ((a1_q 4), .inl (K 0, 40, .inl (fun j => iI (a1_4_c j)))), ((t_q 4), .inl (K 0, 40, .inl (fun j => iI (t_4_c j)))), ((a1_q 5), .inl (K 0, 40, .inl (fun j => iI (a1_5_c j)))), ((t_q 5), .inl (K 0, 40, .inl (fun j => iI (t_5_c j)))), ((a1_q 6), .inl (K 0, 40, .inl (fun j => iI (a1_6_c j)))), ((t_q 6), .inl (K 0, 40, .inl (fun j => iI (t_6_c j)))), ((a1_q 7), .inl (K 0, 40, .inl (fun j => iI (a1_7_c j)))), ((t_q 7), .inl (K 0, 40, .inl (fun j => iI (t_7_c j))))] H := hP
  have hD : va_D A [(a1, .inr (5, oX5 a1_q a1_x0)), (t, .inr (5, oX5 t_q a1_x0)), ((a1_q 1), .inl (K 0, 5, .inl (fun j => iI (a1_1_c j)))), ((t_q 1), .inl (K 0, 5, .inl (fun j => iI (g19 j)))), ((a1_q 2), .inl (K 0, 150, .inl (fun j => iI (a1_2_c j)))), ((t_q 2), .inl (K 0, 150, .inl (fun j => iI (g35 j)))), ((a1_q 3), .inl (K 0, 24, .inl (fun j => iI (a1_3_c j)))), ((t_q 3), .inl (K 0, 24, .inl (fun j => iI (g50 j)))), ((a1_q 4), .inl (K 0, 40, .inl (fun j => iI (a1_4_c j)))), ((t_q 4), .inl (K 0, 40, .inl (fun j => iI (t_4_c j)))), ((a1_q 5), .inl (K 0, 40, .inl (fun j => iI (a1_5_c j)))), ((t_q 5), .inl (K 0, 40, .inl (fun j => iI (t_5_c j)))), ((a1_q 6), .inl (K 0, 40, .inl (fun j => iI (a1_6_c j)))), ((t_q 6), .inl (K 0, 40, .inl (fun j => iI (t_6_c j)))), ((a1_q 7), .inl (K 0, 40, .inl (fun j => iI (a1_7_c j)))), ((t_q 7), .inl (K 0, 40, .inl (fun j => iI (t_7_c j))))] := hD
  refine lv_aload_n hx hb dX5_copyFrom_53 rfl (lv_at hl 1 rfl) ?_
  refine va_get (D := D) (own := RX5) (ci := 5) (v := .ref (a1_q 4)) (C := RX5) (T := TX5) (N := 8) hx hb hts inb_X5 hown hK.1 hP 0 rfl rfl 4 (by decide) (hts _ wd_194) (fun _ h9 => h9) rfl dX5_copyFrom_54 ?_
  refine lv_iconst (v := iI 0) hx hb dX5_copyFrom_57 rfl ?_
  refine lv_aload_n hx hb dX5_copyFrom_58 rfl (lv_at hl 0 rfl) ?_
  refine va_get (D := D) (own := RX5) (ci := 5) (v := .ref (t_q 4)) (C := RX5) (T := TX5) (N := 8) hx hb hts inb_X5 hown hK.1 hP 1 rfl rfl 4 (by decide) (hts _ wd_194) (fun _ h9 => h9) rfl dX5_copyFrom_59 ?_
  refine lv_iconst (v := iI 0) hx hb dX5_copyFrom_62 rfl ?_
  refine lv_bipush (v := iI 40) hx hb dX5_copyFrom_63 (by decide) ?_
  refine g_cpy (own := RX5) hx hb (hml.trans hl.1.symm) hown (hts _ wd_631) (hts _ wd_622) (hts _ wd_621) (hts _ wd_19) hK.1 hP hD hS 8 9 0 0 rfl rfl rfl rfl (by omega) (by omega) (by omega) (Nat.le_of_ble_eq_true rfl) (Nat.le_of_ble_eq_true rfl) dX5_copyFrom_65 (fun H locs g65 eg65 hP hD hS => ?_)
  have hg65 : ∀ j : Nat, 0 ≤ g65 j ∧ g65 j ≤ 2 := by rw [eg65]; exact cI_all hc_a1_4 hc_t_4
  have hP : va_P D vwCl [(a1, .inr (5, oX5 a1_q a1_x0)), (t, .inr (5, oX5 t_q a1_x0)), ((a1_q 1), .inl (K 0, 5, .inl (fun j => iI (a1_1_c j)))), ((t_q 1), .inl (K 0, 5, .inl (fun j => iI (g19 j)))), ((a1_q 2), .inl (K 0, 150, .inl (fun j => iI (a1_2_c j)))), ((t_q 2), .inl (K 0, 150, .inl (fun j => iI (g35 j)))), ((a1_q 3), .inl (K 0, 24, .inl (fun j => iI (a1_3_c j)))), ((t_q 3), .inl (K 0, 24, .inl (fun j => iI (g50 j)))), ((a1_q 4), .inl (K 0, 40, .inl (fun j => iI (a1_4_c j)))), ((t_q 4), .inl (K 0, 40, .inl (fun j => iI (g65 j)))), ((a1_q 5), .inl (K 0, 40, .inl (fun j => iI (a1_5_c j)))), ((t_q 5), .inl (K 0, 40, .inl (fun j => iI (t_5_c j)))), ((a1_q 6), .inl (K 0, 40, .inl (fun j => iI (a1_6_c j)))), ((t_q 6), .inl (K 0, 40, .inl (fun j => iI (t_6_c j)))), ((a1_q 7), .inl (K 0, 40, .inl (fun j => iI (a1_7_c j)))), ((t_q 7), .inl (K 0, 40, .inl (fun j => iI (t_7_c j))))] H := hP
  have hD : va_D A [(a1, .inr (5, oX5 a1_q a1_x0)), (t, .inr (5, oX5 t_q a1_x0)), ((a1_q 1), .inl (K 0, 5, .inl (fun j => iI (a1_1_c j)))), ((t_q 1), .inl (K 0, 5, .inl (fun j => iI (g19 j)))), ((a1_q 2), .inl (K 0, 150, .inl (fun j => iI (a1_2_c j)))), ((t_q 2), .inl (K 0, 150, .inl (fun j => iI (g35 j)))), ((a1_q 3), .inl (K 0, 24, .inl (fun j => iI (a1_3_c j)))), ((t_q 3), .inl (K 0, 24, .inl (fun j => iI (g50 j)))), ((a1_q 4), .inl (K 0, 40, .inl (fun j => iI (a1_4_c j)))), ((t_q 4), .inl (K 0, 40, .inl (fun j => iI (g65 j)))), ((a1_q 5), .inl (K 0, 40, .inl (fun j => iI (a1_5_c j)))), ((t_q 5), .inl (K 0, 40, .inl (fun j => iI (t_5_c j)))), ((a1_q 6), .inl (K 0, 40, .inl (fun j => iI (a1_6_c j)))), ((t_q 6), .inl (K 0, 40, .inl (fun j => iI (t_6_c j)))), ((a1_q 7), .inl (K 0, 40, .inl (fun j => iI (a1_7_c j)))), ((t_q 7), .inl (K 0, 40, .inl (fun j => iI (t_7_c j))))] := hD
  refine lv_aload_n hx hb dX5_copyFrom_68 rfl (lv_at hl 1 rfl) ?_
  refine va_get (D := D) (own := RX5) (ci := 5) (v := .ref (a1_q 5)) (C := RX5) (T := TX5) (N := 8) hx hb hts inb_X5 hown hK.1 hP 0 rfl rfl 5 (by decide) (hts _ wd_195) (fun _ h9 => h9) rfl dX5_copyFrom_69 ?_
  refine lv_iconst (v := iI 0) hx hb dX5_copyFrom_72 rfl ?_
  refine fn_at 73 rfl ?_
  refine lv_aload_n hx hb dX5_copyFrom_73 rfl (lv_at hl 0 rfl) ?_
  refine va_get (D := D) (own := RX5) (ci := 5) (v := .ref (t_q 5)) (C := RX5) (T := TX5) (N := 8) hx hb hts inb_X5 hown hK.1 hP 1 rfl rfl 5 (by decide) (hts _ wd_195) (fun _ h9 => h9) rfl dX5_copyFrom_74 ?_
  refine lv_iconst (v := iI 0) hx hb dX5_copyFrom_77 rfl ?_
  refine lv_bipush (v := iI 40) hx hb dX5_copyFrom_78 (by decide) ?_
  refine g_cpy (own := RX5) hx hb (hml.trans hl.1.symm) hown (hts _ wd_631) (hts _ wd_622) (hts _ wd_621) (hts _ wd_19) hK.1 hP hD hS 10 11 0 0 rfl rfl rfl rfl (by omega) (by omega) (by omega) (Nat.le_of_ble_eq_true rfl) (Nat.le_of_ble_eq_true rfl) dX5_copyFrom_80 (fun H locs g80 eg80 hP hD hS => ?_)
  have hg80 : ∀ j : Nat, 0 ≤ g80 j ∧ g80 j ≤ 23 := by rw [eg80]; exact cI_all hc_a1_5 hc_t_5
  have hP : va_P D vwCl [(a1, .inr (5, oX5 a1_q a1_x0)), (t, .inr (5, oX5 t_q a1_x0)), ((a1_q 1), .inl (K 0, 5, .inl (fun j => iI (a1_1_c j)))), ((t_q 1), .inl (K 0, 5, .inl (fun j => iI (g19 j)))), ((a1_q 2), .inl (K 0, 150, .inl (fun j => iI (a1_2_c j)))), ((t_q 2), .inl (K 0, 150, .inl (fun j => iI (g35 j)))), ((a1_q 3), .inl (K 0, 24, .inl (fun j => iI (a1_3_c j)))), ((t_q 3), .inl (K 0, 24, .inl (fun j => iI (g50 j)))), ((a1_q 4), .inl (K 0, 40, .inl (fun j => iI (a1_4_c j)))), ((t_q 4), .inl (K 0, 40, .inl (fun j => iI (g65 j)))), ((a1_q 5), .inl (K 0, 40, .inl (fun j => iI (a1_5_c j)))), ((t_q 5), .inl (K 0, 40, .inl (fun j => iI (g80 j)))), ((a1_q 6), .inl (K 0, 40, .inl (fun j => iI (a1_6_c j)))), ((t_q 6), .inl (K 0, 40, .inl (fun j => iI (t_6_c j)))), ((a1_q 7), .inl (K 0, 40, .inl (fun j => iI (a1_7_c j)))), ((t_q 7), .inl (K 0, 40, .inl (fun j => iI (t_7_c j))))] H := hP
  have hD : va_D A [(a1, .inr (5, oX5 a1_q a1_x0)), (t, .inr (5, oX5 t_q a1_x0)), ((a1_q 1), .inl (K 0, 5, .inl (fun j => iI (a1_1_c j)))), ((t_q 1), .inl (K 0, 5, .inl (fun j => iI (g19 j)))), ((a1_q 2), .inl (K 0, 150, .inl (fun j => iI (a1_2_c j)))), ((t_q 2), .inl (K 0, 150, .inl (fun j => iI (g35 j)))), ((a1_q 3), .inl (K 0, 24, .inl (fun j => iI (a1_3_c j)))), ((t_q 3), .inl (K 0, 24, .inl (fun j => iI (g50 j)))), ((a1_q 4), .inl (K 0, 40, .inl (fun j => iI (a1_4_c j)))), ((t_q 4), .inl (K 0, 40, .inl (fun j => iI (g65 j)))), ((a1_q 5), .inl (K 0, 40, .inl (fun j => iI (a1_5_c j)))), ((t_q 5), .inl (K 0, 40, .inl (fun j => iI (g80 j)))), ((a1_q 6), .inl (K 0, 40, .inl (fun j => iI (a1_6_c j)))), ((t_q 6), .inl (K 0, 40, .inl (fun j => iI (t_6_c j)))), ((a1_q 7), .inl (K 0, 40, .inl (fun j => iI (a1_7_c j)))), ((t_q 7), .inl (K 0, 40, .inl (fun j => iI (t_7_c j))))] := hD
  refine lv_aload_n hx hb dX5_copyFrom_83 rfl (lv_at hl 1 rfl) ?_
  refine va_get (D := D) (own := RX5) (ci := 5) (v := .ref (a1_q 6)) (C := RX5) (T := TX5) (N := 8) hx hb hts inb_X5 hown hK.1 hP 0 rfl rfl 6 (by decide) (hts _ wd_196) (fun _ h9 => h9) rfl dX5_copyFrom_84 ?_
  refine lv_iconst (v := iI 0) hx hb dX5_copyFrom_87 rfl ?_
  refine lv_aload_n hx hb dX5_copyFrom_88 rfl (lv_at hl 0 rfl) ?_
  refine va_get (D := D) (own := RX5) (ci := 5) (v := .ref (t_q 6)) (C := RX5) (T := TX5) (N := 8) hx hb hts inb_X5 hown hK.1 hP 1 rfl rfl 6 (by decide) (hts _ wd_196) (fun _ h9 => h9) rfl dX5_copyFrom_89 ?_
  refine lv_iconst (v := iI 0) hx hb dX5_copyFrom_92 rfl ?_
  refine lv_bipush (v := iI 40) hx hb dX5_copyFrom_93 (by decide) ?_
  refine g_cpy (own := RX5) hx hb (hml.trans hl.1.symm) hown (hts _ wd_631) (hts _ wd_622) (hts _ wd_621) (hts _ wd_19) hK.1 hP hD hS 12 13 0 0 rfl rfl rfl rfl (by omega) (by omega) (by omega) (Nat.le_of_ble_eq_true rfl) (Nat.le_of_ble_eq_true rfl) dX5_copyFrom_95 (fun H locs g95 eg95 hP hD hS => ?_)
  have hg95 : ∀ j : Nat, 0 ≤ g95 j ∧ g95 j ≤ 29 := by rw [eg95]; exact cI_all hc_a1_6 hc_t_6
  have hP : va_P D vwCl [(a1, .inr (5, oX5 a1_q a1_x0)), (t, .inr (5, oX5 t_q a1_x0)), ((a1_q 1), .inl (K 0, 5, .inl (fun j => iI (a1_1_c j)))), ((t_q 1), .inl (K 0, 5, .inl (fun j => iI (g19 j)))), ((a1_q 2), .inl (K 0, 150, .inl (fun j => iI (a1_2_c j)))), ((t_q 2), .inl (K 0, 150, .inl (fun j => iI (g35 j)))), ((a1_q 3), .inl (K 0, 24, .inl (fun j => iI (a1_3_c j)))), ((t_q 3), .inl (K 0, 24, .inl (fun j => iI (g50 j)))), ((a1_q 4), .inl (K 0, 40, .inl (fun j => iI (a1_4_c j)))), ((t_q 4), .inl (K 0, 40, .inl (fun j => iI (g65 j)))), ((a1_q 5), .inl (K 0, 40, .inl (fun j => iI (a1_5_c j)))), ((t_q 5), .inl (K 0, 40, .inl (fun j => iI (g80 j)))), ((a1_q 6), .inl (K 0, 40, .inl (fun j => iI (a1_6_c j)))), ((t_q 6), .inl (K 0, 40, .inl (fun j => iI (g95 j)))), ((a1_q 7), .inl (K 0, 40, .inl (fun j => iI (a1_7_c j)))), ((t_q 7), .inl (K 0, 40, .inl (fun j => iI (t_7_c j))))] H := hP
  have hD : va_D A [(a1, .inr (5, oX5 a1_q a1_x0)), (t, .inr (5, oX5 t_q a1_x0)), ((a1_q 1), .inl (K 0, 5, .inl (fun j => iI (a1_1_c j)))), ((t_q 1), .inl (K 0, 5, .inl (fun j => iI (g19 j)))), ((a1_q 2), .inl (K 0, 150, .inl (fun j => iI (a1_2_c j)))), ((t_q 2), .inl (K 0, 150, .inl (fun j => iI (g35 j)))), ((a1_q 3), .inl (K 0, 24, .inl (fun j => iI (a1_3_c j)))), ((t_q 3), .inl (K 0, 24, .inl (fun j => iI (g50 j)))), ((a1_q 4), .inl (K 0, 40, .inl (fun j => iI (a1_4_c j)))), ((t_q 4), .inl (K 0, 40, .inl (fun j => iI (g65 j)))), ((a1_q 5), .inl (K 0, 40, .inl (fun j => iI (a1_5_c j)))), ((t_q 5), .inl (K 0, 40, .inl (fun j => iI (g80 j)))), ((a1_q 6), .inl (K 0, 40, .inl (fun j => iI (a1_6_c j)))), ((t_q 6), .inl (K 0, 40, .inl (fun j => iI (g95 j)))), ((a1_q 7), .inl (K 0, 40, .inl (fun j => iI (a1_7_c j)))), ((t_q 7), .inl (K 0, 40, .inl (fun j => iI (t_7_c j))))] := hD
  refine lv_aload_n hx hb dX5_copyFrom_98 rfl (lv_at hl 1 rfl) ?_
  refine va_get (D := D) (own := RX5) (ci := 5) (v := .ref (a1_q 7)) (C := RX5) (T := TX5) (N := 8) hx hb hts inb_X5 hown hK.1 hP 0 rfl rfl 7 (by decide) (hts _ wd_197) (fun _ h9 => h9) rfl dX5_copyFrom_99 ?_
  refine lv_iconst (v := iI 0) hx hb dX5_copyFrom_102 rfl ?_
  refine lv_aload_n hx hb dX5_copyFrom_103 rfl (lv_at hl 0 rfl) ?_
  refine va_get (D := D) (own := RX5) (ci := 5) (v := .ref (t_q 7)) (C := RX5) (T := TX5) (N := 8) hx hb hts inb_X5 hown hK.1 hP 1 rfl rfl 7 (by decide) (hts _ wd_197) (fun _ h9 => h9) rfl dX5_copyFrom_104 ?_
  refine lv_iconst (v := iI 0) hx hb dX5_copyFrom_107 rfl ?_
  refine lv_bipush (v := iI 40) hx hb dX5_copyFrom_108 (by decide) ?_
  refine fn_at 110 rfl ?_
  refine g_cpy (own := RX5) hx hb (hml.trans hl.1.symm) hown (hts _ wd_631) (hts _ wd_622) (hts _ wd_621) (hts _ wd_19) hK.1 hP hD hS 14 15 0 0 rfl rfl rfl rfl (by omega) (by omega) (by omega) (Nat.le_of_ble_eq_true rfl) (Nat.le_of_ble_eq_true rfl) dX5_copyFrom_110 (fun H locs g110 eg110 hP hD hS => ?_)
  have hg110 : ∀ j : Nat, (-4) ≤ g110 j ∧ g110 j ≤ 29 := by rw [eg110]; exact cI_all hc_a1_7 hc_t_7
  have hP : va_P D vwCl [(a1, .inr (5, oX5 a1_q a1_x0)), (t, .inr (5, oX5 t_q a1_x0)), ((a1_q 1), .inl (K 0, 5, .inl (fun j => iI (a1_1_c j)))), ((t_q 1), .inl (K 0, 5, .inl (fun j => iI (g19 j)))), ((a1_q 2), .inl (K 0, 150, .inl (fun j => iI (a1_2_c j)))), ((t_q 2), .inl (K 0, 150, .inl (fun j => iI (g35 j)))), ((a1_q 3), .inl (K 0, 24, .inl (fun j => iI (a1_3_c j)))), ((t_q 3), .inl (K 0, 24, .inl (fun j => iI (g50 j)))), ((a1_q 4), .inl (K 0, 40, .inl (fun j => iI (a1_4_c j)))), ((t_q 4), .inl (K 0, 40, .inl (fun j => iI (g65 j)))), ((a1_q 5), .inl (K 0, 40, .inl (fun j => iI (a1_5_c j)))), ((t_q 5), .inl (K 0, 40, .inl (fun j => iI (g80 j)))), ((a1_q 6), .inl (K 0, 40, .inl (fun j => iI (a1_6_c j)))), ((t_q 6), .inl (K 0, 40, .inl (fun j => iI (g95 j)))), ((a1_q 7), .inl (K 0, 40, .inl (fun j => iI (a1_7_c j)))), ((t_q 7), .inl (K 0, 40, .inl (fun j => iI (g110 j))))] H := hP
  have hD : va_D A [(a1, .inr (5, oX5 a1_q a1_x0)), (t, .inr (5, oX5 t_q a1_x0)), ((a1_q 1), .inl (K 0, 5, .inl (fun j => iI (a1_1_c j)))), ((t_q 1), .inl (K 0, 5, .inl (fun j => iI (g19 j)))), ((a1_q 2), .inl (K 0, 150, .inl (fun j => iI (a1_2_c j)))), ((t_q 2), .inl (K 0, 150, .inl (fun j => iI (g35 j)))), ((a1_q 3), .inl (K 0, 24, .inl (fun j => iI (a1_3_c j)))), ((t_q 3), .inl (K 0, 24, .inl (fun j => iI (g50 j)))), ((a1_q 4), .inl (K 0, 40, .inl (fun j => iI (a1_4_c j)))), ((t_q 4), .inl (K 0, 40, .inl (fun j => iI (g65 j)))), ((a1_q 5), .inl (K 0, 40, .inl (fun j => iI (a1_5_c j)))), ((t_q 5), .inl (K 0, 40, .inl (fun j => iI (g80 j)))), ((a1_q 6), .inl (K 0, 40, .inl (fun j => iI (a1_6_c j)))), ((t_q 6), .inl (K 0, 40, .inl (fun j => iI (g95 j)))), ((a1_q 7), .inl (K 0, 40, .inl (fun j => iI (a1_7_c j)))), ((t_q 7), .inl (K 0, 40, .inl (fun j => iI (g110 j))))] := hD
  rw [hQ]; exact fn_vret hx hb hr hlocks hP hD hS ((fun k => ([a1_x0] : List Int).getD k 0), (fun k => ([g19, g35, g50, g65, g80, g95, g110] : List (Nat → Int)).getD k (fun _ => 0))) ⟨(by show 0 ≤ a1_x0 ∧ a1_x0 ≤ 40; omega), (show AR g65 g80 g110 from by rw [eg65, eg80, eg110]; exact AR_cpy ar1 ar), (show ∀ j : Nat, g19 j = a1_1_c j ∨ g19 j = t_1_c j from fun j => by rw [eg19]; exact cI_or j), (hg19), (hg35), (hg50), (hg65), (hg80), (hg95), (hg110), trivial⟩ [0, 1, 2, 3, 4, 5, 6, 7, 8, 9, 10, 11, 12, 13, 14, 15] (by decide) rfl dX5_copyFrom_113
theorem dX5_onLeaf_0 : decode cX5_onLeaf 0 = .ok (.iload_n 2, 1) := by decide +kernel
theorem dX5_onLeaf_1 : decode cX5_onLeaf 1 = .ok (.ifCond .lt 13, 3) := by decide +kernel
theorem dX5_onLeaf_14 : decode cX5_onLeaf 14 = .ok (.iconst (-1), 1) := by decide +kernel
theorem dX5_onLeaf_15 : decode cX5_onLeaf 15 = .ok (.ireturn, 1) := by decide +kernel
theorem dX5_onLeaf_4 : decode cX5_onLeaf 4 = .ok (.iload_n 2, 1) := by decide +kernel
theorem dX5_onLeaf_5 : decode cX5_onLeaf 5 = .ok (.aload_n 0, 1) := by decide +kernel
theorem dX5_onLeaf_6 : decode cX5_onLeaf 6 = .ok (.getfield 9, 3) := by decide +kernel
theorem dX5_onLeaf_9 : decode cX5_onLeaf 9 = .ok (.iload_n 1, 1) := by decide +kernel
theorem dX5_onLeaf_10 : decode cX5_onLeaf 10 = .ok (.iaload, 1) := by decide +kernel
theorem dX5_onLeaf_11 : decode cX5_onLeaf 11 = .ok (.if_icmp .lt 5, 3) := by decide +kernel
theorem dX5_onLeaf_16 : decode cX5_onLeaf 16 = .ok (.aload_n 0, 1) := by decide +kernel
theorem dX5_onLeaf_17 : decode cX5_onLeaf 17 = .ok (.getfield 15, 3) := by decide +kernel
theorem dX5_onLeaf_20 : decode cX5_onLeaf 20 = .ok (.iload_n 1, 1) := by decide +kernel
theorem dX5_onLeaf_21 : decode cX5_onLeaf 21 = .ok (.bipush 30, 2) := by decide +kernel
theorem dX5_onLeaf_23 : decode cX5_onLeaf 23 = .ok (.imul, 1) := by decide +kernel
theorem dX5_onLeaf_24 : decode cX5_onLeaf 24 = .ok (.iload_n 2, 1) := by decide +kernel
theorem dX5_onLeaf_25 : decode cX5_onLeaf 25 = .ok (.iadd, 1) := by decide +kernel
theorem dX5_onLeaf_26 : decode cX5_onLeaf 26 = .ok (.iaload, 1) := by decide +kernel
theorem dX5_onLeaf_27 : decode cX5_onLeaf 27 = .ok (.ireturn, 1) := by decide +kernel
set_option maxHeartbeats 4000000 in
set_option maxRecDepth 100000 in
theorem k_X5_onLeaf (l : Launch) (D : va_G) (K : Nat → ClassId) (t : Nat) (t_q : Nat → Nat) (p1 p2 t_x0 : Int) (t_1_c : Nat → Int) (t_2_c : Nat → Int) (hp1 : 0 ≤ p1 ∧ p1 ≤ 4) (hp2 : (-2147483648) ≤ p2 ∧ p2 ≤ 2147483647) (hi_t : bX5 t_x0) (hc_t_1 : ∀ j : Nat, (-1000) ≤ t_1_c j ∧ t_1_c j ≤ 30) (hc_t_2 : ∀ j : Nat, (-4) ≤ t_2_c j ∧ t_2_c j ≤ 11) : fn_CI (S := (Nat → Int) × (Nat → Nat → Int)) l D K yX5_onLeaf (fn_ws yX5_onLeaf cX5_onLeaf 3 (some .int)) ({ frames := 4, cells := 0, slots := 0, locals := 100 } : Room) [.ref t, .int (iI p1), .int (iI p2)] [(t, .inr (5, oX5 t_q t_x0)), ((t_q 1), .inl (K 0, 5, .inl (fun j => iI (t_1_c j)))), ((t_q 2), .inl (K 0, 150, .inl (fun j => iI (t_2_c j))))] (fun r u => ∃ k : Int, r = iI k ∧ ((-4) ≤ k ∧ k ≤ 11) ∧ True) (fun u => [(t, .inr (5, oX5 t_q t_x0)), ((t_q 1), .inl (K 0, 5, .inl (fun j => iI (t_1_c j)))), ((t_q 2), .inl (K 0, 150, .inl (fun j => iI (t_2_c j))))]) 0 0 := by
  refine g_inI (cc := cX5_onLeaf) (maxL := 3) (ret := (some .int)) (by decide) rfl (Nat.le_of_ble_eq_true rfl) ?_
  intro p e s m below meth c A ls ag Q B hA hP hD hS hl hQ
  obtain ⟨hx, hb, hr, hml, hts, hown, hlocks, hin, hK⟩ := B
  have hown : s.vm.findClass RX5 = some m.cls := hown
  have hts := fun w h => hts w (List.mem_cons_of_mem _ h)
  have hl : lv_has ls 3 [(0, .ref t), (1, .int (iI p1)), (2, .int (iI p2))] := hl
  refine lv_iload_n hx hb dX5_onLeaf_0 rfl (lv_at hl 2 rfl) ?_
  refine g_if_lt (tgt := 14) hx hb (by omega) dX5_onLeaf_1 (by decide) (fun c1 => ?_) (fun c1 => ?_)
  · refine lv_iconst (v := iI (-1)) hx hb dX5_onLeaf_14 rfl ?_
    rw [hQ]; exact fn_iret hx hb hr hlocks rfl hP hD hS ((fun _ => 0), (fun _ _ => 0)) ⟨(-1), rfl, by omega, trivial⟩ [0, 1, 2] (by decide) rfl dX5_onLeaf_15
  · refine lv_iload_n hx hb dX5_onLeaf_4 rfl (lv_at hl 2 rfl) ?_
    refine lv_aload_n hx hb dX5_onLeaf_5 rfl (lv_at hl 0 rfl) ?_
    refine va_get (D := D) (own := RX5) (ci := 5) (v := .ref (t_q 1)) (C := RX5) (T := TX5) (N := 8) hx hb hts inb_X5 hown hK.1 hP 0 rfl rfl 1 (by decide) (hts _ wd_186) (fun _ h9 => h9) rfl dX5_onLeaf_6 ?_
    refine lv_iload_n hx hb dX5_onLeaf_9 rfl (lv_at hl 1 rfl) ?_
    refine g_iald hx hb hK.1 hP 1 0 rfl rfl (by omega) (by omega) (by decide) dX5_onLeaf_10 ?_
    have y10 : (-1000) ≤ (t_1_c p1.toNat) ∧ (t_1_c p1.toNat) ≤ 30 := hc_t_1 p1.toNat
    refine g_icmp_lt (tgt := 16) hx hb (by omega) (by omega) dX5_onLeaf_11 (by decide) (fun c11 => ?_) (fun c11 => ?_)
    · refine lv_aload_n hx hb dX5_onLeaf_16 rfl (lv_at hl 0 rfl) ?_
      refine va_get (D := D) (own := RX5) (ci := 5) (v := .ref (t_q 2)) (C := RX5) (T := TX5) (N := 8) hx hb hts inb_X5 hown hK.1 hP 0 rfl rfl 2 (by decide) (hts _ wd_190) (fun _ h9 => h9) rfl dX5_onLeaf_17 ?_
      refine lv_iload_n hx hb dX5_onLeaf_20 rfl (lv_at hl 1 rfl) ?_
      refine lv_bipush (v := iI 30) hx hb dX5_onLeaf_21 (by decide) ?_
      refine g_imul hx hb dX5_onLeaf_23 ?_
      refine lv_iload_n hx hb dX5_onLeaf_24 rfl (lv_at hl 2 rfl) ?_
      refine g_iadd hx hb dX5_onLeaf_25 ?_
      refine g_iald hx hb hK.1 hP 2 0 rfl rfl (by omega) (by omega) (by decide) dX5_onLeaf_26 ?_
      have y26 : (-4) ≤ (t_2_c ((p1 * 30 + p2).toNat)) ∧ (t_2_c ((p1 * 30 + p2).toNat)) ≤ 11 := hc_t_2 ((p1 * 30 + p2).toNat)
      rw [hQ]; exact fn_iret hx hb hr hlocks rfl hP hD hS ((fun _ => 0), (fun _ _ => 0)) ⟨t_2_c ((p1 * 30 + p2).toNat), rfl, by omega, trivial⟩ [0, 1, 2] (by decide) rfl dX5_onLeaf_27
    · refine lv_iconst (v := iI (-1)) hx hb dX5_onLeaf_14 rfl ?_
      rw [hQ]; exact fn_iret hx hb hr hlocks rfl hP hD hS ((fun _ => 0), (fun _ _ => 0)) ⟨(-1), rfl, by omega, trivial⟩ [0, 1, 2] (by decide) rfl dX5_onLeaf_15
theorem dX5_remember_0 : decode cX5_remember 0 = .ok (.aload_n 0, 1) := by decide +kernel
theorem dX5_remember_1 : decode cX5_remember 1 = .ok (.getfield 33, 3) := by decide +kernel
theorem dX5_remember_4 : decode cX5_remember 4 = .ok (.bipush 40, 2) := by decide +kernel
theorem dX5_remember_6 : decode cX5_remember 6 = .ok (.if_icmp .ge 54, 3) := by decide +kernel
theorem dX5_remember_60 : decode cX5_remember 60 = .ok (.return_, 1) := by decide +kernel
theorem dX5_remember_9 : decode cX5_remember 9 = .ok (.aload_n 0, 1) := by decide +kernel
theorem dX5_remember_10 : decode cX5_remember 10 = .ok (.getfield 21, 3) := by decide +kernel
theorem dX5_remember_13 : decode cX5_remember 13 = .ok (.aload_n 0, 1) := by decide +kernel
theorem dX5_remember_14 : decode cX5_remember 14 = .ok (.getfield 33, 3) := by decide +kernel
theorem dX5_remember_17 : decode cX5_remember 17 = .ok (.iload_n 1, 1) := by decide +kernel
theorem dX5_remember_18 : decode cX5_remember 18 = .ok (.iastore, 1) := by decide +kernel
theorem dX5_remember_19 : decode cX5_remember 19 = .ok (.aload_n 0, 1) := by decide +kernel
theorem dX5_remember_20 : decode cX5_remember 20 = .ok (.getfield 24, 3) := by decide +kernel
theorem dX5_remember_23 : decode cX5_remember 23 = .ok (.aload_n 0, 1) := by decide +kernel
theorem dX5_remember_24 : decode cX5_remember 24 = .ok (.getfield 33, 3) := by decide +kernel
theorem dX5_remember_27 : decode cX5_remember 27 = .ok (.iload_n 2, 1) := by decide +kernel
theorem dX5_remember_28 : decode cX5_remember 28 = .ok (.iastore, 1) := by decide +kernel
theorem dX5_remember_29 : decode cX5_remember 29 = .ok (.aload_n 0, 1) := by decide +kernel
theorem dX5_remember_30 : decode cX5_remember 30 = .ok (.getfield 27, 3) := by decide +kernel
theorem dX5_remember_33 : decode cX5_remember 33 = .ok (.aload_n 0, 1) := by decide +kernel
theorem dX5_remember_34 : decode cX5_remember 34 = .ok (.getfield 33, 3) := by decide +kernel
theorem dX5_remember_37 : decode cX5_remember 37 = .ok (.iload_n 3, 1) := by decide +kernel
theorem dX5_remember_38 : decode cX5_remember 38 = .ok (.iastore, 1) := by decide +kernel
theorem dX5_remember_39 : decode cX5_remember 39 = .ok (.aload_n 0, 1) := by decide +kernel
theorem dX5_remember_40 : decode cX5_remember 40 = .ok (.getfield 30, 3) := by decide +kernel
theorem dX5_remember_43 : decode cX5_remember 43 = .ok (.aload_n 0, 1) := by decide +kernel
theorem dX5_remember_44 : decode cX5_remember 44 = .ok (.getfield 33, 3) := by decide +kernel
theorem dX5_remember_47 : decode cX5_remember 47 = .ok (.iload 4, 2) := by decide +kernel
theorem dX5_remember_49 : decode cX5_remember 49 = .ok (.iastore, 1) := by decide +kernel
theorem dX5_remember_50 : decode cX5_remember 50 = .ok (.aload_n 0, 1) := by decide +kernel
theorem dX5_remember_51 : decode cX5_remember 51 = .ok (.dup, 1) := by decide +kernel
theorem dX5_remember_52 : decode cX5_remember 52 = .ok (.getfield 33, 3) := by decide +kernel
theorem dX5_remember_55 : decode cX5_remember 55 = .ok (.iconst 1, 1) := by decide +kernel
theorem dX5_remember_56 : decode cX5_remember 56 = .ok (.iadd, 1) := by decide +kernel
theorem dX5_remember_57 : decode cX5_remember 57 = .ok (.putfield 33, 3) := by decide +kernel
set_option maxHeartbeats 4000000 in
set_option maxRecDepth 100000 in
theorem k_X5_remember (l : Launch) (D : va_G) (K : Nat → ClassId) (t : Nat) (t_q : Nat → Nat) (p1 p2 p3 p4 t_x0 : Int) (t_4_c : Nat → Int) (t_5_c : Nat → Int) (t_6_c : Nat → Int) (t_7_c : Nat → Int) (hp1 : 0 ≤ p1 ∧ p1 ≤ 2) (hp2 : 0 ≤ p2 ∧ p2 ≤ 23) (hp3 : 0 ≤ p3 ∧ p3 ≤ 29) (hp4 : (-4) ≤ p4 ∧ p4 ≤ 29) (hi_t : bX5 t_x0) (hc_t_4 : ∀ j : Nat, 0 ≤ t_4_c j ∧ t_4_c j ≤ 2) (hc_t_5 : ∀ j : Nat, 0 ≤ t_5_c j ∧ t_5_c j ≤ 23) (hc_t_6 : ∀ j : Nat, 0 ≤ t_6_c j ∧ t_6_c j ≤ 29) (hc_t_7 : ∀ j : Nat, (-4) ≤ t_7_c j ∧ t_7_c j ≤ 29) (ar : AR t_4_c t_5_c t_7_c) (ao : (p1 = 2 ∧ 0 ≤ p4) ∨ (p1 ≠ 2 ∧ p2 ≤ 4 ∧ p4 ≤ 11)) : fn_CV (S := (Nat → Int) × (Nat → Nat → Int)) l D K yX5_remember (fn_ws yX5_remember cX5_remember 5 none) ({ frames := 4, cells := 0, slots := 0, locals := 100 } : Room) [.ref t, .int (iI p1), .int (iI p2), .int (iI p3), .int (iI p4)] [(t, .inr (5, oX5 t_q t_x0)), ((t_q 4), .inl (K 0, 40, .inl (fun j => iI (t_4_c j)))), ((t_q 5), .inl (K 0, 40, .inl (fun j => iI (t_5_c j)))), ((t_q 6), .inl (K 0, 40, .inl (fun j => iI (t_6_c j)))), ((t_q 7), .inl (K 0, 40, .inl (fun j => iI (t_7_c j))))] (fun u => (0 ≤ (u.1 0) ∧ (u.1 0) ≤ 40) ∧ (AR (u.2 0) (u.2 1) (u.2 3)) ∧ (∀ j : Nat, 0 ≤ (u.2 0) j ∧ (u.2 0) j ≤ 2) ∧ (∀ j : Nat, 0 ≤ (u.2 1) j ∧ (u.2 1) j ≤ 23) ∧ (∀ j : Nat, 0 ≤ (u.2 2) j ∧ (u.2 2) j ≤ 29) ∧ (∀ j : Nat, (-4) ≤ (u.2 3) j ∧ (u.2 3) j ≤ 29) ∧ True) (fun u => [(t, .inr (5, oX5 t_q (u.1 0))), ((t_q 4), .inl (K 0, 40, .inl (fun j => iI ((u.2 0) j)))), ((t_q 5), .inl (K 0, 40, .inl (fun j => iI ((u.2 1) j)))), ((t_q 6), .inl (K 0, 40, .inl (fun j => iI ((u.2 2) j)))), ((t_q 7), .inl (K 0, 40, .inl (fun j => iI ((u.2 3) j))))]) 0 0 := by
  refine g_inV (cc := cX5_remember) (maxL := 5) (ret := none) (by decide) rfl (Nat.le_of_ble_eq_true rfl) ?_
  intro p e s m below meth c A ls ag Q B hA hP hD hS hl hQ
  obtain ⟨hx, hb, hr, hml, hts, hown, hlocks, hin, hK⟩ := B
  have hown : s.vm.findClass RX5 = some m.cls := hown
  have hts := fun w h => hts w (List.mem_cons_of_mem _ h)
  have hl : lv_has ls 5 [(0, .ref t), (1, .int (iI p1)), (2, .int (iI p2)), (3, .int (iI p3)), (4, .int (iI p4))] := hl
  refine lv_aload_n hx hb dX5_remember_0 rfl (lv_at hl 0 rfl) ?_
  refine va_get (D := D) (own := RX5) (ci := 5) (v := .int (iI t_x0)) (C := RX5) (T := TX5) (N := 8) hx hb hts inb_X5 hown hK.1 hP 0 rfl rfl 0 (by decide) (hts _ wd_184) (fun _ h9 => h9) rfl dX5_remember_1 ?_
  have y1_1 : 0 ≤ t_x0 ∧ t_x0 ≤ 40 := hi_t
  refine lv_bipush (v := iI 40) hx hb dX5_remember_4 (by decide) ?_
  refine g_icmp_ge (tgt := 60) hx hb (by omega) (by omega) dX5_remember_6 (by decide) (fun c6 => ?_) (fun c6 => ?_)
  · rw [hQ]; exact fn_vret hx hb hr hlocks hP hD hS ((fun k => ([t_x0] : List Int).getD k 0), (fun k => ([t_4_c, t_5_c, t_6_c, t_7_c] : List (Nat → Int)).getD k (fun _ => 0))) ⟨(by show 0 ≤ t_x0 ∧ t_x0 ≤ 40; omega), (show AR t_4_c t_5_c t_7_c from by first | assumption | (rw [eg18, eg28, eg49]; exact AR_set ar (by omega))), (hc_t_4), (hc_t_5), (hc_t_6), (hc_t_7), trivial⟩ [0, 1, 2, 3, 4] (by decide) rfl dX5_remember_60
  · refine lv_aload_n hx hb dX5_remember_9 rfl (lv_at hl 0 rfl) ?_
    refine va_get (D := D) (own := RX5) (ci := 5) (v := .ref (t_q 4)) (C := RX5) (T := TX5) (N := 8) hx hb hts inb_X5 hown hK.1 hP 0 rfl rfl 4 (by decide) (hts _ wd_194) (fun _ h9 => h9) rfl dX5_remember_10 ?_
    refine lv_aload_n hx hb dX5_remember_13 rfl (lv_at hl 0 rfl) ?_
    refine va_get (D := D) (own := RX5) (ci := 5) (v := .int (iI t_x0)) (C := RX5) (T := TX5) (N := 8) hx hb hts inb_X5 hown hK.1 hP 0 rfl rfl 0 (by decide) (hts _ wd_184) (fun _ h9 => h9) rfl dX5_remember_14 ?_
    refine lv_iload_n hx hb dX5_remember_17 rfl (lv_at hl 1 rfl) ?_
    refine g_iast hx hb hK.1 hP hD hS 1 0 rfl rfl (by omega) (by omega) (by decide) dX5_remember_18 (fun H locs g18 eg18 hP hD hS => ?_)
    have hg18 : ∀ j : Nat, 0 ≤ g18 j ∧ g18 j ≤ 2 := by rw [eg18]; exact uI_all hc_t_4 (by omega)
    have hP : va_P D vwCl [(t, .inr (5, oX5 t_q t_x0)), ((t_q 4), .inl (K 0, 40, .inl (fun j => iI (g18 j)))), ((t_q 5), .inl (K 0, 40, .inl (fun j => iI (t_5_c j)))), ((t_q 6), .inl (K 0, 40, .inl (fun j => iI (t_6_c j)))), ((t_q 7), .inl (K 0, 40, .inl (fun j => iI (t_7_c j))))] H := hP
    have hD : va_D A [(t, .inr (5, oX5 t_q t_x0)), ((t_q 4), .inl (K 0, 40, .inl (fun j => iI (g18 j)))), ((t_q 5), .inl (K 0, 40, .inl (fun j => iI (t_5_c j)))), ((t_q 6), .inl (K 0, 40, .inl (fun j => iI (t_6_c j)))), ((t_q 7), .inl (K 0, 40, .inl (fun j => iI (t_7_c j))))] := hD
    refine lv_aload_n hx hb dX5_remember_19 rfl (lv_at hl 0 rfl) ?_
    refine va_get (D := D) (own := RX5) (ci := 5) (v := .ref (t_q 5)) (C := RX5) (T := TX5) (N := 8) hx hb hts inb_X5 hown hK.1 hP 0 rfl rfl 5 (by decide) (hts _ wd_195) (fun _ h9 => h9) rfl dX5_remember_20 ?_
    refine lv_aload_n hx hb dX5_remember_23 rfl (lv_at hl 0 rfl) ?_
    refine va_get (D := D) (own := RX5) (ci := 5) (v := .int (iI t_x0)) (C := RX5) (T := TX5) (N := 8) hx hb hts inb_X5 hown hK.1 hP 0 rfl rfl 0 (by decide) (hts _ wd_184) (fun _ h9 => h9) rfl dX5_remember_24 ?_
    refine lv_iload_n hx hb dX5_remember_27 rfl (lv_at hl 2 rfl) ?_
    refine g_iast hx hb hK.1 hP hD hS 2 0 rfl rfl (by omega) (by omega) (by decide) dX5_remember_28 (fun H locs g28 eg28 hP hD hS => ?_)
    have hg28 : ∀ j : Nat, 0 ≤ g28 j ∧ g28 j ≤ 23 := by rw [eg28]; exact uI_all hc_t_5 (by omega)
    have hP : va_P D vwCl [(t, .inr (5, oX5 t_q t_x0)), ((t_q 4), .inl (K 0, 40, .inl (fun j => iI (g18 j)))), ((t_q 5), .inl (K 0, 40, .inl (fun j => iI (g28 j)))), ((t_q 6), .inl (K 0, 40, .inl (fun j => iI (t_6_c j)))), ((t_q 7), .inl (K 0, 40, .inl (fun j => iI (t_7_c j))))] H := hP
    have hD : va_D A [(t, .inr (5, oX5 t_q t_x0)), ((t_q 4), .inl (K 0, 40, .inl (fun j => iI (g18 j)))), ((t_q 5), .inl (K 0, 40, .inl (fun j => iI (g28 j)))), ((t_q 6), .inl (K 0, 40, .inl (fun j => iI (t_6_c j)))), ((t_q 7), .inl (K 0, 40, .inl (fun j => iI (t_7_c j))))] := hD
    refine lv_aload_n hx hb dX5_remember_29 rfl (lv_at hl 0 rfl) ?_
    refine va_get (D := D) (own := RX5) (ci := 5) (v := .ref (t_q 6)) (C := RX5) (T := TX5) (N := 8) hx hb hts inb_X5 hown hK.1 hP 0 rfl rfl 6 (by decide) (hts _ wd_196) (fun _ h9 => h9) rfl dX5_remember_30 ?_
    refine lv_aload_n hx hb dX5_remember_33 rfl (lv_at hl 0 rfl) ?_
    refine fn_at 34 rfl ?_
    refine va_get (D := D) (own := RX5) (ci := 5) (v := .int (iI t_x0)) (C := RX5) (T := TX5) (N := 8) hx hb hts inb_X5 hown hK.1 hP 0 rfl rfl 0 (by decide) (hts _ wd_184) (fun _ h9 => h9) rfl dX5_remember_34 ?_
    refine lv_iload_n hx hb dX5_remember_37 rfl (lv_at hl 3 rfl) ?_
    refine g_iast hx hb hK.1 hP hD hS 3 0 rfl rfl (by omega) (by omega) (by decide) dX5_remember_38 (fun H locs g38 eg38 hP hD hS => ?_)
    have hg38 : ∀ j : Nat, 0 ≤ g38 j ∧ g38 j ≤ 29 := by rw [eg38]; exact uI_all hc_t_6 (by omega)
    have hP : va_P D vwCl [(t, .inr (5, oX5 t_q t_x0)), ((t_q 4), .inl (K 0, 40, .inl (fun j => iI (g18 j)))), ((t_q 5), .inl (K 0, 40, .inl (fun j => iI (g28 j)))), ((t_q 6), .inl (K 0, 40, .inl (fun j => iI (g38 j)))), ((t_q 7), .inl (K 0, 40, .inl (fun j => iI (t_7_c j))))] H := hP
    have hD : va_D A [(t, .inr (5, oX5 t_q t_x0)), ((t_q 4), .inl (K 0, 40, .inl (fun j => iI (g18 j)))), ((t_q 5), .inl (K 0, 40, .inl (fun j => iI (g28 j)))), ((t_q 6), .inl (K 0, 40, .inl (fun j => iI (g38 j)))), ((t_q 7), .inl (K 0, 40, .inl (fun j => iI (t_7_c j))))] := hD
    refine lv_aload_n hx hb dX5_remember_39 rfl (lv_at hl 0 rfl) ?_
    refine va_get (D := D) (own := RX5) (ci := 5) (v := .ref (t_q 7)) (C := RX5) (T := TX5) (N := 8) hx hb hts inb_X5 hown hK.1 hP 0 rfl rfl 7 (by decide) (hts _ wd_197) (fun _ h9 => h9) rfl dX5_remember_40 ?_
    refine lv_aload_n hx hb dX5_remember_43 rfl (lv_at hl 0 rfl) ?_
    refine va_get (D := D) (own := RX5) (ci := 5) (v := .int (iI t_x0)) (C := RX5) (T := TX5) (N := 8) hx hb hts inb_X5 hown hK.1 hP 0 rfl rfl 0 (by decide) (hts _ wd_184) (fun _ h9 => h9) rfl dX5_remember_44 ?_
    refine lv_iload hx hb dX5_remember_47 (lv_at hl 4 rfl) ?_
    refine g_iast hx hb hK.1 hP hD hS 4 0 rfl rfl (by omega) (by omega) (by decide) dX5_remember_49 (fun H locs g49 eg49 hP hD hS => ?_)
    have hg49 : ∀ j : Nat, (-4) ≤ g49 j ∧ g49 j ≤ 29 := by rw [eg49]; exact uI_all hc_t_7 (by omega)
    have hP : va_P D vwCl [(t, .inr (5, oX5 t_q t_x0)), ((t_q 4), .inl (K 0, 40, .inl (fun j => iI (g18 j)))), ((t_q 5), .inl (K 0, 40, .inl (fun j => iI (g28 j)))), ((t_q 6), .inl (K 0, 40, .inl (fun j => iI (g38 j)))), ((t_q 7), .inl (K 0, 40, .inl (fun j => iI (g49 j))))] H := hP
    have hD : va_D A [(t, .inr (5, oX5 t_q t_x0)), ((t_q 4), .inl (K 0, 40, .inl (fun j => iI (g18 j)))), ((t_q 5), .inl (K 0, 40, .inl (fun j => iI (g28 j)))), ((t_q 6), .inl (K 0, 40, .inl (fun j => iI (g38 j)))), ((t_q 7), .inl (K 0, 40, .inl (fun j => iI (g49 j))))] := hD
    refine lv_aload_n hx hb dX5_remember_50 rfl (lv_at hl 0 rfl) ?_
    refine lv_dup hx hb dX5_remember_51 rfl ?_
    refine va_get (D := D) (own := RX5) (ci := 5) (v := .int (iI t_x0)) (C := RX5) (T := TX5) (N := 8) hx hb hts inb_X5 hown hK.1 hP 0 rfl rfl 0 (by decide) (hts _ wd_184) (fun _ h9 => h9) rfl dX5_remember_52 ?_
    refine lv_iconst (v := iI 1) hx hb dX5_remember_55 rfl ?_
    refine g_iadd hx hb dX5_remember_56 ?_
    refine va_put (D := D) (own := RX5) (ci := 5) (v := .int (iI (t_x0 + 1))) (ty := .int) (C := RX5) (T := TX5) (N := 8) hx hb hts inb_X5 tyX5 tyX5_ok nmX5 hown hK.1 hP hD hS 0 rfl rfl 0 (by decide) (hts _ wd_184) (fun _ h9 => h9) rfl (by decide +kernel) rfl rfl (Nat.le_of_ble_eq_true rfl) dX5_remember_57 (fun H locs hP hD hS => ?_)
    have hP : va_P D vwCl [(t, .inr (5, oX5 t_q (t_x0 + 1))), ((t_q 4), .inl (K 0, 40, .inl (fun j => iI (g18 j)))), ((t_q 5), .inl (K 0, 40, .inl (fun j => iI (g28 j)))), ((t_q 6), .inl (K 0, 40, .inl (fun j => iI (g38 j)))), ((t_q 7), .inl (K 0, 40, .inl (fun j => iI (g49 j))))] H := hP
    have hD : va_D A [(t, .inr (5, oX5 t_q (t_x0 + 1))), ((t_q 4), .inl (K 0, 40, .inl (fun j => iI (g18 j)))), ((t_q 5), .inl (K 0, 40, .inl (fun j => iI (g28 j)))), ((t_q 6), .inl (K 0, 40, .inl (fun j => iI (g38 j)))), ((t_q 7), .inl (K 0, 40, .inl (fun j => iI (g49 j))))] := hD
    rw [hQ]; exact fn_vret hx hb hr hlocks hP hD hS ((fun k => ([t_x0 + 1] : List Int).getD k 0), (fun k => ([g18, g28, g38, g49] : List (Nat → Int)).getD k (fun _ => 0))) ⟨(by show 0 ≤ (t_x0 + 1) ∧ (t_x0 + 1) ≤ 40; omega), (show AR g18 g28 g49 from by first | assumption | (rw [eg18, eg28, eg49]; exact AR_set ar (by omega))), (hg18), (hg28), (hg38), (hg49), trivial⟩ [0, 1, 2, 3, 4] (by decide) rfl dX5_remember_60
theorem wd_722 : Cond.code ⟨"FootNotes$Shelf", "remember", "(IIII)V"⟩ prog_7_method_8_code 5 (Option.none : Option Jvm.ClassFile.FieldType) ∈ fn_big := fn_tb (fn_l4 (List.mem_of_getElem? (i := 2) (by decide +kernel))) (by decide +kernel)
theorem wd_5 : Cond.initialized "FootNotes$Shelf" ∈ fn_big := fn_tb (fn_l1 (List.mem_of_getElem? (i := 5) (by decide +kernel))) (by decide +kernel)
theorem wd_719 : Cond.methodLink "FootNotes$Shelf" 58 ⟨"FootNotes$Shelf", "remember", "(IIII)V"⟩ ∈ fn_big := fn_tb (fn_l3 (List.mem_of_getElem? (i := 239) (by decide +kernel))) (by decide +kernel)
theorem wd_721 : Cond.instanceMethod ⟨"FootNotes$Shelf", "remember", "(IIII)V"⟩ ∈ fn_big := fn_tb (fn_l4 (List.mem_of_getElem? (i := 1) (by decide +kernel))) (by decide +kernel)
theorem wp_32 : Cond.selects "FootNotes$Shelf" ⟨"FootNotes$Shelf", "remember", "(IIII)V"⟩ ⟨"FootNotes$Shelf", "remember", "(IIII)V"⟩ ∈ fn_big := fn_sel (q := (⟨"FootNotes$Shelf", "remember", "(IIII)V"⟩, 8)) 32 (by decide +kernel) (by decide +kernel)
theorem dX5_putBlank_22 : decode cX5_putBlank 22 = .ok (.iload 4, 2) := by decide +kernel
theorem dX5_putBlank_24 : decode cX5_putBlank 24 = .ok (.iload_n 2, 1) := by decide +kernel
theorem dX5_putBlank_25 : decode cX5_putBlank 25 = .ok (.if_icmp .le 29, 3) := by decide +kernel
theorem dX5_putBlank_54 : decode cX5_putBlank 54 = .ok (.aload_n 0, 1) := by decide +kernel
theorem dX5_putBlank_55 : decode cX5_putBlank 55 = .ok (.getfield 15, 3) := by decide +kernel
theorem dX5_putBlank_58 : decode cX5_putBlank 58 = .ok (.iload_n 3, 1) := by decide +kernel
theorem dX5_putBlank_59 : decode cX5_putBlank 59 = .ok (.iload_n 2, 1) := by decide +kernel
theorem dX5_putBlank_60 : decode cX5_putBlank 60 = .ok (.iadd, 1) := by decide +kernel
theorem dX5_putBlank_61 : decode cX5_putBlank 61 = .ok (.bipush (-3), 2) := by decide +kernel
theorem dX5_putBlank_63 : decode cX5_putBlank 63 = .ok (.iastore, 1) := by decide +kernel
theorem dX5_putBlank_64 : decode cX5_putBlank 64 = .ok (.aload_n 0, 1) := by decide +kernel
theorem dX5_putBlank_65 : decode cX5_putBlank 65 = .ok (.getfield 9, 3) := by decide +kernel
theorem dX5_putBlank_68 : decode cX5_putBlank 68 = .ok (.iload_n 1, 1) := by decide +kernel
theorem dX5_putBlank_69 : decode cX5_putBlank 69 = .ok (.dup2, 1) := by decide +kernel
theorem dX5_putBlank_70 : decode cX5_putBlank 70 = .ok (.iaload, 1) := by decide +kernel
theorem dX5_putBlank_71 : decode cX5_putBlank 71 = .ok (.iconst 1, 1) := by decide +kernel
theorem dX5_putBlank_72 : decode cX5_putBlank 72 = .ok (.iadd, 1) := by decide +kernel
theorem dX5_putBlank_73 : decode cX5_putBlank 73 = .ok (.iastore, 1) := by decide +kernel
theorem dX5_putBlank_74 : decode cX5_putBlank 74 = .ok (.return_, 1) := by decide +kernel
theorem dX5_putBlank_28 : decode cX5_putBlank 28 = .ok (.aload_n 0, 1) := by decide +kernel
theorem dX5_putBlank_29 : decode cX5_putBlank 29 = .ok (.getfield 15, 3) := by decide +kernel
theorem dX5_putBlank_32 : decode cX5_putBlank 32 = .ok (.iload_n 3, 1) := by decide +kernel
theorem dX5_putBlank_33 : decode cX5_putBlank 33 = .ok (.iload 4, 2) := by decide +kernel
theorem dX5_putBlank_35 : decode cX5_putBlank 35 = .ok (.iadd, 1) := by decide +kernel
theorem dX5_putBlank_36 : decode cX5_putBlank 36 = .ok (.aload_n 0, 1) := by decide +kernel
theorem dX5_putBlank_37 : decode cX5_putBlank 37 = .ok (.getfield 15, 3) := by decide +kernel
theorem dX5_putBlank_40 : decode cX5_putBlank 40 = .ok (.iload_n 3, 1) := by decide +kernel
theorem dX5_putBlank_41 : decode cX5_putBlank 41 = .ok (.iload 4, 2) := by decide +kernel
theorem dX5_putBlank_43 : decode cX5_putBlank 43 = .ok (.iadd, 1) := by decide +kernel
theorem dX5_putBlank_44 : decode cX5_putBlank 44 = .ok (.iconst 1, 1) := by decide +kernel
theorem dX5_putBlank_45 : decode cX5_putBlank 45 = .ok (.isub, 1) := by decide +kernel
theorem dX5_putBlank_46 : decode cX5_putBlank 46 = .ok (.iaload, 1) := by decide +kernel
theorem dX5_putBlank_47 : decode cX5_putBlank 47 = .ok (.iastore, 1) := by decide +kernel
theorem dX5_putBlank_48 : decode cX5_putBlank 48 = .ok (.iinc 4 (-1), 3) := by decide +kernel
theorem dX5_putBlank_51 : decode cX5_putBlank 51 = .ok (.goto (-29), 3) := by decide +kernel
theorem dX5_putBlank_0 : decode cX5_putBlank 0 = .ok (.aload_n 0, 1) := by decide +kernel
theorem dX5_putBlank_1 : decode cX5_putBlank 1 = .ok (.iconst 0, 1) := by decide +kernel
theorem dX5_putBlank_2 : decode cX5_putBlank 2 = .ok (.iload_n 1, 1) := by decide +kernel
theorem dX5_putBlank_3 : decode cX5_putBlank 3 = .ok (.iload_n 2, 1) := by decide +kernel
theorem dX5_putBlank_4 : decode cX5_putBlank 4 = .ok (.bipush (-3), 2) := by decide +kernel
theorem dX5_putBlank_6 : decode cX5_putBlank 6 = .ok (.invokevirtual 58, 3) := by decide +kernel
theorem dX5_putBlank_9 : decode cX5_putBlank 9 = .ok (.iload_n 1, 1) := by decide +kernel
theorem dX5_putBlank_10 : decode cX5_putBlank 10 = .ok (.bipush 30, 2) := by decide +kernel
theorem dX5_putBlank_12 : decode cX5_putBlank 12 = .ok (.imul, 1) := by decide +kernel
theorem dX5_putBlank_13 : decode cX5_putBlank 13 = .ok (.istore_n 3, 1) := by decide +kernel
theorem dX5_putBlank_14 : decode cX5_putBlank 14 = .ok (.aload_n 0, 1) := by decide +kernel
theorem dX5_putBlank_15 : decode cX5_putBlank 15 = .ok (.getfield 9, 3) := by decide +kernel
theorem dX5_putBlank_18 : decode cX5_putBlank 18 = .ok (.iload_n 1, 1) := by decide +kernel
theorem dX5_putBlank_19 : decode cX5_putBlank 19 = .ok (.iaload, 1) := by decide +kernel
theorem dX5_putBlank_20 : decode cX5_putBlank 20 = .ok (.istore 4, 2) := by decide +kernel
set_option maxHeartbeats 4000000 in
set_option maxRecDepth 100000 in
theorem k_X5_putBlank (l : Launch) (D : va_G) (K : Nat → ClassId) (t : Nat) (t_q : Nat → Nat) (p1 p2 t_x0 : Int) (t_4_c : Nat → Int) (t_5_c : Nat → Int) (t_6_c : Nat → Int) (t_7_c : Nat → Int) (t_1_c : Nat → Int) (t_2_c : Nat → Int) (hp1 : 0 ≤ p1 ∧ p1 ≤ 4) (hp2 : 0 ≤ p2 ∧ p2 ≤ 29) (hi_t : bX5 t_x0) (hc_t_4 : ∀ j : Nat, 0 ≤ t_4_c j ∧ t_4_c j ≤ 2) (hc_t_5 : ∀ j : Nat, 0 ≤ t_5_c j ∧ t_5_c j ≤ 23) (hc_t_6 : ∀ j : Nat, 0 ≤ t_6_c j ∧ t_6_c j ≤ 29) (hc_t_7 : ∀ j : Nat, (-4) ≤ t_7_c j ∧ t_7_c j ≤ 29) (hc_t_1 : ∀ j : Nat, (-1000) ≤ t_1_c j ∧ t_1_c j ≤ 30) (hc_t_2 : ∀ j : Nat, (-4) ≤ t_2_c j ∧ t_2_c j ≤ 11) (ar : AR t_4_c t_5_c t_7_c) (lc : t_1_c (Int.toNat p1) ≤ 29) : fn_CV (S := (Nat → Int) × (Nat → Nat → Int)) l D K yX5_putBlank (fn_ws yX5_putBlank cX5_putBlank 5 none) ({ frames := 8, cells := 0, slots := 0, locals := 200 } : Room) [.ref t, .int (iI p1), .int (iI p2)] [(t, .inr (5, oX5 t_q t_x0)), ((t_q 4), .inl (K 0, 40, .inl (fun j => iI (t_4_c j)))), ((t_q 5), .inl (K 0, 40, .inl (fun j => iI (t_5_c j)))), ((t_q 6), .inl (K 0, 40, .inl (fun j => iI (t_6_c j)))), ((t_q 7), .inl (K 0, 40, .inl (fun j => iI (t_7_c j)))), ((t_q 1), .inl (K 0, 5, .inl (fun j => iI (t_1_c j)))), ((t_q 2), .inl (K 0, 150, .inl (fun j => iI (t_2_c j))))] (fun u => (0 ≤ (u.1 0) ∧ (u.1 0) ≤ 40) ∧ (AR (u.2 2) (u.2 3) (u.2 5)) ∧ (∀ j : Nat, t_1_c j ≤ (u.2 0) j) ∧ (∀ j : Nat, (-1000) ≤ (u.2 0) j ∧ (u.2 0) j ≤ 30) ∧ (∀ j : Nat, (-4) ≤ (u.2 1) j ∧ (u.2 1) j ≤ 11) ∧ (∀ j : Nat, 0 ≤ (u.2 2) j ∧ (u.2 2) j ≤ 2) ∧ (∀ j : Nat, 0 ≤ (u.2 3) j ∧ (u.2 3) j ≤ 23) ∧ (∀ j : Nat, 0 ≤ (u.2 4) j ∧ (u.2 4) j ≤ 29) ∧ (∀ j : Nat, (-4) ≤ (u.2 5) j ∧ (u.2 5) j ≤ 29) ∧ True) (fun u => [(t, .inr (5, oX5 t_q (u.1 0))), ((t_q 4), .inl (K 0, 40, .inl (fun j => iI ((u.2 2) j)))), ((t_q 5), .inl (K 0, 40, .inl (fun j => iI ((u.2 3) j)))), ((t_q 6), .inl (K 0, 40, .inl (fun j => iI ((u.2 4) j)))), ((t_q 7), .inl (K 0, 40, .inl (fun j => iI ((u.2 5) j)))), ((t_q 1), .inl (K 0, 5, .inl (fun j => iI ((u.2 0) j)))), ((t_q 2), .inl (K 0, 150, .inl (fun j => iI ((u.2 1) j))))]) 0 0 := by
  refine g_inV (cc := cX5_putBlank) (maxL := 5) (ret := none) (by decide) rfl (Nat.le_of_ble_eq_true rfl) ?_
  intro p e s m below meth c A ls ag Q B hA hP hD hS hl hQ
  obtain ⟨hx, hb, hr, hml, hts, hown, hlocks, hin, hK⟩ := B
  have hown : s.vm.findClass RX5 = some m.cls := hown
  have hts := fun w h => hts w (List.mem_cons_of_mem _ h)
  have J22 : ∀ (n : Nat) (x22_3 : Int) (x22_4 : Int) (f22_t_0 : Int) (c22_t_4 : Nat → Int) (c22_t_5 : Nat → Int) (c22_t_6 : Nat → Int) (c22_t_7 : Nat → Int) (c22_t_2 : Nat → Int) (H : Heap) (locs : List Loc) (ls : Array Slot), (x22_4 - (-1000)).toNat < n → (0 ≤ x22_3 ∧ x22_3 ≤ 120 ∧ (-1000) ≤ x22_4 ∧ x22_4 ≤ 29 ∧ 0 ≤ f22_t_0 ∧ f22_t_0 ≤ 40 ∧ x22_4 ≤ 29 ∧ x22_3 ≤ 120) → (AR c22_t_4 c22_t_5 c22_t_7) → (∀ j : Nat, 0 ≤ c22_t_4 j ∧ c22_t_4 j ≤ 2) → (∀ j : Nat, 0 ≤ c22_t_5 j ∧ c22_t_5 j ≤ 23) → (∀ j : Nat, 0 ≤ c22_t_6 j ∧ c22_t_6 j ≤ 29) → (∀ j : Nat, (-4) ≤ c22_t_7 j ∧ c22_t_7 j ≤ 29) → (∀ j : Nat, (-4) ≤ c22_t_2 j ∧ c22_t_2 j ≤ 11) → va_P D vwCl [(t, .inr (5, oX5 t_q f22_t_0)), ((t_q 4), .inl (K 0, 40, .inl (fun j => iI (c22_t_4 j)))), ((t_q 5), .inl (K 0, 40, .inl (fun j => iI (c22_t_5 j)))), ((t_q 6), .inl (K 0, 40, .inl (fun j => iI (c22_t_6 j)))), ((t_q 7), .inl (K 0, 40, .inl (fun j => iI (c22_t_7 j)))), ((t_q 1), .inl (K 0, 5, .inl (fun j => iI (t_1_c j)))), ((t_q 2), .inl (K 0, 150, .inl (fun j => iI (c22_t_2 j))))] H → va_D A [(t, .inr (5, oX5 t_q f22_t_0)), ((t_q 4), .inl (K 0, 40, .inl (fun j => iI (c22_t_4 j)))), ((t_q 5), .inl (K 0, 40, .inl (fun j => iI (c22_t_5 j)))), ((t_q 6), .inl (K 0, 40, .inl (fun j => iI (c22_t_6 j)))), ((t_q 7), .inl (K 0, 40, .inl (fun j => iI (c22_t_7 j)))), ((t_q 1), .inl (K 0, 5, .inl (fun j => iI (t_1_c j)))), ((t_q 2), .inl (K 0, 150, .inl (fun j => iI (c22_t_2 j))))] → va_S A s.heap H locs → lv_has ls 5 [(0, .ref t), (1, .int (iI p1)), (2, .int (iI p2)), (3, .int (iI x22_3)), (4, .int (iI x22_4))] → W p l e ({ frames := 8, cells := 0, slots := 0, locals := 200 } : Room) s m ag below meth c H locs 0 0 Q (F0 m 22 ls []) := by
    intro n
    induction n with
    | zero =>
      intro x22_3 x22_4 f22_t_0 c22_t_4 c22_t_5 c22_t_6 c22_t_7 c22_t_2 H locs ls hm22 hf22 ar2 hc22_t_4 hc22_t_5 hc22_t_6 hc22_t_7 hc22_t_2 hP hD hS hl
      exact absurd hm22 (Nat.not_lt_zero _)
    | succ n ih22 =>
      intro x22_3 x22_4 f22_t_0 c22_t_4 c22_t_5 c22_t_6 c22_t_7 c22_t_2 H locs ls hm22 hf22 ar2 hc22_t_4 hc22_t_5 hc22_t_6 hc22_t_7 hc22_t_2 hP hD hS hl
      refine lv_iload hx hb dX5_putBlank_22 (lv_at hl 4 rfl) ?_
      refine lv_iload_n hx hb dX5_putBlank_24 rfl (lv_at hl 2 rfl) ?_
      refine g_icmp_le (tgt := 54) hx hb (by omega) (by omega) dX5_putBlank_25 (by decide) (fun c25 => ?_) (fun c25 => ?_)
      · refine lv_aload_n hx hb dX5_putBlank_54 rfl (lv_at hl 0 rfl) ?_
        refine va_get (D := D) (own := RX5) (ci := 5) (v := .ref (t_q 2)) (C := RX5) (T := TX5) (N := 8) hx hb hts inb_X5 hown hK.1 hP 0 rfl rfl 2 (by decide) (hts _ wd_190) (fun _ h9 => h9) rfl dX5_putBlank_55 ?_
        refine lv_iload_n hx hb dX5_putBlank_58 rfl (lv_at hl 3 rfl) ?_
        refine lv_iload_n hx hb dX5_putBlank_59 rfl (lv_at hl 2 rfl) ?_
        refine g_iadd hx hb dX5_putBlank_60 ?_
        refine lv_bipush (v := iI (-3)) hx hb dX5_putBlank_61 (by decide) ?_
        refine g_iast hx hb hK.1 hP hD hS 6 0 rfl rfl (by omega) (by omega) (by decide) dX5_putBlank_63 (fun H locs g63 eg63 hP hD hS => ?_)
        have hg63 : ∀ j : Nat, (-4) ≤ g63 j ∧ g63 j ≤ 11 := by rw [eg63]; exact uI_all hc22_t_2 (by omega)
        have hP : va_P D vwCl [(t, .inr (5, oX5 t_q f22_t_0)), ((t_q 4), .inl (K 0, 40, .inl (fun j => iI (c22_t_4 j)))), ((t_q 5), .inl (K 0, 40, .inl (fun j => iI (c22_t_5 j)))), ((t_q 6), .inl (K 0, 40, .inl (fun j => iI (c22_t_6 j)))), ((t_q 7), .inl (K 0, 40, .inl (fun j => iI (c22_t_7 j)))), ((t_q 1), .inl (K 0, 5, .inl (fun j => iI (t_1_c j)))), ((t_q 2), .inl (K 0, 150, .inl (fun j => iI (g63 j))))] H := hP
        have hD : va_D A [(t, .inr (5, oX5 t_q f22_t_0)), ((t_q 4), .inl (K 0, 40, .inl (fun j => iI (c22_t_4 j)))), ((t_q 5), .inl (K 0, 40, .inl (fun j => iI (c22_t_5 j)))), ((t_q 6), .inl (K 0, 40, .inl (fun j => iI (c22_t_6 j)))), ((t_q 7), .inl (K 0, 40, .inl (fun j => iI (c22_t_7 j)))), ((t_q 1), .inl (K 0, 5, .inl (fun j => iI (t_1_c j)))), ((t_q 2), .inl (K 0, 150, .inl (fun j => iI (g63 j))))] := hD
        refine lv_aload_n hx hb dX5_putBlank_64 rfl (lv_at hl 0 rfl) ?_
        refine va_get (D := D) (own := RX5) (ci := 5) (v := .ref (t_q 1)) (C := RX5) (T := TX5) (N := 8) hx hb hts inb_X5 hown hK.1 hP 0 rfl rfl 1 (by decide) (hts _ wd_186) (fun _ h9 => h9) rfl dX5_putBlank_65 ?_
        refine lv_iload_n hx hb dX5_putBlank_68 rfl (lv_at hl 1 rfl) ?_
        refine lv_dup2_11 hx hb dX5_putBlank_69 rfl rfl ?_
        refine g_iald hx hb hK.1 hP 5 0 rfl rfl (by omega) (by omega) (by decide) dX5_putBlank_70 ?_
        have y70 : (-1000) ≤ (t_1_c p1.toNat) ∧ (t_1_c p1.toNat) ≤ 30 := hc_t_1 p1.toNat
        refine lv_iconst (v := iI 1) hx hb dX5_putBlank_71 rfl ?_
        refine g_iadd hx hb dX5_putBlank_72 ?_
        refine g_iast hx hb hK.1 hP hD hS 5 0 rfl rfl (by omega) (by omega) (by decide) dX5_putBlank_73 (fun H locs g73 eg73 hP hD hS => ?_)
        have hg73 : ∀ j : Nat, (-1000) ≤ g73 j ∧ g73 j ≤ 30 := by rw [eg73]; exact uI_all hc_t_1 (by omega)
        have hP : va_P D vwCl [(t, .inr (5, oX5 t_q f22_t_0)), ((t_q 4), .inl (K 0, 40, .inl (fun j => iI (c22_t_4 j)))), ((t_q 5), .inl (K 0, 40, .inl (fun j => iI (c22_t_5 j)))), ((t_q 6), .inl (K 0, 40, .inl (fun j => iI (c22_t_6 j)))), ((t_q 7), .inl (K 0, 40, .inl (fun j => iI (c22_t_7 j)))), ((t_q 1), .inl (K 0, 5, .inl (fun j => iI (g73 j)))), ((t_q 2), .inl (K 0, 150, .inl (fun j => iI (g63 j))))] H := hP
        have hD : va_D A [(t, .inr (5, oX5 t_q f22_t_0)), ((t_q 4), .inl (K 0, 40, .inl (fun j => iI (c22_t_4 j)))), ((t_q 5), .inl (K 0, 40, .inl (fun j => iI (c22_t_5 j)))), ((t_q 6), .inl (K 0, 40, .inl (fun j => iI (c22_t_6 j)))), ((t_q 7), .inl (K 0, 40, .inl (fun j => iI (c22_t_7 j)))), ((t_q 1), .inl (K 0, 5, .inl (fun j => iI (g73 j)))), ((t_q 2), .inl (K 0, 150, .inl (fun j => iI (g63 j))))] := hD
        rw [hQ]; exact fn_vret hx hb hr hlocks hP hD hS ((fun k => ([f22_t_0] : List Int).getD k 0), (fun k => ([g73, g63, c22_t_4, c22_t_5, c22_t_6, c22_t_7] : List (Nat → Int)).getD k (fun _ => 0))) ⟨(by show 0 ≤ f22_t_0 ∧ f22_t_0 ≤ 40; omega), (show AR c22_t_4 c22_t_5 c22_t_7 from by assumption), (show ∀ j : Nat, t_1_c j ≤ g73 j from fun j => by rw [eg73]; exact uI_inc j), (hg73), (hg63), (hc22_t_4), (hc22_t_5), (hc22_t_6), (hc22_t_7), trivial⟩ [0, 1, 2, 3, 4, 5, 6] (by decide) rfl dX5_putBlank_74
      · refine lv_aload_n hx hb dX5_putBlank_28 rfl (lv_at hl 0 rfl) ?_
        refine va_get (D := D) (own := RX5) (ci := 5) (v := .ref (t_q 2)) (C := RX5) (T := TX5) (N := 8) hx hb hts inb_X5 hown hK.1 hP 0 rfl rfl 2 (by decide) (hts _ wd_190) (fun _ h9 => h9) rfl dX5_putBlank_29 ?_
        refine lv_iload_n hx hb dX5_putBlank_32 rfl (lv_at hl 3 rfl) ?_
        refine lv_iload hx hb dX5_putBlank_33 (lv_at hl 4 rfl) ?_
        refine g_iadd hx hb dX5_putBlank_35 ?_
        refine lv_aload_n hx hb dX5_putBlank_36 rfl (lv_at hl 0 rfl) ?_
        refine va_get (D := D) (own := RX5) (ci := 5) (v := .ref (t_q 2)) (C := RX5) (T := TX5) (N := 8) hx hb hts inb_X5 hown hK.1 hP 0 rfl rfl 2 (by decide) (hts _ wd_190) (fun _ h9 => h9) rfl dX5_putBlank_37 ?_
        refine lv_iload_n hx hb dX5_putBlank_40 rfl (lv_at hl 3 rfl) ?_
        refine lv_iload hx hb dX5_putBlank_41 (lv_at hl 4 rfl) ?_
        refine g_iadd hx hb dX5_putBlank_43 ?_
        refine lv_iconst (v := iI 1) hx hb dX5_putBlank_44 rfl ?_
        refine g_isub hx hb dX5_putBlank_45 ?_
        refine g_iald hx hb hK.1 hP 6 0 rfl rfl (by omega) (by omega) (by decide) dX5_putBlank_46 ?_
        have y46 : (-4) ≤ (c22_t_2 ((x22_3 + x22_4 - 1).toNat)) ∧ (c22_t_2 ((x22_3 + x22_4 - 1).toNat)) ≤ 11 := hc22_t_2 ((x22_3 + x22_4 - 1).toNat)
        refine g_iast hx hb hK.1 hP hD hS 6 0 rfl rfl (by omega) (by omega) (by decide) dX5_putBlank_47 (fun H locs g47 eg47 hP hD hS => ?_)
        have hg47 : ∀ j : Nat, (-4) ≤ g47 j ∧ g47 j ≤ 11 := by rw [eg47]; exact uI_all hc22_t_2 (by omega)
        have hP : va_P D vwCl [(t, .inr (5, oX5 t_q f22_t_0)), ((t_q 4), .inl (K 0, 40, .inl (fun j => iI (c22_t_4 j)))), ((t_q 5), .inl (K 0, 40, .inl (fun j => iI (c22_t_5 j)))), ((t_q 6), .inl (K 0, 40, .inl (fun j => iI (c22_t_6 j)))), ((t_q 7), .inl (K 0, 40, .inl (fun j => iI (c22_t_7 j)))), ((t_q 1), .inl (K 0, 5, .inl (fun j => iI (t_1_c j)))), ((t_q 2), .inl (K 0, 150, .inl (fun j => iI (g47 j))))] H := hP
        have hD : va_D A [(t, .inr (5, oX5 t_q f22_t_0)), ((t_q 4), .inl (K 0, 40, .inl (fun j => iI (c22_t_4 j)))), ((t_q 5), .inl (K 0, 40, .inl (fun j => iI (c22_t_5 j)))), ((t_q 6), .inl (K 0, 40, .inl (fun j => iI (c22_t_6 j)))), ((t_q 7), .inl (K 0, 40, .inl (fun j => iI (c22_t_7 j)))), ((t_q 1), .inl (K 0, 5, .inl (fun j => iI (t_1_c j)))), ((t_q 2), .inl (K 0, 150, .inl (fun j => iI (g47 j))))] := hD
        refine lv_iinc (v := iI (x22_4 + (-1))) (lv' := [(4, .int (iI (x22_4 + (-1)))), (0, .ref t), (1, .int (iI p1)), (2, .int (iI p2)), (3, .int (iI x22_3))]) hx hb dX5_putBlank_48 hl (k := 4) rfl (iI_add _ _) (by decide) rfl (fun ls hl => ?_)
        refine lv_goto (tgt := 22) hx hb dX5_putBlank_51 (by decide) ?_
        exact ih22 x22_3 (x22_4 + (-1)) f22_t_0 c22_t_4 c22_t_5 c22_t_6 c22_t_7 g47 _ _ ls (by omega) (by omega) (show AR c22_t_4 c22_t_5 c22_t_7 from by assumption) hc22_t_4 hc22_t_5 hc22_t_6 hc22_t_7 hg47 (hP.sub [0, 1, 2, 3, 4, 5, 6] rfl) (hD.sub [0, 1, 2, 3, 4, 5, 6] (by decide) rfl) hS (lv_sub hl [1, 2, 3, 4, 0] rfl)
  have hl : lv_has ls 5 [(0, .ref t), (1, .int (iI p1)), (2, .int (iI p2))] := hl
  refine lv_aload_n hx hb dX5_putBlank_0 rfl (lv_at hl 0 rfl) ?_
  refine lv_iconst (v := iI 0) hx hb dX5_putBlank_1 rfl ?_
  refine lv_iload_n hx hb dX5_putBlank_2 rfl (lv_at hl 1 rfl) ?_
  refine lv_iload_n hx hb dX5_putBlank_3 rfl (lv_at hl 2 rfl) ?_
  refine lv_bipush (v := iI (-3)) hx hb dX5_putBlank_4 (by decide) ?_
  refine fn_gov (wc := [(t, .inr (5, oX5 t_q t_x0)), ((t_q 4), .inl (K 0, 40, .inl (fun j => iI (t_4_c j)))), ((t_q 5), .inl (K 0, 40, .inl (fun j => iI (t_5_c j)))), ((t_q 6), .inl (K 0, 40, .inl (fun j => iI (t_6_c j)))), ((t_q 7), .inl (K 0, 40, .inl (fun j => iI (t_7_c j))))]) (wr := [((t_q 1), .inl (K 0, 5, .inl (fun j => iI (t_1_c j)))), ((t_q 2), .inl (K 0, 150, .inl (fun j => iI (t_2_c j))))]) hK hP hD hS hA [0, 1, 2, 3, 4] [5, 6] rfl rfl (by decide) (fun hp => va_runV (C := RX5) (As := [.int (iI 0), .int (iI p1), .int (iI p2), .int (iI (-3))]) (rest := []) ⟨hx, hb, hml, hown, hts⟩ (k_X5_remember (l := l) (D := D) (K := K) (t := t) (p1 := 0) (p2 := p1) (p3 := p2) (p4 := (-3)) (t_q := t_q) (t_x0 := t_x0) (t_4_c := t_4_c) (t_5_c := t_5_c) (t_6_c := t_6_c) (t_7_c := t_7_c) (hp1 := (by omega)) (hp2 := (by omega)) (hp3 := (by omega)) (hp4 := (by omega)) (hi_t := hi_t) (hc_t_4 := hc_t_4) (hc_t_5 := hc_t_5) (hc_t_6 := hc_t_6) (hc_t_7 := hc_t_7) (ar := (show AR t_4_c t_5_c t_7_c from by assumption)) (ao := (show ((0 : Int) = 2 ∧ 0 ≤ (-3 : Int)) ∨ ((0 : Int) ≠ 2 ∧ p1 ≤ 4 ∧ (-3 : Int) ≤ 11) from by omega)) _) (cwV 4 hts (fn_ginV (fn_gin wd_722) wd_719 wd_721 wp_32 wd_5) rfl rfl rfl (by decide +kernel) ⟨Nat.le_of_ble_eq_true rfl, Nat.le_of_ble_eq_true rfl⟩) ⟨fn_blind, va_recv hK.1 hP (ci := 5) (q0 := 0) rfl rfl, hp⟩ rfl rfl hl.1 rfl (lv_room (Nat.le_of_ble_eq_true rfl)) dX5_putBlank_6 ⟨Nat.le_of_ble_eq_true rfl, Nat.le_of_ble_eq_true rfl⟩) (fun u6 H locs hwu6 hP hD hS => ?_)
  obtain ⟨u6a, u6b⟩ := u6
  obtain ⟨hqu60, hqu6_ar0, hu6_00, hu6_10, hu6_20, hu6_30, -⟩ := hwu6
  have hqu6 : 0 ≤ (u6a 0) ∧ (u6a 0) ≤ 40 := hqu60
  have hqu6_ar : AR (u6b 0) (u6b 1) (u6b 3) := hqu6_ar0
  have hu6_0 : ∀ j : Nat, 0 ≤ (u6b 0) j ∧ (u6b 0) j ≤ 2 := hu6_00
  have hu6_1 : ∀ j : Nat, 0 ≤ (u6b 1) j ∧ (u6b 1) j ≤ 23 := hu6_10
  have hu6_2 : ∀ j : Nat, 0 ≤ (u6b 2) j ∧ (u6b 2) j ≤ 29 := hu6_20
  have hu6_3 : ∀ j : Nat, (-4) ≤ (u6b 3) j ∧ (u6b 3) j ≤ 29 := hu6_30
  clear hqu60 hqu6_ar0 hu6_00 hu6_10 hu6_20 hu6_30
  have hP : va_P D vwCl [((t_q 1), .inl (K 0, 5, .inl (fun j => iI (t_1_c j)))), ((t_q 2), .inl (K 0, 150, .inl (fun j => iI (t_2_c j)))), (t, .inr (5, oX5 t_q (u6a 0))), ((t_q 4), .inl (K 0, 40, .inl (fun j => iI ((u6b 0) j)))), ((t_q 5), .inl (K 0, 40, .inl (fun j => iI ((u6b 1) j)))), ((t_q 6), .inl (K 0, 40, .inl (fun j => iI ((u6b 2) j)))), ((t_q 7), .inl (K 0, 40, .inl (fun j => iI ((u6b 3) j))))] H := hP
  have hD : va_D A [((t_q 1), .inl (K 0, 5, .inl (fun j => iI (t_1_c j)))), ((t_q 2), .inl (K 0, 150, .inl (fun j => iI (t_2_c j)))), (t, .inr (5, oX5 t_q (u6a 0))), ((t_q 4), .inl (K 0, 40, .inl (fun j => iI ((u6b 0) j)))), ((t_q 5), .inl (K 0, 40, .inl (fun j => iI ((u6b 1) j)))), ((t_q 6), .inl (K 0, 40, .inl (fun j => iI ((u6b 2) j)))), ((t_q 7), .inl (K 0, 40, .inl (fun j => iI ((u6b 3) j))))] := hD
  refine lv_iload_n hx hb dX5_putBlank_9 rfl (lv_at hl 1 rfl) ?_
  refine lv_bipush (v := iI 30) hx hb dX5_putBlank_10 (by decide) ?_
  refine g_imul hx hb dX5_putBlank_12 ?_
  refine lv_istore_n (lv' := [(3, .int (iI (p1 * 30))), (0, .ref t), (1, .int (iI p1)), (2, .int (iI p2))]) hx hb dX5_putBlank_13 rfl hl (by decide) rfl (fun ls hl => ?_)
  refine lv_aload_n hx hb dX5_putBlank_14 rfl (lv_at hl 1 rfl) ?_
  refine va_get (D := D) (own := RX5) (ci := 5) (v := .ref (t_q 1)) (C := RX5) (T := TX5) (N := 8) hx hb hts inb_X5 hown hK.1 hP 2 rfl rfl 1 (by decide) (hts _ wd_186) (fun _ h9 => h9) rfl dX5_putBlank_15 ?_
  refine lv_iload_n hx hb dX5_putBlank_18 rfl (lv_at hl 2 rfl) ?_
  refine g_iald hx hb hK.1 hP 0 0 rfl rfl (by omega) (by omega) (by decide) dX5_putBlank_19 ?_
  have y19 : (-1000) ≤ (t_1_c p1.toNat) ∧ (t_1_c p1.toNat) ≤ 30 := hc_t_1 p1.toNat
  refine lv_istore (lv' := [(4, .int (iI (t_1_c p1.toNat))), (3, .int (iI (p1 * 30))), (0, .ref t), (1, .int (iI p1)), (2, .int (iI p2))]) hx hb dX5_putBlank_20 hl (by decide) rfl (fun ls hl => ?_)
  exact J22 _ (p1 * 30) (t_1_c p1.toNat) (u6a 0) (u6b 0) (u6b 1) (u6b 2) (u6b 3) t_2_c _ _ ls (Nat.lt_succ_self _) (by omega) (show AR (u6b 0) (u6b 1) (u6b 3) from by assumption) hu6_0 hu6_1 hu6_2 hu6_3 hc_t_2 (hP.sub [2, 3, 4, 5, 6, 0, 1] rfl) (hD.sub [2, 3, 4, 5, 6, 0, 1] (by decide) rfl) hS (lv_sub hl [2, 3, 4, 1, 0] rfl)
theorem wd_650 : Cond.code ⟨"FootNotes$Shelf", "onLeaf", "(II)I"⟩ prog_7_method_4_code 3 (Option.some Jvm.ClassFile.FieldType.int) ∈ fn_big := fn_tb (fn_l3 (List.mem_of_getElem? (i := 170) (by decide +kernel))) (by decide +kernel)
theorem wd_731 : Cond.methodLink "FootNotes$Shelf" 62 ⟨"FootNotes$Shelf", "onLeaf", "(II)I"⟩ ∈ fn_big := fn_tb (fn_l4 (List.mem_of_getElem? (i := 11) (by decide +kernel))) (by decide +kernel)
theorem wd_649 : Cond.instanceMethod ⟨"FootNotes$Shelf", "onLeaf", "(II)I"⟩ ∈ fn_big := fn_tb (fn_l3 (List.mem_of_getElem? (i := 169) (by decide +kernel))) (by decide +kernel)
theorem wp_24 : Cond.selects "FootNotes$Shelf" ⟨"FootNotes$Shelf", "onLeaf", "(II)I"⟩ ⟨"FootNotes$Shelf", "onLeaf", "(II)I"⟩ ∈ fn_big := fn_sel (q := (⟨"FootNotes$Shelf", "onLeaf", "(II)I"⟩, 8)) 24 (by decide +kernel) (by decide +kernel)
theorem dX5_tearOut_0 : decode cX5_tearOut 0 = .ok (.aload_n 0, 1) := by decide +kernel
theorem dX5_tearOut_1 : decode cX5_tearOut 1 = .ok (.iconst 1, 1) := by decide +kernel
theorem dX5_tearOut_2 : decode cX5_tearOut 2 = .ok (.iload_n 1, 1) := by decide +kernel
theorem dX5_tearOut_3 : decode cX5_tearOut 3 = .ok (.iload_n 2, 1) := by decide +kernel
theorem dX5_tearOut_4 : decode cX5_tearOut 4 = .ok (.aload_n 0, 1) := by decide +kernel
theorem dX5_tearOut_5 : decode cX5_tearOut 5 = .ok (.iload_n 1, 1) := by decide +kernel
theorem dX5_tearOut_6 : decode cX5_tearOut 6 = .ok (.iload_n 2, 1) := by decide +kernel
theorem dX5_tearOut_7 : decode cX5_tearOut 7 = .ok (.invokevirtual 62, 3) := by decide +kernel
theorem dX5_tearOut_10 : decode cX5_tearOut 10 = .ok (.invokevirtual 58, 3) := by decide +kernel
theorem dX5_tearOut_13 : decode cX5_tearOut 13 = .ok (.aload_n 0, 1) := by decide +kernel
theorem dX5_tearOut_14 : decode cX5_tearOut 14 = .ok (.getfield 15, 3) := by decide +kernel
theorem dX5_tearOut_17 : decode cX5_tearOut 17 = .ok (.iload_n 1, 1) := by decide +kernel
theorem dX5_tearOut_18 : decode cX5_tearOut 18 = .ok (.bipush 30, 2) := by decide +kernel
theorem dX5_tearOut_20 : decode cX5_tearOut 20 = .ok (.imul, 1) := by decide +kernel
theorem dX5_tearOut_21 : decode cX5_tearOut 21 = .ok (.iload_n 2, 1) := by decide +kernel
theorem dX5_tearOut_22 : decode cX5_tearOut 22 = .ok (.iadd, 1) := by decide +kernel
theorem dX5_tearOut_23 : decode cX5_tearOut 23 = .ok (.bipush (-4), 2) := by decide +kernel
theorem dX5_tearOut_25 : decode cX5_tearOut 25 = .ok (.iastore, 1) := by decide +kernel
theorem dX5_tearOut_26 : decode cX5_tearOut 26 = .ok (.return_, 1) := by decide +kernel
set_option maxHeartbeats 4000000 in
set_option maxRecDepth 100000 in
theorem k_X5_tearOut (l : Launch) (D : va_G) (K : Nat → ClassId) (t : Nat) (t_q : Nat → Nat) (p1 p2 t_x0 : Int) (t_1_c : Nat → Int) (t_2_c : Nat → Int) (t_4_c : Nat → Int) (t_5_c : Nat → Int) (t_6_c : Nat → Int) (t_7_c : Nat → Int) (hp1 : 0 ≤ p1 ∧ p1 ≤ 4) (hp2 : 0 ≤ p2 ∧ p2 ≤ 29) (hi_t : bX5 t_x0) (hc_t_1 : ∀ j : Nat, (-1000) ≤ t_1_c j ∧ t_1_c j ≤ 30) (hc_t_2 : ∀ j : Nat, (-4) ≤ t_2_c j ∧ t_2_c j ≤ 11) (hc_t_4 : ∀ j : Nat, 0 ≤ t_4_c j ∧ t_4_c j ≤ 2) (hc_t_5 : ∀ j : Nat, 0 ≤ t_5_c j ∧ t_5_c j ≤ 23) (hc_t_6 : ∀ j : Nat, 0 ≤ t_6_c j ∧ t_6_c j ≤ 29) (hc_t_7 : ∀ j : Nat, (-4) ≤ t_7_c j ∧ t_7_c j ≤ 29) (ar : AR t_4_c t_5_c t_7_c) : fn_CV (S := (Nat → Int) × (Nat → Nat → Int)) l D K yX5_tearOut (fn_ws yX5_tearOut cX5_tearOut 3 none) ({ frames := 8, cells := 0, slots := 0, locals := 200 } : Room) [.ref t, .int (iI p1), .int (iI p2)] [(t, .inr (5, oX5 t_q t_x0)), ((t_q 1), .inl (K 0, 5, .inl (fun j => iI (t_1_c j)))), ((t_q 2), .inl (K 0, 150, .inl (fun j => iI (t_2_c j)))), ((t_q 4), .inl (K 0, 40, .inl (fun j => iI (t_4_c j)))), ((t_q 5), .inl (K 0, 40, .inl (fun j => iI (t_5_c j)))), ((t_q 6), .inl (K 0, 40, .inl (fun j => iI (t_6_c j)))), ((t_q 7), .inl (K 0, 40, .inl (fun j => iI (t_7_c j))))] (fun u => (0 ≤ (u.1 0) ∧ (u.1 0) ≤ 40) ∧ (AR (u.2 1) (u.2 2) (u.2 4)) ∧ (∀ j : Nat, (-4) ≤ (u.2 0) j ∧ (u.2 0) j ≤ 11) ∧ (∀ j : Nat, 0 ≤ (u.2 1) j ∧ (u.2 1) j ≤ 2) ∧ (∀ j : Nat, 0 ≤ (u.2 2) j ∧ (u.2 2) j ≤ 23) ∧ (∀ j : Nat, 0 ≤ (u.2 3) j ∧ (u.2 3) j ≤ 29) ∧ (∀ j : Nat, (-4) ≤ (u.2 4) j ∧ (u.2 4) j ≤ 29) ∧ True) (fun u => [(t, .inr (5, oX5 t_q (u.1 0))), ((t_q 1), .inl (K 0, 5, .inl (fun j => iI (t_1_c j)))), ((t_q 2), .inl (K 0, 150, .inl (fun j => iI ((u.2 0) j)))), ((t_q 4), .inl (K 0, 40, .inl (fun j => iI ((u.2 1) j)))), ((t_q 5), .inl (K 0, 40, .inl (fun j => iI ((u.2 2) j)))), ((t_q 6), .inl (K 0, 40, .inl (fun j => iI ((u.2 3) j)))), ((t_q 7), .inl (K 0, 40, .inl (fun j => iI ((u.2 4) j))))]) 0 0 := by
  refine g_inV (cc := cX5_tearOut) (maxL := 3) (ret := none) (by decide) rfl (Nat.le_of_ble_eq_true rfl) ?_
  intro p e s m below meth c A ls ag Q B hA hP hD hS hl hQ
  obtain ⟨hx, hb, hr, hml, hts, hown, hlocks, hin, hK⟩ := B
  have hown : s.vm.findClass RX5 = some m.cls := hown
  have hts := fun w h => hts w (List.mem_cons_of_mem _ h)
  have hl : lv_has ls 3 [(0, .ref t), (1, .int (iI p1)), (2, .int (iI p2))] := hl
  refine lv_aload_n hx hb dX5_tearOut_0 rfl (lv_at hl 0 rfl) ?_
  refine lv_iconst (v := iI 1) hx hb dX5_tearOut_1 rfl ?_
  refine lv_iload_n hx hb dX5_tearOut_2 rfl (lv_at hl 1 rfl) ?_
  refine lv_iload_n hx hb dX5_tearOut_3 rfl (lv_at hl 2 rfl) ?_
  refine lv_aload_n hx hb dX5_tearOut_4 rfl (lv_at hl 0 rfl) ?_
  refine lv_iload_n hx hb dX5_tearOut_5 rfl (lv_at hl 1 rfl) ?_
  refine lv_iload_n hx hb dX5_tearOut_6 rfl (lv_at hl 2 rfl) ?_
  refine fn_goi (wc := [(t, .inr (5, oX5 t_q t_x0)), ((t_q 1), .inl (K 0, 5, .inl (fun j => iI (t_1_c j)))), ((t_q 2), .inl (K 0, 150, .inl (fun j => iI (t_2_c j))))]) (wr := [((t_q 4), .inl (K 0, 40, .inl (fun j => iI (t_4_c j)))), ((t_q 5), .inl (K 0, 40, .inl (fun j => iI (t_5_c j)))), ((t_q 6), .inl (K 0, 40, .inl (fun j => iI (t_6_c j)))), ((t_q 7), .inl (K 0, 40, .inl (fun j => iI (t_7_c j))))]) hK hP hD hS hA [0, 1, 2] [3, 4, 5, 6] rfl rfl (by decide) (fun hp => va_runV (C := RX5) (As := [.int (iI p1), .int (iI p2)]) (rest := [.int (iI p2), .int (iI p1), .int (iI 1), .ref t]) ⟨hx, hb, hml, hown, hts⟩ (k_X5_onLeaf (l := l) (D := D) (K := K) (t := t) (p1 := p1) (p2 := p2) (t_q := t_q) (t_x0 := t_x0) (t_1_c := t_1_c) (t_2_c := t_2_c) (hp1 := (by omega)) (hp2 := (by omega)) (hi_t := hi_t) (hc_t_1 := hc_t_1) (hc_t_2 := hc_t_2) _) (cwV 2 hts (fn_ginV (fn_gin wd_650) wd_731 wd_649 wp_24 wd_5) rfl rfl rfl (by decide +kernel) ⟨Nat.le_of_ble_eq_true rfl, Nat.le_of_ble_eq_true rfl⟩) ⟨fn_blind, va_recv hK.1 hP (ci := 5) (q0 := 0) rfl rfl, hp⟩ rfl rfl hl.1 rfl (lv_room (Nat.le_of_ble_eq_true rfl)) dX5_tearOut_7 ⟨Nat.le_of_ble_eq_true rfl, Nat.le_of_ble_eq_true rfl⟩) (fun r7 u7 H locs hwu7 hP hD hS => ?_)
  obtain ⟨u7a, u7b⟩ := u7
  obtain ⟨kr7, rfl, hkr7, -⟩ := hwu7
  have hP : va_P D vwCl [((t_q 4), .inl (K 0, 40, .inl (fun j => iI (t_4_c j)))), ((t_q 5), .inl (K 0, 40, .inl (fun j => iI (t_5_c j)))), ((t_q 6), .inl (K 0, 40, .inl (fun j => iI (t_6_c j)))), ((t_q 7), .inl (K 0, 40, .inl (fun j => iI (t_7_c j)))), (t, .inr (5, oX5 t_q t_x0)), ((t_q 1), .inl (K 0, 5, .inl (fun j => iI (t_1_c j)))), ((t_q 2), .inl (K 0, 150, .inl (fun j => iI (t_2_c j))))] H := hP
  have hD : va_D A [((t_q 4), .inl (K 0, 40, .inl (fun j => iI (t_4_c j)))), ((t_q 5), .inl (K 0, 40, .inl (fun j => iI (t_5_c j)))), ((t_q 6), .inl (K 0, 40, .inl (fun j => iI (t_6_c j)))), ((t_q 7), .inl (K 0, 40, .inl (fun j => iI (t_7_c j)))), (t, .inr (5, oX5 t_q t_x0)), ((t_q 1), .inl (K 0, 5, .inl (fun j => iI (t_1_c j)))), ((t_q 2), .inl (K 0, 150, .inl (fun j => iI (t_2_c j))))] := hD
  refine fn_gov (wc := [(t, .inr (5, oX5 t_q t_x0)), ((t_q 4), .inl (K 0, 40, .inl (fun j => iI (t_4_c j)))), ((t_q 5), .inl (K 0, 40, .inl (fun j => iI (t_5_c j)))), ((t_q 6), .inl (K 0, 40, .inl (fun j => iI (t_6_c j)))), ((t_q 7), .inl (K 0, 40, .inl (fun j => iI (t_7_c j))))]) (wr := [((t_q 1), .inl (K 0, 5, .inl (fun j => iI (t_1_c j)))), ((t_q 2), .inl (K 0, 150, .inl (fun j => iI (t_2_c j))))]) hK hP hD hS hA [4, 0, 1, 2, 3] [5, 6] rfl rfl (by decide) (fun hp => va_runV (C := RX5) (As := [.int (iI 1), .int (iI p1), .int (iI p2), .int (iI kr7)]) (rest := []) ⟨hx, hb, hml, hown, hts⟩ (k_X5_remember (l := l) (D := D) (K := K) (t := t) (p1 := 1) (p2 := p1) (p3 := p2) (p4 := kr7) (t_q := t_q) (t_x0 := t_x0) (t_4_c := t_4_c) (t_5_c := t_5_c) (t_6_c := t_6_c) (t_7_c := t_7_c) (hp1 := (by omega)) (hp2 := (by omega)) (hp3 := (by omega)) (hp4 := (by omega)) (hi_t := hi_t) (hc_t_4 := hc_t_4) (hc_t_5 := hc_t_5) (hc_t_6 := hc_t_6) (hc_t_7 := hc_t_7) (ar := (show AR t_4_c t_5_c t_7_c from by assumption)) (ao := (show ((1 : Int) = 2 ∧ 0 ≤ kr7) ∨ ((1 : Int) ≠ 2 ∧ p1 ≤ 4 ∧ kr7 ≤ 11) from by omega)) _) (cwV 4 hts (fn_ginV (fn_gin wd_722) wd_719 wd_721 wp_32 wd_5) rfl rfl rfl (by decide +kernel) ⟨Nat.le_of_ble_eq_true rfl, Nat.le_of_ble_eq_true rfl⟩) ⟨fn_blind, va_recv hK.1 hP (ci := 5) (q0 := 4) rfl rfl, hp⟩ rfl rfl hl.1 rfl (lv_room (Nat.le_of_ble_eq_true rfl)) dX5_tearOut_10 ⟨Nat.le_of_ble_eq_true rfl, Nat.le_of_ble_eq_true rfl⟩) (fun u10 H locs hwu10 hP hD hS => ?_)
  obtain ⟨u10a, u10b⟩ := u10
  obtain ⟨hqu100, hqu10_ar0, hu10_00, hu10_10, hu10_20, hu10_30, -⟩ := hwu10
  have hqu10 : 0 ≤ (u10a 0) ∧ (u10a 0) ≤ 40 := hqu100
  have hqu10_ar : AR (u10b 0) (u10b 1) (u10b 3) := hqu10_ar0
  have hu10_0 : ∀ j : Nat, 0 ≤ (u10b 0) j ∧ (u10b 0) j ≤ 2 := hu10_00
  have hu10_1 : ∀ j : Nat, 0 ≤ (u10b 1) j ∧ (u10b 1) j ≤ 23 := hu10_10
  have hu10_2 : ∀ j : Nat, 0 ≤ (u10b 2) j ∧ (u10b 2) j ≤ 29 := hu10_20
  have hu10_3 : ∀ j : Nat, (-4) ≤ (u10b 3) j ∧ (u10b 3) j ≤ 29 := hu10_30
  clear hqu100 hqu10_ar0 hu10_00 hu10_10 hu10_20 hu10_30
  have hP : va_P D vwCl [((t_q 1), .inl (K 0, 5, .inl (fun j => iI (t_1_c j)))), ((t_q 2), .inl (K 0, 150, .inl (fun j => iI (t_2_c j)))), (t, .inr (5, oX5 t_q (u10a 0))), ((t_q 4), .inl (K 0, 40, .inl (fun j => iI ((u10b 0) j)))), ((t_q 5), .inl (K 0, 40, .inl (fun j => iI ((u10b 1) j)))), ((t_q 6), .inl (K 0, 40, .inl (fun j => iI ((u10b 2) j)))), ((t_q 7), .inl (K 0, 40, .inl (fun j => iI ((u10b 3) j))))] H := hP
  have hD : va_D A [((t_q 1), .inl (K 0, 5, .inl (fun j => iI (t_1_c j)))), ((t_q 2), .inl (K 0, 150, .inl (fun j => iI (t_2_c j)))), (t, .inr (5, oX5 t_q (u10a 0))), ((t_q 4), .inl (K 0, 40, .inl (fun j => iI ((u10b 0) j)))), ((t_q 5), .inl (K 0, 40, .inl (fun j => iI ((u10b 1) j)))), ((t_q 6), .inl (K 0, 40, .inl (fun j => iI ((u10b 2) j)))), ((t_q 7), .inl (K 0, 40, .inl (fun j => iI ((u10b 3) j))))] := hD
  refine lv_aload_n hx hb dX5_tearOut_13 rfl (lv_at hl 0 rfl) ?_
  refine va_get (D := D) (own := RX5) (ci := 5) (v := .ref (t_q 2)) (C := RX5) (T := TX5) (N := 8) hx hb hts inb_X5 hown hK.1 hP 2 rfl rfl 2 (by decide) (hts _ wd_190) (fun _ h9 => h9) rfl dX5_tearOut_14 ?_
  refine lv_iload_n hx hb dX5_tearOut_17 rfl (lv_at hl 1 rfl) ?_
  refine lv_bipush (v := iI 30) hx hb dX5_tearOut_18 (by decide) ?_
  refine g_imul hx hb dX5_tearOut_20 ?_
  refine lv_iload_n hx hb dX5_tearOut_21 rfl (lv_at hl 2 rfl) ?_
  refine g_iadd hx hb dX5_tearOut_22 ?_
  refine lv_bipush (v := iI (-4)) hx hb dX5_tearOut_23 (by decide) ?_
  refine g_iast hx hb hK.1 hP hD hS 1 0 rfl rfl (by omega) (by omega) (by decide) dX5_tearOut_25 (fun H locs g25 eg25 hP hD hS => ?_)
  have hg25 : ∀ j : Nat, (-4) ≤ g25 j ∧ g25 j ≤ 11 := by rw [eg25]; exact uI_all hc_t_2 (by omega)
  have hP : va_P D vwCl [((t_q 1), .inl (K 0, 5, .inl (fun j => iI (t_1_c j)))), ((t_q 2), .inl (K 0, 150, .inl (fun j => iI (g25 j)))), (t, .inr (5, oX5 t_q (u10a 0))), ((t_q 4), .inl (K 0, 40, .inl (fun j => iI ((u10b 0) j)))), ((t_q 5), .inl (K 0, 40, .inl (fun j => iI ((u10b 1) j)))), ((t_q 6), .inl (K 0, 40, .inl (fun j => iI ((u10b 2) j)))), ((t_q 7), .inl (K 0, 40, .inl (fun j => iI ((u10b 3) j))))] H := hP
  have hD : va_D A [((t_q 1), .inl (K 0, 5, .inl (fun j => iI (t_1_c j)))), ((t_q 2), .inl (K 0, 150, .inl (fun j => iI (g25 j)))), (t, .inr (5, oX5 t_q (u10a 0))), ((t_q 4), .inl (K 0, 40, .inl (fun j => iI ((u10b 0) j)))), ((t_q 5), .inl (K 0, 40, .inl (fun j => iI ((u10b 1) j)))), ((t_q 6), .inl (K 0, 40, .inl (fun j => iI ((u10b 2) j)))), ((t_q 7), .inl (K 0, 40, .inl (fun j => iI ((u10b 3) j))))] := hD
  rw [hQ]; exact fn_vret hx hb hr hlocks hP hD hS ((fun k => ([(u10a 0)] : List Int).getD k 0), (fun k => ([g25, (u10b 0), (u10b 1), (u10b 2), (u10b 3)] : List (Nat → Int)).getD k (fun _ => 0))) ⟨(by show 0 ≤ (u10a 0) ∧ (u10a 0) ≤ 40; omega), (show AR (u10b 0) (u10b 1) (u10b 3) from by assumption), (hg25), (hu10_0), (hu10_1), (hu10_2), (hu10_3), trivial⟩ [2, 0, 1, 3, 4, 5, 6] (by decide) rfl dX5_tearOut_26
theorem dX5_reprint_0 : decode cX5_reprint 0 = .ok (.aload_n 0, 1) := by decide +kernel
theorem dX5_reprint_1 : decode cX5_reprint 1 = .ok (.iconst 2, 1) := by decide +kernel
theorem dX5_reprint_2 : decode cX5_reprint 2 = .ok (.iload_n 1, 1) := by decide +kernel
theorem dX5_reprint_3 : decode cX5_reprint 3 = .ok (.iload_n 2, 1) := by decide +kernel
theorem dX5_reprint_4 : decode cX5_reprint 4 = .ok (.aload_n 0, 1) := by decide +kernel
theorem dX5_reprint_5 : decode cX5_reprint 5 = .ok (.getfield 18, 3) := by decide +kernel
theorem dX5_reprint_8 : decode cX5_reprint 8 = .ok (.iload_n 1, 1) := by decide +kernel
theorem dX5_reprint_9 : decode cX5_reprint 9 = .ok (.iaload, 1) := by decide +kernel
theorem dX5_reprint_10 : decode cX5_reprint 10 = .ok (.invokevirtual 58, 3) := by decide +kernel
theorem dX5_reprint_13 : decode cX5_reprint 13 = .ok (.aload_n 0, 1) := by decide +kernel
theorem dX5_reprint_14 : decode cX5_reprint 14 = .ok (.getfield 18, 3) := by decide +kernel
theorem dX5_reprint_17 : decode cX5_reprint 17 = .ok (.iload_n 1, 1) := by decide +kernel
theorem dX5_reprint_18 : decode cX5_reprint 18 = .ok (.iload_n 2, 1) := by decide +kernel
theorem dX5_reprint_19 : decode cX5_reprint 19 = .ok (.iastore, 1) := by decide +kernel
theorem dX5_reprint_20 : decode cX5_reprint 20 = .ok (.return_, 1) := by decide +kernel
set_option maxHeartbeats 4000000 in
set_option maxRecDepth 100000 in
theorem k_X5_reprint (l : Launch) (D : va_G) (K : Nat → ClassId) (t : Nat) (t_q : Nat → Nat) (p1 p2 t_x0 : Int) (t_3_c : Nat → Int) (t_4_c : Nat → Int) (t_5_c : Nat → Int) (t_6_c : Nat → Int) (t_7_c : Nat → Int) (hp1 : 0 ≤ p1 ∧ p1 ≤ 23) (hp2 : 0 ≤ p2 ∧ p2 ≤ 29) (hi_t : bX5 t_x0) (hc_t_3 : ∀ j : Nat, 0 ≤ t_3_c j ∧ t_3_c j ≤ 29) (hc_t_4 : ∀ j : Nat, 0 ≤ t_4_c j ∧ t_4_c j ≤ 2) (hc_t_5 : ∀ j : Nat, 0 ≤ t_5_c j ∧ t_5_c j ≤ 23) (hc_t_6 : ∀ j : Nat, 0 ≤ t_6_c j ∧ t_6_c j ≤ 29) (hc_t_7 : ∀ j : Nat, (-4) ≤ t_7_c j ∧ t_7_c j ≤ 29) (ar : AR t_4_c t_5_c t_7_c) : fn_CV (S := (Nat → Int) × (Nat → Nat → Int)) l D K yX5_reprint (fn_ws yX5_reprint cX5_reprint 3 none) ({ frames := 8, cells := 0, slots := 0, locals := 200 } : Room) [.ref t, .int (iI p1), .int (iI p2)] [(t, .inr (5, oX5 t_q t_x0)), ((t_q 3), .inl (K 0, 24, .inl (fun j => iI (t_3_c j)))), ((t_q 4), .inl (K 0, 40, .inl (fun j => iI (t_4_c j)))), ((t_q 5), .inl (K 0, 40, .inl (fun j => iI (t_5_c j)))), ((t_q 6), .inl (K 0, 40, .inl (fun j => iI (t_6_c j)))), ((t_q 7), .inl (K 0, 40, .inl (fun j => iI (t_7_c j))))] (fun u => (0 ≤ (u.1 0) ∧ (u.1 0) ≤ 40) ∧ (AR (u.2 1) (u.2 2) (u.2 4)) ∧ (∀ j : Nat, 0 ≤ (u.2 0) j ∧ (u.2 0) j ≤ 29) ∧ (∀ j : Nat, 0 ≤ (u.2 1) j ∧ (u.2 1) j ≤ 2) ∧ (∀ j : Nat, 0 ≤ (u.2 2) j ∧ (u.2 2) j ≤ 23) ∧ (∀ j : Nat, 0 ≤ (u.2 3) j ∧ (u.2 3) j ≤ 29) ∧ (∀ j : Nat, (-4) ≤ (u.2 4) j ∧ (u.2 4) j ≤ 29) ∧ True) (fun u => [(t, .inr (5, oX5 t_q (u.1 0))), ((t_q 3), .inl (K 0, 24, .inl (fun j => iI ((u.2 0) j)))), ((t_q 4), .inl (K 0, 40, .inl (fun j => iI ((u.2 1) j)))), ((t_q 5), .inl (K 0, 40, .inl (fun j => iI ((u.2 2) j)))), ((t_q 6), .inl (K 0, 40, .inl (fun j => iI ((u.2 3) j)))), ((t_q 7), .inl (K 0, 40, .inl (fun j => iI ((u.2 4) j))))]) 0 0 := by
  refine g_inV (cc := cX5_reprint) (maxL := 3) (ret := none) (by decide) rfl (Nat.le_of_ble_eq_true rfl) ?_
  intro p e s m below meth c A ls ag Q B hA hP hD hS hl hQ
  obtain ⟨hx, hb, hr, hml, hts, hown, hlocks, hin, hK⟩ := B
  have hown : s.vm.findClass RX5 = some m.cls := hown
  have hts := fun w h => hts w (List.mem_cons_of_mem _ h)
  have hl : lv_has ls 3 [(0, .ref t), (1, .int (iI p1)), (2, .int (iI p2))] := hl
  refine lv_aload_n hx hb dX5_reprint_0 rfl (lv_at hl 0 rfl) ?_
  refine lv_iconst (v := iI 2) hx hb dX5_reprint_1 rfl ?_
  refine lv_iload_n hx hb dX5_reprint_2 rfl (lv_at hl 1 rfl) ?_
  refine lv_iload_n hx hb dX5_reprint_3 rfl (lv_at hl 2 rfl) ?_
  refine lv_aload_n hx hb dX5_reprint_4 rfl (lv_at hl 0 rfl) ?_
  refine va_get (D := D) (own := RX5) (ci := 5) (v := .ref (t_q 3)) (C := RX5) (T := TX5) (N := 8) hx hb hts inb_X5 hown hK.1 hP 0 rfl rfl 3 (by decide) (hts _ wd_191) (fun _ h9 => h9) rfl dX5_reprint_5 ?_
  refine lv_iload_n hx hb dX5_reprint_8 rfl (lv_at hl 1 rfl) ?_
  refine g_iald hx hb hK.1 hP 1 0 rfl rfl (by omega) (by omega) (by decide) dX5_reprint_9 ?_
  have y9 : 0 ≤ (t_3_c p1.toNat) ∧ (t_3_c p1.toNat) ≤ 29 := hc_t_3 p1.toNat
  refine fn_gov (wc := [(t, .inr (5, oX5 t_q t_x0)), ((t_q 4), .inl (K 0, 40, .inl (fun j => iI (t_4_c j)))), ((t_q 5), .inl (K 0, 40, .inl (fun j => iI (t_5_c j)))), ((t_q 6), .inl (K 0, 40, .inl (fun j => iI (t_6_c j)))), ((t_q 7), .inl (K 0, 40, .inl (fun j => iI (t_7_c j))))]) (wr := [((t_q 3), .inl (K 0, 24, .inl (fun j => iI (t_3_c j))))]) hK hP hD hS hA [0, 2, 3, 4, 5] [1] rfl rfl (by decide) (fun hp => va_runV (C := RX5) (As := [.int (iI 2), .int (iI p1), .int (iI p2), .int (iI (t_3_c p1.toNat))]) (rest := []) ⟨hx, hb, hml, hown, hts⟩ (k_X5_remember (l := l) (D := D) (K := K) (t := t) (p1 := 2) (p2 := p1) (p3 := p2) (p4 := (t_3_c p1.toNat)) (t_q := t_q) (t_x0 := t_x0) (t_4_c := t_4_c) (t_5_c := t_5_c) (t_6_c := t_6_c) (t_7_c := t_7_c) (hp1 := (by omega)) (hp2 := (by omega)) (hp3 := (by omega)) (hp4 := (by omega)) (hi_t := hi_t) (hc_t_4 := hc_t_4) (hc_t_5 := hc_t_5) (hc_t_6 := hc_t_6) (hc_t_7 := hc_t_7) (ar := (show AR t_4_c t_5_c t_7_c from by assumption)) (ao := (show ((2 : Int) = 2 ∧ 0 ≤ (t_3_c p1.toNat)) ∨ ((2 : Int) ≠ 2 ∧ p1 ≤ 4 ∧ (t_3_c p1.toNat) ≤ 11) from by omega)) _) (cwV 4 hts (fn_ginV (fn_gin wd_722) wd_719 wd_721 wp_32 wd_5) rfl rfl rfl (by decide +kernel) ⟨Nat.le_of_ble_eq_true rfl, Nat.le_of_ble_eq_true rfl⟩) ⟨fn_blind, va_recv hK.1 hP (ci := 5) (q0 := 0) rfl rfl, hp⟩ rfl rfl hl.1 rfl (lv_room (Nat.le_of_ble_eq_true rfl)) dX5_reprint_10 ⟨Nat.le_of_ble_eq_true rfl, Nat.le_of_ble_eq_true rfl⟩) (fun u10 H locs hwu10 hP hD hS => ?_)
  obtain ⟨u10a, u10b⟩ := u10
  obtain ⟨hqu100, hqu10_ar0, hu10_00, hu10_10, hu10_20, hu10_30, -⟩ := hwu10
  have hqu10 : 0 ≤ (u10a 0) ∧ (u10a 0) ≤ 40 := hqu100
  have hqu10_ar : AR (u10b 0) (u10b 1) (u10b 3) := hqu10_ar0
  have hu10_0 : ∀ j : Nat, 0 ≤ (u10b 0) j ∧ (u10b 0) j ≤ 2 := hu10_00
  have hu10_1 : ∀ j : Nat, 0 ≤ (u10b 1) j ∧ (u10b 1) j ≤ 23 := hu10_10
  have hu10_2 : ∀ j : Nat, 0 ≤ (u10b 2) j ∧ (u10b 2) j ≤ 29 := hu10_20
  have hu10_3 : ∀ j : Nat, (-4) ≤ (u10b 3) j ∧ (u10b 3) j ≤ 29 := hu10_30
  clear hqu100 hqu10_ar0 hu10_00 hu10_10 hu10_20 hu10_30
  have hP : va_P D vwCl [((t_q 3), .inl (K 0, 24, .inl (fun j => iI (t_3_c j)))), (t, .inr (5, oX5 t_q (u10a 0))), ((t_q 4), .inl (K 0, 40, .inl (fun j => iI ((u10b 0) j)))), ((t_q 5), .inl (K 0, 40, .inl (fun j => iI ((u10b 1) j)))), ((t_q 6), .inl (K 0, 40, .inl (fun j => iI ((u10b 2) j)))), ((t_q 7), .inl (K 0, 40, .inl (fun j => iI ((u10b 3) j))))] H := hP
  have hD : va_D A [((t_q 3), .inl (K 0, 24, .inl (fun j => iI (t_3_c j)))), (t, .inr (5, oX5 t_q (u10a 0))), ((t_q 4), .inl (K 0, 40, .inl (fun j => iI ((u10b 0) j)))), ((t_q 5), .inl (K 0, 40, .inl (fun j => iI ((u10b 1) j)))), ((t_q 6), .inl (K 0, 40, .inl (fun j => iI ((u10b 2) j)))), ((t_q 7), .inl (K 0, 40, .inl (fun j => iI ((u10b 3) j))))] := hD
  refine lv_aload_n hx hb dX5_reprint_13 rfl (lv_at hl 0 rfl) ?_
  refine va_get (D := D) (own := RX5) (ci := 5) (v := .ref (t_q 3)) (C := RX5) (T := TX5) (N := 8) hx hb hts inb_X5 hown hK.1 hP 1 rfl rfl 3 (by decide) (hts _ wd_191) (fun _ h9 => h9) rfl dX5_reprint_14 ?_
  refine lv_iload_n hx hb dX5_reprint_17 rfl (lv_at hl 1 rfl) ?_
  refine lv_iload_n hx hb dX5_reprint_18 rfl (lv_at hl 2 rfl) ?_
  refine g_iast hx hb hK.1 hP hD hS 0 0 rfl rfl (by omega) (by omega) (by decide) dX5_reprint_19 (fun H locs g19 eg19 hP hD hS => ?_)
  have hg19 : ∀ j : Nat, 0 ≤ g19 j ∧ g19 j ≤ 29 := by rw [eg19]; exact uI_all hc_t_3 (by omega)
  have hP : va_P D vwCl [((t_q 3), .inl (K 0, 24, .inl (fun j => iI (g19 j)))), (t, .inr (5, oX5 t_q (u10a 0))), ((t_q 4), .inl (K 0, 40, .inl (fun j => iI ((u10b 0) j)))), ((t_q 5), .inl (K 0, 40, .inl (fun j => iI ((u10b 1) j)))), ((t_q 6), .inl (K 0, 40, .inl (fun j => iI ((u10b 2) j)))), ((t_q 7), .inl (K 0, 40, .inl (fun j => iI ((u10b 3) j))))] H := hP
  have hD : va_D A [((t_q 3), .inl (K 0, 24, .inl (fun j => iI (g19 j)))), (t, .inr (5, oX5 t_q (u10a 0))), ((t_q 4), .inl (K 0, 40, .inl (fun j => iI ((u10b 0) j)))), ((t_q 5), .inl (K 0, 40, .inl (fun j => iI ((u10b 1) j)))), ((t_q 6), .inl (K 0, 40, .inl (fun j => iI ((u10b 2) j)))), ((t_q 7), .inl (K 0, 40, .inl (fun j => iI ((u10b 3) j))))] := hD
  rw [hQ]; exact fn_vret hx hb hr hlocks hP hD hS ((fun k => ([(u10a 0)] : List Int).getD k 0), (fun k => ([g19, (u10b 0), (u10b 1), (u10b 2), (u10b 3)] : List (Nat → Int)).getD k (fun _ => 0))) ⟨(by show 0 ≤ (u10a 0) ∧ (u10a 0) ≤ 40; omega), (show AR (u10b 0) (u10b 1) (u10b 3) from by assumption), (hg19), (hu10_0), (hu10_1), (hu10_2), (hu10_3), trivial⟩ [1, 0, 2, 3, 4, 5] (by decide) rfl dX5_reprint_20
theorem dX5_takeOutLeaf_18 : decode cX5_takeOutLeaf 18 = .ok (.iload 4, 2) := by decide +kernel
theorem dX5_takeOutLeaf_20 : decode cX5_takeOutLeaf 20 = .ok (.aload_n 0, 1) := by decide +kernel
theorem dX5_takeOutLeaf_21 : decode cX5_takeOutLeaf 21 = .ok (.getfield 9, 3) := by decide +kernel
theorem dX5_takeOutLeaf_24 : decode cX5_takeOutLeaf 24 = .ok (.iload_n 1, 1) := by decide +kernel
theorem dX5_takeOutLeaf_25 : decode cX5_takeOutLeaf 25 = .ok (.iaload, 1) := by decide +kernel
theorem dX5_takeOutLeaf_26 : decode cX5_takeOutLeaf 26 = .ok (.if_icmp .ge 29, 3) := by decide +kernel
theorem dX5_takeOutLeaf_55 : decode cX5_takeOutLeaf 55 = .ok (.return_, 1) := by decide +kernel
theorem dX5_takeOutLeaf_29 : decode cX5_takeOutLeaf 29 = .ok (.aload_n 0, 1) := by decide +kernel
theorem dX5_takeOutLeaf_30 : decode cX5_takeOutLeaf 30 = .ok (.getfield 15, 3) := by decide +kernel
theorem dX5_takeOutLeaf_33 : decode cX5_takeOutLeaf 33 = .ok (.iload_n 3, 1) := by decide +kernel
theorem dX5_takeOutLeaf_34 : decode cX5_takeOutLeaf 34 = .ok (.iload 4, 2) := by decide +kernel
theorem dX5_takeOutLeaf_36 : decode cX5_takeOutLeaf 36 = .ok (.iadd, 1) := by decide +kernel
theorem dX5_takeOutLeaf_37 : decode cX5_takeOutLeaf 37 = .ok (.aload_n 0, 1) := by decide +kernel
theorem dX5_takeOutLeaf_38 : decode cX5_takeOutLeaf 38 = .ok (.getfield 15, 3) := by decide +kernel
theorem dX5_takeOutLeaf_41 : decode cX5_takeOutLeaf 41 = .ok (.iload_n 3, 1) := by decide +kernel
theorem dX5_takeOutLeaf_42 : decode cX5_takeOutLeaf 42 = .ok (.iload 4, 2) := by decide +kernel
theorem dX5_takeOutLeaf_44 : decode cX5_takeOutLeaf 44 = .ok (.iadd, 1) := by decide +kernel
theorem dX5_takeOutLeaf_45 : decode cX5_takeOutLeaf 45 = .ok (.iconst 1, 1) := by decide +kernel
theorem dX5_takeOutLeaf_46 : decode cX5_takeOutLeaf 46 = .ok (.iadd, 1) := by decide +kernel
theorem dX5_takeOutLeaf_47 : decode cX5_takeOutLeaf 47 = .ok (.iaload, 1) := by decide +kernel
theorem dX5_takeOutLeaf_48 : decode cX5_takeOutLeaf 48 = .ok (.iastore, 1) := by decide +kernel
theorem dX5_takeOutLeaf_49 : decode cX5_takeOutLeaf 49 = .ok (.iinc 4 1, 3) := by decide +kernel
theorem dX5_takeOutLeaf_52 : decode cX5_takeOutLeaf 52 = .ok (.goto (-34), 3) := by decide +kernel
theorem dX5_takeOutLeaf_0 : decode cX5_takeOutLeaf 0 = .ok (.iload_n 1, 1) := by decide +kernel
theorem dX5_takeOutLeaf_1 : decode cX5_takeOutLeaf 1 = .ok (.bipush 30, 2) := by decide +kernel
theorem dX5_takeOutLeaf_3 : decode cX5_takeOutLeaf 3 = .ok (.imul, 1) := by decide +kernel
theorem dX5_takeOutLeaf_4 : decode cX5_takeOutLeaf 4 = .ok (.istore_n 3, 1) := by decide +kernel
theorem dX5_takeOutLeaf_5 : decode cX5_takeOutLeaf 5 = .ok (.aload_n 0, 1) := by decide +kernel
theorem dX5_takeOutLeaf_6 : decode cX5_takeOutLeaf 6 = .ok (.getfield 9, 3) := by decide +kernel
theorem dX5_takeOutLeaf_9 : decode cX5_takeOutLeaf 9 = .ok (.iload_n 1, 1) := by decide +kernel
theorem dX5_takeOutLeaf_10 : decode cX5_takeOutLeaf 10 = .ok (.dup2, 1) := by decide +kernel
theorem dX5_takeOutLeaf_11 : decode cX5_takeOutLeaf 11 = .ok (.iaload, 1) := by decide +kernel
theorem dX5_takeOutLeaf_12 : decode cX5_takeOutLeaf 12 = .ok (.iconst 1, 1) := by decide +kernel
theorem dX5_takeOutLeaf_13 : decode cX5_takeOutLeaf 13 = .ok (.isub, 1) := by decide +kernel
theorem dX5_takeOutLeaf_14 : decode cX5_takeOutLeaf 14 = .ok (.iastore, 1) := by decide +kernel
theorem dX5_takeOutLeaf_15 : decode cX5_takeOutLeaf 15 = .ok (.iload_n 2, 1) := by decide +kernel
theorem dX5_takeOutLeaf_16 : decode cX5_takeOutLeaf 16 = .ok (.istore 4, 2) := by decide +kernel
set_option maxHeartbeats 4000000 in
set_option maxRecDepth 100000 in
theorem k_X5_takeOutLeaf (l : Launch) (D : va_G) (K : Nat → ClassId) (t : Nat) (t_q : Nat → Nat) (p1 p2 t_x0 : Int) (t_1_c : Nat → Int) (t_2_c : Nat → Int) (hp1 : 0 ≤ p1 ∧ p1 ≤ 4) (hp2 : 0 ≤ p2 ∧ p2 ≤ 29) (hi_t : bX5 t_x0) (hc_t_1 : ∀ j : Nat, (-999) ≤ t_1_c j ∧ t_1_c j ≤ 30) (hc_t_2 : ∀ j : Nat, (-4) ≤ t_2_c j ∧ t_2_c j ≤ 11) : fn_CV (S := (Nat → Int) × (Nat → Nat → Int)) l D K yX5_takeOutLeaf (fn_ws yX5_takeOutLeaf cX5_takeOutLeaf 5 none) ({ frames := 4, cells := 0, slots := 0, locals := 100 } : Room) [.ref t, .int (iI p1), .int (iI p2)] [(t, .inr (5, oX5 t_q t_x0)), ((t_q 1), .inl (K 0, 5, .inl (fun j => iI (t_1_c j)))), ((t_q 2), .inl (K 0, 150, .inl (fun j => iI (t_2_c j))))] (fun u => (∀ j : Nat, t_1_c j - 1 ≤ (u.2 0) j) ∧ (∀ j : Nat, (-1000) ≤ (u.2 0) j ∧ (u.2 0) j ≤ 30) ∧ (∀ j : Nat, (-4) ≤ (u.2 1) j ∧ (u.2 1) j ≤ 11) ∧ True) (fun u => [(t, .inr (5, oX5 t_q t_x0)), ((t_q 1), .inl (K 0, 5, .inl (fun j => iI ((u.2 0) j)))), ((t_q 2), .inl (K 0, 150, .inl (fun j => iI ((u.2 1) j))))]) 0 0 := by
  refine g_inV (cc := cX5_takeOutLeaf) (maxL := 5) (ret := none) (by decide) rfl (Nat.le_of_ble_eq_true rfl) ?_
  intro p e s m below meth c A ls ag Q B hA hP hD hS hl hQ
  obtain ⟨hx, hb, hr, hml, hts, hown, hlocks, hin, hK⟩ := B
  have hown : s.vm.findClass RX5 = some m.cls := hown
  have hts := fun w h => hts w (List.mem_cons_of_mem _ h)
  have J18 : ∀ (n : Nat) (x18_3 : Int) (x18_4 : Int) (c18_t_1 : Nat → Int) (c18_t_2 : Nat → Int) (H : Heap) (locs : List Loc) (ls : Array Slot), (30 - x18_4).toNat < n → (0 ≤ x18_3 ∧ x18_3 ≤ 120 ∧ 0 ≤ x18_4 ∧ x18_4 ≤ 30 ∧ c18_t_1 (Int.toNat p1) ≤ 29) → (∀ j : Nat, t_1_c j - 1 ≤ c18_t_1 j) → (∀ j : Nat, (-1000) ≤ c18_t_1 j ∧ c18_t_1 j ≤ 30) → (∀ j : Nat, (-4) ≤ c18_t_2 j ∧ c18_t_2 j ≤ 11) → va_P D vwCl [(t, .inr (5, oX5 t_q t_x0)), ((t_q 1), .inl (K 0, 5, .inl (fun j => iI (c18_t_1 j)))), ((t_q 2), .inl (K 0, 150, .inl (fun j => iI (c18_t_2 j))))] H → va_D A [(t, .inr (5, oX5 t_q t_x0)), ((t_q 1), .inl (K 0, 5, .inl (fun j => iI (c18_t_1 j)))), ((t_q 2), .inl (K 0, 150, .inl (fun j => iI (c18_t_2 j))))] → va_S A s.heap H locs → lv_has ls 5 [(0, .ref t), (1, .int (iI p1)), (2, .int (iI p2)), (3, .int (iI x18_3)), (4, .int (iI x18_4))] → W p l e ({ frames := 4, cells := 0, slots := 0, locals := 100 } : Room) s m ag below meth c H locs 0 0 Q (F0 m 18 ls []) := by
    intro n
    induction n with
    | zero =>
      intro x18_3 x18_4 c18_t_1 c18_t_2 H locs ls hm18 hf18 lb hc18_t_1 hc18_t_2 hP hD hS hl
      exact absurd hm18 (Nat.not_lt_zero _)
    | succ n ih18 =>
      intro x18_3 x18_4 c18_t_1 c18_t_2 H locs ls hm18 hf18 lb hc18_t_1 hc18_t_2 hP hD hS hl
      refine lv_iload hx hb dX5_takeOutLeaf_18 (lv_at hl 4 rfl) ?_
      refine lv_aload_n hx hb dX5_takeOutLeaf_20 rfl (lv_at hl 0 rfl) ?_
      refine va_get (D := D) (own := RX5) (ci := 5) (v := .ref (t_q 1)) (C := RX5) (T := TX5) (N := 8) hx hb hts inb_X5 hown hK.1 hP 0 rfl rfl 1 (by decide) (hts _ wd_186) (fun _ h9 => h9) rfl dX5_takeOutLeaf_21 ?_
      refine lv_iload_n hx hb dX5_takeOutLeaf_24 rfl (lv_at hl 1 rfl) ?_
      refine g_iald hx hb hK.1 hP 1 0 rfl rfl (by omega) (by omega) (by decide) dX5_takeOutLeaf_25 ?_
      have y25 : (-1000) ≤ (c18_t_1 p1.toNat) ∧ (c18_t_1 p1.toNat) ≤ 30 := hc18_t_1 p1.toNat
      refine g_icmp_ge (tgt := 55) hx hb (by omega) (by omega) dX5_takeOutLeaf_26 (by decide) (fun c26 => ?_) (fun c26 => ?_)
      · rw [hQ]; exact fn_vret hx hb hr hlocks hP hD hS ((fun _ => 0), (fun k => ([c18_t_1, c18_t_2] : List (Nat → Int)).getD k (fun _ => 0))) ⟨(show ∀ j : Nat, t_1_c j - 1 ≤ c18_t_1 j from by assumption), (hc18_t_1), (hc18_t_2), trivial⟩ [0, 1, 2] (by decide) rfl dX5_takeOutLeaf_55
      · refine lv_aload_n hx hb dX5_takeOutLeaf_29 rfl (lv_at hl 0 rfl) ?_
        refine va_get (D := D) (own := RX5) (ci := 5) (v := .ref (t_q 2)) (C := RX5) (T := TX5) (N := 8) hx hb hts inb_X5 hown hK.1 hP 0 rfl rfl 2 (by decide) (hts _ wd_190) (fun _ h9 => h9) rfl dX5_takeOutLeaf_30 ?_
        refine lv_iload_n hx hb dX5_takeOutLeaf_33 rfl (lv_at hl 3 rfl) ?_
        refine lv_iload hx hb dX5_takeOutLeaf_34 (lv_at hl 4 rfl) ?_
        refine g_iadd hx hb dX5_takeOutLeaf_36 ?_
        refine lv_aload_n hx hb dX5_takeOutLeaf_37 rfl (lv_at hl 0 rfl) ?_
        refine va_get (D := D) (own := RX5) (ci := 5) (v := .ref (t_q 2)) (C := RX5) (T := TX5) (N := 8) hx hb hts inb_X5 hown hK.1 hP 0 rfl rfl 2 (by decide) (hts _ wd_190) (fun _ h9 => h9) rfl dX5_takeOutLeaf_38 ?_
        refine lv_iload_n hx hb dX5_takeOutLeaf_41 rfl (lv_at hl 3 rfl) ?_
        refine lv_iload hx hb dX5_takeOutLeaf_42 (lv_at hl 4 rfl) ?_
        refine g_iadd hx hb dX5_takeOutLeaf_44 ?_
        refine lv_iconst (v := iI 1) hx hb dX5_takeOutLeaf_45 rfl ?_
        refine g_iadd hx hb dX5_takeOutLeaf_46 ?_
        refine g_iald hx hb hK.1 hP 2 0 rfl rfl (by omega) (by omega) (by decide) dX5_takeOutLeaf_47 ?_
        have y47 : (-4) ≤ (c18_t_2 ((x18_3 + x18_4 + 1).toNat)) ∧ (c18_t_2 ((x18_3 + x18_4 + 1).toNat)) ≤ 11 := hc18_t_2 ((x18_3 + x18_4 + 1).toNat)
        refine fn_at 48 rfl ?_
        refine g_iast hx hb hK.1 hP hD hS 2 0 rfl rfl (by omega) (by omega) (by decide) dX5_takeOutLeaf_48 (fun H locs g48 eg48 hP hD hS => ?_)
        have hg48 : ∀ j : Nat, (-4) ≤ g48 j ∧ g48 j ≤ 11 := by rw [eg48]; exact uI_all hc18_t_2 (by omega)
        have hP : va_P D vwCl [(t, .inr (5, oX5 t_q t_x0)), ((t_q 1), .inl (K 0, 5, .inl (fun j => iI (c18_t_1 j)))), ((t_q 2), .inl (K 0, 150, .inl (fun j => iI (g48 j))))] H := hP
        have hD : va_D A [(t, .inr (5, oX5 t_q t_x0)), ((t_q 1), .inl (K 0, 5, .inl (fun j => iI (c18_t_1 j)))), ((t_q 2), .inl (K 0, 150, .inl (fun j => iI (g48 j))))] := hD
        refine lv_iinc (v := iI (x18_4 + 1)) (lv' := [(4, .int (iI (x18_4 + 1))), (0, .ref t), (1, .int (iI p1)), (2, .int (iI p2)), (3, .int (iI x18_3))]) hx hb dX5_takeOutLeaf_49 hl (k := 4) rfl (iI_add _ _) (by decide) rfl (fun ls hl => ?_)
        refine lv_goto (tgt := 18) hx hb dX5_takeOutLeaf_52 (by decide) ?_
        exact ih18 x18_3 (x18_4 + 1) c18_t_1 g48 _ _ ls (by omega) (by omega) (show ∀ j : Nat, t_1_c j - 1 ≤ c18_t_1 j from by assumption) hc18_t_1 hg48 (hP.sub [0, 1, 2] rfl) (hD.sub [0, 1, 2] (by decide) rfl) hS (lv_sub hl [1, 2, 3, 4, 0] rfl)
  have hl : lv_has ls 5 [(0, .ref t), (1, .int (iI p1)), (2, .int (iI p2))] := hl
  refine lv_iload_n hx hb dX5_takeOutLeaf_0 rfl (lv_at hl 1 rfl) ?_
  refine lv_bipush (v := iI 30) hx hb dX5_takeOutLeaf_1 (by decide) ?_
  refine g_imul hx hb dX5_takeOutLeaf_3 ?_
  refine lv_istore_n (lv' := [(3, .int (iI (p1 * 30))), (0, .ref t), (1, .int (iI p1)), (2, .int (iI p2))]) hx hb dX5_takeOutLeaf_4 rfl hl (by decide) rfl (fun ls hl => ?_)
  refine lv_aload_n hx hb dX5_takeOutLeaf_5 rfl (lv_at hl 1 rfl) ?_
  refine va_get (D := D) (own := RX5) (ci := 5) (v := .ref (t_q 1)) (C := RX5) (T := TX5) (N := 8) hx hb hts inb_X5 hown hK.1 hP 0 rfl rfl 1 (by decide) (hts _ wd_186) (fun _ h9 => h9) rfl dX5_takeOutLeaf_6 ?_
  refine lv_iload_n hx hb dX5_takeOutLeaf_9 rfl (lv_at hl 2 rfl) ?_
  refine lv_dup2_11 hx hb dX5_takeOutLeaf_10 rfl rfl ?_
  refine g_iald hx hb hK.1 hP 1 0 rfl rfl (by omega) (by omega) (by decide) dX5_takeOutLeaf_11 ?_
  have y11 : (-999) ≤ (t_1_c p1.toNat) ∧ (t_1_c p1.toNat) ≤ 30 := hc_t_1 p1.toNat
  refine lv_iconst (v := iI 1) hx hb dX5_takeOutLeaf_12 rfl ?_
  refine g_isub hx hb dX5_takeOutLeaf_13 ?_
  refine g_iast hx hb hK.1 hP hD hS 1 0 rfl rfl (by omega) (by omega) (by decide) dX5_takeOutLeaf_14 (fun H locs g14 eg14 hP hD hS => ?_)
  have hg14 : ∀ j : Nat, (-1000) ≤ g14 j ∧ g14 j ≤ 30 := by rw [eg14]; exact uI_all (fun j => by have h9 := hc_t_1 j; omega) (by omega)
  have hP : va_P D vwCl [(t, .inr (5, oX5 t_q t_x0)), ((t_q 1), .inl (K 0, 5, .inl (fun j => iI (g14 j)))), ((t_q 2), .inl (K 0, 150, .inl (fun j => iI (t_2_c j))))] H := hP
  have hD : va_D A [(t, .inr (5, oX5 t_q t_x0)), ((t_q 1), .inl (K 0, 5, .inl (fun j => iI (g14 j)))), ((t_q 2), .inl (K 0, 150, .inl (fun j => iI (t_2_c j))))] := hD
  have z15 := congrFun eg14 (Int.toNat p1)
  rw [uI_s] at z15
  refine lv_iload_n hx hb dX5_takeOutLeaf_15 rfl (lv_at hl 3 rfl) ?_
  refine lv_istore (lv' := [(4, .int (iI p2)), (3, .int (iI (p1 * 30))), (0, .ref t), (1, .int (iI p1)), (2, .int (iI p2))]) hx hb dX5_takeOutLeaf_16 hl (by decide) rfl (fun ls hl => ?_)
  exact J18 _ (p1 * 30) p2 g14 t_2_c _ _ ls (Nat.lt_succ_self _) (by omega) (show ∀ j : Nat, t_1_c j - 1 ≤ g14 j from fun j => by rw [eg14]; exact uI_dec j) hg14 hc_t_2 (hP.sub [0, 1, 2] rfl) (hD.sub [0, 1, 2] (by decide) rfl) hS (lv_sub hl [2, 3, 4, 1, 0] rfl)
theorem wd_751 : Cond.code ⟨"FootNotes$Shelf", "takeOutLeaf", "(II)V"⟩ prog_7_method_10_code 5 (Option.none : Option Jvm.ClassFile.FieldType) ∈ fn_big := fn_tb (fn_l4 (List.mem_of_getElem? (i := 31) (by decide +kernel))) (by decide +kernel)
theorem wd_748 : Cond.methodLink "FootNotes$Shelf" 66 ⟨"FootNotes$Shelf", "takeOutLeaf", "(II)V"⟩ ∈ fn_big := fn_tb (fn_l4 (List.mem_of_getElem? (i := 28) (by decide +kernel))) (by decide +kernel)
theorem wd_750 : Cond.instanceMethod ⟨"FootNotes$Shelf", "takeOutLeaf", "(II)V"⟩ ∈ fn_big := fn_tb (fn_l4 (List.mem_of_getElem? (i := 30) (by decide +kernel))) (by decide +kernel)
theorem wp_36 : Cond.selects "FootNotes$Shelf" ⟨"FootNotes$Shelf", "takeOutLeaf", "(II)V"⟩ ⟨"FootNotes$Shelf", "takeOutLeaf", "(II)V"⟩ ∈ fn_big := fn_sel (q := (⟨"FootNotes$Shelf", "takeOutLeaf", "(II)V"⟩, 8)) 36 (by decide +kernel) (by decide +kernel)
theorem dX5_takeBack_0 : decode cX5_takeBack 0 = .ok (.aload_n 0, 1) := by decide +kernel
theorem dX5_takeBack_1 : decode cX5_takeBack 1 = .ok (.getfield 33, 3) := by decide +kernel
theorem dX5_takeBack_4 : decode cX5_takeBack 4 = .ok (.ifCond .ne 4, 3) := by decide +kernel
theorem dX5_takeBack_8 : decode cX5_takeBack 8 = .ok (.aload_n 0, 1) := by decide +kernel
theorem dX5_takeBack_9 : decode cX5_takeBack 9 = .ok (.dup, 1) := by decide +kernel
theorem dX5_takeBack_10 : decode cX5_takeBack 10 = .ok (.getfield 33, 3) := by decide +kernel
theorem dX5_takeBack_13 : decode cX5_takeBack 13 = .ok (.iconst 1, 1) := by decide +kernel
theorem dX5_takeBack_14 : decode cX5_takeBack 14 = .ok (.isub, 1) := by decide +kernel
theorem dX5_takeBack_15 : decode cX5_takeBack 15 = .ok (.putfield 33, 3) := by decide +kernel
theorem dX5_takeBack_18 : decode cX5_takeBack 18 = .ok (.aload_n 0, 1) := by decide +kernel
theorem dX5_takeBack_19 : decode cX5_takeBack 19 = .ok (.getfield 24, 3) := by decide +kernel
theorem dX5_takeBack_22 : decode cX5_takeBack 22 = .ok (.aload_n 0, 1) := by decide +kernel
theorem dX5_takeBack_23 : decode cX5_takeBack 23 = .ok (.getfield 33, 3) := by decide +kernel
theorem dX5_takeBack_26 : decode cX5_takeBack 26 = .ok (.iaload, 1) := by decide +kernel
theorem dX5_takeBack_27 : decode cX5_takeBack 27 = .ok (.istore_n 1, 1) := by decide +kernel
theorem dX5_takeBack_28 : decode cX5_takeBack 28 = .ok (.aload_n 0, 1) := by decide +kernel
theorem dX5_takeBack_29 : decode cX5_takeBack 29 = .ok (.getfield 21, 3) := by decide +kernel
theorem dX5_takeBack_32 : decode cX5_takeBack 32 = .ok (.aload_n 0, 1) := by decide +kernel
theorem dX5_takeBack_33 : decode cX5_takeBack 33 = .ok (.getfield 33, 3) := by decide +kernel
theorem dX5_takeBack_36 : decode cX5_takeBack 36 = .ok (.iaload, 1) := by decide +kernel
theorem dX5_takeBack_37 : decode cX5_takeBack 37 = .ok (.iconst 2, 1) := by decide +kernel
theorem dX5_takeBack_38 : decode cX5_takeBack 38 = .ok (.if_icmp .ne 21, 3) := by decide +kernel
theorem dX5_takeBack_59 : decode cX5_takeBack 59 = .ok (.aload_n 0, 1) := by decide +kernel
theorem dX5_takeBack_60 : decode cX5_takeBack 60 = .ok (.getfield 21, 3) := by decide +kernel
theorem dX5_takeBack_63 : decode cX5_takeBack 63 = .ok (.aload_n 0, 1) := by decide +kernel
theorem dX5_takeBack_64 : decode cX5_takeBack 64 = .ok (.getfield 33, 3) := by decide +kernel
theorem dX5_takeBack_67 : decode cX5_takeBack 67 = .ok (.iaload, 1) := by decide +kernel
theorem dX5_takeBack_68 : decode cX5_takeBack 68 = .ok (.iconst 1, 1) := by decide +kernel
theorem dX5_takeBack_69 : decode cX5_takeBack 69 = .ok (.if_icmp .ne 34, 3) := by decide +kernel
theorem dX5_takeBack_103 : decode cX5_takeBack 103 = .ok (.aload_n 0, 1) := by decide +kernel
theorem dX5_takeBack_104 : decode cX5_takeBack 104 = .ok (.iload_n 1, 1) := by decide +kernel
theorem dX5_takeBack_105 : decode cX5_takeBack 105 = .ok (.aload_n 0, 1) := by decide +kernel
theorem dX5_takeBack_106 : decode cX5_takeBack 106 = .ok (.getfield 27, 3) := by decide +kernel
theorem dX5_takeBack_109 : decode cX5_takeBack 109 = .ok (.aload_n 0, 1) := by decide +kernel
theorem dX5_takeBack_110 : decode cX5_takeBack 110 = .ok (.getfield 33, 3) := by decide +kernel
theorem dX5_takeBack_113 : decode cX5_takeBack 113 = .ok (.iaload, 1) := by decide +kernel
theorem dX5_takeBack_114 : decode cX5_takeBack 114 = .ok (.invokevirtual 66, 3) := by decide +kernel
theorem dX5_takeBack_117 : decode cX5_takeBack 117 = .ok (.return_, 1) := by decide +kernel
theorem dX5_takeBack_72 : decode cX5_takeBack 72 = .ok (.aload_n 0, 1) := by decide +kernel
theorem dX5_takeBack_73 : decode cX5_takeBack 73 = .ok (.getfield 15, 3) := by decide +kernel
theorem dX5_takeBack_76 : decode cX5_takeBack 76 = .ok (.iload_n 1, 1) := by decide +kernel
theorem dX5_takeBack_77 : decode cX5_takeBack 77 = .ok (.bipush 30, 2) := by decide +kernel
theorem dX5_takeBack_79 : decode cX5_takeBack 79 = .ok (.imul, 1) := by decide +kernel
theorem dX5_takeBack_80 : decode cX5_takeBack 80 = .ok (.aload_n 0, 1) := by decide +kernel
theorem dX5_takeBack_81 : decode cX5_takeBack 81 = .ok (.getfield 27, 3) := by decide +kernel
theorem dX5_takeBack_84 : decode cX5_takeBack 84 = .ok (.aload_n 0, 1) := by decide +kernel
theorem dX5_takeBack_85 : decode cX5_takeBack 85 = .ok (.getfield 33, 3) := by decide +kernel
theorem dX5_takeBack_88 : decode cX5_takeBack 88 = .ok (.iaload, 1) := by decide +kernel
theorem dX5_takeBack_89 : decode cX5_takeBack 89 = .ok (.iadd, 1) := by decide +kernel
theorem dX5_takeBack_90 : decode cX5_takeBack 90 = .ok (.aload_n 0, 1) := by decide +kernel
theorem dX5_takeBack_91 : decode cX5_takeBack 91 = .ok (.getfield 30, 3) := by decide +kernel
theorem dX5_takeBack_94 : decode cX5_takeBack 94 = .ok (.aload_n 0, 1) := by decide +kernel
theorem dX5_takeBack_95 : decode cX5_takeBack 95 = .ok (.getfield 33, 3) := by decide +kernel
theorem dX5_takeBack_98 : decode cX5_takeBack 98 = .ok (.iaload, 1) := by decide +kernel
theorem dX5_takeBack_99 : decode cX5_takeBack 99 = .ok (.iastore, 1) := by decide +kernel
theorem dX5_takeBack_100 : decode cX5_takeBack 100 = .ok (.goto 17, 3) := by decide +kernel
theorem dX5_takeBack_41 : decode cX5_takeBack 41 = .ok (.aload_n 0, 1) := by decide +kernel
theorem dX5_takeBack_42 : decode cX5_takeBack 42 = .ok (.getfield 18, 3) := by decide +kernel
theorem dX5_takeBack_45 : decode cX5_takeBack 45 = .ok (.iload_n 1, 1) := by decide +kernel
theorem dX5_takeBack_46 : decode cX5_takeBack 46 = .ok (.aload_n 0, 1) := by decide +kernel
theorem dX5_takeBack_47 : decode cX5_takeBack 47 = .ok (.getfield 30, 3) := by decide +kernel
theorem dX5_takeBack_50 : decode cX5_takeBack 50 = .ok (.aload_n 0, 1) := by decide +kernel
theorem dX5_takeBack_51 : decode cX5_takeBack 51 = .ok (.getfield 33, 3) := by decide +kernel
theorem dX5_takeBack_54 : decode cX5_takeBack 54 = .ok (.iaload, 1) := by decide +kernel
theorem dX5_takeBack_55 : decode cX5_takeBack 55 = .ok (.iastore, 1) := by decide +kernel
theorem dX5_takeBack_56 : decode cX5_takeBack 56 = .ok (.goto 61, 3) := by decide +kernel
theorem dX5_takeBack_7 : decode cX5_takeBack 7 = .ok (.return_, 1) := by decide +kernel
set_option maxHeartbeats 4000000 in
set_option maxRecDepth 100000 in
theorem k_X5_takeBack (l : Launch) (D : va_G) (K : Nat → ClassId) (t : Nat) (t_q : Nat → Nat) (t_x0 : Int) (t_5_c : Nat → Int) (t_4_c : Nat → Int) (t_6_c : Nat → Int) (t_1_c : Nat → Int) (t_2_c : Nat → Int) (t_7_c : Nat → Int) (t_3_c : Nat → Int) (hi_t : bX5 t_x0) (hc_t_5 : ∀ j : Nat, 0 ≤ t_5_c j ∧ t_5_c j ≤ 23) (hc_t_4 : ∀ j : Nat, 0 ≤ t_4_c j ∧ t_4_c j ≤ 2) (hc_t_6 : ∀ j : Nat, 0 ≤ t_6_c j ∧ t_6_c j ≤ 29) (hc_t_1 : ∀ j : Nat, (-999) ≤ t_1_c j ∧ t_1_c j ≤ 30) (hc_t_2 : ∀ j : Nat, (-4) ≤ t_2_c j ∧ t_2_c j ≤ 11) (hc_t_7 : ∀ j : Nat, (-4) ≤ t_7_c j ∧ t_7_c j ≤ 29) (hc_t_3 : ∀ j : Nat, 0 ≤ t_3_c j ∧ t_3_c j ≤ 29) (ar : AR t_4_c t_5_c t_7_c) : fn_CV (S := (Nat → Int) × (Nat → Nat → Int)) l D K yX5_takeBack (fn_ws yX5_takeBack cX5_takeBack 2 none) ({ frames := 8, cells := 0, slots := 0, locals := 200 } : Room) [.ref t] [(t, .inr (5, oX5 t_q t_x0)), ((t_q 5), .inl (K 0, 40, .inl (fun j => iI (t_5_c j)))), ((t_q 4), .inl (K 0, 40, .inl (fun j => iI (t_4_c j)))), ((t_q 6), .inl (K 0, 40, .inl (fun j => iI (t_6_c j)))), ((t_q 1), .inl (K 0, 5, .inl (fun j => iI (t_1_c j)))), ((t_q 2), .inl (K 0, 150, .inl (fun j => iI (t_2_c j)))), ((t_q 7), .inl (K 0, 40, .inl (fun j => iI (t_7_c j)))), ((t_q 3), .inl (K 0, 24, .inl (fun j => iI (t_3_c j))))] (fun u => (0 ≤ (u.1 0) ∧ (u.1 0) ≤ 40) ∧ (∀ j : Nat, t_1_c j - 1 ≤ (u.2 0) j) ∧ (∀ j : Nat, (-1000) ≤ (u.2 0) j ∧ (u.2 0) j ≤ 30) ∧ (∀ j : Nat, (-4) ≤ (u.2 1) j ∧ (u.2 1) j ≤ 11) ∧ (∀ j : Nat, 0 ≤ (u.2 2) j ∧ (u.2 2) j ≤ 29) ∧ True) (fun u => [(t, .inr (5, oX5 t_q (u.1 0))), ((t_q 5), .inl (K 0, 40, .inl (fun j => iI (t_5_c j)))), ((t_q 4), .inl (K 0, 40, .inl (fun j => iI (t_4_c j)))), ((t_q 6), .inl (K 0, 40, .inl (fun j => iI (t_6_c j)))), ((t_q 1), .inl (K 0, 5, .inl (fun j => iI ((u.2 0) j)))), ((t_q 2), .inl (K 0, 150, .inl (fun j => iI ((u.2 1) j)))), ((t_q 7), .inl (K 0, 40, .inl (fun j => iI (t_7_c j)))), ((t_q 3), .inl (K 0, 24, .inl (fun j => iI ((u.2 2) j))))]) 0 0 := by
  refine g_inV (cc := cX5_takeBack) (maxL := 2) (ret := none) (by decide) rfl (Nat.le_of_ble_eq_true rfl) ?_
  intro p e s m below meth c A ls ag Q B hA hP hD hS hl hQ
  obtain ⟨hx, hb, hr, hml, hts, hown, hlocks, hin, hK⟩ := B
  have hown : s.vm.findClass RX5 = some m.cls := hown
  have hts := fun w h => hts w (List.mem_cons_of_mem _ h)
  have hl : lv_has ls 2 [(0, .ref t)] := hl
  refine lv_aload_n hx hb dX5_takeBack_0 rfl (lv_at hl 0 rfl) ?_
  refine va_get (D := D) (own := RX5) (ci := 5) (v := .int (iI t_x0)) (C := RX5) (T := TX5) (N := 8) hx hb hts inb_X5 hown hK.1 hP 0 rfl rfl 0 (by decide) (hts _ wd_184) (fun _ h9 => h9) rfl dX5_takeBack_1 ?_
  have y1_1 : 0 ≤ t_x0 ∧ t_x0 ≤ 40 := hi_t
  refine g_if_ne (tgt := 8) hx hb (by omega) dX5_takeBack_4 (by decide) (fun c4 => ?_) (fun c4 => ?_)
  · refine lv_aload_n hx hb dX5_takeBack_8 rfl (lv_at hl 0 rfl) ?_
    refine lv_dup hx hb dX5_takeBack_9 rfl ?_
    refine va_get (D := D) (own := RX5) (ci := 5) (v := .int (iI t_x0)) (C := RX5) (T := TX5) (N := 8) hx hb hts inb_X5 hown hK.1 hP 0 rfl rfl 0 (by decide) (hts _ wd_184) (fun _ h9 => h9) rfl dX5_takeBack_10 ?_
    refine lv_iconst (v := iI 1) hx hb dX5_takeBack_13 rfl ?_
    refine g_isub hx hb dX5_takeBack_14 ?_
    refine va_put (D := D) (own := RX5) (ci := 5) (v := .int (iI (t_x0 - 1))) (ty := .int) (C := RX5) (T := TX5) (N := 8) hx hb hts inb_X5 tyX5 tyX5_ok nmX5 hown hK.1 hP hD hS 0 rfl rfl 0 (by decide) (hts _ wd_184) (fun _ h9 => h9) rfl (by decide +kernel) rfl rfl (Nat.le_of_ble_eq_true rfl) dX5_takeBack_15 (fun H locs hP hD hS => ?_)
    have hP : va_P D vwCl [(t, .inr (5, oX5 t_q (t_x0 - 1))), ((t_q 5), .inl (K 0, 40, .inl (fun j => iI (t_5_c j)))), ((t_q 4), .inl (K 0, 40, .inl (fun j => iI (t_4_c j)))), ((t_q 6), .inl (K 0, 40, .inl (fun j => iI (t_6_c j)))), ((t_q 1), .inl (K 0, 5, .inl (fun j => iI (t_1_c j)))), ((t_q 2), .inl (K 0, 150, .inl (fun j => iI (t_2_c j)))), ((t_q 7), .inl (K 0, 40, .inl (fun j => iI (t_7_c j)))), ((t_q 3), .inl (K 0, 24, .inl (fun j => iI (t_3_c j))))] H := hP
    have hD : va_D A [(t, .inr (5, oX5 t_q (t_x0 - 1))), ((t_q 5), .inl (K 0, 40, .inl (fun j => iI (t_5_c j)))), ((t_q 4), .inl (K 0, 40, .inl (fun j => iI (t_4_c j)))), ((t_q 6), .inl (K 0, 40, .inl (fun j => iI (t_6_c j)))), ((t_q 1), .inl (K 0, 5, .inl (fun j => iI (t_1_c j)))), ((t_q 2), .inl (K 0, 150, .inl (fun j => iI (t_2_c j)))), ((t_q 7), .inl (K 0, 40, .inl (fun j => iI (t_7_c j)))), ((t_q 3), .inl (K 0, 24, .inl (fun j => iI (t_3_c j))))] := hD
    refine lv_aload_n hx hb dX5_takeBack_18 rfl (lv_at hl 0 rfl) ?_
    refine va_get (D := D) (own := RX5) (ci := 5) (v := .ref (t_q 5)) (C := RX5) (T := TX5) (N := 8) hx hb hts inb_X5 hown hK.1 hP 0 rfl rfl 5 (by decide) (hts _ wd_195) (fun _ h9 => h9) rfl dX5_takeBack_19 ?_
    refine lv_aload_n hx hb dX5_takeBack_22 rfl (lv_at hl 0 rfl) ?_
    refine va_get (D := D) (own := RX5) (ci := 5) (v := .int (iI (t_x0 - 1))) (C := RX5) (T := TX5) (N := 8) hx hb hts inb_X5 hown hK.1 hP 0 rfl rfl 0 (by decide) (hts _ wd_184) (fun _ h9 => h9) rfl dX5_takeBack_23 ?_
    refine g_iald hx hb hK.1 hP 1 0 rfl rfl (by omega) (by omega) (by decide) dX5_takeBack_26 ?_
    have y26 : 0 ≤ (t_5_c ((t_x0 - 1).toNat)) ∧ (t_5_c ((t_x0 - 1).toNat)) ≤ 23 := hc_t_5 ((t_x0 - 1).toNat)
    refine lv_istore_n (lv' := [(1, .int (iI (t_5_c ((t_x0 - 1).toNat)))), (0, .ref t)]) hx hb dX5_takeBack_27 rfl hl (by decide) rfl (fun ls hl => ?_)
    refine lv_aload_n hx hb dX5_takeBack_28 rfl (lv_at hl 1 rfl) ?_
    refine va_get (D := D) (own := RX5) (ci := 5) (v := .ref (t_q 4)) (C := RX5) (T := TX5) (N := 8) hx hb hts inb_X5 hown hK.1 hP 0 rfl rfl 4 (by decide) (hts _ wd_194) (fun _ h9 => h9) rfl dX5_takeBack_29 ?_
    refine lv_aload_n hx hb dX5_takeBack_32 rfl (lv_at hl 1 rfl) ?_
    refine va_get (D := D) (own := RX5) (ci := 5) (v := .int (iI (t_x0 - 1))) (C := RX5) (T := TX5) (N := 8) hx hb hts inb_X5 hown hK.1 hP 0 rfl rfl 0 (by decide) (hts _ wd_184) (fun _ h9 => h9) rfl dX5_takeBack_33 ?_
    refine fn_at 36 rfl ?_
    refine g_iald hx hb hK.1 hP 2 0 rfl rfl (by omega) (by omega) (by decide) dX5_takeBack_36 ?_
    have y36 : 0 ≤ (t_4_c ((t_x0 - 1).toNat)) ∧ (t_4_c ((t_x0 - 1).toNat)) ≤ 2 := hc_t_4 ((t_x0 - 1).toNat)
    have z37 := ar (Int.toNat (t_x0 - 1))
    refine lv_iconst (v := iI 2) hx hb dX5_takeBack_37 rfl ?_
    refine g_icmp_ne (tgt := 59) hx hb (by omega) (by omega) dX5_takeBack_38 (by decide) (fun c38 => ?_) (fun c38 => ?_)
    · refine lv_aload_n hx hb dX5_takeBack_59 rfl (lv_at hl 1 rfl) ?_
      refine va_get (D := D) (own := RX5) (ci := 5) (v := .ref (t_q 4)) (C := RX5) (T := TX5) (N := 8) hx hb hts inb_X5 hown hK.1 hP 0 rfl rfl 4 (by decide) (hts _ wd_194) (fun _ h9 => h9) rfl dX5_takeBack_60 ?_
      refine lv_aload_n hx hb dX5_takeBack_63 rfl (lv_at hl 1 rfl) ?_
      refine va_get (D := D) (own := RX5) (ci := 5) (v := .int (iI (t_x0 - 1))) (C := RX5) (T := TX5) (N := 8) hx hb hts inb_X5 hown hK.1 hP 0 rfl rfl 0 (by decide) (hts _ wd_184) (fun _ h9 => h9) rfl dX5_takeBack_64 ?_
      refine g_iald hx hb hK.1 hP 2 0 rfl rfl (by omega) (by omega) (by decide) dX5_takeBack_67 ?_
      refine lv_iconst (v := iI 1) hx hb dX5_takeBack_68 rfl ?_
      refine g_icmp_ne (tgt := 103) hx hb (by omega) (by omega) dX5_takeBack_69 (by decide) (fun c69 => ?_) (fun c69 => ?_)
      · refine lv_aload_n hx hb dX5_takeBack_103 rfl (lv_at hl 1 rfl) ?_
        refine lv_iload_n hx hb dX5_takeBack_104 rfl (lv_at hl 0 rfl) ?_
        refine lv_aload_n hx hb dX5_takeBack_105 rfl (lv_at hl 1 rfl) ?_
        refine va_get (D := D) (own := RX5) (ci := 5) (v := .ref (t_q 6)) (C := RX5) (T := TX5) (N := 8) hx hb hts inb_X5 hown hK.1 hP 0 rfl rfl 6 (by decide) (hts _ wd_196) (fun _ h9 => h9) rfl dX5_takeBack_106 ?_
        refine lv_aload_n hx hb dX5_takeBack_109 rfl (lv_at hl 1 rfl) ?_
        refine va_get (D := D) (own := RX5) (ci := 5) (v := .int (iI (t_x0 - 1))) (C := RX5) (T := TX5) (N := 8) hx hb hts inb_X5 hown hK.1 hP 0 rfl rfl 0 (by decide) (hts _ wd_184) (fun _ h9 => h9) rfl dX5_takeBack_110 ?_
        refine g_iald hx hb hK.1 hP 3 0 rfl rfl (by omega) (by omega) (by decide) dX5_takeBack_113 ?_
        have y113 : 0 ≤ (t_6_c ((t_x0 - 1).toNat)) ∧ (t_6_c ((t_x0 - 1).toNat)) ≤ 29 := hc_t_6 ((t_x0 - 1).toNat)
        refine fn_gov (wc := [(t, .inr (5, oX5 t_q (t_x0 - 1))), ((t_q 1), .inl (K 0, 5, .inl (fun j => iI (t_1_c j)))), ((t_q 2), .inl (K 0, 150, .inl (fun j => iI (t_2_c j))))]) (wr := [((t_q 5), .inl (K 0, 40, .inl (fun j => iI (t_5_c j)))), ((t_q 4), .inl (K 0, 40, .inl (fun j => iI (t_4_c j)))), ((t_q 6), .inl (K 0, 40, .inl (fun j => iI (t_6_c j)))), ((t_q 7), .inl (K 0, 40, .inl (fun j => iI (t_7_c j)))), ((t_q 3), .inl (K 0, 24, .inl (fun j => iI (t_3_c j))))]) hK hP hD hS hA [0, 4, 5] [1, 2, 3, 6, 7] rfl rfl (by decide) (fun hp => va_runV (C := RX5) (As := [.int (iI (t_5_c ((t_x0 - 1).toNat))), .int (iI (t_6_c ((t_x0 - 1).toNat)))]) (rest := []) ⟨hx, hb, hml, hown, hts⟩ (k_X5_takeOutLeaf (l := l) (D := D) (K := K) (t := t) (p1 := (t_5_c ((t_x0 - 1).toNat))) (p2 := (t_6_c ((t_x0 - 1).toNat))) (t_q := t_q) (t_x0 := (t_x0 - 1)) (t_1_c := t_1_c) (t_2_c := t_2_c) (hp1 := (by omega)) (hp2 := (by omega)) (hi_t := (show 0 ≤ (t_x0 - 1) ∧ (t_x0 - 1) ≤ 40 from by omega)) (hc_t_1 := hc_t_1) (hc_t_2 := hc_t_2) _) (cwV 2 hts (fn_ginV (fn_gin wd_751) wd_748 wd_750 wp_36 wd_5) rfl rfl rfl (by decide +kernel) ⟨Nat.le_of_ble_eq_true rfl, Nat.le_of_ble_eq_true rfl⟩) ⟨fn_blind, va_recv hK.1 hP (ci := 5) (q0 := 0) rfl rfl, hp⟩ rfl rfl hl.1 rfl (lv_room (Nat.le_of_ble_eq_true rfl)) dX5_takeBack_114 ⟨Nat.le_of_ble_eq_true rfl, Nat.le_of_ble_eq_true rfl⟩) (fun u114 H locs hwu114 hP hD hS => ?_)
        obtain ⟨u114a, u114b⟩ := u114
        obtain ⟨hqu114_lb0, hu114_00, hu114_10, -⟩ := hwu114
        have hqu114_lb : ∀ j : Nat, t_1_c j - 1 ≤ (u114b 0) j := hqu114_lb0
        have hu114_0 : ∀ j : Nat, (-1000) ≤ (u114b 0) j ∧ (u114b 0) j ≤ 30 := hu114_00
        have hu114_1 : ∀ j : Nat, (-4) ≤ (u114b 1) j ∧ (u114b 1) j ≤ 11 := hu114_10
        clear hqu114_lb0 hu114_00 hu114_10
        have hP : va_P D vwCl [((t_q 5), .inl (K 0, 40, .inl (fun j => iI (t_5_c j)))), ((t_q 4), .inl (K 0, 40, .inl (fun j => iI (t_4_c j)))), ((t_q 6), .inl (K 0, 40, .inl (fun j => iI (t_6_c j)))), ((t_q 7), .inl (K 0, 40, .inl (fun j => iI (t_7_c j)))), ((t_q 3), .inl (K 0, 24, .inl (fun j => iI (t_3_c j)))), (t, .inr (5, oX5 t_q (t_x0 - 1))), ((t_q 1), .inl (K 0, 5, .inl (fun j => iI ((u114b 0) j)))), ((t_q 2), .inl (K 0, 150, .inl (fun j => iI ((u114b 1) j))))] H := hP
        have hD : va_D A [((t_q 5), .inl (K 0, 40, .inl (fun j => iI (t_5_c j)))), ((t_q 4), .inl (K 0, 40, .inl (fun j => iI (t_4_c j)))), ((t_q 6), .inl (K 0, 40, .inl (fun j => iI (t_6_c j)))), ((t_q 7), .inl (K 0, 40, .inl (fun j => iI (t_7_c j)))), ((t_q 3), .inl (K 0, 24, .inl (fun j => iI (t_3_c j)))), (t, .inr (5, oX5 t_q (t_x0 - 1))), ((t_q 1), .inl (K 0, 5, .inl (fun j => iI ((u114b 0) j)))), ((t_q 2), .inl (K 0, 150, .inl (fun j => iI ((u114b 1) j))))] := hD
        rw [hQ]; exact fn_vret hx hb hr hlocks hP hD hS ((fun k => ([t_x0 - 1] : List Int).getD k 0), (fun k => ([(u114b 0), (u114b 1), t_3_c] : List (Nat → Int)).getD k (fun _ => 0))) ⟨(by show 0 ≤ (t_x0 - 1) ∧ (t_x0 - 1) ≤ 40; omega), (show ∀ j : Nat, t_1_c j - 1 ≤ (u114b 0) j from by first | assumption | exact fun j => by omega), (hu114_0), (hu114_1), (hc_t_3), trivial⟩ [5, 0, 1, 2, 6, 7, 3, 4] (by decide) rfl dX5_takeBack_117
      · refine lv_aload_n hx hb dX5_takeBack_72 rfl (lv_at hl 1 rfl) ?_
        refine va_get (D := D) (own := RX5) (ci := 5) (v := .ref (t_q 2)) (C := RX5) (T := TX5) (N := 8) hx hb hts inb_X5 hown hK.1 hP 0 rfl rfl 2 (by decide) (hts _ wd_190) (fun _ h9 => h9) rfl dX5_takeBack_73 ?_
        refine lv_iload_n hx hb dX5_takeBack_76 rfl (lv_at hl 0 rfl) ?_
        refine lv_bipush (v := iI 30) hx hb dX5_takeBack_77 (by decide) ?_
        refine g_imul hx hb dX5_takeBack_79 ?_
        refine lv_aload_n hx hb dX5_takeBack_80 rfl (lv_at hl 1 rfl) ?_
        refine va_get (D := D) (own := RX5) (ci := 5) (v := .ref (t_q 6)) (C := RX5) (T := TX5) (N := 8) hx hb hts inb_X5 hown hK.1 hP 0 rfl rfl 6 (by decide) (hts _ wd_196) (fun _ h9 => h9) rfl dX5_takeBack_81 ?_
        refine lv_aload_n hx hb dX5_takeBack_84 rfl (lv_at hl 1 rfl) ?_
        refine va_get (D := D) (own := RX5) (ci := 5) (v := .int (iI (t_x0 - 1))) (C := RX5) (T := TX5) (N := 8) hx hb hts inb_X5 hown hK.1 hP 0 rfl rfl 0 (by decide) (hts _ wd_184) (fun _ h9 => h9) rfl dX5_takeBack_85 ?_
        refine g_iald hx hb hK.1 hP 3 0 rfl rfl (by omega) (by omega) (by decide) dX5_takeBack_88 ?_
        have y88 : 0 ≤ (t_6_c ((t_x0 - 1).toNat)) ∧ (t_6_c ((t_x0 - 1).toNat)) ≤ 29 := hc_t_6 ((t_x0 - 1).toNat)
        refine fn_at 89 rfl ?_
        refine g_iadd hx hb dX5_takeBack_89 ?_
        refine lv_aload_n hx hb dX5_takeBack_90 rfl (lv_at hl 1 rfl) ?_
        refine va_get (D := D) (own := RX5) (ci := 5) (v := .ref (t_q 7)) (C := RX5) (T := TX5) (N := 8) hx hb hts inb_X5 hown hK.1 hP 0 rfl rfl 7 (by decide) (hts _ wd_197) (fun _ h9 => h9) rfl dX5_takeBack_91 ?_
        refine lv_aload_n hx hb dX5_takeBack_94 rfl (lv_at hl 1 rfl) ?_
        refine va_get (D := D) (own := RX5) (ci := 5) (v := .int (iI (t_x0 - 1))) (C := RX5) (T := TX5) (N := 8) hx hb hts inb_X5 hown hK.1 hP 0 rfl rfl 0 (by decide) (hts _ wd_184) (fun _ h9 => h9) rfl dX5_takeBack_95 ?_
        refine g_iald hx hb hK.1 hP 6 0 rfl rfl (by omega) (by omega) (by decide) dX5_takeBack_98 ?_
        have y98 : (-4) ≤ (t_7_c ((t_x0 - 1).toNat)) ∧ (t_7_c ((t_x0 - 1).toNat)) ≤ 29 := hc_t_7 ((t_x0 - 1).toNat)
        refine g_iast hx hb hK.1 hP hD hS 5 0 rfl rfl (by omega) (by omega) (by decide) dX5_takeBack_99 (fun H locs g99 eg99 hP hD hS => ?_)
        have hg99 : ∀ j : Nat, (-4) ≤ g99 j ∧ g99 j ≤ 11 := by rw [eg99]; exact uI_all hc_t_2 (by omega)
        have hP : va_P D vwCl [(t, .inr (5, oX5 t_q (t_x0 - 1))), ((t_q 5), .inl (K 0, 40, .inl (fun j => iI (t_5_c j)))), ((t_q 4), .inl (K 0, 40, .inl (fun j => iI (t_4_c j)))), ((t_q 6), .inl (K 0, 40, .inl (fun j => iI (t_6_c j)))), ((t_q 1), .inl (K 0, 5, .inl (fun j => iI (t_1_c j)))), ((t_q 2), .inl (K 0, 150, .inl (fun j => iI (g99 j)))), ((t_q 7), .inl (K 0, 40, .inl (fun j => iI (t_7_c j)))), ((t_q 3), .inl (K 0, 24, .inl (fun j => iI (t_3_c j))))] H := hP
        have hD : va_D A [(t, .inr (5, oX5 t_q (t_x0 - 1))), ((t_q 5), .inl (K 0, 40, .inl (fun j => iI (t_5_c j)))), ((t_q 4), .inl (K 0, 40, .inl (fun j => iI (t_4_c j)))), ((t_q 6), .inl (K 0, 40, .inl (fun j => iI (t_6_c j)))), ((t_q 1), .inl (K 0, 5, .inl (fun j => iI (t_1_c j)))), ((t_q 2), .inl (K 0, 150, .inl (fun j => iI (g99 j)))), ((t_q 7), .inl (K 0, 40, .inl (fun j => iI (t_7_c j)))), ((t_q 3), .inl (K 0, 24, .inl (fun j => iI (t_3_c j))))] := hD
        refine lv_goto (tgt := 117) hx hb dX5_takeBack_100 (by decide) ?_
        rw [hQ]; exact fn_vret hx hb hr hlocks hP hD hS ((fun k => ([t_x0 - 1] : List Int).getD k 0), (fun k => ([t_1_c, g99, t_3_c] : List (Nat → Int)).getD k (fun _ => 0))) ⟨(by show 0 ≤ (t_x0 - 1) ∧ (t_x0 - 1) ≤ 40; omega), (show ∀ j : Nat, t_1_c j - 1 ≤ t_1_c j from by first | assumption | exact fun j => by omega), (fun j => by have h9 := hc_t_1 j; show (-1000) ≤ t_1_c j ∧ t_1_c j ≤ 30; omega), (hg99), (hc_t_3), trivial⟩ [0, 1, 2, 3, 4, 5, 6, 7] (by decide) rfl dX5_takeBack_117
    · refine lv_aload_n hx hb dX5_takeBack_41 rfl (lv_at hl 1 rfl) ?_
      refine va_get (D := D) (own := RX5) (ci := 5) (v := .ref (t_q 3)) (C := RX5) (T := TX5) (N := 8) hx hb hts inb_X5 hown hK.1 hP 0 rfl rfl 3 (by decide) (hts _ wd_191) (fun _ h9 => h9) rfl dX5_takeBack_42 ?_
      refine lv_iload_n hx hb dX5_takeBack_45 rfl (lv_at hl 0 rfl) ?_
      refine lv_aload_n hx hb dX5_takeBack_46 rfl (lv_at hl 1 rfl) ?_
      refine va_get (D := D) (own := RX5) (ci := 5) (v := .ref (t_q 7)) (C := RX5) (T := TX5) (N := 8) hx hb hts inb_X5 hown hK.1 hP 0 rfl rfl 7 (by decide) (hts _ wd_197) (fun _ h9 => h9) rfl dX5_takeBack_47 ?_
      refine lv_aload_n hx hb dX5_takeBack_50 rfl (lv_at hl 1 rfl) ?_
      refine va_get (D := D) (own := RX5) (ci := 5) (v := .int (iI (t_x0 - 1))) (C := RX5) (T := TX5) (N := 8) hx hb hts inb_X5 hown hK.1 hP 0 rfl rfl 0 (by decide) (hts _ wd_184) (fun _ h9 => h9) rfl dX5_takeBack_51 ?_
      refine g_iald hx hb hK.1 hP 6 0 rfl rfl (by omega) (by omega) (by decide) dX5_takeBack_54 ?_
      have y54 : (-4) ≤ (t_7_c ((t_x0 - 1).toNat)) ∧ (t_7_c ((t_x0 - 1).toNat)) ≤ 29 := hc_t_7 ((t_x0 - 1).toNat)
      refine g_iast hx hb hK.1 hP hD hS 7 0 rfl rfl (by omega) (by omega) (by decide) dX5_takeBack_55 (fun H locs g55 eg55 hP hD hS => ?_)
      have hg55 : ∀ j : Nat, 0 ≤ g55 j ∧ g55 j ≤ 29 := by rw [eg55]; exact uI_all hc_t_3 (by omega)
      have hP : va_P D vwCl [(t, .inr (5, oX5 t_q (t_x0 - 1))), ((t_q 5), .inl (K 0, 40, .inl (fun j => iI (t_5_c j)))), ((t_q 4), .inl (K 0, 40, .inl (fun j => iI (t_4_c j)))), ((t_q 6), .inl (K 0, 40, .inl (fun j => iI (t_6_c j)))), ((t_q 1), .inl (K 0, 5, .inl (fun j => iI (t_1_c j)))), ((t_q 2), .inl (K 0, 150, .inl (fun j => iI (t_2_c j)))), ((t_q 7), .inl (K 0, 40, .inl (fun j => iI (t_7_c j)))), ((t_q 3), .inl (K 0, 24, .inl (fun j => iI (g55 j))))] H := hP
      have hD : va_D A [(t, .inr (5, oX5 t_q (t_x0 - 1))), ((t_q 5), .inl (K 0, 40, .inl (fun j => iI (t_5_c j)))), ((t_q 4), .inl (K 0, 40, .inl (fun j => iI (t_4_c j)))), ((t_q 6), .inl (K 0, 40, .inl (fun j => iI (t_6_c j)))), ((t_q 1), .inl (K 0, 5, .inl (fun j => iI (t_1_c j)))), ((t_q 2), .inl (K 0, 150, .inl (fun j => iI (t_2_c j)))), ((t_q 7), .inl (K 0, 40, .inl (fun j => iI (t_7_c j)))), ((t_q 3), .inl (K 0, 24, .inl (fun j => iI (g55 j))))] := hD
      refine lv_goto (tgt := 117) hx hb dX5_takeBack_56 (by decide) ?_
      rw [hQ]; exact fn_vret hx hb hr hlocks hP hD hS ((fun k => ([t_x0 - 1] : List Int).getD k 0), (fun k => ([t_1_c, t_2_c, g55] : List (Nat → Int)).getD k (fun _ => 0))) ⟨(by show 0 ≤ (t_x0 - 1) ∧ (t_x0 - 1) ≤ 40; omega), (show ∀ j : Nat, t_1_c j - 1 ≤ t_1_c j from by first | assumption | exact fun j => by omega), (fun j => by have h9 := hc_t_1 j; show (-1000) ≤ t_1_c j ∧ t_1_c j ≤ 30; omega), (hc_t_2), (hg55), trivial⟩ [0, 1, 2, 3, 4, 5, 6, 7] (by decide) rfl dX5_takeBack_117
  · rw [hQ]; exact fn_vret hx hb hr hlocks hP hD hS ((fun k => ([t_x0] : List Int).getD k 0), (fun k => ([t_1_c, t_2_c, t_3_c] : List (Nat → Int)).getD k (fun _ => 0))) ⟨(by show 0 ≤ t_x0 ∧ t_x0 ≤ 40; omega), (show ∀ j : Nat, t_1_c j - 1 ≤ t_1_c j from by first | assumption | exact fun j => by omega), (fun j => by have h9 := hc_t_1 j; show (-1000) ≤ t_1_c j ∧ t_1_c j ≤ 30; omega), (hc_t_2), (hc_t_3), trivial⟩ [0, 1, 2, 3, 4, 5, 6, 7] (by decide) rfl dX5_takeBack_7
theorem dX6_put_3 : decode cX6_put 3 = .ok (.iload_n 2, 1) := by decide +kernel
theorem dX6_put_4 : decode cX6_put 4 = .ok (.ifCond .lt 42, 3) := by decide +kernel
theorem dX6_put_46 : decode cX6_put 46 = .ok (.return_, 1) := by decide +kernel
theorem dX6_put_7 : decode cX6_put 7 = .ok (.aload_n 0, 1) := by decide +kernel
theorem dX6_put_8 : decode cX6_put 8 = .ok (.getfield 15, 3) := by decide +kernel
theorem dX6_put_11 : decode cX6_put 11 = .ok (.sipush 1400, 3) := by decide +kernel
theorem dX6_put_14 : decode cX6_put 14 = .ok (.if_icmp .ge 32, 3) := by decide +kernel
theorem dX6_put_17 : decode cX6_put 17 = .ok (.aload_n 0, 1) := by decide +kernel
theorem dX6_put_18 : decode cX6_put 18 = .ok (.getfield 9, 3) := by decide +kernel
theorem dX6_put_21 : decode cX6_put 21 = .ok (.aload_n 0, 1) := by decide +kernel
theorem dX6_put_22 : decode cX6_put 22 = .ok (.getfield 15, 3) := by decide +kernel
theorem dX6_put_25 : decode cX6_put 25 = .ok (.iload_n 1, 1) := by decide +kernel
theorem dX6_put_26 : decode cX6_put 26 = .ok (.iload_n 2, 1) := by decide +kernel
theorem dX6_put_27 : decode cX6_put 27 = .ok (.ishr, 1) := by decide +kernel
theorem dX6_put_28 : decode cX6_put 28 = .ok (.i2b, 1) := by decide +kernel
theorem dX6_put_29 : decode cX6_put 29 = .ok (.bastore, 1) := by decide +kernel
theorem dX6_put_30 : decode cX6_put 30 = .ok (.aload_n 0, 1) := by decide +kernel
theorem dX6_put_31 : decode cX6_put 31 = .ok (.dup, 1) := by decide +kernel
theorem dX6_put_32 : decode cX6_put 32 = .ok (.getfield 15, 3) := by decide +kernel
theorem dX6_put_35 : decode cX6_put 35 = .ok (.iconst 1, 1) := by decide +kernel
theorem dX6_put_36 : decode cX6_put 36 = .ok (.iadd, 1) := by decide +kernel
theorem dX6_put_37 : decode cX6_put 37 = .ok (.putfield 15, 3) := by decide +kernel
theorem dX6_put_40 : decode cX6_put 40 = .ok (.iinc 2 (-8), 3) := by decide +kernel
theorem dX6_put_43 : decode cX6_put 43 = .ok (.goto (-40), 3) := by decide +kernel
theorem dX6_put_0 : decode cX6_put 0 = .ok (.bipush 24, 2) := by decide +kernel
theorem dX6_put_2 : decode cX6_put 2 = .ok (.istore_n 2, 1) := by decide +kernel
set_option maxHeartbeats 4000000 in
set_option maxRecDepth 100000 in
theorem k_X6_put (l : Launch) (D : va_G) (K : Nat → ClassId) (t : Nat) (t_q : Nat → Nat) (p1 t_x0 t_x2 t_x3 t_x4 : Int) (t_1_c : Nat → Int) (hp1 : (-2147483648) ≤ p1 ∧ p1 ≤ 2147483647) (hi_t : bX6 t_x0 t_x2 t_x3 t_x4) (hc_t_1 : ∀ j : Nat, (-128) ≤ t_1_c j ∧ t_1_c j ≤ 127) : fn_CV (S := (Nat → Int) × (Nat → Nat → Int)) l D K yX6_put (fn_ws yX6_put cX6_put 3 none) ({ frames := 4, cells := 0, slots := 0, locals := 100 } : Room) [.ref t, .int (iI p1)] [(t, .inr (6, oX6 t_q t_x0 t_x2 t_x3 t_x4)), ((t_q 1), .inl (K 1, 1400, .inl (fun j => iI (t_1_c j))))] (fun u => (0 ≤ (u.1 0) ∧ (u.1 0) ≤ 1400) ∧ (∀ j : Nat, (-128) ≤ (u.2 0) j ∧ (u.2 0) j ≤ 127) ∧ True) (fun u => [(t, .inr (6, oX6 t_q (u.1 0) t_x2 t_x3 t_x4)), ((t_q 1), .inl (K 1, 1400, .inl (fun j => iI ((u.2 0) j))))]) 0 0 := by
  refine g_inV (cc := cX6_put) (maxL := 3) (ret := none) (by decide) rfl (Nat.le_of_ble_eq_true rfl) ?_
  intro p e s m below meth c A ls ag Q B hA hP hD hS hl hQ
  obtain ⟨hx, hb, hr, hml, hts, hown, hlocks, hin, hK⟩ := B
  have hown : s.vm.findClass RX6 = some m.cls := hown
  have hts := fun w h => hts w (List.mem_cons_of_mem _ h)
  have J3 : ∀ (n : Nat) (x3_2 : Int) (f3_t_0 : Int) (c3_t_1 : Nat → Int) (H : Heap) (locs : List Loc) (ls : Array Slot), (x3_2 - (-8)).toNat < n → ((-8) ≤ x3_2 ∧ x3_2 ≤ 24 ∧ 0 ≤ f3_t_0 ∧ f3_t_0 ≤ 1400) → (∀ j : Nat, (-128) ≤ c3_t_1 j ∧ c3_t_1 j ≤ 127) → va_P D vwCl [(t, .inr (6, oX6 t_q f3_t_0 t_x2 t_x3 t_x4)), ((t_q 1), .inl (K 1, 1400, .inl (fun j => iI (c3_t_1 j))))] H → va_D A [(t, .inr (6, oX6 t_q f3_t_0 t_x2 t_x3 t_x4)), ((t_q 1), .inl (K 1, 1400, .inl (fun j => iI (c3_t_1 j))))] → va_S A s.heap H locs → lv_has ls 3 [(0, .ref t), (1, .int (iI p1)), (2, .int (iI x3_2))] → W p l e ({ frames := 4, cells := 0, slots := 0, locals := 100 } : Room) s m ag below meth c H locs 0 0 Q (F0 m 3 ls []) := by
    intro n
    induction n with
    | zero =>
      intro x3_2 f3_t_0 c3_t_1 H locs ls hm3 hf3 hc3_t_1 hP hD hS hl
      exact absurd hm3 (Nat.not_lt_zero _)
    | succ n ih3 =>
      intro x3_2 f3_t_0 c3_t_1 H locs ls hm3 hf3 hc3_t_1 hP hD hS hl
      refine lv_iload_n hx hb dX6_put_3 rfl (lv_at hl 2 rfl) ?_
      refine g_if_lt (tgt := 46) hx hb (by omega) dX6_put_4 (by decide) (fun c4 => ?_) (fun c4 => ?_)
      · rw [hQ]; exact fn_vret hx hb hr hlocks hP hD hS ((fun k => ([f3_t_0] : List Int).getD k 0), (fun k => ([c3_t_1] : List (Nat → Int)).getD k (fun _ => 0))) ⟨(by show 0 ≤ f3_t_0 ∧ f3_t_0 ≤ 1400; omega), (hc3_t_1), trivial⟩ [0, 1] (by decide) rfl dX6_put_46
      · refine lv_aload_n hx hb dX6_put_7 rfl (lv_at hl 0 rfl) ?_
        refine va_get (D := D) (own := RX6) (ci := 6) (v := .int (iI f3_t_0)) (C := RX6) (T := TX6) (N := 5) hx hb hts inb_X6 hown hK.1 hP 0 rfl rfl 0 (by decide) (hts _ wd_42) (fun _ h9 => h9) rfl dX6_put_8 ?_
        refine lv_sipush (v := iI 1400) hx hb dX6_put_11 (by decide) ?_
        refine g_icmp_ge (tgt := 46) hx hb (by omega) (by omega) dX6_put_14 (by decide) (fun c14 => ?_) (fun c14 => ?_)
        · rw [hQ]; exact fn_vret hx hb hr hlocks hP hD hS ((fun k => ([f3_t_0] : List Int).getD k 0), (fun k => ([c3_t_1] : List (Nat → Int)).getD k (fun _ => 0))) ⟨(by show 0 ≤ f3_t_0 ∧ f3_t_0 ≤ 1400; omega), (hc3_t_1), trivial⟩ [0, 1] (by decide) rfl dX6_put_46
        · refine lv_aload_n hx hb dX6_put_17 rfl (lv_at hl 0 rfl) ?_
          refine va_get (D := D) (own := RX6) (ci := 6) (v := .ref (t_q 1)) (C := RX6) (T := TX6) (N := 5) hx hb hts inb_X6 hown hK.1 hP 0 rfl rfl 1 (by decide) (hts _ wd_44) (fun _ h9 => h9) rfl dX6_put_18 ?_
          refine lv_aload_n hx hb dX6_put_21 rfl (lv_at hl 0 rfl) ?_
          refine va_get (D := D) (own := RX6) (ci := 6) (v := .int (iI f3_t_0)) (C := RX6) (T := TX6) (N := 5) hx hb hts inb_X6 hown hK.1 hP 0 rfl rfl 0 (by decide) (hts _ wd_42) (fun _ h9 => h9) rfl dX6_put_22 ?_
          refine lv_iload_n hx hb dX6_put_25 rfl (lv_at hl 1 rfl) ?_
          refine lv_iload_n hx hb dX6_put_26 rfl (lv_at hl 2 rfl) ?_
          refine lv_ishr hx hb dX6_put_27 ?_
          refine g_any (fun w27 hw27 ew27 => ?_)
          refine lv_i2b hx hb dX6_put_28 rfl ?_
          obtain ⟨w28, ew28, hw28⟩ := iI_i2b w27
          refine fn_top (iI w28) ew28 ?_
          refine g_bast hx hb hK.1 hP hD hS 1 1 rfl rfl (by omega) (by omega) (by decide) (by omega) dX6_put_29 (fun H locs g29 eg29 hP hD hS => ?_)
          have hg29 : ∀ j : Nat, (-128) ≤ g29 j ∧ g29 j ≤ 127 := by rw [eg29]; exact uI_all hc3_t_1 (by omega)
          have hP : va_P D vwCl [(t, .inr (6, oX6 t_q f3_t_0 t_x2 t_x3 t_x4)), ((t_q 1), .inl (K 1, 1400, .inl (fun j => iI (g29 j))))] H := hP
          have hD : va_D A [(t, .inr (6, oX6 t_q f3_t_0 t_x2 t_x3 t_x4)), ((t_q 1), .inl (K 1, 1400, .inl (fun j => iI (g29 j))))] := hD
          refine lv_aload_n hx hb dX6_put_30 rfl (lv_at hl 0 rfl) ?_
          refine lv_dup hx hb dX6_put_31 rfl ?_
          refine va_get (D := D) (own := RX6) (ci := 6) (v := .int (iI f3_t_0)) (C := RX6) (T := TX6) (N := 5) hx hb hts inb_X6 hown hK.1 hP 0 rfl rfl 0 (by decide) (hts _ wd_42) (fun _ h9 => h9) rfl dX6_put_32 ?_
          refine lv_iconst (v := iI 1) hx hb dX6_put_35 rfl ?_
          refine fn_at 36 rfl ?_
          refine g_iadd hx hb dX6_put_36 ?_
          refine va_put (D := D) (own := RX6) (ci := 6) (v := .int (iI (f3_t_0 + 1))) (ty := .int) (C := RX6) (T := TX6) (N := 5) hx hb hts inb_X6 tyX6 tyX6_ok nmX6 hown hK.1 hP hD hS 0 rfl rfl 0 (by decide) (hts _ wd_42) (fun _ h9 => h9) rfl (by decide +kernel) rfl rfl (Nat.le_of_ble_eq_true rfl) dX6_put_37 (fun H locs hP hD hS => ?_)
          have hP : va_P D vwCl [(t, .inr (6, oX6 t_q (f3_t_0 + 1) t_x2 t_x3 t_x4)), ((t_q 1), .inl (K 1, 1400, .inl (fun j => iI (g29 j))))] H := hP
          have hD : va_D A [(t, .inr (6, oX6 t_q (f3_t_0 + 1) t_x2 t_x3 t_x4)), ((t_q 1), .inl (K 1, 1400, .inl (fun j => iI (g29 j))))] := hD
          refine lv_iinc (v := iI (x3_2 + (-8))) (lv' := [(2, .int (iI (x3_2 + (-8)))), (0, .ref t), (1, .int (iI p1))]) hx hb dX6_put_40 hl (k := 2) rfl (iI_add _ _) (by decide) rfl (fun ls hl => ?_)
          refine lv_goto (tgt := 3) hx hb dX6_put_43 (by decide) ?_
          exact ih3 (x3_2 + (-8)) (f3_t_0 + 1) g29 _ _ ls (by omega) (by omega) hg29 (hP.sub [0, 1] rfl) (hD.sub [0, 1] (by decide) rfl) hS (lv_sub hl [1, 2, 0] rfl)
  have hl : lv_has ls 3 [(0, .ref t), (1, .int (iI p1))] := hl
  refine lv_bipush (v := iI 24) hx hb dX6_put_0 (by decide) ?_
  refine lv_istore_n (lv' := [(2, .int (iI 24)), (0, .ref t), (1, .int (iI p1))]) hx hb dX6_put_2 rfl hl (by decide) rfl (fun ls hl => ?_)
  have y3_1 : 0 ≤ t_x0 ∧ t_x0 ≤ 1400 := hi_t.1
  exact J3 _ 24 t_x0 t_1_c _ _ ls (Nat.lt_succ_self _) (by omega) hc_t_1 (hP.sub [0, 1] rfl) (hD.sub [0, 1] (by decide) rfl) hS (lv_sub hl [1, 2, 0] rfl)
