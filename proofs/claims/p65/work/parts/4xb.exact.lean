theorem wd_404 : Cond.fieldLink "FootNotes$Row" 15 "FootNotes$Row" "present" "Z" ∈ fn_big := fn_tb (fn_l2 (List.mem_of_getElem? (i := 164) (by decide +kernel))) (by decide +kernel)
theorem wd_408 : Cond.fieldLink "FootNotes$Row" 23 "FootNotes$Row" "size" "I" ∈ fn_big := fn_tb (fn_l2 (List.mem_of_getElem? (i := 168) (by decide +kernel))) (by decide +kernel)
theorem wd_410 : Cond.fieldLink "FootNotes$Row" 9 "FootNotes$Row" "numbers" "[J" ∈ fn_big := fn_tb (fn_l2 (List.mem_of_getElem? (i := 170) (by decide +kernel))) (by decide +kernel)
theorem wd_1210 : Cond.code ⟨"java/util/Arrays", "fill", "([JJ)V"⟩ prog_21_method_101_code 5 (Option.none : Option Jvm.ClassFile.FieldType) ∈ fn_big := fn_tb (fn_l6 (List.mem_of_getElem? (i := 10) (by decide +kernel))) (by decide +kernel)
theorem wd_1208 : Cond.methodLink "FootNotes$Row" 26 ⟨"java/util/Arrays", "fill", "([JJ)V"⟩ ∈ fn_big := fn_tb (fn_l6 (List.mem_of_getElem? (i := 8) (by decide +kernel))) (by decide +kernel)
theorem wd_1209 : Cond.static ⟨"java/util/Arrays", "fill", "([JJ)V"⟩ ∈ fn_big := fn_tb (fn_l6 (List.mem_of_getElem? (i := 9) (by decide +kernel))) (by decide +kernel)
theorem dX4_begin_0 : decode cX4_begin 0 = .ok (.aload_n 0, 1) := by decide +kernel
theorem dX4_begin_1 : decode cX4_begin 1 = .ok (.iconst 1, 1) := by decide +kernel
theorem dX4_begin_2 : decode cX4_begin 2 = .ok (.putfield 15, 3) := by decide +kernel
theorem dX4_begin_5 : decode cX4_begin 5 = .ok (.aload_n 0, 1) := by decide +kernel
theorem dX4_begin_6 : decode cX4_begin 6 = .ok (.iload_n 1, 1) := by decide +kernel
theorem dX4_begin_7 : decode cX4_begin 7 = .ok (.putfield 19, 3) := by decide +kernel
theorem dX4_begin_10 : decode cX4_begin 10 = .ok (.aload_n 0, 1) := by decide +kernel
theorem dX4_begin_11 : decode cX4_begin 11 = .ok (.iload_n 2, 1) := by decide +kernel
theorem dX4_begin_12 : decode cX4_begin 12 = .ok (.putfield 23, 3) := by decide +kernel
theorem dX4_begin_15 : decode cX4_begin 15 = .ok (.aload_n 0, 1) := by decide +kernel
theorem dX4_begin_16 : decode cX4_begin 16 = .ok (.getfield 9, 3) := by decide +kernel
theorem dX4_begin_19 : decode cX4_begin 19 = .ok (.lconst 0, 1) := by decide +kernel
theorem dX4_begin_20 : decode cX4_begin 20 = .ok (.invokestatic 26, 3) := by decide +kernel
theorem dX4_begin_23 : decode cX4_begin 23 = .ok (.return_, 1) := by decide +kernel
set_option maxHeartbeats 4000000 in
set_option maxRecDepth 100000 in
theorem k_X4_begine (l : Launch) (D : va_G) (K : Nat → ClassId) (t : Nat) (t_q : Nat → Nat) (p1 p2 t_x0 t_x1 t_x2 : Int) (t_3_c : Nat → Int) (hp1 : 0 ≤ p1 ∧ p1 ≤ 3) (hp2 : 0 ≤ p2 ∧ p2 ≤ 60) (hi_t : bX4 t_x0 t_x1 t_x2) (hc_t_3 : ∀ j : Nat, (-9223372036854775808) ≤ t_3_c j ∧ t_3_c j ≤ 9223372036854775807) : fn_CV (S := (Nat → Int) × (Nat → Nat → Int)) l D K yX4_begin (fn_ws yX4_begin cX4_begin 3 none) ({ frames := 8, cells := 0, slots := 0, locals := 200 } : Room) [.ref t, .int (iI p1), .int (iI p2)] [(t, .inr (4, oX4 t_q t_x0 t_x1 t_x2)), ((t_q 3), .inl (K 3, 60, .inr (.inl (fun j => lI (t_3_c j)))))] (fun u => (0 ≤ (u.1 0) ∧ (u.1 0) ≤ 1 ∧ 0 ≤ (u.1 1) ∧ (u.1 1) ≤ 3 ∧ 0 ≤ (u.1 2) ∧ (u.1 2) ≤ 60 ∧ ((u.1 0) = 1) ∧ ((u.1 1) = p1) ∧ ((u.1 2) = p2)) ∧ (∀ j : Nat, (-9223372036854775808) ≤ (u.2 0) j ∧ (u.2 0) j ≤ 9223372036854775807) ∧ True) (fun u => [(t, .inr (4, oX4 t_q (u.1 0) (u.1 1) (u.1 2))), ((t_q 3), .inl (K 3, 60, .inr (.inl (fun j => lI ((u.2 0) j)))))]) 0 0 := by
  refine g_inV (cc := cX4_begin) (maxL := 3) (ret := none) (by decide) rfl (Nat.le_of_ble_eq_true rfl) ?_
  intro p e s m below meth c A ls ag Q B hA hP hD hS hl hQ
  obtain ⟨hx, hb, hr, hml, hts, hown, hlocks, hin, hK⟩ := B
  have hown : s.vm.findClass RX4 = some m.cls := hown
  have hts := fun w h => hts w (List.mem_cons_of_mem _ h)
  have hl : lv_has ls 3 [(0, .ref t), (1, .int (iI p1)), (2, .int (iI p2))] := hl
  refine lv_aload_n hx hb dX4_begin_0 rfl (lv_at hl 0 rfl) ?_
  refine lv_iconst (v := iI 1) hx hb dX4_begin_1 rfl ?_
  refine va_put (D := D) (own := RX4) (ci := 4) (v := .int (iI 1)) (ty := .boolean) (C := RX4) (T := TX4) (N := 4) hx hb hts inb_X4 tyX4 tyX4_ok nmX4 hown hK.1 hP hD hS 0 rfl rfl 0 (by decide) (hts _ wd_404) (fun _ h9 => h9) rfl (by decide +kernel) (iI_nz (by omega)) (iI_fz (by omega)) (Nat.le_of_ble_eq_true rfl) dX4_begin_2 (fun H locs hP hD hS => ?_)
  have hP : va_P D vwCl [(t, .inr (4, oX4 t_q 1 t_x1 t_x2)), ((t_q 3), .inl (K 3, 60, .inr (.inl (fun j => lI (t_3_c j)))))] H := hP
  have hD : va_D A [(t, .inr (4, oX4 t_q 1 t_x1 t_x2)), ((t_q 3), .inl (K 3, 60, .inr (.inl (fun j => lI (t_3_c j)))))] := hD
  refine lv_aload_n hx hb dX4_begin_5 rfl (lv_at hl 0 rfl) ?_
  refine lv_iload_n hx hb dX4_begin_6 rfl (lv_at hl 1 rfl) ?_
  refine va_put (D := D) (own := RX4) (ci := 4) (v := .int (iI p1)) (ty := .int) (C := RX4) (T := TX4) (N := 4) hx hb hts inb_X4 tyX4 tyX4_ok nmX4 hown hK.1 hP hD hS 0 rfl rfl 1 (by decide) (hts _ wd_406) (fun _ h9 => h9) rfl (by decide +kernel) rfl rfl (Nat.le_of_ble_eq_true rfl) dX4_begin_7 (fun H locs hP hD hS => ?_)
  have hP : va_P D vwCl [(t, .inr (4, oX4 t_q 1 p1 t_x2)), ((t_q 3), .inl (K 3, 60, .inr (.inl (fun j => lI (t_3_c j)))))] H := hP
  have hD : va_D A [(t, .inr (4, oX4 t_q 1 p1 t_x2)), ((t_q 3), .inl (K 3, 60, .inr (.inl (fun j => lI (t_3_c j)))))] := hD
  refine lv_aload_n hx hb dX4_begin_10 rfl (lv_at hl 0 rfl) ?_
  refine lv_iload_n hx hb dX4_begin_11 rfl (lv_at hl 2 rfl) ?_
  refine va_put (D := D) (own := RX4) (ci := 4) (v := .int (iI p2)) (ty := .int) (C := RX4) (T := TX4) (N := 4) hx hb hts inb_X4 tyX4 tyX4_ok nmX4 hown hK.1 hP hD hS 0 rfl rfl 2 (by decide) (hts _ wd_408) (fun _ h9 => h9) rfl (by decide +kernel) rfl rfl (Nat.le_of_ble_eq_true rfl) dX4_begin_12 (fun H locs hP hD hS => ?_)
  have hP : va_P D vwCl [(t, .inr (4, oX4 t_q 1 p1 p2)), ((t_q 3), .inl (K 3, 60, .inr (.inl (fun j => lI (t_3_c j)))))] H := hP
  have hD : va_D A [(t, .inr (4, oX4 t_q 1 p1 p2)), ((t_q 3), .inl (K 3, 60, .inr (.inl (fun j => lI (t_3_c j)))))] := hD
  refine lv_aload_n hx hb dX4_begin_15 rfl (lv_at hl 0 rfl) ?_
  refine va_get (D := D) (own := RX4) (ci := 4) (v := .ref (t_q 3)) (C := RX4) (T := TX4) (N := 4) hx hb hts inb_X4 hown hK.1 hP 0 rfl rfl 3 (by decide) (hts _ wd_410) (fun _ h9 => h9) rfl dX4_begin_16 ?_
  refine lv_lconst (v := lI 0) hx hb dX4_begin_19 (by decide) ?_
  refine fn_gov (wc := [((t_q 3), .inl (K 3, 60, .inr (.inl (fun j => lI (t_3_c j)))))]) (wr := [(t, .inr (4, oX4 t_q 1 p1 p2))]) hK hP hD hS hA [1] [0] rfl rfl (by decide) (fun hp => va_runS (As := [.ref (t_q 3), .long (lI 0)]) (rest := []) ⟨hx, hb, hml, hown, hts⟩ (k_J7_fill_d0a16 (l := l) (D := D) (K := K) (a1 := (t_q 3)) (p2 := 0) (a1_c := t_3_c) (a1_n := 60) (hp2 := (by omega)) (hn_a1 := (by decide)) (hc_a1 := hc_t_3) _) (va_cwS 2 hts (fn_ginS (fn_gin wd_1210) wd_1208 wd_1209 wd_20) rfl rfl rfl (by decide +kernel) ⟨Nat.le_of_ble_eq_true rfl, Nat.le_of_ble_eq_true rfl⟩) ⟨fn_blind, hp⟩ rfl rfl hl.1 rfl (lv_room (Nat.le_of_ble_eq_true rfl)) dX4_begin_20 ⟨Nat.le_of_ble_eq_true rfl, Nat.le_of_ble_eq_true rfl⟩) (fun u20 H locs hwu20 hP hD hS => ?_)
  obtain ⟨u20a, u20b⟩ := u20
  obtain ⟨hqu20_f0, hu20_00, -⟩ := hwu20
  have hqu20_f : ∀ j : Nat, (u20b 0) j = (0 : Int) ∨ (u20b 0) j = t_3_c j := hqu20_f0
  have hu20_0 : ∀ j : Nat, (-9223372036854775808) ≤ (u20b 0) j ∧ (u20b 0) j ≤ 9223372036854775807 := hu20_00
  clear hqu20_f0 hu20_00
  have hu20_0 : ∀ j : Nat, (-9223372036854775808) ≤ (u20b 0) j ∧ (u20b 0) j ≤ 9223372036854775807 := (fun j => by have h9 := hqu20_f j; have h8 := hc_t_3 j; omega)
  have hP : va_P D vwCl [(t, .inr (4, oX4 t_q 1 p1 p2)), ((t_q 3), .inl (K 3, 60, .inr (.inl (fun j => lI ((u20b 0) j)))))] H := hP
  have hD : va_D A [(t, .inr (4, oX4 t_q 1 p1 p2)), ((t_q 3), .inl (K 3, 60, .inr (.inl (fun j => lI ((u20b 0) j)))))] := hD
  rw [hQ]; exact fn_vret hx hb hr hlocks hP hD hS ((fun k => ([1, p1, p2] : List Int).getD k 0), (fun k => ([(u20b 0)] : List (Nat → Int)).getD k (fun _ => 0))) ⟨(by show 0 ≤ 1 ∧ 1 ≤ 1 ∧ 0 ≤ p1 ∧ p1 ≤ 3 ∧ 0 ≤ p2 ∧ p2 ≤ 60 ∧ ((1 : Int) = 1) ∧ (p1 = p1) ∧ (p2 = p2); omega), (hu20_0), trivial⟩ [0, 1] (by decide) rfl dX4_begin_23
theorem dX4_spans_0 : decode cX4_spans 0 = .ok (.iload_n 1, 1) := by decide +kernel
theorem dX4_spans_1 : decode cX4_spans 1 = .ok (.ifCond .lt 29, 3) := by decide +kernel
theorem dX4_spans_30 : decode cX4_spans 30 = .ok (.iconst 0, 1) := by decide +kernel
theorem dX4_spans_31 : decode cX4_spans 31 = .ok (.ireturn, 1) := by decide +kernel
theorem dX4_spans_4 : decode cX4_spans 4 = .ok (.iload_n 2, 1) := by decide +kernel
theorem dX4_spans_5 : decode cX4_spans 5 = .ok (.ifCond .lt 25, 3) := by decide +kernel
theorem dX4_spans_8 : decode cX4_spans 8 = .ok (.iload_n 1, 1) := by decide +kernel
theorem dX4_spans_9 : decode cX4_spans 9 = .ok (.aload_n 0, 1) := by decide +kernel
theorem dX4_spans_10 : decode cX4_spans 10 = .ok (.getfield 23, 3) := by decide +kernel
theorem dX4_spans_13 : decode cX4_spans 13 = .ok (.if_icmp .gt 17, 3) := by decide +kernel
theorem dX4_spans_16 : decode cX4_spans 16 = .ok (.iload_n 2, 1) := by decide +kernel
theorem dX4_spans_17 : decode cX4_spans 17 = .ok (.aload_n 0, 1) := by decide +kernel
theorem dX4_spans_18 : decode cX4_spans 18 = .ok (.getfield 23, 3) := by decide +kernel
theorem dX4_spans_21 : decode cX4_spans 21 = .ok (.iload_n 1, 1) := by decide +kernel
theorem dX4_spans_22 : decode cX4_spans 22 = .ok (.isub, 1) := by decide +kernel
theorem dX4_spans_23 : decode cX4_spans 23 = .ok (.if_icmp .gt 7, 3) := by decide +kernel
theorem dX4_spans_26 : decode cX4_spans 26 = .ok (.iconst 1, 1) := by decide +kernel
theorem dX4_spans_27 : decode cX4_spans 27 = .ok (.goto 4, 3) := by decide +kernel
set_option maxHeartbeats 4000000 in
set_option maxRecDepth 100000 in
theorem k_X4_spanse (l : Launch) (D : va_G) (K : Nat → ClassId) (t : Nat) (t_q : Nat → Nat) (p1 p2 t_x0 t_x1 t_x2 : Int) (hp1 : (-2147483648) ≤ p1 ∧ p1 ≤ 2147483647) (hp2 : (-2147483648) ≤ p2 ∧ p2 ≤ 2147483647) (hi_t : bX4 t_x0 t_x1 t_x2) : fn_CI (S := (Nat → Int) × (Nat → Nat → Int)) l D K yX4_spans (fn_ws yX4_spans cX4_spans 3 (some .boolean)) ({ frames := 4, cells := 0, slots := 0, locals := 100 } : Room) [.ref t, .int (iI p1), .int (iI p2)] [(t, .inr (4, oX4 t_q t_x0 t_x1 t_x2))] (fun r u => ∃ k : Int, r = iI k ∧ (0 ≤ k ∧ k ≤ 1) ∧ ((k = 1 → 0 ≤ p1 ∧ 0 ≤ p2 ∧ p1 + p2 ≤ t_x2 ∧ p1 + p2 ≤ 60) ∧ (k = 0 → p1 < 0 ∨ p2 < 0 ∨ t_x2 < p1 + p2)) ∧ True) (fun u => [(t, .inr (4, oX4 t_q t_x0 t_x1 t_x2))]) 0 0 := by
  refine g_inI (cc := cX4_spans) (maxL := 3) (ret := (some .boolean)) (by decide) rfl (Nat.le_of_ble_eq_true rfl) ?_
  intro p e s m below meth c A ls ag Q B hA hP hD hS hl hQ
  obtain ⟨hx, hb, hr, hml, hts, hown, hlocks, hin, hK⟩ := B
  have hown : s.vm.findClass RX4 = some m.cls := hown
  have hts := fun w h => hts w (List.mem_cons_of_mem _ h)
  have hl : lv_has ls 3 [(0, .ref t), (1, .int (iI p1)), (2, .int (iI p2))] := hl
  refine lv_iload_n hx hb dX4_spans_0 rfl (lv_at hl 1 rfl) ?_
  refine g_if_lt (tgt := 30) hx hb (by omega) dX4_spans_1 (by decide) (fun c1 => ?_) (fun c1 => ?_)
  · refine lv_iconst (v := iI 0) hx hb dX4_spans_30 rfl ?_
    rw [hQ]; exact fn_iret hx hb hr hlocks (iI_nz (by omega)) hP hD hS ((fun _ => 0), (fun _ _ => 0)) ⟨0, rfl, by omega, (by show ((0 : Int) = 1 → 0 ≤ p1 ∧ 0 ≤ p2 ∧ p1 + p2 ≤ t_x2 ∧ p1 + p2 ≤ 60) ∧ ((0 : Int) = 0 → p1 < 0 ∨ p2 < 0 ∨ t_x2 < p1 + p2); omega), trivial⟩ [0] (by decide) rfl dX4_spans_31
  · refine lv_iload_n hx hb dX4_spans_4 rfl (lv_at hl 2 rfl) ?_
    refine g_if_lt (tgt := 30) hx hb (by omega) dX4_spans_5 (by decide) (fun c5 => ?_) (fun c5 => ?_)
    · refine lv_iconst (v := iI 0) hx hb dX4_spans_30 rfl ?_
      rw [hQ]; exact fn_iret hx hb hr hlocks (iI_nz (by omega)) hP hD hS ((fun _ => 0), (fun _ _ => 0)) ⟨0, rfl, by omega, (by show ((0 : Int) = 1 → 0 ≤ p1 ∧ 0 ≤ p2 ∧ p1 + p2 ≤ t_x2 ∧ p1 + p2 ≤ 60) ∧ ((0 : Int) = 0 → p1 < 0 ∨ p2 < 0 ∨ t_x2 < p1 + p2); omega), trivial⟩ [0] (by decide) rfl dX4_spans_31
    · refine lv_iload_n hx hb dX4_spans_8 rfl (lv_at hl 1 rfl) ?_
      refine lv_aload_n hx hb dX4_spans_9 rfl (lv_at hl 0 rfl) ?_
      refine va_get (D := D) (own := RX4) (ci := 4) (v := .int (iI t_x2)) (C := RX4) (T := TX4) (N := 4) hx hb hts inb_X4 hown hK.1 hP 0 rfl rfl 2 (by decide) (hts _ wd_408) (fun _ h9 => h9) rfl dX4_spans_10 ?_
      have y10_1 : 0 ≤ t_x2 ∧ t_x2 ≤ 60 := hi_t.2.2
      refine g_icmp_gt (tgt := 30) hx hb (by omega) (by omega) dX4_spans_13 (by decide) (fun c13 => ?_) (fun c13 => ?_)
      · refine lv_iconst (v := iI 0) hx hb dX4_spans_30 rfl ?_
        rw [hQ]; exact fn_iret hx hb hr hlocks (iI_nz (by omega)) hP hD hS ((fun _ => 0), (fun _ _ => 0)) ⟨0, rfl, by omega, (by show ((0 : Int) = 1 → 0 ≤ p1 ∧ 0 ≤ p2 ∧ p1 + p2 ≤ t_x2 ∧ p1 + p2 ≤ 60) ∧ ((0 : Int) = 0 → p1 < 0 ∨ p2 < 0 ∨ t_x2 < p1 + p2); omega), trivial⟩ [0] (by decide) rfl dX4_spans_31
      · refine lv_iload_n hx hb dX4_spans_16 rfl (lv_at hl 2 rfl) ?_
        refine lv_aload_n hx hb dX4_spans_17 rfl (lv_at hl 0 rfl) ?_
        refine va_get (D := D) (own := RX4) (ci := 4) (v := .int (iI t_x2)) (C := RX4) (T := TX4) (N := 4) hx hb hts inb_X4 hown hK.1 hP 0 rfl rfl 2 (by decide) (hts _ wd_408) (fun _ h9 => h9) rfl dX4_spans_18 ?_
        refine lv_iload_n hx hb dX4_spans_21 rfl (lv_at hl 1 rfl) ?_
        refine g_isub hx hb dX4_spans_22 ?_
        refine g_icmp_gt (tgt := 30) hx hb (by omega) (by omega) dX4_spans_23 (by decide) (fun c23 => ?_) (fun c23 => ?_)
        · refine lv_iconst (v := iI 0) hx hb dX4_spans_30 rfl ?_
          rw [hQ]; exact fn_iret hx hb hr hlocks (iI_nz (by omega)) hP hD hS ((fun _ => 0), (fun _ _ => 0)) ⟨0, rfl, by omega, (by show ((0 : Int) = 1 → 0 ≤ p1 ∧ 0 ≤ p2 ∧ p1 + p2 ≤ t_x2 ∧ p1 + p2 ≤ 60) ∧ ((0 : Int) = 0 → p1 < 0 ∨ p2 < 0 ∨ t_x2 < p1 + p2); omega), trivial⟩ [0] (by decide) rfl dX4_spans_31
        · refine lv_iconst (v := iI 1) hx hb dX4_spans_26 rfl ?_
          refine lv_goto (tgt := 31) hx hb dX4_spans_27 (by decide) ?_
          rw [hQ]; exact fn_iret hx hb hr hlocks (iI_nz (by omega)) hP hD hS ((fun _ => 0), (fun _ _ => 0)) ⟨1, rfl, by omega, (by show ((1 : Int) = 1 → 0 ≤ p1 ∧ 0 ≤ p2 ∧ p1 + p2 ≤ t_x2 ∧ p1 + p2 ≤ 60) ∧ ((1 : Int) = 0 → p1 < 0 ∨ p2 < 0 ∨ t_x2 < p1 + p2); omega), trivial⟩ [0] (by decide) rfl dX4_spans_31
theorem wd_1207 : Cond.code ⟨"FootNotes$Row", "begin", "(II)V"⟩ prog_6_method_2_code 3 (Option.none : Option Jvm.ClassFile.FieldType) ∈ fn_big := fn_tb (fn_l6 (List.mem_of_getElem? (i := 7) (by decide +kernel))) (by decide +kernel)
theorem wd_12 : Cond.initialized "FootNotes$Row" ∈ fn_big := fn_tb (fn_l1 (List.mem_of_getElem? (i := 12) (by decide +kernel))) (by decide +kernel)
theorem wd_1206 : Cond.instanceMethod ⟨"FootNotes$Row", "begin", "(II)V"⟩ ∈ fn_big := fn_tb (fn_l6 (List.mem_of_getElem? (i := 6) (by decide +kernel))) (by decide +kernel)
theorem wp_91 : Cond.selects "FootNotes$Row" ⟨"FootNotes$Row", "begin", "(II)V"⟩ ⟨"FootNotes$Row", "begin", "(II)V"⟩ ∈ fn_big := fn_sel (q := (⟨"FootNotes$Row", "begin", "(II)V"⟩, 4)) 91 (by decide +kernel) (by decide +kernel)
theorem dX11_row_7 : decode cX11_row 7 = .ok (.iload_n 2, 1) := by decide +kernel
theorem dX11_row_8 : decode cX11_row 8 = .ok (.ifCond .lt 14, 3) := by decide +kernel
theorem dX11_row_11 : decode cX11_row 11 = .ok (.iload_n 2, 1) := by decide +kernel
theorem dX11_row_12 : decode cX11_row 12 = .ok (.iconst 4, 1) := by decide +kernel
theorem dX11_row_13 : decode cX11_row 13 = .ok (.if_icmp .ge 9, 3) := by decide +kernel
theorem dX11_row_16 : decode cX11_row 16 = .ok (.iload_n 3, 1) := by decide +kernel
theorem dX11_row_17 : decode cX11_row 17 = .ok (.bipush 60, 2) := by decide +kernel
theorem dX11_row_19 : decode cX11_row 19 = .ok (.if_icmp .le 6, 3) := by decide +kernel
theorem dX11_row_25 : decode cX11_row 25 = .ok (.iload_n 3, 1) := by decide +kernel
theorem dX11_row_26 : decode cX11_row 26 = .ok (.ifCond .ge 6, 3) := by decide +kernel
theorem dX11_row_32 : decode cX11_row 32 = .ok (.aload_n 0, 1) := by decide +kernel
theorem dX11_row_33 : decode cX11_row 33 = .ok (.getfield 44, 3) := by decide +kernel
theorem dX11_row_36 : decode cX11_row 36 = .ok (.iload_n 1, 1) := by decide +kernel
theorem dX11_row_37 : decode cX11_row 37 = .ok (.aaload, 1) := by decide +kernel
theorem dX11_row_38 : decode cX11_row 38 = .ok (.iload_n 2, 1) := by decide +kernel
theorem dX11_row_39 : decode cX11_row 39 = .ok (.iload_n 3, 1) := by decide +kernel
theorem dX11_row_40 : decode cX11_row 40 = .ok (.invokevirtual 452, 3) := by decide +kernel
theorem dX11_row_43 : decode cX11_row 43 = .ok (.iconst 0, 1) := by decide +kernel
theorem dX11_row_44 : decode cX11_row 44 = .ok (.ireturn, 1) := by decide +kernel
theorem dX11_row_29 : decode cX11_row 29 = .ok (.bipush (-3), 2) := by decide +kernel
theorem dX11_row_31 : decode cX11_row 31 = .ok (.ireturn, 1) := by decide +kernel
set_option maxHeartbeats 4000000 in
set_option maxRecDepth 100000 in
theorem k_X11_row_0e (l : Launch) (D : va_G) (K : Nat → ClassId) (t : Nat) (t_q t_6_r t_6_0_q : Nat → Nat) (p2 p3 t_6_0_x0 t_6_0_x1 t_6_0_x2 : Int) (t_6_c : Nat → Option Nat) (t_6_0_3_c : Nat → Int) (hp2 : (-2147483648) ≤ p2 ∧ p2 ≤ 2147483647) (hp3 : (-2147483648) ≤ p3 ∧ p3 ≤ 2147483647) (hr_t_6 : ∀ j : Nat, j < 4 → t_6_c j = some (t_6_r j)) (hi_t_6_0 : bX4 t_6_0_x0 t_6_0_x1 t_6_0_x2) (hc_t_6_0_3 : ∀ j : Nat, (-9223372036854775808) ≤ t_6_0_3_c j ∧ t_6_0_3_c j ≤ 9223372036854775807) : fn_CI (S := (Nat → Int) × (Nat → Nat → Int)) l D K yX11_row (fn_ws yX11_row cX11_row 4 (some .int)) ({ frames := 12, cells := 0, slots := 0, locals := 300 } : Room) [.ref t, .int (iI 0), .int (iI p2), .int (iI p3)] [(t, .inr (11, oX11 t_q)), ((t_q 6), .inl (K 6, 4, .inr (.inr (.inr (.inr t_6_c))))), ((t_6_r 0), .inr (4, oX4 t_6_0_q t_6_0_x0 t_6_0_x1 t_6_0_x2)), ((t_6_0_q 3), .inl (K 3, 60, .inr (.inl (fun j => lI (t_6_0_3_c j)))))] (fun r u => ∃ k : Int, r = iI k ∧ ((-3) ≤ k ∧ k ≤ 0) ∧ (0 ≤ (u.1 0) ∧ (u.1 0) ≤ 1 ∧ 0 ≤ (u.1 1) ∧ (u.1 1) ≤ 3 ∧ 0 ≤ (u.1 2) ∧ (u.1 2) ≤ 60 ∧ ((p2 < 0 ∨ 3 < p2 ∨ 60 < p3) → k = -2) ∧ (0 ≤ p2 → p2 ≤ 3 → p3 < 0 → k = -3) ∧ (0 ≤ p2 → p2 ≤ 3 → 0 ≤ p3 → p3 ≤ 60 → (k = 0 ∧ (u.1 0) = 1 ∧ (u.1 1) = p2 ∧ (u.1 2) = p3)) ∧ (k ≠ 0 → ((u.1 0) = t_6_0_x0 ∧ (u.1 1) = t_6_0_x1 ∧ (u.1 2) = t_6_0_x2))) ∧ (∀ j : Nat, (-9223372036854775808) ≤ (u.2 0) j ∧ (u.2 0) j ≤ 9223372036854775807) ∧ True) (fun u => [(t, .inr (11, oX11 t_q)), ((t_q 6), .inl (K 6, 4, .inr (.inr (.inr (.inr t_6_c))))), ((t_6_r 0), .inr (4, oX4 t_6_0_q (u.1 0) (u.1 1) (u.1 2))), ((t_6_0_q 3), .inl (K 3, 60, .inr (.inl (fun j => lI ((u.2 0) j)))))]) 0 0 := by
  refine g_inI (cc := cX11_row) (maxL := 4) (ret := (some .int)) (by decide) rfl (Nat.le_of_ble_eq_true rfl) ?_
  intro p e s m below meth c A ls ag Q B hA hP hD hS hl hQ
  obtain ⟨hx, hb, hr, hml, hts, hown, hlocks, hin, hK⟩ := B
  have hown : s.vm.findClass RX11 = some m.cls := hown
  have hts := fun w h => hts w (List.mem_cons_of_mem _ h)
  have hl : lv_has ls 4 [(0, .ref t), (1, .int (iI 0)), (2, .int (iI p2)), (3, .int (iI p3))] := hl
  refine lv_iload_n hx hb dX11_row_0 rfl (lv_at hl 1 rfl) ?_
  refine fn_goi (wc := []) (wr := [(t, .inr (11, oX11 t_q)), ((t_q 6), .inl (K 6, 4, .inr (.inr (.inr (.inr t_6_c))))), ((t_6_r 0), .inr (4, oX4 t_6_0_q t_6_0_x0 t_6_0_x1 t_6_0_x2)), ((t_6_0_q 3), .inl (K 3, 60, .inr (.inl (fun j => lI (t_6_0_3_c j)))))]) hK hP hD hS hA [] [0, 1, 2, 3] rfl rfl (by decide) (fun hp => va_runS (As := [.int (iI 0)]) (rest := []) ⟨hx, hb, hml, hown, hts⟩ (k_X11_noSlot (l := l) (D := D) (K := K) (p1 := 0) (hp1 := (by omega)) _) (va_cwS 1 hts (fn_ginS (fn_gin wd_963) wd_961 wd_962 wd_1) rfl rfl rfl (by decide +kernel) ⟨Nat.le_of_ble_eq_true rfl, Nat.le_of_ble_eq_true rfl⟩) ⟨fn_blind, hp⟩ rfl rfl hl.1 rfl (lv_room (Nat.le_of_ble_eq_true rfl)) dX11_row_1 ⟨Nat.le_of_ble_eq_true rfl, Nat.le_of_ble_eq_true rfl⟩) (fun r1 u1 H locs hwu1 hP hD hS => ?_)
  obtain ⟨u1a, u1b⟩ := u1
  obtain ⟨kr1, rfl, hkr1, hqu10, -⟩ := hwu1
  have hqu1 : (kr1 = 0 → 0 ≤ (0 : Int) ∧ (0 : Int) ≤ 3) ∧ (kr1 = 1 → (0 : Int) < 0 ∨ 3 < (0 : Int)) := hqu10
  clear hqu10
  have hP : va_P D vwCl [(t, .inr (11, oX11 t_q)), ((t_q 6), .inl (K 6, 4, .inr (.inr (.inr (.inr t_6_c))))), ((t_6_r 0), .inr (4, oX4 t_6_0_q t_6_0_x0 t_6_0_x1 t_6_0_x2)), ((t_6_0_q 3), .inl (K 3, 60, .inr (.inl (fun j => lI (t_6_0_3_c j)))))] H := hP
  have hD : va_D A [(t, .inr (11, oX11 t_q)), ((t_q 6), .inl (K 6, 4, .inr (.inr (.inr (.inr t_6_c))))), ((t_6_r 0), .inr (4, oX4 t_6_0_q t_6_0_x0 t_6_0_x1 t_6_0_x2)), ((t_6_0_q 3), .inl (K 3, 60, .inr (.inl (fun j => lI (t_6_0_3_c j)))))] := hD
  refine g_if_ne (tgt := 22) hx hb (by omega) dX11_row_4 (by decide) (fun c4 => ?_) (fun c4 => ?_)
  · refine lv_bipush (v := iI (-2)) hx hb dX11_row_22 (by decide) ?_
    have y24_1 : 0 ≤ t_6_0_x0 ∧ t_6_0_x0 ≤ 1 := hi_t_6_0.1
    have y24_2 : 0 ≤ t_6_0_x1 ∧ t_6_0_x1 ≤ 3 := hi_t_6_0.2.1
    have y24_3 : 0 ≤ t_6_0_x2 ∧ t_6_0_x2 ≤ 60 := hi_t_6_0.2.2
    rw [hQ]; exact fn_iret hx hb hr hlocks rfl hP hD hS ((fun k => ([t_6_0_x0, t_6_0_x1, t_6_0_x2] : List Int).getD k 0), (fun k => ([t_6_0_3_c] : List (Nat → Int)).getD k (fun _ => 0))) ⟨(-2), rfl, by omega, (by show 0 ≤ t_6_0_x0 ∧ t_6_0_x0 ≤ 1 ∧ 0 ≤ t_6_0_x1 ∧ t_6_0_x1 ≤ 3 ∧ 0 ≤ t_6_0_x2 ∧ t_6_0_x2 ≤ 60 ∧ ((p2 < 0 ∨ 3 < p2 ∨ 60 < p3) → (-2 : Int) = -2) ∧ (0 ≤ p2 → p2 ≤ 3 → p3 < 0 → (-2 : Int) = -3) ∧ (0 ≤ p2 → p2 ≤ 3 → 0 ≤ p3 → p3 ≤ 60 → ((-2 : Int) = 0 ∧ t_6_0_x0 = 1 ∧ t_6_0_x1 = p2 ∧ t_6_0_x2 = p3)) ∧ ((-2 : Int) ≠ 0 → (t_6_0_x0 = t_6_0_x0 ∧ t_6_0_x1 = t_6_0_x1 ∧ t_6_0_x2 = t_6_0_x2)); omega), (hc_t_6_0_3), trivial⟩ [0, 1, 2, 3] (by decide) rfl dX11_row_24
  · refine lv_iload_n hx hb dX11_row_7 rfl (lv_at hl 2 rfl) ?_
    refine g_if_lt (tgt := 22) hx hb (by omega) dX11_row_8 (by decide) (fun c8 => ?_) (fun c8 => ?_)
    · refine lv_bipush (v := iI (-2)) hx hb dX11_row_22 (by decide) ?_
      have y24_1 : 0 ≤ t_6_0_x0 ∧ t_6_0_x0 ≤ 1 := hi_t_6_0.1
      have y24_2 : 0 ≤ t_6_0_x1 ∧ t_6_0_x1 ≤ 3 := hi_t_6_0.2.1
      have y24_3 : 0 ≤ t_6_0_x2 ∧ t_6_0_x2 ≤ 60 := hi_t_6_0.2.2
      rw [hQ]; exact fn_iret hx hb hr hlocks rfl hP hD hS ((fun k => ([t_6_0_x0, t_6_0_x1, t_6_0_x2] : List Int).getD k 0), (fun k => ([t_6_0_3_c] : List (Nat → Int)).getD k (fun _ => 0))) ⟨(-2), rfl, by omega, (by show 0 ≤ t_6_0_x0 ∧ t_6_0_x0 ≤ 1 ∧ 0 ≤ t_6_0_x1 ∧ t_6_0_x1 ≤ 3 ∧ 0 ≤ t_6_0_x2 ∧ t_6_0_x2 ≤ 60 ∧ ((p2 < 0 ∨ 3 < p2 ∨ 60 < p3) → (-2 : Int) = -2) ∧ (0 ≤ p2 → p2 ≤ 3 → p3 < 0 → (-2 : Int) = -3) ∧ (0 ≤ p2 → p2 ≤ 3 → 0 ≤ p3 → p3 ≤ 60 → ((-2 : Int) = 0 ∧ t_6_0_x0 = 1 ∧ t_6_0_x1 = p2 ∧ t_6_0_x2 = p3)) ∧ ((-2 : Int) ≠ 0 → (t_6_0_x0 = t_6_0_x0 ∧ t_6_0_x1 = t_6_0_x1 ∧ t_6_0_x2 = t_6_0_x2)); omega), (hc_t_6_0_3), trivial⟩ [0, 1, 2, 3] (by decide) rfl dX11_row_24
    · refine lv_iload_n hx hb dX11_row_11 rfl (lv_at hl 2 rfl) ?_
      refine lv_iconst (v := iI 4) hx hb dX11_row_12 rfl ?_
      refine g_icmp_ge (tgt := 22) hx hb (by omega) (by omega) dX11_row_13 (by decide) (fun c13 => ?_) (fun c13 => ?_)
      · refine lv_bipush (v := iI (-2)) hx hb dX11_row_22 (by decide) ?_
        have y24_1 : 0 ≤ t_6_0_x0 ∧ t_6_0_x0 ≤ 1 := hi_t_6_0.1
        have y24_2 : 0 ≤ t_6_0_x1 ∧ t_6_0_x1 ≤ 3 := hi_t_6_0.2.1
        have y24_3 : 0 ≤ t_6_0_x2 ∧ t_6_0_x2 ≤ 60 := hi_t_6_0.2.2
        rw [hQ]; exact fn_iret hx hb hr hlocks rfl hP hD hS ((fun k => ([t_6_0_x0, t_6_0_x1, t_6_0_x2] : List Int).getD k 0), (fun k => ([t_6_0_3_c] : List (Nat → Int)).getD k (fun _ => 0))) ⟨(-2), rfl, by omega, (by show 0 ≤ t_6_0_x0 ∧ t_6_0_x0 ≤ 1 ∧ 0 ≤ t_6_0_x1 ∧ t_6_0_x1 ≤ 3 ∧ 0 ≤ t_6_0_x2 ∧ t_6_0_x2 ≤ 60 ∧ ((p2 < 0 ∨ 3 < p2 ∨ 60 < p3) → (-2 : Int) = -2) ∧ (0 ≤ p2 → p2 ≤ 3 → p3 < 0 → (-2 : Int) = -3) ∧ (0 ≤ p2 → p2 ≤ 3 → 0 ≤ p3 → p3 ≤ 60 → ((-2 : Int) = 0 ∧ t_6_0_x0 = 1 ∧ t_6_0_x1 = p2 ∧ t_6_0_x2 = p3)) ∧ ((-2 : Int) ≠ 0 → (t_6_0_x0 = t_6_0_x0 ∧ t_6_0_x1 = t_6_0_x1 ∧ t_6_0_x2 = t_6_0_x2)); omega), (hc_t_6_0_3), trivial⟩ [0, 1, 2, 3] (by decide) rfl dX11_row_24
      · refine lv_iload_n hx hb dX11_row_16 rfl (lv_at hl 3 rfl) ?_
        refine lv_bipush (v := iI 60) hx hb dX11_row_17 (by decide) ?_
        refine g_icmp_le (tgt := 25) hx hb (by omega) (by omega) dX11_row_19 (by decide) (fun c19 => ?_) (fun c19 => ?_)
        · refine lv_iload_n hx hb dX11_row_25 rfl (lv_at hl 3 rfl) ?_
          refine g_if_ge (tgt := 32) hx hb (by omega) dX11_row_26 (by decide) (fun c26 => ?_) (fun c26 => ?_)
          · refine lv_aload_n hx hb dX11_row_32 rfl (lv_at hl 0 rfl) ?_
            refine va_get (D := D) (own := RX11) (ci := 11) (v := .ref (t_q 6)) (C := RX11) (T := TX11) (N := 13) hx hb hts inb_X11 hown hK.1 hP 0 rfl rfl 6 (by decide) (hts _ wd_428) (fun _ h9 => h9) rfl dX11_row_33 ?_
            refine lv_iload_n hx hb dX11_row_36 rfl (lv_at hl 1 rfl) ?_
            refine va_aldq hx hb hK.1 hP 1 6 rfl rfl (iI_in (by decide) (by decide) (by decide)) dX11_row_37 ?_
            refine fn_topv (.ref (t_6_r 0)) (by rw [iI_cl (by decide)]; exact congrArg va_rf (hr_t_6 0 (by decide))) ?_
            refine lv_iload_n hx hb dX11_row_38 rfl (lv_at hl 2 rfl) ?_
            refine lv_iload_n hx hb dX11_row_39 rfl (lv_at hl 3 rfl) ?_
            refine fn_at 40 rfl ?_
            refine fn_gov (wc := [((t_6_r 0), .inr (4, oX4 t_6_0_q t_6_0_x0 t_6_0_x1 t_6_0_x2)), ((t_6_0_q 3), .inl (K 3, 60, .inr (.inl (fun j => lI (t_6_0_3_c j)))))]) (wr := [(t, .inr (11, oX11 t_q)), ((t_q 6), .inl (K 6, 4, .inr (.inr (.inr (.inr t_6_c)))))]) hK hP hD hS hA [2, 3] [0, 1] rfl rfl (by decide) (fun hp => va_runVN (C := RX4) (As := [.int (iI p2), .int (iI p3)]) (rest := []) ⟨hx, hb, hml, hown, hts⟩ (k_X4_begine (l := l) (D := D) (K := K) (t := (t_6_r 0)) (p1 := p2) (p2 := p3) (t_q := t_6_0_q) (t_x0 := t_6_0_x0) (t_x1 := t_6_0_x1) (t_x2 := t_6_0_x2) (t_3_c := t_6_0_3_c) (hp1 := (by omega)) (hp2 := (by omega)) (hi_t := hi_t_6_0) (hc_t_3 := hc_t_6_0_3) _) ⟨va_cnB (own := RX11) 2 hts (fn_gin wd_1207) rfl rfl rfl (hK.nw 153 rfl) (hts _ wd_12) (by decide +kernel) ⟨Nat.le_of_ble_eq_true rfl, Nat.le_of_ble_eq_true rfl⟩, hts _ wd_1206, hts _ wp_91⟩ ⟨fn_blind, va_recv hK.1 hP (ci := 4) (q0 := 2) rfl rfl, hp⟩ rfl rfl hl.1 rfl (lv_room (Nat.le_of_ble_eq_true rfl)) dX11_row_40 ⟨Nat.le_of_ble_eq_true rfl, Nat.le_of_ble_eq_true rfl⟩) (fun u40 H locs hwu40 hP hD hS => ?_)
            obtain ⟨u40a, u40b⟩ := u40
            obtain ⟨hqu400, hu40_00, -⟩ := hwu40
            have hqu40 : 0 ≤ (u40a 0) ∧ (u40a 0) ≤ 1 ∧ 0 ≤ (u40a 1) ∧ (u40a 1) ≤ 3 ∧ 0 ≤ (u40a 2) ∧ (u40a 2) ≤ 60 ∧ ((u40a 0) = 1) ∧ ((u40a 1) = p2) ∧ ((u40a 2) = p3) := hqu400
            have hu40_0 : ∀ j : Nat, (-9223372036854775808) ≤ (u40b 0) j ∧ (u40b 0) j ≤ 9223372036854775807 := hu40_00
            clear hqu400 hu40_00
            have hP : va_P D vwCl [(t, .inr (11, oX11 t_q)), ((t_q 6), .inl (K 6, 4, .inr (.inr (.inr (.inr t_6_c))))), ((t_6_r 0), .inr (4, oX4 t_6_0_q (u40a 0) (u40a 1) (u40a 2))), ((t_6_0_q 3), .inl (K 3, 60, .inr (.inl (fun j => lI ((u40b 0) j)))))] H := hP
            have hD : va_D A [(t, .inr (11, oX11 t_q)), ((t_q 6), .inl (K 6, 4, .inr (.inr (.inr (.inr t_6_c))))), ((t_6_r 0), .inr (4, oX4 t_6_0_q (u40a 0) (u40a 1) (u40a 2))), ((t_6_0_q 3), .inl (K 3, 60, .inr (.inl (fun j => lI ((u40b 0) j)))))] := hD
            refine lv_iconst (v := iI 0) hx hb dX11_row_43 rfl ?_
            rw [hQ]; exact fn_iret hx hb hr hlocks rfl hP hD hS ((fun k => ([(u40a 0), (u40a 1), (u40a 2)] : List Int).getD k 0), (fun k => ([(u40b 0)] : List (Nat → Int)).getD k (fun _ => 0))) ⟨0, rfl, by omega, (by show 0 ≤ (u40a 0) ∧ (u40a 0) ≤ 1 ∧ 0 ≤ (u40a 1) ∧ (u40a 1) ≤ 3 ∧ 0 ≤ (u40a 2) ∧ (u40a 2) ≤ 60 ∧ ((p2 < 0 ∨ 3 < p2 ∨ 60 < p3) → (0 : Int) = -2) ∧ (0 ≤ p2 → p2 ≤ 3 → p3 < 0 → (0 : Int) = -3) ∧ (0 ≤ p2 → p2 ≤ 3 → 0 ≤ p3 → p3 ≤ 60 → ((0 : Int) = 0 ∧ (u40a 0) = 1 ∧ (u40a 1) = p2 ∧ (u40a 2) = p3)) ∧ ((0 : Int) ≠ 0 → ((u40a 0) = t_6_0_x0 ∧ (u40a 1) = t_6_0_x1 ∧ (u40a 2) = t_6_0_x2)); omega), (hu40_0), trivial⟩ [0, 1, 2, 3] (by decide) rfl dX11_row_44
          · refine lv_bipush (v := iI (-3)) hx hb dX11_row_29 (by decide) ?_
            have y31_1 : 0 ≤ t_6_0_x0 ∧ t_6_0_x0 ≤ 1 := hi_t_6_0.1
            have y31_2 : 0 ≤ t_6_0_x1 ∧ t_6_0_x1 ≤ 3 := hi_t_6_0.2.1
            have y31_3 : 0 ≤ t_6_0_x2 ∧ t_6_0_x2 ≤ 60 := hi_t_6_0.2.2
            rw [hQ]; exact fn_iret hx hb hr hlocks rfl hP hD hS ((fun k => ([t_6_0_x0, t_6_0_x1, t_6_0_x2] : List Int).getD k 0), (fun k => ([t_6_0_3_c] : List (Nat → Int)).getD k (fun _ => 0))) ⟨(-3), rfl, by omega, (by show 0 ≤ t_6_0_x0 ∧ t_6_0_x0 ≤ 1 ∧ 0 ≤ t_6_0_x1 ∧ t_6_0_x1 ≤ 3 ∧ 0 ≤ t_6_0_x2 ∧ t_6_0_x2 ≤ 60 ∧ ((p2 < 0 ∨ 3 < p2 ∨ 60 < p3) → (-3 : Int) = -2) ∧ (0 ≤ p2 → p2 ≤ 3 → p3 < 0 → (-3 : Int) = -3) ∧ (0 ≤ p2 → p2 ≤ 3 → 0 ≤ p3 → p3 ≤ 60 → ((-3 : Int) = 0 ∧ t_6_0_x0 = 1 ∧ t_6_0_x1 = p2 ∧ t_6_0_x2 = p3)) ∧ ((-3 : Int) ≠ 0 → (t_6_0_x0 = t_6_0_x0 ∧ t_6_0_x1 = t_6_0_x1 ∧ t_6_0_x2 = t_6_0_x2)); omega), (hc_t_6_0_3), trivial⟩ [0, 1, 2, 3] (by decide) rfl dX11_row_31
        · refine lv_bipush (v := iI (-2)) hx hb dX11_row_22 (by decide) ?_
          have y24_1 : 0 ≤ t_6_0_x0 ∧ t_6_0_x0 ≤ 1 := hi_t_6_0.1
          have y24_2 : 0 ≤ t_6_0_x1 ∧ t_6_0_x1 ≤ 3 := hi_t_6_0.2.1
          have y24_3 : 0 ≤ t_6_0_x2 ∧ t_6_0_x2 ≤ 60 := hi_t_6_0.2.2
          rw [hQ]; exact fn_iret hx hb hr hlocks rfl hP hD hS ((fun k => ([t_6_0_x0, t_6_0_x1, t_6_0_x2] : List Int).getD k 0), (fun k => ([t_6_0_3_c] : List (Nat → Int)).getD k (fun _ => 0))) ⟨(-2), rfl, by omega, (by show 0 ≤ t_6_0_x0 ∧ t_6_0_x0 ≤ 1 ∧ 0 ≤ t_6_0_x1 ∧ t_6_0_x1 ≤ 3 ∧ 0 ≤ t_6_0_x2 ∧ t_6_0_x2 ≤ 60 ∧ ((p2 < 0 ∨ 3 < p2 ∨ 60 < p3) → (-2 : Int) = -2) ∧ (0 ≤ p2 → p2 ≤ 3 → p3 < 0 → (-2 : Int) = -3) ∧ (0 ≤ p2 → p2 ≤ 3 → 0 ≤ p3 → p3 ≤ 60 → ((-2 : Int) = 0 ∧ t_6_0_x0 = 1 ∧ t_6_0_x1 = p2 ∧ t_6_0_x2 = p3)) ∧ ((-2 : Int) ≠ 0 → (t_6_0_x0 = t_6_0_x0 ∧ t_6_0_x1 = t_6_0_x1 ∧ t_6_0_x2 = t_6_0_x2)); omega), (hc_t_6_0_3), trivial⟩ [0, 1, 2, 3] (by decide) rfl dX11_row_24
set_option maxHeartbeats 4000000 in
set_option maxRecDepth 100000 in
theorem k_X11_row_1e (l : Launch) (D : va_G) (K : Nat → ClassId) (t : Nat) (t_q t_6_r t_6_1_q : Nat → Nat) (p2 p3 t_6_1_x0 t_6_1_x1 t_6_1_x2 : Int) (t_6_c : Nat → Option Nat) (t_6_1_3_c : Nat → Int) (hp2 : (-2147483648) ≤ p2 ∧ p2 ≤ 2147483647) (hp3 : (-2147483648) ≤ p3 ∧ p3 ≤ 2147483647) (hr_t_6 : ∀ j : Nat, j < 4 → t_6_c j = some (t_6_r j)) (hi_t_6_1 : bX4 t_6_1_x0 t_6_1_x1 t_6_1_x2) (hc_t_6_1_3 : ∀ j : Nat, (-9223372036854775808) ≤ t_6_1_3_c j ∧ t_6_1_3_c j ≤ 9223372036854775807) : fn_CI (S := (Nat → Int) × (Nat → Nat → Int)) l D K yX11_row (fn_ws yX11_row cX11_row 4 (some .int)) ({ frames := 12, cells := 0, slots := 0, locals := 300 } : Room) [.ref t, .int (iI 1), .int (iI p2), .int (iI p3)] [(t, .inr (11, oX11 t_q)), ((t_q 6), .inl (K 6, 4, .inr (.inr (.inr (.inr t_6_c))))), ((t_6_r 1), .inr (4, oX4 t_6_1_q t_6_1_x0 t_6_1_x1 t_6_1_x2)), ((t_6_1_q 3), .inl (K 3, 60, .inr (.inl (fun j => lI (t_6_1_3_c j)))))] (fun r u => ∃ k : Int, r = iI k ∧ ((-3) ≤ k ∧ k ≤ 0) ∧ (0 ≤ (u.1 0) ∧ (u.1 0) ≤ 1 ∧ 0 ≤ (u.1 1) ∧ (u.1 1) ≤ 3 ∧ 0 ≤ (u.1 2) ∧ (u.1 2) ≤ 60 ∧ ((p2 < 0 ∨ 3 < p2 ∨ 60 < p3) → k = -2) ∧ (0 ≤ p2 → p2 ≤ 3 → p3 < 0 → k = -3) ∧ (0 ≤ p2 → p2 ≤ 3 → 0 ≤ p3 → p3 ≤ 60 → (k = 0 ∧ (u.1 0) = 1 ∧ (u.1 1) = p2 ∧ (u.1 2) = p3)) ∧ (k ≠ 0 → ((u.1 0) = t_6_1_x0 ∧ (u.1 1) = t_6_1_x1 ∧ (u.1 2) = t_6_1_x2))) ∧ (∀ j : Nat, (-9223372036854775808) ≤ (u.2 0) j ∧ (u.2 0) j ≤ 9223372036854775807) ∧ True) (fun u => [(t, .inr (11, oX11 t_q)), ((t_q 6), .inl (K 6, 4, .inr (.inr (.inr (.inr t_6_c))))), ((t_6_r 1), .inr (4, oX4 t_6_1_q (u.1 0) (u.1 1) (u.1 2))), ((t_6_1_q 3), .inl (K 3, 60, .inr (.inl (fun j => lI ((u.2 0) j)))))]) 0 0 := by
  refine g_inI (cc := cX11_row) (maxL := 4) (ret := (some .int)) (by decide) rfl (Nat.le_of_ble_eq_true rfl) ?_
  intro p e s m below meth c A ls ag Q B hA hP hD hS hl hQ
  obtain ⟨hx, hb, hr, hml, hts, hown, hlocks, hin, hK⟩ := B
  have hown : s.vm.findClass RX11 = some m.cls := hown
  have hts := fun w h => hts w (List.mem_cons_of_mem _ h)
  have hl : lv_has ls 4 [(0, .ref t), (1, .int (iI 1)), (2, .int (iI p2)), (3, .int (iI p3))] := hl
  refine lv_iload_n hx hb dX11_row_0 rfl (lv_at hl 1 rfl) ?_
  refine fn_goi (wc := []) (wr := [(t, .inr (11, oX11 t_q)), ((t_q 6), .inl (K 6, 4, .inr (.inr (.inr (.inr t_6_c))))), ((t_6_r 1), .inr (4, oX4 t_6_1_q t_6_1_x0 t_6_1_x1 t_6_1_x2)), ((t_6_1_q 3), .inl (K 3, 60, .inr (.inl (fun j => lI (t_6_1_3_c j)))))]) hK hP hD hS hA [] [0, 1, 2, 3] rfl rfl (by decide) (fun hp => va_runS (As := [.int (iI 1)]) (rest := []) ⟨hx, hb, hml, hown, hts⟩ (k_X11_noSlot (l := l) (D := D) (K := K) (p1 := 1) (hp1 := (by omega)) _) (va_cwS 1 hts (fn_ginS (fn_gin wd_963) wd_961 wd_962 wd_1) rfl rfl rfl (by decide +kernel) ⟨Nat.le_of_ble_eq_true rfl, Nat.le_of_ble_eq_true rfl⟩) ⟨fn_blind, hp⟩ rfl rfl hl.1 rfl (lv_room (Nat.le_of_ble_eq_true rfl)) dX11_row_1 ⟨Nat.le_of_ble_eq_true rfl, Nat.le_of_ble_eq_true rfl⟩) (fun r1 u1 H locs hwu1 hP hD hS => ?_)
  obtain ⟨u1a, u1b⟩ := u1
  obtain ⟨kr1, rfl, hkr1, hqu10, -⟩ := hwu1
  have hqu1 : (kr1 = 0 → 0 ≤ (1 : Int) ∧ (1 : Int) ≤ 3) ∧ (kr1 = 1 → (1 : Int) < 0 ∨ 3 < (1 : Int)) := hqu10
  clear hqu10
  have hP : va_P D vwCl [(t, .inr (11, oX11 t_q)), ((t_q 6), .inl (K 6, 4, .inr (.inr (.inr (.inr t_6_c))))), ((t_6_r 1), .inr (4, oX4 t_6_1_q t_6_1_x0 t_6_1_x1 t_6_1_x2)), ((t_6_1_q 3), .inl (K 3, 60, .inr (.inl (fun j => lI (t_6_1_3_c j)))))] H := hP
  have hD : va_D A [(t, .inr (11, oX11 t_q)), ((t_q 6), .inl (K 6, 4, .inr (.inr (.inr (.inr t_6_c))))), ((t_6_r 1), .inr (4, oX4 t_6_1_q t_6_1_x0 t_6_1_x1 t_6_1_x2)), ((t_6_1_q 3), .inl (K 3, 60, .inr (.inl (fun j => lI (t_6_1_3_c j)))))] := hD
  refine g_if_ne (tgt := 22) hx hb (by omega) dX11_row_4 (by decide) (fun c4 => ?_) (fun c4 => ?_)
  · refine lv_bipush (v := iI (-2)) hx hb dX11_row_22 (by decide) ?_
    have y24_1 : 0 ≤ t_6_1_x0 ∧ t_6_1_x0 ≤ 1 := hi_t_6_1.1
    have y24_2 : 0 ≤ t_6_1_x1 ∧ t_6_1_x1 ≤ 3 := hi_t_6_1.2.1
    have y24_3 : 0 ≤ t_6_1_x2 ∧ t_6_1_x2 ≤ 60 := hi_t_6_1.2.2
    rw [hQ]; exact fn_iret hx hb hr hlocks rfl hP hD hS ((fun k => ([t_6_1_x0, t_6_1_x1, t_6_1_x2] : List Int).getD k 0), (fun k => ([t_6_1_3_c] : List (Nat → Int)).getD k (fun _ => 0))) ⟨(-2), rfl, by omega, (by show 0 ≤ t_6_1_x0 ∧ t_6_1_x0 ≤ 1 ∧ 0 ≤ t_6_1_x1 ∧ t_6_1_x1 ≤ 3 ∧ 0 ≤ t_6_1_x2 ∧ t_6_1_x2 ≤ 60 ∧ ((p2 < 0 ∨ 3 < p2 ∨ 60 < p3) → (-2 : Int) = -2) ∧ (0 ≤ p2 → p2 ≤ 3 → p3 < 0 → (-2 : Int) = -3) ∧ (0 ≤ p2 → p2 ≤ 3 → 0 ≤ p3 → p3 ≤ 60 → ((-2 : Int) = 0 ∧ t_6_1_x0 = 1 ∧ t_6_1_x1 = p2 ∧ t_6_1_x2 = p3)) ∧ ((-2 : Int) ≠ 0 → (t_6_1_x0 = t_6_1_x0 ∧ t_6_1_x1 = t_6_1_x1 ∧ t_6_1_x2 = t_6_1_x2)); omega), (hc_t_6_1_3), trivial⟩ [0, 1, 2, 3] (by decide) rfl dX11_row_24
  · refine lv_iload_n hx hb dX11_row_7 rfl (lv_at hl 2 rfl) ?_
    refine g_if_lt (tgt := 22) hx hb (by omega) dX11_row_8 (by decide) (fun c8 => ?_) (fun c8 => ?_)
    · refine lv_bipush (v := iI (-2)) hx hb dX11_row_22 (by decide) ?_
      have y24_1 : 0 ≤ t_6_1_x0 ∧ t_6_1_x0 ≤ 1 := hi_t_6_1.1
      have y24_2 : 0 ≤ t_6_1_x1 ∧ t_6_1_x1 ≤ 3 := hi_t_6_1.2.1
      have y24_3 : 0 ≤ t_6_1_x2 ∧ t_6_1_x2 ≤ 60 := hi_t_6_1.2.2
      rw [hQ]; exact fn_iret hx hb hr hlocks rfl hP hD hS ((fun k => ([t_6_1_x0, t_6_1_x1, t_6_1_x2] : List Int).getD k 0), (fun k => ([t_6_1_3_c] : List (Nat → Int)).getD k (fun _ => 0))) ⟨(-2), rfl, by omega, (by show 0 ≤ t_6_1_x0 ∧ t_6_1_x0 ≤ 1 ∧ 0 ≤ t_6_1_x1 ∧ t_6_1_x1 ≤ 3 ∧ 0 ≤ t_6_1_x2 ∧ t_6_1_x2 ≤ 60 ∧ ((p2 < 0 ∨ 3 < p2 ∨ 60 < p3) → (-2 : Int) = -2) ∧ (0 ≤ p2 → p2 ≤ 3 → p3 < 0 → (-2 : Int) = -3) ∧ (0 ≤ p2 → p2 ≤ 3 → 0 ≤ p3 → p3 ≤ 60 → ((-2 : Int) = 0 ∧ t_6_1_x0 = 1 ∧ t_6_1_x1 = p2 ∧ t_6_1_x2 = p3)) ∧ ((-2 : Int) ≠ 0 → (t_6_1_x0 = t_6_1_x0 ∧ t_6_1_x1 = t_6_1_x1 ∧ t_6_1_x2 = t_6_1_x2)); omega), (hc_t_6_1_3), trivial⟩ [0, 1, 2, 3] (by decide) rfl dX11_row_24
    · refine lv_iload_n hx hb dX11_row_11 rfl (lv_at hl 2 rfl) ?_
      refine lv_iconst (v := iI 4) hx hb dX11_row_12 rfl ?_
      refine g_icmp_ge (tgt := 22) hx hb (by omega) (by omega) dX11_row_13 (by decide) (fun c13 => ?_) (fun c13 => ?_)
      · refine lv_bipush (v := iI (-2)) hx hb dX11_row_22 (by decide) ?_
        have y24_1 : 0 ≤ t_6_1_x0 ∧ t_6_1_x0 ≤ 1 := hi_t_6_1.1
        have y24_2 : 0 ≤ t_6_1_x1 ∧ t_6_1_x1 ≤ 3 := hi_t_6_1.2.1
        have y24_3 : 0 ≤ t_6_1_x2 ∧ t_6_1_x2 ≤ 60 := hi_t_6_1.2.2
        rw [hQ]; exact fn_iret hx hb hr hlocks rfl hP hD hS ((fun k => ([t_6_1_x0, t_6_1_x1, t_6_1_x2] : List Int).getD k 0), (fun k => ([t_6_1_3_c] : List (Nat → Int)).getD k (fun _ => 0))) ⟨(-2), rfl, by omega, (by show 0 ≤ t_6_1_x0 ∧ t_6_1_x0 ≤ 1 ∧ 0 ≤ t_6_1_x1 ∧ t_6_1_x1 ≤ 3 ∧ 0 ≤ t_6_1_x2 ∧ t_6_1_x2 ≤ 60 ∧ ((p2 < 0 ∨ 3 < p2 ∨ 60 < p3) → (-2 : Int) = -2) ∧ (0 ≤ p2 → p2 ≤ 3 → p3 < 0 → (-2 : Int) = -3) ∧ (0 ≤ p2 → p2 ≤ 3 → 0 ≤ p3 → p3 ≤ 60 → ((-2 : Int) = 0 ∧ t_6_1_x0 = 1 ∧ t_6_1_x1 = p2 ∧ t_6_1_x2 = p3)) ∧ ((-2 : Int) ≠ 0 → (t_6_1_x0 = t_6_1_x0 ∧ t_6_1_x1 = t_6_1_x1 ∧ t_6_1_x2 = t_6_1_x2)); omega), (hc_t_6_1_3), trivial⟩ [0, 1, 2, 3] (by decide) rfl dX11_row_24
      · refine lv_iload_n hx hb dX11_row_16 rfl (lv_at hl 3 rfl) ?_
        refine lv_bipush (v := iI 60) hx hb dX11_row_17 (by decide) ?_
        refine g_icmp_le (tgt := 25) hx hb (by omega) (by omega) dX11_row_19 (by decide) (fun c19 => ?_) (fun c19 => ?_)
        · refine lv_iload_n hx hb dX11_row_25 rfl (lv_at hl 3 rfl) ?_
          refine g_if_ge (tgt := 32) hx hb (by omega) dX11_row_26 (by decide) (fun c26 => ?_) (fun c26 => ?_)
          · refine lv_aload_n hx hb dX11_row_32 rfl (lv_at hl 0 rfl) ?_
            refine va_get (D := D) (own := RX11) (ci := 11) (v := .ref (t_q 6)) (C := RX11) (T := TX11) (N := 13) hx hb hts inb_X11 hown hK.1 hP 0 rfl rfl 6 (by decide) (hts _ wd_428) (fun _ h9 => h9) rfl dX11_row_33 ?_
            refine lv_iload_n hx hb dX11_row_36 rfl (lv_at hl 1 rfl) ?_
            refine va_aldq hx hb hK.1 hP 1 6 rfl rfl (iI_in (by decide) (by decide) (by decide)) dX11_row_37 ?_
            refine fn_topv (.ref (t_6_r 1)) (by rw [iI_cl (by decide)]; exact congrArg va_rf (hr_t_6 1 (by decide))) ?_
            refine lv_iload_n hx hb dX11_row_38 rfl (lv_at hl 2 rfl) ?_
            refine lv_iload_n hx hb dX11_row_39 rfl (lv_at hl 3 rfl) ?_
            refine fn_at 40 rfl ?_
            refine fn_gov (wc := [((t_6_r 1), .inr (4, oX4 t_6_1_q t_6_1_x0 t_6_1_x1 t_6_1_x2)), ((t_6_1_q 3), .inl (K 3, 60, .inr (.inl (fun j => lI (t_6_1_3_c j)))))]) (wr := [(t, .inr (11, oX11 t_q)), ((t_q 6), .inl (K 6, 4, .inr (.inr (.inr (.inr t_6_c)))))]) hK hP hD hS hA [2, 3] [0, 1] rfl rfl (by decide) (fun hp => va_runVN (C := RX4) (As := [.int (iI p2), .int (iI p3)]) (rest := []) ⟨hx, hb, hml, hown, hts⟩ (k_X4_begine (l := l) (D := D) (K := K) (t := (t_6_r 1)) (p1 := p2) (p2 := p3) (t_q := t_6_1_q) (t_x0 := t_6_1_x0) (t_x1 := t_6_1_x1) (t_x2 := t_6_1_x2) (t_3_c := t_6_1_3_c) (hp1 := (by omega)) (hp2 := (by omega)) (hi_t := hi_t_6_1) (hc_t_3 := hc_t_6_1_3) _) ⟨va_cnB (own := RX11) 2 hts (fn_gin wd_1207) rfl rfl rfl (hK.nw 153 rfl) (hts _ wd_12) (by decide +kernel) ⟨Nat.le_of_ble_eq_true rfl, Nat.le_of_ble_eq_true rfl⟩, hts _ wd_1206, hts _ wp_91⟩ ⟨fn_blind, va_recv hK.1 hP (ci := 4) (q0 := 2) rfl rfl, hp⟩ rfl rfl hl.1 rfl (lv_room (Nat.le_of_ble_eq_true rfl)) dX11_row_40 ⟨Nat.le_of_ble_eq_true rfl, Nat.le_of_ble_eq_true rfl⟩) (fun u40 H locs hwu40 hP hD hS => ?_)
            obtain ⟨u40a, u40b⟩ := u40
            obtain ⟨hqu400, hu40_00, -⟩ := hwu40
            have hqu40 : 0 ≤ (u40a 0) ∧ (u40a 0) ≤ 1 ∧ 0 ≤ (u40a 1) ∧ (u40a 1) ≤ 3 ∧ 0 ≤ (u40a 2) ∧ (u40a 2) ≤ 60 ∧ ((u40a 0) = 1) ∧ ((u40a 1) = p2) ∧ ((u40a 2) = p3) := hqu400
            have hu40_0 : ∀ j : Nat, (-9223372036854775808) ≤ (u40b 0) j ∧ (u40b 0) j ≤ 9223372036854775807 := hu40_00
            clear hqu400 hu40_00
            have hP : va_P D vwCl [(t, .inr (11, oX11 t_q)), ((t_q 6), .inl (K 6, 4, .inr (.inr (.inr (.inr t_6_c))))), ((t_6_r 1), .inr (4, oX4 t_6_1_q (u40a 0) (u40a 1) (u40a 2))), ((t_6_1_q 3), .inl (K 3, 60, .inr (.inl (fun j => lI ((u40b 0) j)))))] H := hP
            have hD : va_D A [(t, .inr (11, oX11 t_q)), ((t_q 6), .inl (K 6, 4, .inr (.inr (.inr (.inr t_6_c))))), ((t_6_r 1), .inr (4, oX4 t_6_1_q (u40a 0) (u40a 1) (u40a 2))), ((t_6_1_q 3), .inl (K 3, 60, .inr (.inl (fun j => lI ((u40b 0) j)))))] := hD
            refine lv_iconst (v := iI 0) hx hb dX11_row_43 rfl ?_
            rw [hQ]; exact fn_iret hx hb hr hlocks rfl hP hD hS ((fun k => ([(u40a 0), (u40a 1), (u40a 2)] : List Int).getD k 0), (fun k => ([(u40b 0)] : List (Nat → Int)).getD k (fun _ => 0))) ⟨0, rfl, by omega, (by show 0 ≤ (u40a 0) ∧ (u40a 0) ≤ 1 ∧ 0 ≤ (u40a 1) ∧ (u40a 1) ≤ 3 ∧ 0 ≤ (u40a 2) ∧ (u40a 2) ≤ 60 ∧ ((p2 < 0 ∨ 3 < p2 ∨ 60 < p3) → (0 : Int) = -2) ∧ (0 ≤ p2 → p2 ≤ 3 → p3 < 0 → (0 : Int) = -3) ∧ (0 ≤ p2 → p2 ≤ 3 → 0 ≤ p3 → p3 ≤ 60 → ((0 : Int) = 0 ∧ (u40a 0) = 1 ∧ (u40a 1) = p2 ∧ (u40a 2) = p3)) ∧ ((0 : Int) ≠ 0 → ((u40a 0) = t_6_1_x0 ∧ (u40a 1) = t_6_1_x1 ∧ (u40a 2) = t_6_1_x2)); omega), (hu40_0), trivial⟩ [0, 1, 2, 3] (by decide) rfl dX11_row_44
          · refine lv_bipush (v := iI (-3)) hx hb dX11_row_29 (by decide) ?_
            have y31_1 : 0 ≤ t_6_1_x0 ∧ t_6_1_x0 ≤ 1 := hi_t_6_1.1
            have y31_2 : 0 ≤ t_6_1_x1 ∧ t_6_1_x1 ≤ 3 := hi_t_6_1.2.1
            have y31_3 : 0 ≤ t_6_1_x2 ∧ t_6_1_x2 ≤ 60 := hi_t_6_1.2.2
            rw [hQ]; exact fn_iret hx hb hr hlocks rfl hP hD hS ((fun k => ([t_6_1_x0, t_6_1_x1, t_6_1_x2] : List Int).getD k 0), (fun k => ([t_6_1_3_c] : List (Nat → Int)).getD k (fun _ => 0))) ⟨(-3), rfl, by omega, (by show 0 ≤ t_6_1_x0 ∧ t_6_1_x0 ≤ 1 ∧ 0 ≤ t_6_1_x1 ∧ t_6_1_x1 ≤ 3 ∧ 0 ≤ t_6_1_x2 ∧ t_6_1_x2 ≤ 60 ∧ ((p2 < 0 ∨ 3 < p2 ∨ 60 < p3) → (-3 : Int) = -2) ∧ (0 ≤ p2 → p2 ≤ 3 → p3 < 0 → (-3 : Int) = -3) ∧ (0 ≤ p2 → p2 ≤ 3 → 0 ≤ p3 → p3 ≤ 60 → ((-3 : Int) = 0 ∧ t_6_1_x0 = 1 ∧ t_6_1_x1 = p2 ∧ t_6_1_x2 = p3)) ∧ ((-3 : Int) ≠ 0 → (t_6_1_x0 = t_6_1_x0 ∧ t_6_1_x1 = t_6_1_x1 ∧ t_6_1_x2 = t_6_1_x2)); omega), (hc_t_6_1_3), trivial⟩ [0, 1, 2, 3] (by decide) rfl dX11_row_31
        · refine lv_bipush (v := iI (-2)) hx hb dX11_row_22 (by decide) ?_
          have y24_1 : 0 ≤ t_6_1_x0 ∧ t_6_1_x0 ≤ 1 := hi_t_6_1.1
          have y24_2 : 0 ≤ t_6_1_x1 ∧ t_6_1_x1 ≤ 3 := hi_t_6_1.2.1
          have y24_3 : 0 ≤ t_6_1_x2 ∧ t_6_1_x2 ≤ 60 := hi_t_6_1.2.2
          rw [hQ]; exact fn_iret hx hb hr hlocks rfl hP hD hS ((fun k => ([t_6_1_x0, t_6_1_x1, t_6_1_x2] : List Int).getD k 0), (fun k => ([t_6_1_3_c] : List (Nat → Int)).getD k (fun _ => 0))) ⟨(-2), rfl, by omega, (by show 0 ≤ t_6_1_x0 ∧ t_6_1_x0 ≤ 1 ∧ 0 ≤ t_6_1_x1 ∧ t_6_1_x1 ≤ 3 ∧ 0 ≤ t_6_1_x2 ∧ t_6_1_x2 ≤ 60 ∧ ((p2 < 0 ∨ 3 < p2 ∨ 60 < p3) → (-2 : Int) = -2) ∧ (0 ≤ p2 → p2 ≤ 3 → p3 < 0 → (-2 : Int) = -3) ∧ (0 ≤ p2 → p2 ≤ 3 → 0 ≤ p3 → p3 ≤ 60 → ((-2 : Int) = 0 ∧ t_6_1_x0 = 1 ∧ t_6_1_x1 = p2 ∧ t_6_1_x2 = p3)) ∧ ((-2 : Int) ≠ 0 → (t_6_1_x0 = t_6_1_x0 ∧ t_6_1_x1 = t_6_1_x1 ∧ t_6_1_x2 = t_6_1_x2)); omega), (hc_t_6_1_3), trivial⟩ [0, 1, 2, 3] (by decide) rfl dX11_row_24
set_option maxHeartbeats 4000000 in
set_option maxRecDepth 100000 in
theorem k_X11_row_2e (l : Launch) (D : va_G) (K : Nat → ClassId) (t : Nat) (t_q t_6_r t_6_2_q : Nat → Nat) (p2 p3 t_6_2_x0 t_6_2_x1 t_6_2_x2 : Int) (t_6_c : Nat → Option Nat) (t_6_2_3_c : Nat → Int) (hp2 : (-2147483648) ≤ p2 ∧ p2 ≤ 2147483647) (hp3 : (-2147483648) ≤ p3 ∧ p3 ≤ 2147483647) (hr_t_6 : ∀ j : Nat, j < 4 → t_6_c j = some (t_6_r j)) (hi_t_6_2 : bX4 t_6_2_x0 t_6_2_x1 t_6_2_x2) (hc_t_6_2_3 : ∀ j : Nat, (-9223372036854775808) ≤ t_6_2_3_c j ∧ t_6_2_3_c j ≤ 9223372036854775807) : fn_CI (S := (Nat → Int) × (Nat → Nat → Int)) l D K yX11_row (fn_ws yX11_row cX11_row 4 (some .int)) ({ frames := 12, cells := 0, slots := 0, locals := 300 } : Room) [.ref t, .int (iI 2), .int (iI p2), .int (iI p3)] [(t, .inr (11, oX11 t_q)), ((t_q 6), .inl (K 6, 4, .inr (.inr (.inr (.inr t_6_c))))), ((t_6_r 2), .inr (4, oX4 t_6_2_q t_6_2_x0 t_6_2_x1 t_6_2_x2)), ((t_6_2_q 3), .inl (K 3, 60, .inr (.inl (fun j => lI (t_6_2_3_c j)))))] (fun r u => ∃ k : Int, r = iI k ∧ ((-3) ≤ k ∧ k ≤ 0) ∧ (0 ≤ (u.1 0) ∧ (u.1 0) ≤ 1 ∧ 0 ≤ (u.1 1) ∧ (u.1 1) ≤ 3 ∧ 0 ≤ (u.1 2) ∧ (u.1 2) ≤ 60 ∧ ((p2 < 0 ∨ 3 < p2 ∨ 60 < p3) → k = -2) ∧ (0 ≤ p2 → p2 ≤ 3 → p3 < 0 → k = -3) ∧ (0 ≤ p2 → p2 ≤ 3 → 0 ≤ p3 → p3 ≤ 60 → (k = 0 ∧ (u.1 0) = 1 ∧ (u.1 1) = p2 ∧ (u.1 2) = p3)) ∧ (k ≠ 0 → ((u.1 0) = t_6_2_x0 ∧ (u.1 1) = t_6_2_x1 ∧ (u.1 2) = t_6_2_x2))) ∧ (∀ j : Nat, (-9223372036854775808) ≤ (u.2 0) j ∧ (u.2 0) j ≤ 9223372036854775807) ∧ True) (fun u => [(t, .inr (11, oX11 t_q)), ((t_q 6), .inl (K 6, 4, .inr (.inr (.inr (.inr t_6_c))))), ((t_6_r 2), .inr (4, oX4 t_6_2_q (u.1 0) (u.1 1) (u.1 2))), ((t_6_2_q 3), .inl (K 3, 60, .inr (.inl (fun j => lI ((u.2 0) j)))))]) 0 0 := by
  refine g_inI (cc := cX11_row) (maxL := 4) (ret := (some .int)) (by decide) rfl (Nat.le_of_ble_eq_true rfl) ?_
  intro p e s m below meth c A ls ag Q B hA hP hD hS hl hQ
  obtain ⟨hx, hb, hr, hml, hts, hown, hlocks, hin, hK⟩ := B
  have hown : s.vm.findClass RX11 = some m.cls := hown
  have hts := fun w h => hts w (List.mem_cons_of_mem _ h)
  have hl : lv_has ls 4 [(0, .ref t), (1, .int (iI 2)), (2, .int (iI p2)), (3, .int (iI p3))] := hl
  refine lv_iload_n hx hb dX11_row_0 rfl (lv_at hl 1 rfl) ?_
  refine fn_goi (wc := []) (wr := [(t, .inr (11, oX11 t_q)), ((t_q 6), .inl (K 6, 4, .inr (.inr (.inr (.inr t_6_c))))), ((t_6_r 2), .inr (4, oX4 t_6_2_q t_6_2_x0 t_6_2_x1 t_6_2_x2)), ((t_6_2_q 3), .inl (K 3, 60, .inr (.inl (fun j => lI (t_6_2_3_c j)))))]) hK hP hD hS hA [] [0, 1, 2, 3] rfl rfl (by decide) (fun hp => va_runS (As := [.int (iI 2)]) (rest := []) ⟨hx, hb, hml, hown, hts⟩ (k_X11_noSlot (l := l) (D := D) (K := K) (p1 := 2) (hp1 := (by omega)) _) (va_cwS 1 hts (fn_ginS (fn_gin wd_963) wd_961 wd_962 wd_1) rfl rfl rfl (by decide +kernel) ⟨Nat.le_of_ble_eq_true rfl, Nat.le_of_ble_eq_true rfl⟩) ⟨fn_blind, hp⟩ rfl rfl hl.1 rfl (lv_room (Nat.le_of_ble_eq_true rfl)) dX11_row_1 ⟨Nat.le_of_ble_eq_true rfl, Nat.le_of_ble_eq_true rfl⟩) (fun r1 u1 H locs hwu1 hP hD hS => ?_)
  obtain ⟨u1a, u1b⟩ := u1
  obtain ⟨kr1, rfl, hkr1, hqu10, -⟩ := hwu1
  have hqu1 : (kr1 = 0 → 0 ≤ (2 : Int) ∧ (2 : Int) ≤ 3) ∧ (kr1 = 1 → (2 : Int) < 0 ∨ 3 < (2 : Int)) := hqu10
  clear hqu10
  have hP : va_P D vwCl [(t, .inr (11, oX11 t_q)), ((t_q 6), .inl (K 6, 4, .inr (.inr (.inr (.inr t_6_c))))), ((t_6_r 2), .inr (4, oX4 t_6_2_q t_6_2_x0 t_6_2_x1 t_6_2_x2)), ((t_6_2_q 3), .inl (K 3, 60, .inr (.inl (fun j => lI (t_6_2_3_c j)))))] H := hP
  have hD : va_D A [(t, .inr (11, oX11 t_q)), ((t_q 6), .inl (K 6, 4, .inr (.inr (.inr (.inr t_6_c))))), ((t_6_r 2), .inr (4, oX4 t_6_2_q t_6_2_x0 t_6_2_x1 t_6_2_x2)), ((t_6_2_q 3), .inl (K 3, 60, .inr (.inl (fun j => lI (t_6_2_3_c j)))))] := hD
  refine g_if_ne (tgt := 22) hx hb (by omega) dX11_row_4 (by decide) (fun c4 => ?_) (fun c4 => ?_)
  · refine lv_bipush (v := iI (-2)) hx hb dX11_row_22 (by decide) ?_
    have y24_1 : 0 ≤ t_6_2_x0 ∧ t_6_2_x0 ≤ 1 := hi_t_6_2.1
    have y24_2 : 0 ≤ t_6_2_x1 ∧ t_6_2_x1 ≤ 3 := hi_t_6_2.2.1
    have y24_3 : 0 ≤ t_6_2_x2 ∧ t_6_2_x2 ≤ 60 := hi_t_6_2.2.2
    rw [hQ]; exact fn_iret hx hb hr hlocks rfl hP hD hS ((fun k => ([t_6_2_x0, t_6_2_x1, t_6_2_x2] : List Int).getD k 0), (fun k => ([t_6_2_3_c] : List (Nat → Int)).getD k (fun _ => 0))) ⟨(-2), rfl, by omega, (by show 0 ≤ t_6_2_x0 ∧ t_6_2_x0 ≤ 1 ∧ 0 ≤ t_6_2_x1 ∧ t_6_2_x1 ≤ 3 ∧ 0 ≤ t_6_2_x2 ∧ t_6_2_x2 ≤ 60 ∧ ((p2 < 0 ∨ 3 < p2 ∨ 60 < p3) → (-2 : Int) = -2) ∧ (0 ≤ p2 → p2 ≤ 3 → p3 < 0 → (-2 : Int) = -3) ∧ (0 ≤ p2 → p2 ≤ 3 → 0 ≤ p3 → p3 ≤ 60 → ((-2 : Int) = 0 ∧ t_6_2_x0 = 1 ∧ t_6_2_x1 = p2 ∧ t_6_2_x2 = p3)) ∧ ((-2 : Int) ≠ 0 → (t_6_2_x0 = t_6_2_x0 ∧ t_6_2_x1 = t_6_2_x1 ∧ t_6_2_x2 = t_6_2_x2)); omega), (hc_t_6_2_3), trivial⟩ [0, 1, 2, 3] (by decide) rfl dX11_row_24
  · refine lv_iload_n hx hb dX11_row_7 rfl (lv_at hl 2 rfl) ?_
    refine g_if_lt (tgt := 22) hx hb (by omega) dX11_row_8 (by decide) (fun c8 => ?_) (fun c8 => ?_)
    · refine lv_bipush (v := iI (-2)) hx hb dX11_row_22 (by decide) ?_
      have y24_1 : 0 ≤ t_6_2_x0 ∧ t_6_2_x0 ≤ 1 := hi_t_6_2.1
      have y24_2 : 0 ≤ t_6_2_x1 ∧ t_6_2_x1 ≤ 3 := hi_t_6_2.2.1
      have y24_3 : 0 ≤ t_6_2_x2 ∧ t_6_2_x2 ≤ 60 := hi_t_6_2.2.2
      rw [hQ]; exact fn_iret hx hb hr hlocks rfl hP hD hS ((fun k => ([t_6_2_x0, t_6_2_x1, t_6_2_x2] : List Int).getD k 0), (fun k => ([t_6_2_3_c] : List (Nat → Int)).getD k (fun _ => 0))) ⟨(-2), rfl, by omega, (by show 0 ≤ t_6_2_x0 ∧ t_6_2_x0 ≤ 1 ∧ 0 ≤ t_6_2_x1 ∧ t_6_2_x1 ≤ 3 ∧ 0 ≤ t_6_2_x2 ∧ t_6_2_x2 ≤ 60 ∧ ((p2 < 0 ∨ 3 < p2 ∨ 60 < p3) → (-2 : Int) = -2) ∧ (0 ≤ p2 → p2 ≤ 3 → p3 < 0 → (-2 : Int) = -3) ∧ (0 ≤ p2 → p2 ≤ 3 → 0 ≤ p3 → p3 ≤ 60 → ((-2 : Int) = 0 ∧ t_6_2_x0 = 1 ∧ t_6_2_x1 = p2 ∧ t_6_2_x2 = p3)) ∧ ((-2 : Int) ≠ 0 → (t_6_2_x0 = t_6_2_x0 ∧ t_6_2_x1 = t_6_2_x1 ∧ t_6_2_x2 = t_6_2_x2)); omega), (hc_t_6_2_3), trivial⟩ [0, 1, 2, 3] (by decide) rfl dX11_row_24
    · refine lv_iload_n hx hb dX11_row_11 rfl (lv_at hl 2 rfl) ?_
      refine lv_iconst (v := iI 4) hx hb dX11_row_12 rfl ?_
      refine g_icmp_ge (tgt := 22) hx hb (by omega) (by omega) dX11_row_13 (by decide) (fun c13 => ?_) (fun c13 => ?_)
      · refine lv_bipush (v := iI (-2)) hx hb dX11_row_22 (by decide) ?_
        have y24_1 : 0 ≤ t_6_2_x0 ∧ t_6_2_x0 ≤ 1 := hi_t_6_2.1
        have y24_2 : 0 ≤ t_6_2_x1 ∧ t_6_2_x1 ≤ 3 := hi_t_6_2.2.1
        have y24_3 : 0 ≤ t_6_2_x2 ∧ t_6_2_x2 ≤ 60 := hi_t_6_2.2.2
        rw [hQ]; exact fn_iret hx hb hr hlocks rfl hP hD hS ((fun k => ([t_6_2_x0, t_6_2_x1, t_6_2_x2] : List Int).getD k 0), (fun k => ([t_6_2_3_c] : List (Nat → Int)).getD k (fun _ => 0))) ⟨(-2), rfl, by omega, (by show 0 ≤ t_6_2_x0 ∧ t_6_2_x0 ≤ 1 ∧ 0 ≤ t_6_2_x1 ∧ t_6_2_x1 ≤ 3 ∧ 0 ≤ t_6_2_x2 ∧ t_6_2_x2 ≤ 60 ∧ ((p2 < 0 ∨ 3 < p2 ∨ 60 < p3) → (-2 : Int) = -2) ∧ (0 ≤ p2 → p2 ≤ 3 → p3 < 0 → (-2 : Int) = -3) ∧ (0 ≤ p2 → p2 ≤ 3 → 0 ≤ p3 → p3 ≤ 60 → ((-2 : Int) = 0 ∧ t_6_2_x0 = 1 ∧ t_6_2_x1 = p2 ∧ t_6_2_x2 = p3)) ∧ ((-2 : Int) ≠ 0 → (t_6_2_x0 = t_6_2_x0 ∧ t_6_2_x1 = t_6_2_x1 ∧ t_6_2_x2 = t_6_2_x2)); omega), (hc_t_6_2_3), trivial⟩ [0, 1, 2, 3] (by decide) rfl dX11_row_24
      · refine lv_iload_n hx hb dX11_row_16 rfl (lv_at hl 3 rfl) ?_
        refine lv_bipush (v := iI 60) hx hb dX11_row_17 (by decide) ?_
        refine g_icmp_le (tgt := 25) hx hb (by omega) (by omega) dX11_row_19 (by decide) (fun c19 => ?_) (fun c19 => ?_)
        · refine lv_iload_n hx hb dX11_row_25 rfl (lv_at hl 3 rfl) ?_
          refine g_if_ge (tgt := 32) hx hb (by omega) dX11_row_26 (by decide) (fun c26 => ?_) (fun c26 => ?_)
          · refine lv_aload_n hx hb dX11_row_32 rfl (lv_at hl 0 rfl) ?_
            refine va_get (D := D) (own := RX11) (ci := 11) (v := .ref (t_q 6)) (C := RX11) (T := TX11) (N := 13) hx hb hts inb_X11 hown hK.1 hP 0 rfl rfl 6 (by decide) (hts _ wd_428) (fun _ h9 => h9) rfl dX11_row_33 ?_
            refine lv_iload_n hx hb dX11_row_36 rfl (lv_at hl 1 rfl) ?_
            refine va_aldq hx hb hK.1 hP 1 6 rfl rfl (iI_in (by decide) (by decide) (by decide)) dX11_row_37 ?_
            refine fn_topv (.ref (t_6_r 2)) (by rw [iI_cl (by decide)]; exact congrArg va_rf (hr_t_6 2 (by decide))) ?_
            refine lv_iload_n hx hb dX11_row_38 rfl (lv_at hl 2 rfl) ?_
            refine lv_iload_n hx hb dX11_row_39 rfl (lv_at hl 3 rfl) ?_
            refine fn_at 40 rfl ?_
            refine fn_gov (wc := [((t_6_r 2), .inr (4, oX4 t_6_2_q t_6_2_x0 t_6_2_x1 t_6_2_x2)), ((t_6_2_q 3), .inl (K 3, 60, .inr (.inl (fun j => lI (t_6_2_3_c j)))))]) (wr := [(t, .inr (11, oX11 t_q)), ((t_q 6), .inl (K 6, 4, .inr (.inr (.inr (.inr t_6_c)))))]) hK hP hD hS hA [2, 3] [0, 1] rfl rfl (by decide) (fun hp => va_runVN (C := RX4) (As := [.int (iI p2), .int (iI p3)]) (rest := []) ⟨hx, hb, hml, hown, hts⟩ (k_X4_begine (l := l) (D := D) (K := K) (t := (t_6_r 2)) (p1 := p2) (p2 := p3) (t_q := t_6_2_q) (t_x0 := t_6_2_x0) (t_x1 := t_6_2_x1) (t_x2 := t_6_2_x2) (t_3_c := t_6_2_3_c) (hp1 := (by omega)) (hp2 := (by omega)) (hi_t := hi_t_6_2) (hc_t_3 := hc_t_6_2_3) _) ⟨va_cnB (own := RX11) 2 hts (fn_gin wd_1207) rfl rfl rfl (hK.nw 153 rfl) (hts _ wd_12) (by decide +kernel) ⟨Nat.le_of_ble_eq_true rfl, Nat.le_of_ble_eq_true rfl⟩, hts _ wd_1206, hts _ wp_91⟩ ⟨fn_blind, va_recv hK.1 hP (ci := 4) (q0 := 2) rfl rfl, hp⟩ rfl rfl hl.1 rfl (lv_room (Nat.le_of_ble_eq_true rfl)) dX11_row_40 ⟨Nat.le_of_ble_eq_true rfl, Nat.le_of_ble_eq_true rfl⟩) (fun u40 H locs hwu40 hP hD hS => ?_)
            obtain ⟨u40a, u40b⟩ := u40
            obtain ⟨hqu400, hu40_00, -⟩ := hwu40
            have hqu40 : 0 ≤ (u40a 0) ∧ (u40a 0) ≤ 1 ∧ 0 ≤ (u40a 1) ∧ (u40a 1) ≤ 3 ∧ 0 ≤ (u40a 2) ∧ (u40a 2) ≤ 60 ∧ ((u40a 0) = 1) ∧ ((u40a 1) = p2) ∧ ((u40a 2) = p3) := hqu400
            have hu40_0 : ∀ j : Nat, (-9223372036854775808) ≤ (u40b 0) j ∧ (u40b 0) j ≤ 9223372036854775807 := hu40_00
            clear hqu400 hu40_00
            have hP : va_P D vwCl [(t, .inr (11, oX11 t_q)), ((t_q 6), .inl (K 6, 4, .inr (.inr (.inr (.inr t_6_c))))), ((t_6_r 2), .inr (4, oX4 t_6_2_q (u40a 0) (u40a 1) (u40a 2))), ((t_6_2_q 3), .inl (K 3, 60, .inr (.inl (fun j => lI ((u40b 0) j)))))] H := hP
            have hD : va_D A [(t, .inr (11, oX11 t_q)), ((t_q 6), .inl (K 6, 4, .inr (.inr (.inr (.inr t_6_c))))), ((t_6_r 2), .inr (4, oX4 t_6_2_q (u40a 0) (u40a 1) (u40a 2))), ((t_6_2_q 3), .inl (K 3, 60, .inr (.inl (fun j => lI ((u40b 0) j)))))] := hD
            refine lv_iconst (v := iI 0) hx hb dX11_row_43 rfl ?_
            rw [hQ]; exact fn_iret hx hb hr hlocks rfl hP hD hS ((fun k => ([(u40a 0), (u40a 1), (u40a 2)] : List Int).getD k 0), (fun k => ([(u40b 0)] : List (Nat → Int)).getD k (fun _ => 0))) ⟨0, rfl, by omega, (by show 0 ≤ (u40a 0) ∧ (u40a 0) ≤ 1 ∧ 0 ≤ (u40a 1) ∧ (u40a 1) ≤ 3 ∧ 0 ≤ (u40a 2) ∧ (u40a 2) ≤ 60 ∧ ((p2 < 0 ∨ 3 < p2 ∨ 60 < p3) → (0 : Int) = -2) ∧ (0 ≤ p2 → p2 ≤ 3 → p3 < 0 → (0 : Int) = -3) ∧ (0 ≤ p2 → p2 ≤ 3 → 0 ≤ p3 → p3 ≤ 60 → ((0 : Int) = 0 ∧ (u40a 0) = 1 ∧ (u40a 1) = p2 ∧ (u40a 2) = p3)) ∧ ((0 : Int) ≠ 0 → ((u40a 0) = t_6_2_x0 ∧ (u40a 1) = t_6_2_x1 ∧ (u40a 2) = t_6_2_x2)); omega), (hu40_0), trivial⟩ [0, 1, 2, 3] (by decide) rfl dX11_row_44
          · refine lv_bipush (v := iI (-3)) hx hb dX11_row_29 (by decide) ?_
            have y31_1 : 0 ≤ t_6_2_x0 ∧ t_6_2_x0 ≤ 1 := hi_t_6_2.1
            have y31_2 : 0 ≤ t_6_2_x1 ∧ t_6_2_x1 ≤ 3 := hi_t_6_2.2.1
            have y31_3 : 0 ≤ t_6_2_x2 ∧ t_6_2_x2 ≤ 60 := hi_t_6_2.2.2
            rw [hQ]; exact fn_iret hx hb hr hlocks rfl hP hD hS ((fun k => ([t_6_2_x0, t_6_2_x1, t_6_2_x2] : List Int).getD k 0), (fun k => ([t_6_2_3_c] : List (Nat → Int)).getD k (fun _ => 0))) ⟨(-3), rfl, by omega, (by show 0 ≤ t_6_2_x0 ∧ t_6_2_x0 ≤ 1 ∧ 0 ≤ t_6_2_x1 ∧ t_6_2_x1 ≤ 3 ∧ 0 ≤ t_6_2_x2 ∧ t_6_2_x2 ≤ 60 ∧ ((p2 < 0 ∨ 3 < p2 ∨ 60 < p3) → (-3 : Int) = -2) ∧ (0 ≤ p2 → p2 ≤ 3 → p3 < 0 → (-3 : Int) = -3) ∧ (0 ≤ p2 → p2 ≤ 3 → 0 ≤ p3 → p3 ≤ 60 → ((-3 : Int) = 0 ∧ t_6_2_x0 = 1 ∧ t_6_2_x1 = p2 ∧ t_6_2_x2 = p3)) ∧ ((-3 : Int) ≠ 0 → (t_6_2_x0 = t_6_2_x0 ∧ t_6_2_x1 = t_6_2_x1 ∧ t_6_2_x2 = t_6_2_x2)); omega), (hc_t_6_2_3), trivial⟩ [0, 1, 2, 3] (by decide) rfl dX11_row_31
        · refine lv_bipush (v := iI (-2)) hx hb dX11_row_22 (by decide) ?_
          have y24_1 : 0 ≤ t_6_2_x0 ∧ t_6_2_x0 ≤ 1 := hi_t_6_2.1
          have y24_2 : 0 ≤ t_6_2_x1 ∧ t_6_2_x1 ≤ 3 := hi_t_6_2.2.1
          have y24_3 : 0 ≤ t_6_2_x2 ∧ t_6_2_x2 ≤ 60 := hi_t_6_2.2.2
          rw [hQ]; exact fn_iret hx hb hr hlocks rfl hP hD hS ((fun k => ([t_6_2_x0, t_6_2_x1, t_6_2_x2] : List Int).getD k 0), (fun k => ([t_6_2_3_c] : List (Nat → Int)).getD k (fun _ => 0))) ⟨(-2), rfl, by omega, (by show 0 ≤ t_6_2_x0 ∧ t_6_2_x0 ≤ 1 ∧ 0 ≤ t_6_2_x1 ∧ t_6_2_x1 ≤ 3 ∧ 0 ≤ t_6_2_x2 ∧ t_6_2_x2 ≤ 60 ∧ ((p2 < 0 ∨ 3 < p2 ∨ 60 < p3) → (-2 : Int) = -2) ∧ (0 ≤ p2 → p2 ≤ 3 → p3 < 0 → (-2 : Int) = -3) ∧ (0 ≤ p2 → p2 ≤ 3 → 0 ≤ p3 → p3 ≤ 60 → ((-2 : Int) = 0 ∧ t_6_2_x0 = 1 ∧ t_6_2_x1 = p2 ∧ t_6_2_x2 = p3)) ∧ ((-2 : Int) ≠ 0 → (t_6_2_x0 = t_6_2_x0 ∧ t_6_2_x1 = t_6_2_x1 ∧ t_6_2_x2 = t_6_2_x2)); omega), (hc_t_6_2_3), trivial⟩ [0, 1, 2, 3] (by decide) rfl dX11_row_24
set_option maxHeartbeats 4000000 in
set_option maxRecDepth 100000 in
theorem k_X11_row_3e (l : Launch) (D : va_G) (K : Nat → ClassId) (t : Nat) (t_q t_6_r t_6_3_q : Nat → Nat) (p2 p3 t_6_3_x0 t_6_3_x1 t_6_3_x2 : Int) (t_6_c : Nat → Option Nat) (t_6_3_3_c : Nat → Int) (hp2 : (-2147483648) ≤ p2 ∧ p2 ≤ 2147483647) (hp3 : (-2147483648) ≤ p3 ∧ p3 ≤ 2147483647) (hr_t_6 : ∀ j : Nat, j < 4 → t_6_c j = some (t_6_r j)) (hi_t_6_3 : bX4 t_6_3_x0 t_6_3_x1 t_6_3_x2) (hc_t_6_3_3 : ∀ j : Nat, (-9223372036854775808) ≤ t_6_3_3_c j ∧ t_6_3_3_c j ≤ 9223372036854775807) : fn_CI (S := (Nat → Int) × (Nat → Nat → Int)) l D K yX11_row (fn_ws yX11_row cX11_row 4 (some .int)) ({ frames := 12, cells := 0, slots := 0, locals := 300 } : Room) [.ref t, .int (iI 3), .int (iI p2), .int (iI p3)] [(t, .inr (11, oX11 t_q)), ((t_q 6), .inl (K 6, 4, .inr (.inr (.inr (.inr t_6_c))))), ((t_6_r 3), .inr (4, oX4 t_6_3_q t_6_3_x0 t_6_3_x1 t_6_3_x2)), ((t_6_3_q 3), .inl (K 3, 60, .inr (.inl (fun j => lI (t_6_3_3_c j)))))] (fun r u => ∃ k : Int, r = iI k ∧ ((-3) ≤ k ∧ k ≤ 0) ∧ (0 ≤ (u.1 0) ∧ (u.1 0) ≤ 1 ∧ 0 ≤ (u.1 1) ∧ (u.1 1) ≤ 3 ∧ 0 ≤ (u.1 2) ∧ (u.1 2) ≤ 60 ∧ ((p2 < 0 ∨ 3 < p2 ∨ 60 < p3) → k = -2) ∧ (0 ≤ p2 → p2 ≤ 3 → p3 < 0 → k = -3) ∧ (0 ≤ p2 → p2 ≤ 3 → 0 ≤ p3 → p3 ≤ 60 → (k = 0 ∧ (u.1 0) = 1 ∧ (u.1 1) = p2 ∧ (u.1 2) = p3)) ∧ (k ≠ 0 → ((u.1 0) = t_6_3_x0 ∧ (u.1 1) = t_6_3_x1 ∧ (u.1 2) = t_6_3_x2))) ∧ (∀ j : Nat, (-9223372036854775808) ≤ (u.2 0) j ∧ (u.2 0) j ≤ 9223372036854775807) ∧ True) (fun u => [(t, .inr (11, oX11 t_q)), ((t_q 6), .inl (K 6, 4, .inr (.inr (.inr (.inr t_6_c))))), ((t_6_r 3), .inr (4, oX4 t_6_3_q (u.1 0) (u.1 1) (u.1 2))), ((t_6_3_q 3), .inl (K 3, 60, .inr (.inl (fun j => lI ((u.2 0) j)))))]) 0 0 := by
  refine g_inI (cc := cX11_row) (maxL := 4) (ret := (some .int)) (by decide) rfl (Nat.le_of_ble_eq_true rfl) ?_
  intro p e s m below meth c A ls ag Q B hA hP hD hS hl hQ
  obtain ⟨hx, hb, hr, hml, hts, hown, hlocks, hin, hK⟩ := B
  have hown : s.vm.findClass RX11 = some m.cls := hown
  have hts := fun w h => hts w (List.mem_cons_of_mem _ h)
  have hl : lv_has ls 4 [(0, .ref t), (1, .int (iI 3)), (2, .int (iI p2)), (3, .int (iI p3))] := hl
  refine lv_iload_n hx hb dX11_row_0 rfl (lv_at hl 1 rfl) ?_
  refine fn_goi (wc := []) (wr := [(t, .inr (11, oX11 t_q)), ((t_q 6), .inl (K 6, 4, .inr (.inr (.inr (.inr t_6_c))))), ((t_6_r 3), .inr (4, oX4 t_6_3_q t_6_3_x0 t_6_3_x1 t_6_3_x2)), ((t_6_3_q 3), .inl (K 3, 60, .inr (.inl (fun j => lI (t_6_3_3_c j)))))]) hK hP hD hS hA [] [0, 1, 2, 3] rfl rfl (by decide) (fun hp => va_runS (As := [.int (iI 3)]) (rest := []) ⟨hx, hb, hml, hown, hts⟩ (k_X11_noSlot (l := l) (D := D) (K := K) (p1 := 3) (hp1 := (by omega)) _) (va_cwS 1 hts (fn_ginS (fn_gin wd_963) wd_961 wd_962 wd_1) rfl rfl rfl (by decide +kernel) ⟨Nat.le_of_ble_eq_true rfl, Nat.le_of_ble_eq_true rfl⟩) ⟨fn_blind, hp⟩ rfl rfl hl.1 rfl (lv_room (Nat.le_of_ble_eq_true rfl)) dX11_row_1 ⟨Nat.le_of_ble_eq_true rfl, Nat.le_of_ble_eq_true rfl⟩) (fun r1 u1 H locs hwu1 hP hD hS => ?_)
  obtain ⟨u1a, u1b⟩ := u1
  obtain ⟨kr1, rfl, hkr1, hqu10, -⟩ := hwu1
  have hqu1 : (kr1 = 0 → 0 ≤ (3 : Int) ∧ (3 : Int) ≤ 3) ∧ (kr1 = 1 → (3 : Int) < 0 ∨ 3 < (3 : Int)) := hqu10
  clear hqu10
  have hP : va_P D vwCl [(t, .inr (11, oX11 t_q)), ((t_q 6), .inl (K 6, 4, .inr (.inr (.inr (.inr t_6_c))))), ((t_6_r 3), .inr (4, oX4 t_6_3_q t_6_3_x0 t_6_3_x1 t_6_3_x2)), ((t_6_3_q 3), .inl (K 3, 60, .inr (.inl (fun j => lI (t_6_3_3_c j)))))] H := hP
  have hD : va_D A [(t, .inr (11, oX11 t_q)), ((t_q 6), .inl (K 6, 4, .inr (.inr (.inr (.inr t_6_c))))), ((t_6_r 3), .inr (4, oX4 t_6_3_q t_6_3_x0 t_6_3_x1 t_6_3_x2)), ((t_6_3_q 3), .inl (K 3, 60, .inr (.inl (fun j => lI (t_6_3_3_c j)))))] := hD
  refine g_if_ne (tgt := 22) hx hb (by omega) dX11_row_4 (by decide) (fun c4 => ?_) (fun c4 => ?_)
  · refine lv_bipush (v := iI (-2)) hx hb dX11_row_22 (by decide) ?_
    have y24_1 : 0 ≤ t_6_3_x0 ∧ t_6_3_x0 ≤ 1 := hi_t_6_3.1
    have y24_2 : 0 ≤ t_6_3_x1 ∧ t_6_3_x1 ≤ 3 := hi_t_6_3.2.1
    have y24_3 : 0 ≤ t_6_3_x2 ∧ t_6_3_x2 ≤ 60 := hi_t_6_3.2.2
    rw [hQ]; exact fn_iret hx hb hr hlocks rfl hP hD hS ((fun k => ([t_6_3_x0, t_6_3_x1, t_6_3_x2] : List Int).getD k 0), (fun k => ([t_6_3_3_c] : List (Nat → Int)).getD k (fun _ => 0))) ⟨(-2), rfl, by omega, (by show 0 ≤ t_6_3_x0 ∧ t_6_3_x0 ≤ 1 ∧ 0 ≤ t_6_3_x1 ∧ t_6_3_x1 ≤ 3 ∧ 0 ≤ t_6_3_x2 ∧ t_6_3_x2 ≤ 60 ∧ ((p2 < 0 ∨ 3 < p2 ∨ 60 < p3) → (-2 : Int) = -2) ∧ (0 ≤ p2 → p2 ≤ 3 → p3 < 0 → (-2 : Int) = -3) ∧ (0 ≤ p2 → p2 ≤ 3 → 0 ≤ p3 → p3 ≤ 60 → ((-2 : Int) = 0 ∧ t_6_3_x0 = 1 ∧ t_6_3_x1 = p2 ∧ t_6_3_x2 = p3)) ∧ ((-2 : Int) ≠ 0 → (t_6_3_x0 = t_6_3_x0 ∧ t_6_3_x1 = t_6_3_x1 ∧ t_6_3_x2 = t_6_3_x2)); omega), (hc_t_6_3_3), trivial⟩ [0, 1, 2, 3] (by decide) rfl dX11_row_24
  · refine lv_iload_n hx hb dX11_row_7 rfl (lv_at hl 2 rfl) ?_
    refine g_if_lt (tgt := 22) hx hb (by omega) dX11_row_8 (by decide) (fun c8 => ?_) (fun c8 => ?_)
    · refine lv_bipush (v := iI (-2)) hx hb dX11_row_22 (by decide) ?_
      have y24_1 : 0 ≤ t_6_3_x0 ∧ t_6_3_x0 ≤ 1 := hi_t_6_3.1
      have y24_2 : 0 ≤ t_6_3_x1 ∧ t_6_3_x1 ≤ 3 := hi_t_6_3.2.1
      have y24_3 : 0 ≤ t_6_3_x2 ∧ t_6_3_x2 ≤ 60 := hi_t_6_3.2.2
      rw [hQ]; exact fn_iret hx hb hr hlocks rfl hP hD hS ((fun k => ([t_6_3_x0, t_6_3_x1, t_6_3_x2] : List Int).getD k 0), (fun k => ([t_6_3_3_c] : List (Nat → Int)).getD k (fun _ => 0))) ⟨(-2), rfl, by omega, (by show 0 ≤ t_6_3_x0 ∧ t_6_3_x0 ≤ 1 ∧ 0 ≤ t_6_3_x1 ∧ t_6_3_x1 ≤ 3 ∧ 0 ≤ t_6_3_x2 ∧ t_6_3_x2 ≤ 60 ∧ ((p2 < 0 ∨ 3 < p2 ∨ 60 < p3) → (-2 : Int) = -2) ∧ (0 ≤ p2 → p2 ≤ 3 → p3 < 0 → (-2 : Int) = -3) ∧ (0 ≤ p2 → p2 ≤ 3 → 0 ≤ p3 → p3 ≤ 60 → ((-2 : Int) = 0 ∧ t_6_3_x0 = 1 ∧ t_6_3_x1 = p2 ∧ t_6_3_x2 = p3)) ∧ ((-2 : Int) ≠ 0 → (t_6_3_x0 = t_6_3_x0 ∧ t_6_3_x1 = t_6_3_x1 ∧ t_6_3_x2 = t_6_3_x2)); omega), (hc_t_6_3_3), trivial⟩ [0, 1, 2, 3] (by decide) rfl dX11_row_24
    · refine lv_iload_n hx hb dX11_row_11 rfl (lv_at hl 2 rfl) ?_
      refine lv_iconst (v := iI 4) hx hb dX11_row_12 rfl ?_
      refine g_icmp_ge (tgt := 22) hx hb (by omega) (by omega) dX11_row_13 (by decide) (fun c13 => ?_) (fun c13 => ?_)
      · refine lv_bipush (v := iI (-2)) hx hb dX11_row_22 (by decide) ?_
        have y24_1 : 0 ≤ t_6_3_x0 ∧ t_6_3_x0 ≤ 1 := hi_t_6_3.1
        have y24_2 : 0 ≤ t_6_3_x1 ∧ t_6_3_x1 ≤ 3 := hi_t_6_3.2.1
        have y24_3 : 0 ≤ t_6_3_x2 ∧ t_6_3_x2 ≤ 60 := hi_t_6_3.2.2
        rw [hQ]; exact fn_iret hx hb hr hlocks rfl hP hD hS ((fun k => ([t_6_3_x0, t_6_3_x1, t_6_3_x2] : List Int).getD k 0), (fun k => ([t_6_3_3_c] : List (Nat → Int)).getD k (fun _ => 0))) ⟨(-2), rfl, by omega, (by show 0 ≤ t_6_3_x0 ∧ t_6_3_x0 ≤ 1 ∧ 0 ≤ t_6_3_x1 ∧ t_6_3_x1 ≤ 3 ∧ 0 ≤ t_6_3_x2 ∧ t_6_3_x2 ≤ 60 ∧ ((p2 < 0 ∨ 3 < p2 ∨ 60 < p3) → (-2 : Int) = -2) ∧ (0 ≤ p2 → p2 ≤ 3 → p3 < 0 → (-2 : Int) = -3) ∧ (0 ≤ p2 → p2 ≤ 3 → 0 ≤ p3 → p3 ≤ 60 → ((-2 : Int) = 0 ∧ t_6_3_x0 = 1 ∧ t_6_3_x1 = p2 ∧ t_6_3_x2 = p3)) ∧ ((-2 : Int) ≠ 0 → (t_6_3_x0 = t_6_3_x0 ∧ t_6_3_x1 = t_6_3_x1 ∧ t_6_3_x2 = t_6_3_x2)); omega), (hc_t_6_3_3), trivial⟩ [0, 1, 2, 3] (by decide) rfl dX11_row_24
      · refine lv_iload_n hx hb dX11_row_16 rfl (lv_at hl 3 rfl) ?_
        refine lv_bipush (v := iI 60) hx hb dX11_row_17 (by decide) ?_
        refine g_icmp_le (tgt := 25) hx hb (by omega) (by omega) dX11_row_19 (by decide) (fun c19 => ?_) (fun c19 => ?_)
        · refine lv_iload_n hx hb dX11_row_25 rfl (lv_at hl 3 rfl) ?_
          refine g_if_ge (tgt := 32) hx hb (by omega) dX11_row_26 (by decide) (fun c26 => ?_) (fun c26 => ?_)
          · refine lv_aload_n hx hb dX11_row_32 rfl (lv_at hl 0 rfl) ?_
            refine va_get (D := D) (own := RX11) (ci := 11) (v := .ref (t_q 6)) (C := RX11) (T := TX11) (N := 13) hx hb hts inb_X11 hown hK.1 hP 0 rfl rfl 6 (by decide) (hts _ wd_428) (fun _ h9 => h9) rfl dX11_row_33 ?_
            refine lv_iload_n hx hb dX11_row_36 rfl (lv_at hl 1 rfl) ?_
            refine va_aldq hx hb hK.1 hP 1 6 rfl rfl (iI_in (by decide) (by decide) (by decide)) dX11_row_37 ?_
            refine fn_topv (.ref (t_6_r 3)) (by rw [iI_cl (by decide)]; exact congrArg va_rf (hr_t_6 3 (by decide))) ?_
            refine lv_iload_n hx hb dX11_row_38 rfl (lv_at hl 2 rfl) ?_
            refine lv_iload_n hx hb dX11_row_39 rfl (lv_at hl 3 rfl) ?_
            refine fn_at 40 rfl ?_
            refine fn_gov (wc := [((t_6_r 3), .inr (4, oX4 t_6_3_q t_6_3_x0 t_6_3_x1 t_6_3_x2)), ((t_6_3_q 3), .inl (K 3, 60, .inr (.inl (fun j => lI (t_6_3_3_c j)))))]) (wr := [(t, .inr (11, oX11 t_q)), ((t_q 6), .inl (K 6, 4, .inr (.inr (.inr (.inr t_6_c)))))]) hK hP hD hS hA [2, 3] [0, 1] rfl rfl (by decide) (fun hp => va_runVN (C := RX4) (As := [.int (iI p2), .int (iI p3)]) (rest := []) ⟨hx, hb, hml, hown, hts⟩ (k_X4_begine (l := l) (D := D) (K := K) (t := (t_6_r 3)) (p1 := p2) (p2 := p3) (t_q := t_6_3_q) (t_x0 := t_6_3_x0) (t_x1 := t_6_3_x1) (t_x2 := t_6_3_x2) (t_3_c := t_6_3_3_c) (hp1 := (by omega)) (hp2 := (by omega)) (hi_t := hi_t_6_3) (hc_t_3 := hc_t_6_3_3) _) ⟨va_cnB (own := RX11) 2 hts (fn_gin wd_1207) rfl rfl rfl (hK.nw 153 rfl) (hts _ wd_12) (by decide +kernel) ⟨Nat.le_of_ble_eq_true rfl, Nat.le_of_ble_eq_true rfl⟩, hts _ wd_1206, hts _ wp_91⟩ ⟨fn_blind, va_recv hK.1 hP (ci := 4) (q0 := 2) rfl rfl, hp⟩ rfl rfl hl.1 rfl (lv_room (Nat.le_of_ble_eq_true rfl)) dX11_row_40 ⟨Nat.le_of_ble_eq_true rfl, Nat.le_of_ble_eq_true rfl⟩) (fun u40 H locs hwu40 hP hD hS => ?_)
            obtain ⟨u40a, u40b⟩ := u40
            obtain ⟨hqu400, hu40_00, -⟩ := hwu40
            have hqu40 : 0 ≤ (u40a 0) ∧ (u40a 0) ≤ 1 ∧ 0 ≤ (u40a 1) ∧ (u40a 1) ≤ 3 ∧ 0 ≤ (u40a 2) ∧ (u40a 2) ≤ 60 ∧ ((u40a 0) = 1) ∧ ((u40a 1) = p2) ∧ ((u40a 2) = p3) := hqu400
            have hu40_0 : ∀ j : Nat, (-9223372036854775808) ≤ (u40b 0) j ∧ (u40b 0) j ≤ 9223372036854775807 := hu40_00
            clear hqu400 hu40_00
            have hP : va_P D vwCl [(t, .inr (11, oX11 t_q)), ((t_q 6), .inl (K 6, 4, .inr (.inr (.inr (.inr t_6_c))))), ((t_6_r 3), .inr (4, oX4 t_6_3_q (u40a 0) (u40a 1) (u40a 2))), ((t_6_3_q 3), .inl (K 3, 60, .inr (.inl (fun j => lI ((u40b 0) j)))))] H := hP
            have hD : va_D A [(t, .inr (11, oX11 t_q)), ((t_q 6), .inl (K 6, 4, .inr (.inr (.inr (.inr t_6_c))))), ((t_6_r 3), .inr (4, oX4 t_6_3_q (u40a 0) (u40a 1) (u40a 2))), ((t_6_3_q 3), .inl (K 3, 60, .inr (.inl (fun j => lI ((u40b 0) j)))))] := hD
            refine lv_iconst (v := iI 0) hx hb dX11_row_43 rfl ?_
            rw [hQ]; exact fn_iret hx hb hr hlocks rfl hP hD hS ((fun k => ([(u40a 0), (u40a 1), (u40a 2)] : List Int).getD k 0), (fun k => ([(u40b 0)] : List (Nat → Int)).getD k (fun _ => 0))) ⟨0, rfl, by omega, (by show 0 ≤ (u40a 0) ∧ (u40a 0) ≤ 1 ∧ 0 ≤ (u40a 1) ∧ (u40a 1) ≤ 3 ∧ 0 ≤ (u40a 2) ∧ (u40a 2) ≤ 60 ∧ ((p2 < 0 ∨ 3 < p2 ∨ 60 < p3) → (0 : Int) = -2) ∧ (0 ≤ p2 → p2 ≤ 3 → p3 < 0 → (0 : Int) = -3) ∧ (0 ≤ p2 → p2 ≤ 3 → 0 ≤ p3 → p3 ≤ 60 → ((0 : Int) = 0 ∧ (u40a 0) = 1 ∧ (u40a 1) = p2 ∧ (u40a 2) = p3)) ∧ ((0 : Int) ≠ 0 → ((u40a 0) = t_6_3_x0 ∧ (u40a 1) = t_6_3_x1 ∧ (u40a 2) = t_6_3_x2)); omega), (hu40_0), trivial⟩ [0, 1, 2, 3] (by decide) rfl dX11_row_44
          · refine lv_bipush (v := iI (-3)) hx hb dX11_row_29 (by decide) ?_
            have y31_1 : 0 ≤ t_6_3_x0 ∧ t_6_3_x0 ≤ 1 := hi_t_6_3.1
            have y31_2 : 0 ≤ t_6_3_x1 ∧ t_6_3_x1 ≤ 3 := hi_t_6_3.2.1
            have y31_3 : 0 ≤ t_6_3_x2 ∧ t_6_3_x2 ≤ 60 := hi_t_6_3.2.2
            rw [hQ]; exact fn_iret hx hb hr hlocks rfl hP hD hS ((fun k => ([t_6_3_x0, t_6_3_x1, t_6_3_x2] : List Int).getD k 0), (fun k => ([t_6_3_3_c] : List (Nat → Int)).getD k (fun _ => 0))) ⟨(-3), rfl, by omega, (by show 0 ≤ t_6_3_x0 ∧ t_6_3_x0 ≤ 1 ∧ 0 ≤ t_6_3_x1 ∧ t_6_3_x1 ≤ 3 ∧ 0 ≤ t_6_3_x2 ∧ t_6_3_x2 ≤ 60 ∧ ((p2 < 0 ∨ 3 < p2 ∨ 60 < p3) → (-3 : Int) = -2) ∧ (0 ≤ p2 → p2 ≤ 3 → p3 < 0 → (-3 : Int) = -3) ∧ (0 ≤ p2 → p2 ≤ 3 → 0 ≤ p3 → p3 ≤ 60 → ((-3 : Int) = 0 ∧ t_6_3_x0 = 1 ∧ t_6_3_x1 = p2 ∧ t_6_3_x2 = p3)) ∧ ((-3 : Int) ≠ 0 → (t_6_3_x0 = t_6_3_x0 ∧ t_6_3_x1 = t_6_3_x1 ∧ t_6_3_x2 = t_6_3_x2)); omega), (hc_t_6_3_3), trivial⟩ [0, 1, 2, 3] (by decide) rfl dX11_row_31
        · refine lv_bipush (v := iI (-2)) hx hb dX11_row_22 (by decide) ?_
          have y24_1 : 0 ≤ t_6_3_x0 ∧ t_6_3_x0 ≤ 1 := hi_t_6_3.1
          have y24_2 : 0 ≤ t_6_3_x1 ∧ t_6_3_x1 ≤ 3 := hi_t_6_3.2.1
          have y24_3 : 0 ≤ t_6_3_x2 ∧ t_6_3_x2 ≤ 60 := hi_t_6_3.2.2
          rw [hQ]; exact fn_iret hx hb hr hlocks rfl hP hD hS ((fun k => ([t_6_3_x0, t_6_3_x1, t_6_3_x2] : List Int).getD k 0), (fun k => ([t_6_3_3_c] : List (Nat → Int)).getD k (fun _ => 0))) ⟨(-2), rfl, by omega, (by show 0 ≤ t_6_3_x0 ∧ t_6_3_x0 ≤ 1 ∧ 0 ≤ t_6_3_x1 ∧ t_6_3_x1 ≤ 3 ∧ 0 ≤ t_6_3_x2 ∧ t_6_3_x2 ≤ 60 ∧ ((p2 < 0 ∨ 3 < p2 ∨ 60 < p3) → (-2 : Int) = -2) ∧ (0 ≤ p2 → p2 ≤ 3 → p3 < 0 → (-2 : Int) = -3) ∧ (0 ≤ p2 → p2 ≤ 3 → 0 ≤ p3 → p3 ≤ 60 → ((-2 : Int) = 0 ∧ t_6_3_x0 = 1 ∧ t_6_3_x1 = p2 ∧ t_6_3_x2 = p3)) ∧ ((-2 : Int) ≠ 0 → (t_6_3_x0 = t_6_3_x0 ∧ t_6_3_x1 = t_6_3_x1 ∧ t_6_3_x2 = t_6_3_x2)); omega), (hc_t_6_3_3), trivial⟩ [0, 1, 2, 3] (by decide) rfl dX11_row_24
theorem dX12_row_57 : decode cX12_row 57 = .ok (.iload 4, 2) := by decide +kernel
theorem dX12_row_59 : decode cX12_row 59 = .ok (.iload_n 3, 1) := by decide +kernel
theorem dX12_row_60 : decode cX12_row 60 = .ok (.if_icmp .ge 22, 3) := by decide +kernel
theorem dX12_row_82 : decode cX12_row 82 = .ok (.iconst 0, 1) := by decide +kernel
theorem dX12_row_83 : decode cX12_row 83 = .ok (.ireturn, 1) := by decide +kernel
theorem dX12_row_63 : decode cX12_row 63 = .ok (.aload_n 0, 1) := by decide +kernel
theorem dX12_row_64 : decode cX12_row 64 = .ok (.getfield 16, 3) := by decide +kernel
theorem dX12_row_67 : decode cX12_row 67 = .ok (.bipush 60, 2) := by decide +kernel
theorem dX12_row_69 : decode cX12_row 69 = .ok (.iload_n 1, 1) := by decide +kernel
theorem dX12_row_70 : decode cX12_row 70 = .ok (.imul, 1) := by decide +kernel
theorem dX12_row_71 : decode cX12_row 71 = .ok (.iload 4, 2) := by decide +kernel
theorem dX12_row_73 : decode cX12_row 73 = .ok (.iadd, 1) := by decide +kernel
theorem dX12_row_74 : decode cX12_row 74 = .ok (.lconst 0, 1) := by decide +kernel
theorem dX12_row_75 : decode cX12_row 75 = .ok (.lastore, 1) := by decide +kernel
theorem dX12_row_76 : decode cX12_row 76 = .ok (.iinc 4 1, 3) := by decide +kernel
theorem dX12_row_79 : decode cX12_row 79 = .ok (.goto (-22), 3) := by decide +kernel
theorem dX12_row_0 : decode cX12_row 0 = .ok (.aload_n 0, 1) := by decide +kernel
theorem dX12_row_1 : decode cX12_row 1 = .ok (.iconst 0, 1) := by decide +kernel
theorem dX12_row_2 : decode cX12_row 2 = .ok (.putfield 104, 3) := by decide +kernel
theorem dX12_row_5 : decode cX12_row 5 = .ok (.iload_n 1, 1) := by decide +kernel
theorem dX12_row_6 : decode cX12_row 6 = .ok (.invokestatic 113, 3) := by decide +kernel
theorem dX12_row_9 : decode cX12_row 9 = .ok (.ifCond .eq 21, 3) := by decide +kernel
theorem dX12_row_30 : decode cX12_row 30 = .ok (.bipush (-2), 2) := by decide +kernel
theorem dX12_row_32 : decode cX12_row 32 = .ok (.ireturn, 1) := by decide +kernel
theorem dX12_row_12 : decode cX12_row 12 = .ok (.iload_n 2, 1) := by decide +kernel
theorem dX12_row_13 : decode cX12_row 13 = .ok (.i2l, 1) := by decide +kernel
theorem dX12_row_14 : decode cX12_row 14 = .ok (.lconst 0, 1) := by decide +kernel
theorem dX12_row_15 : decode cX12_row 15 = .ok (.ldc2_w 107, 3) := by decide +kernel
theorem dX12_row_18 : decode cX12_row 18 = .ok (.invokestatic 109, 3) := by decide +kernel
theorem dX12_row_21 : decode cX12_row 21 = .ok (.ifCond .eq 9, 3) := by decide +kernel
theorem dX12_row_24 : decode cX12_row 24 = .ok (.iload_n 3, 1) := by decide +kernel
theorem dX12_row_25 : decode cX12_row 25 = .ok (.bipush 60, 2) := by decide +kernel
theorem dX12_row_27 : decode cX12_row 27 = .ok (.if_icmp .le 6, 3) := by decide +kernel
theorem dX12_row_33 : decode cX12_row 33 = .ok (.iload_n 3, 1) := by decide +kernel
theorem dX12_row_34 : decode cX12_row 34 = .ok (.ifCond .ge 6, 3) := by decide +kernel
theorem dX12_row_40 : decode cX12_row 40 = .ok (.aload_n 0, 1) := by decide +kernel
theorem dX12_row_41 : decode cX12_row 41 = .ok (.getfield 7, 3) := by decide +kernel
theorem dX12_row_44 : decode cX12_row 44 = .ok (.iload_n 1, 1) := by decide +kernel
theorem dX12_row_45 : decode cX12_row 45 = .ok (.iload_n 2, 1) := by decide +kernel
theorem dX12_row_46 : decode cX12_row 46 = .ok (.iastore, 1) := by decide +kernel
theorem dX12_row_47 : decode cX12_row 47 = .ok (.aload_n 0, 1) := by decide +kernel
theorem dX12_row_48 : decode cX12_row 48 = .ok (.getfield 13, 3) := by decide +kernel
theorem dX12_row_51 : decode cX12_row 51 = .ok (.iload_n 1, 1) := by decide +kernel
theorem dX12_row_52 : decode cX12_row 52 = .ok (.iload_n 3, 1) := by decide +kernel
theorem dX12_row_53 : decode cX12_row 53 = .ok (.iastore, 1) := by decide +kernel
theorem dX12_row_54 : decode cX12_row 54 = .ok (.iconst 0, 1) := by decide +kernel
theorem dX12_row_55 : decode cX12_row 55 = .ok (.istore 4, 2) := by decide +kernel
theorem dX12_row_37 : decode cX12_row 37 = .ok (.bipush (-3), 2) := by decide +kernel
theorem dX12_row_39 : decode cX12_row 39 = .ok (.ireturn, 1) := by decide +kernel
set_option maxHeartbeats 4000000 in
set_option maxRecDepth 100000 in
theorem k_X12_rowe (l : Launch) (D : va_G) (K : Nat → ClassId) (t : Nat) (t_q : Nat → Nat) (p1 p2 p3 t_x0 t_x6 t_x7 t_x8 t_x9 t_x10 t_x11 t_x12 t_x13 t_x14 t_x15 t_x32 t_x33 t_x34 t_x35 t_x39 t_x40 t_x43 t_x44 t_x48 t_x49 t_x50 : Int) (t_1_c : Nat → Int) (t_2_c : Nat → Int) (t_3_c : Nat → Int) (hp1 : (-2147483648) ≤ p1 ∧ p1 ≤ 2147483647) (hp2 : (-2147483648) ≤ p2 ∧ p2 ≤ 2147483647) (hp3 : (-2147483648) ≤ p3 ∧ p3 ≤ 2147483647) (hi_t : bM12 t_x0 t_x6 t_x7 t_x8 t_x9 t_x10 t_x11 t_x12 t_x13 t_x14 t_x15 t_x32 t_x33 t_x34 t_x35 t_x39 t_x40 t_x43 t_x44 t_x48 t_x49 t_x50) (hc_t_1 : ∀ j : Nat, (-1) ≤ t_1_c j ∧ t_1_c j ≤ 3) (hc_t_2 : ∀ j : Nat, 0 ≤ t_2_c j ∧ t_2_c j ≤ 60) (hc_t_3 : ∀ j : Nat, (-9223372036854775808) ≤ t_3_c j ∧ t_3_c j ≤ 9223372036854775807) : fn_CI (S := (Nat → Int) × (Nat → Nat → Int)) l D K yX12_row (fn_ws yX12_row cX12_row 5 (some .int)) ({ frames := 12, cells := 0, slots := 0, locals := 300 } : Room) [.ref t, .int (iI p1), .int (iI p2), .int (iI p3)] [(t, .inr (12, oX12 t_q t_x0 t_x6 t_x7 t_x8 t_x9 t_x10 t_x11 t_x12 t_x13 t_x14 t_x15 t_x32 t_x33 t_x34 t_x35 t_x39 t_x40 t_x43 t_x44 t_x48 t_x49 t_x50)), ((t_q 1), .inl (K 0, 4, .inl (fun j => iI (t_1_c j)))), ((t_q 2), .inl (K 0, 4, .inl (fun j => iI (t_2_c j)))), ((t_q 3), .inl (K 3, 240, .inr (.inl (fun j => lI (t_3_c j)))))] (fun r u => ∃ k : Int, r = iI k ∧ ((-3) ≤ k ∧ k ≤ 0) ∧ ((-2147483648) ≤ (u.1 0) ∧ (u.1 0) ≤ 2147483647 ∧ ((p1 < 0 ∨ 3 < p1 ∨ p2 < 0 ∨ 3 < p2 ∨ 60 < p3) → k = -2) ∧ (0 ≤ p1 → p1 ≤ 3 → 0 ≤ p2 → p2 ≤ 3 → p3 < 0 → k = -3) ∧ (0 ≤ p1 → p1 ≤ 3 → 0 ≤ p2 → p2 ≤ 3 → 0 ≤ p3 → p3 ≤ 60 → k = 0)) ∧ (k = 0 → ((u.2 0) (Int.toNat p1) = p2 ∧ (u.2 1) (Int.toNat p1) = p3)) ∧ (∀ j : Nat, j ≠ (Int.toNat p1) → ((u.2 0) j = t_1_c j ∧ (u.2 1) j = t_2_c j)) ∧ (k ≠ 0 → ∀ j : Nat, ((u.2 0) j = t_1_c j ∧ (u.2 1) j = t_2_c j)) ∧ (∀ j : Nat, (-1) ≤ (u.2 0) j ∧ (u.2 0) j ≤ 3) ∧ (∀ j : Nat, 0 ≤ (u.2 1) j ∧ (u.2 1) j ≤ 60) ∧ (∀ j : Nat, (-9223372036854775808) ≤ (u.2 2) j ∧ (u.2 2) j ≤ 9223372036854775807) ∧ True) (fun u => [(t, .inr (12, oX12 t_q (u.1 0) t_x6 t_x7 t_x8 t_x9 t_x10 t_x11 t_x12 t_x13 t_x14 t_x15 t_x32 t_x33 t_x34 t_x35 t_x39 t_x40 t_x43 t_x44 t_x48 t_x49 t_x50)), ((t_q 1), .inl (K 0, 4, .inl (fun j => iI ((u.2 0) j)))), ((t_q 2), .inl (K 0, 4, .inl (fun j => iI ((u.2 1) j)))), ((t_q 3), .inl (K 3, 240, .inr (.inl (fun j => lI ((u.2 2) j)))))]) 0 0 := by
  refine g_inI (cc := cX12_row) (maxL := 5) (ret := (some .int)) (by decide) rfl (Nat.le_of_ble_eq_true rfl) ?_
  intro p e s m below meth c A ls ag Q B hA hP hD hS hl hQ
  obtain ⟨hx, hb, hr, hml, hts, hown, hlocks, hin, hK⟩ := B
  have hown : s.vm.findClass RX12 = some m.cls := hown
  have hts := fun w h => hts w (List.mem_cons_of_mem _ h)
  have J57 : ∀ (n : Nat) (x57_4 : Int) (c57_t_1 : Nat → Int) (c57_t_2 : Nat → Int) (c57_t_3 : Nat → Int) (H : Heap) (locs : List Loc) (ls : Array Slot), (60 - x57_4).toNat < n → (0 ≤ p1 ∧ p1 ≤ 3 ∧ 0 ≤ p2 ∧ p2 ≤ 3 ∧ 0 ≤ p3 ∧ p3 ≤ 60 ∧ 0 ≤ x57_4 ∧ x57_4 ≤ 60 ∧ 0 ≤ p1 ∧ p1 ≤ 3 ∧ 0 ≤ p2 ∧ p2 ≤ 3 ∧ 0 ≤ p3 ∧ p3 ≤ 60) → (c57_t_1 = uI t_1_c (Int.toNat p1) p2) → (c57_t_2 = uI t_2_c (Int.toNat p1) p3) → (∀ j : Nat, (-1) ≤ c57_t_1 j ∧ c57_t_1 j ≤ 3) → (∀ j : Nat, 0 ≤ c57_t_2 j ∧ c57_t_2 j ≤ 60) → (∀ j : Nat, (-9223372036854775808) ≤ c57_t_3 j ∧ c57_t_3 j ≤ 9223372036854775807) → va_P D vwCl [(t, .inr (12, oX12 t_q 0 t_x6 t_x7 t_x8 t_x9 t_x10 t_x11 t_x12 t_x13 t_x14 t_x15 t_x32 t_x33 t_x34 t_x35 t_x39 t_x40 t_x43 t_x44 t_x48 t_x49 t_x50)), ((t_q 1), .inl (K 0, 4, .inl (fun j => iI (c57_t_1 j)))), ((t_q 2), .inl (K 0, 4, .inl (fun j => iI (c57_t_2 j)))), ((t_q 3), .inl (K 3, 240, .inr (.inl (fun j => lI (c57_t_3 j)))))] H → va_D A [(t, .inr (12, oX12 t_q 0 t_x6 t_x7 t_x8 t_x9 t_x10 t_x11 t_x12 t_x13 t_x14 t_x15 t_x32 t_x33 t_x34 t_x35 t_x39 t_x40 t_x43 t_x44 t_x48 t_x49 t_x50)), ((t_q 1), .inl (K 0, 4, .inl (fun j => iI (c57_t_1 j)))), ((t_q 2), .inl (K 0, 4, .inl (fun j => iI (c57_t_2 j)))), ((t_q 3), .inl (K 3, 240, .inr (.inl (fun j => lI (c57_t_3 j)))))] → va_S A s.heap H locs → lv_has ls 5 [(0, .ref t), (1, .int (iI p1)), (2, .int (iI p2)), (3, .int (iI p3)), (4, .int (iI x57_4))] → W p l e ({ frames := 12, cells := 0, slots := 0, locals := 300 } : Room) s m ag below meth c H locs 0 0 Q (F0 m 57 ls []) := by
    intro n
    induction n with
    | zero =>
      intro x57_4 c57_t_1 c57_t_2 c57_t_3 H locs ls hm57 hf57 we me hc57_t_1 hc57_t_2 hc57_t_3 hP hD hS hl
      exact absurd hm57 (Nat.not_lt_zero _)
    | succ n ih57 =>
      intro x57_4 c57_t_1 c57_t_2 c57_t_3 H locs ls hm57 hf57 we me hc57_t_1 hc57_t_2 hc57_t_3 hP hD hS hl
      refine lv_iload hx hb dX12_row_57 (lv_at hl 4 rfl) ?_
      refine lv_iload_n hx hb dX12_row_59 rfl (lv_at hl 3 rfl) ?_
      refine g_icmp_ge (tgt := 82) hx hb (by omega) (by omega) dX12_row_60 (by decide) (fun c60 => ?_) (fun c60 => ?_)
      · refine lv_iconst (v := iI 0) hx hb dX12_row_82 rfl ?_
        rw [hQ]; exact fn_iret hx hb hr hlocks rfl hP hD hS ((fun k => ([0] : List Int).getD k 0), (fun k => ([c57_t_1, c57_t_2, c57_t_3] : List (Nat → Int)).getD k (fun _ => 0))) ⟨0, rfl, by omega, (by show (-2147483648) ≤ 0 ∧ 0 ≤ 2147483647 ∧ ((p1 < 0 ∨ 3 < p1 ∨ p2 < 0 ∨ 3 < p2 ∨ 60 < p3) → (0 : Int) = -2) ∧ (0 ≤ p1 → p1 ≤ 3 → 0 ≤ p2 → p2 ≤ 3 → p3 < 0 → (0 : Int) = -3) ∧ (0 ≤ p1 → p1 ≤ 3 → 0 ≤ p2 → p2 ≤ 3 → 0 ≤ p3 → p3 ≤ 60 → (0 : Int) = 0); omega), (show (0 : Int) = 0 → (c57_t_1 (Int.toNat p1) = p2 ∧ c57_t_2 (Int.toNat p1) = p3) from fun _ => ⟨by rw [we, uI_s], by rw [me, uI_s]⟩), (show ∀ j : Nat, j ≠ (Int.toNat p1) → (c57_t_1 j = t_1_c j ∧ c57_t_2 j = t_2_c j) from fun j h9 => ⟨by rw [we, uI_n h9], by rw [me, uI_n h9]⟩), (show (0 : Int) ≠ 0 → ∀ j : Nat, (c57_t_1 j = t_1_c j ∧ c57_t_2 j = t_2_c j) from fun h9 => absurd rfl h9), (hc57_t_1), (hc57_t_2), (hc57_t_3), trivial⟩ [0, 1, 2, 3] (by decide) rfl dX12_row_83
      · refine lv_aload_n hx hb dX12_row_63 rfl (lv_at hl 0 rfl) ?_
        refine va_get (D := D) (own := RX12) (ci := 12) (v := .ref (t_q 3)) (C := RX12) (T := TX12) (N := 51) hx hb hts inb_X12 hown hK.1 hP 0 rfl rfl 3 (by decide) (hts _ wd_1237) (fun _ h9 => h9) rfl dX12_row_64 ?_
        refine lv_bipush (v := iI 60) hx hb dX12_row_67 (by decide) ?_
        refine lv_iload_n hx hb dX12_row_69 rfl (lv_at hl 1 rfl) ?_
        refine g_imul hx hb dX12_row_70 ?_
        refine lv_iload hx hb dX12_row_71 (lv_at hl 4 rfl) ?_
        refine g_iadd hx hb dX12_row_73 ?_
        refine lv_lconst (v := lI 0) hx hb dX12_row_74 (by decide) ?_
        refine g_last hx hb hK.1 hP hD hS 3 3 rfl rfl (by omega) (by omega) (by decide) dX12_row_75 (fun H locs g75 eg75 hP hD hS => ?_)
        have hg75 : ∀ j : Nat, (-9223372036854775808) ≤ g75 j ∧ g75 j ≤ 9223372036854775807 := by rw [eg75]; exact uI_all hc57_t_3 (by omega)
        have hP : va_P D vwCl [(t, .inr (12, oX12 t_q 0 t_x6 t_x7 t_x8 t_x9 t_x10 t_x11 t_x12 t_x13 t_x14 t_x15 t_x32 t_x33 t_x34 t_x35 t_x39 t_x40 t_x43 t_x44 t_x48 t_x49 t_x50)), ((t_q 1), .inl (K 0, 4, .inl (fun j => iI (c57_t_1 j)))), ((t_q 2), .inl (K 0, 4, .inl (fun j => iI (c57_t_2 j)))), ((t_q 3), .inl (K 3, 240, .inr (.inl (fun j => lI (g75 j)))))] H := hP
        have hD : va_D A [(t, .inr (12, oX12 t_q 0 t_x6 t_x7 t_x8 t_x9 t_x10 t_x11 t_x12 t_x13 t_x14 t_x15 t_x32 t_x33 t_x34 t_x35 t_x39 t_x40 t_x43 t_x44 t_x48 t_x49 t_x50)), ((t_q 1), .inl (K 0, 4, .inl (fun j => iI (c57_t_1 j)))), ((t_q 2), .inl (K 0, 4, .inl (fun j => iI (c57_t_2 j)))), ((t_q 3), .inl (K 3, 240, .inr (.inl (fun j => lI (g75 j)))))] := hD
        refine lv_iinc (v := iI (x57_4 + 1)) (lv' := [(4, .int (iI (x57_4 + 1))), (0, .ref t), (1, .int (iI p1)), (2, .int (iI p2)), (3, .int (iI p3))]) hx hb dX12_row_76 hl (k := 4) rfl (iI_add _ _) (by decide) rfl (fun ls hl => ?_)
        refine lv_goto (tgt := 57) hx hb dX12_row_79 (by decide) ?_
        exact ih57 (x57_4 + 1) c57_t_1 c57_t_2 g75 _ _ ls (by omega) (by omega) (show c57_t_1 = uI t_1_c (Int.toNat p1) p2 from by assumption) (show c57_t_2 = uI t_2_c (Int.toNat p1) p3 from by assumption) hc57_t_1 hc57_t_2 hg75 (hP.sub [0, 1, 2, 3] rfl) (hD.sub [0, 1, 2, 3] (by decide) rfl) hS (lv_sub hl [1, 2, 3, 4, 0] rfl)
  have hl : lv_has ls 5 [(0, .ref t), (1, .int (iI p1)), (2, .int (iI p2)), (3, .int (iI p3))] := hl
  refine lv_aload_n hx hb dX12_row_0 rfl (lv_at hl 0 rfl) ?_
  refine lv_iconst (v := iI 0) hx hb dX12_row_1 rfl ?_
  refine va_put (D := D) (own := RX12) (ci := 12) (v := .int (iI 0)) (ty := .int) (C := RX12) (T := TX12) (N := 51) hx hb hts inb_X12 tyX12 tyX12_ok nmX12 hown hK.1 hP hD hS 0 rfl rfl 0 (by decide) (hts _ wd_1234) (fun _ h9 => h9) rfl (by decide +kernel) rfl rfl (Nat.le_of_ble_eq_true rfl) dX12_row_2 (fun H locs hP hD hS => ?_)
  have hP : va_P D vwCl [(t, .inr (12, oX12 t_q 0 t_x6 t_x7 t_x8 t_x9 t_x10 t_x11 t_x12 t_x13 t_x14 t_x15 t_x32 t_x33 t_x34 t_x35 t_x39 t_x40 t_x43 t_x44 t_x48 t_x49 t_x50)), ((t_q 1), .inl (K 0, 4, .inl (fun j => iI (t_1_c j)))), ((t_q 2), .inl (K 0, 4, .inl (fun j => iI (t_2_c j)))), ((t_q 3), .inl (K 3, 240, .inr (.inl (fun j => lI (t_3_c j)))))] H := hP
  have hD : va_D A [(t, .inr (12, oX12 t_q 0 t_x6 t_x7 t_x8 t_x9 t_x10 t_x11 t_x12 t_x13 t_x14 t_x15 t_x32 t_x33 t_x34 t_x35 t_x39 t_x40 t_x43 t_x44 t_x48 t_x49 t_x50)), ((t_q 1), .inl (K 0, 4, .inl (fun j => iI (t_1_c j)))), ((t_q 2), .inl (K 0, 4, .inl (fun j => iI (t_2_c j)))), ((t_q 3), .inl (K 3, 240, .inr (.inl (fun j => lI (t_3_c j)))))] := hD
  refine lv_iload_n hx hb dX12_row_5 rfl (lv_at hl 1 rfl) ?_
  refine fn_goi (wc := []) (wr := [(t, .inr (12, oX12 t_q 0 t_x6 t_x7 t_x8 t_x9 t_x10 t_x11 t_x12 t_x13 t_x14 t_x15 t_x32 t_x33 t_x34 t_x35 t_x39 t_x40 t_x43 t_x44 t_x48 t_x49 t_x50)), ((t_q 1), .inl (K 0, 4, .inl (fun j => iI (t_1_c j)))), ((t_q 2), .inl (K 0, 4, .inl (fun j => iI (t_2_c j)))), ((t_q 3), .inl (K 3, 240, .inr (.inl (fun j => lI (t_3_c j)))))]) hK hP hD hS hA [] [0, 1, 2, 3] rfl rfl (by decide) (fun hp => va_runS (As := [.int (iI p1)]) (rest := []) ⟨hx, hb, hml, hown, hts⟩ (k_X12_isSlot (l := l) (D := D) (K := K) (p1 := p1) (hp1 := (by omega)) _) (va_cwS 1 hts (fn_ginS (fn_gin wd_1394) wd_1392 wd_1393 wd_13) rfl rfl rfl (by decide +kernel) ⟨Nat.le_of_ble_eq_true rfl, Nat.le_of_ble_eq_true rfl⟩) ⟨fn_blind, hp⟩ rfl rfl hl.1 rfl (lv_room (Nat.le_of_ble_eq_true rfl)) dX12_row_6 ⟨Nat.le_of_ble_eq_true rfl, Nat.le_of_ble_eq_true rfl⟩) (fun r6 u6 H locs hwu6 hP hD hS => ?_)
  obtain ⟨u6a, u6b⟩ := u6
  obtain ⟨kr6, rfl, hkr6, hqu60, -⟩ := hwu6
  have hqu6 : (kr6 = 1 → 0 ≤ p1 ∧ p1 ≤ 3) ∧ (kr6 = 0 → p1 < 0 ∨ 3 < p1) := hqu60
  clear hqu60
  have hP : va_P D vwCl [(t, .inr (12, oX12 t_q 0 t_x6 t_x7 t_x8 t_x9 t_x10 t_x11 t_x12 t_x13 t_x14 t_x15 t_x32 t_x33 t_x34 t_x35 t_x39 t_x40 t_x43 t_x44 t_x48 t_x49 t_x50)), ((t_q 1), .inl (K 0, 4, .inl (fun j => iI (t_1_c j)))), ((t_q 2), .inl (K 0, 4, .inl (fun j => iI (t_2_c j)))), ((t_q 3), .inl (K 3, 240, .inr (.inl (fun j => lI (t_3_c j)))))] H := hP
  have hD : va_D A [(t, .inr (12, oX12 t_q 0 t_x6 t_x7 t_x8 t_x9 t_x10 t_x11 t_x12 t_x13 t_x14 t_x15 t_x32 t_x33 t_x34 t_x35 t_x39 t_x40 t_x43 t_x44 t_x48 t_x49 t_x50)), ((t_q 1), .inl (K 0, 4, .inl (fun j => iI (t_1_c j)))), ((t_q 2), .inl (K 0, 4, .inl (fun j => iI (t_2_c j)))), ((t_q 3), .inl (K 3, 240, .inr (.inl (fun j => lI (t_3_c j)))))] := hD
  refine g_if_eq (tgt := 30) hx hb (by omega) dX12_row_9 (by decide) (fun c9 => ?_) (fun c9 => ?_)
  · refine lv_bipush (v := iI (-2)) hx hb dX12_row_30 (by decide) ?_
    rw [hQ]; exact fn_iret hx hb hr hlocks rfl hP hD hS ((fun k => ([0] : List Int).getD k 0), (fun k => ([t_1_c, t_2_c, t_3_c] : List (Nat → Int)).getD k (fun _ => 0))) ⟨(-2), rfl, by omega, (by show (-2147483648) ≤ 0 ∧ 0 ≤ 2147483647 ∧ ((p1 < 0 ∨ 3 < p1 ∨ p2 < 0 ∨ 3 < p2 ∨ 60 < p3) → (-2 : Int) = -2) ∧ (0 ≤ p1 → p1 ≤ 3 → 0 ≤ p2 → p2 ≤ 3 → p3 < 0 → (-2 : Int) = -3) ∧ (0 ≤ p1 → p1 ≤ 3 → 0 ≤ p2 → p2 ≤ 3 → 0 ≤ p3 → p3 ≤ 60 → (-2 : Int) = 0); omega), (show (-2 : Int) = 0 → (t_1_c (Int.toNat p1) = p2 ∧ t_2_c (Int.toNat p1) = p3) from fun h9 => absurd h9 (by decide)), (show ∀ j : Nat, j ≠ (Int.toNat p1) → (t_1_c j = t_1_c j ∧ t_2_c j = t_2_c j) from fun j _ => ⟨rfl, rfl⟩), (show (-2 : Int) ≠ 0 → ∀ j : Nat, (t_1_c j = t_1_c j ∧ t_2_c j = t_2_c j) from fun _ j => ⟨rfl, rfl⟩), (hc_t_1), (hc_t_2), (hc_t_3), trivial⟩ [0, 1, 2, 3] (by decide) rfl dX12_row_32
  · refine lv_iload_n hx hb dX12_row_12 rfl (lv_at hl 2 rfl) ?_
    refine lv_i2l (v := lI p2) hx hb dX12_row_13 (iI_2l (by omega)) ?_
    refine lv_lconst (v := lI 0) hx hb dX12_row_14 (by decide) ?_
    refine lv_ldc2 (own := RX12) (v := 3) hx hb hown (hts _ wd_1395) dX12_row_15 ?_
    refine fn_topl (lI 3) (by decide) ?_
    refine fn_goi (wc := []) (wr := [(t, .inr (12, oX12 t_q 0 t_x6 t_x7 t_x8 t_x9 t_x10 t_x11 t_x12 t_x13 t_x14 t_x15 t_x32 t_x33 t_x34 t_x35 t_x39 t_x40 t_x43 t_x44 t_x48 t_x49 t_x50)), ((t_q 1), .inl (K 0, 4, .inl (fun j => iI (t_1_c j)))), ((t_q 2), .inl (K 0, 4, .inl (fun j => iI (t_2_c j)))), ((t_q 3), .inl (K 3, 240, .inr (.inl (fun j => lI (t_3_c j)))))]) hK hP hD hS hA [] [0, 1, 2, 3] rfl rfl (by decide) (fun hp => va_runS (As := [.long (lI p2), .long (lI 0), .long (lI 3)]) (rest := []) ⟨hx, hb, hml, hown, hts⟩ (k_X12_in (l := l) (D := D) (K := K) (p1 := p2) (p2 := 0) (p3 := 3) (hp1 := (by omega)) (hp2 := (by omega)) (hp3 := (by omega)) _) (va_cwS 3 hts (fn_ginS (fn_gin wd_1398) wd_1396 wd_1397 wd_13) rfl rfl rfl (by decide +kernel) ⟨Nat.le_of_ble_eq_true rfl, Nat.le_of_ble_eq_true rfl⟩) ⟨fn_blind, hp⟩ rfl rfl hl.1 rfl (lv_room (Nat.le_of_ble_eq_true rfl)) dX12_row_18 ⟨Nat.le_of_ble_eq_true rfl, Nat.le_of_ble_eq_true rfl⟩) (fun r18 u18 H locs hwu18 hP hD hS => ?_)
    obtain ⟨u18a, u18b⟩ := u18
    obtain ⟨kr18, rfl, hkr18, hqu180, -⟩ := hwu18
    have hqu18 : (kr18 = 1 → (0 : Int) ≤ p2 ∧ p2 ≤ (3 : Int)) ∧ (kr18 = 0 → p2 < (0 : Int) ∨ (3 : Int) < p2) := hqu180
    clear hqu180
    have hP : va_P D vwCl [(t, .inr (12, oX12 t_q 0 t_x6 t_x7 t_x8 t_x9 t_x10 t_x11 t_x12 t_x13 t_x14 t_x15 t_x32 t_x33 t_x34 t_x35 t_x39 t_x40 t_x43 t_x44 t_x48 t_x49 t_x50)), ((t_q 1), .inl (K 0, 4, .inl (fun j => iI (t_1_c j)))), ((t_q 2), .inl (K 0, 4, .inl (fun j => iI (t_2_c j)))), ((t_q 3), .inl (K 3, 240, .inr (.inl (fun j => lI (t_3_c j)))))] H := hP
    have hD : va_D A [(t, .inr (12, oX12 t_q 0 t_x6 t_x7 t_x8 t_x9 t_x10 t_x11 t_x12 t_x13 t_x14 t_x15 t_x32 t_x33 t_x34 t_x35 t_x39 t_x40 t_x43 t_x44 t_x48 t_x49 t_x50)), ((t_q 1), .inl (K 0, 4, .inl (fun j => iI (t_1_c j)))), ((t_q 2), .inl (K 0, 4, .inl (fun j => iI (t_2_c j)))), ((t_q 3), .inl (K 3, 240, .inr (.inl (fun j => lI (t_3_c j)))))] := hD
    refine g_if_eq (tgt := 30) hx hb (by omega) dX12_row_21 (by decide) (fun c21 => ?_) (fun c21 => ?_)
    · refine lv_bipush (v := iI (-2)) hx hb dX12_row_30 (by decide) ?_
      rw [hQ]; exact fn_iret hx hb hr hlocks rfl hP hD hS ((fun k => ([0] : List Int).getD k 0), (fun k => ([t_1_c, t_2_c, t_3_c] : List (Nat → Int)).getD k (fun _ => 0))) ⟨(-2), rfl, by omega, (by show (-2147483648) ≤ 0 ∧ 0 ≤ 2147483647 ∧ ((p1 < 0 ∨ 3 < p1 ∨ p2 < 0 ∨ 3 < p2 ∨ 60 < p3) → (-2 : Int) = -2) ∧ (0 ≤ p1 → p1 ≤ 3 → 0 ≤ p2 → p2 ≤ 3 → p3 < 0 → (-2 : Int) = -3) ∧ (0 ≤ p1 → p1 ≤ 3 → 0 ≤ p2 → p2 ≤ 3 → 0 ≤ p3 → p3 ≤ 60 → (-2 : Int) = 0); omega), (show (-2 : Int) = 0 → (t_1_c (Int.toNat p1) = p2 ∧ t_2_c (Int.toNat p1) = p3) from fun h9 => absurd h9 (by decide)), (show ∀ j : Nat, j ≠ (Int.toNat p1) → (t_1_c j = t_1_c j ∧ t_2_c j = t_2_c j) from fun j _ => ⟨rfl, rfl⟩), (show (-2 : Int) ≠ 0 → ∀ j : Nat, (t_1_c j = t_1_c j ∧ t_2_c j = t_2_c j) from fun _ j => ⟨rfl, rfl⟩), (hc_t_1), (hc_t_2), (hc_t_3), trivial⟩ [0, 1, 2, 3] (by decide) rfl dX12_row_32
    · refine lv_iload_n hx hb dX12_row_24 rfl (lv_at hl 3 rfl) ?_
      refine lv_bipush (v := iI 60) hx hb dX12_row_25 (by decide) ?_
      refine g_icmp_le (tgt := 33) hx hb (by omega) (by omega) dX12_row_27 (by decide) (fun c27 => ?_) (fun c27 => ?_)
      · refine lv_iload_n hx hb dX12_row_33 rfl (lv_at hl 3 rfl) ?_
        refine g_if_ge (tgt := 40) hx hb (by omega) dX12_row_34 (by decide) (fun c34 => ?_) (fun c34 => ?_)
        · refine lv_aload_n hx hb dX12_row_40 rfl (lv_at hl 0 rfl) ?_
          refine va_get (D := D) (own := RX12) (ci := 12) (v := .ref (t_q 1)) (C := RX12) (T := TX12) (N := 51) hx hb hts inb_X12 hown hK.1 hP 0 rfl rfl 1 (by decide) (hts _ wd_1235) (fun _ h9 => h9) rfl dX12_row_41 ?_
          refine fn_at 44 rfl ?_
          refine lv_iload_n hx hb dX12_row_44 rfl (lv_at hl 1 rfl) ?_
          refine lv_iload_n hx hb dX12_row_45 rfl (lv_at hl 2 rfl) ?_
          refine g_iast hx hb hK.1 hP hD hS 1 0 rfl rfl (by omega) (by omega) (by decide) dX12_row_46 (fun H locs g46 eg46 hP hD hS => ?_)
          have hg46 : ∀ j : Nat, (-1) ≤ g46 j ∧ g46 j ≤ 3 := by rw [eg46]; exact uI_all hc_t_1 (by omega)
          have hP : va_P D vwCl [(t, .inr (12, oX12 t_q 0 t_x6 t_x7 t_x8 t_x9 t_x10 t_x11 t_x12 t_x13 t_x14 t_x15 t_x32 t_x33 t_x34 t_x35 t_x39 t_x40 t_x43 t_x44 t_x48 t_x49 t_x50)), ((t_q 1), .inl (K 0, 4, .inl (fun j => iI (g46 j)))), ((t_q 2), .inl (K 0, 4, .inl (fun j => iI (t_2_c j)))), ((t_q 3), .inl (K 3, 240, .inr (.inl (fun j => lI (t_3_c j)))))] H := hP
          have hD : va_D A [(t, .inr (12, oX12 t_q 0 t_x6 t_x7 t_x8 t_x9 t_x10 t_x11 t_x12 t_x13 t_x14 t_x15 t_x32 t_x33 t_x34 t_x35 t_x39 t_x40 t_x43 t_x44 t_x48 t_x49 t_x50)), ((t_q 1), .inl (K 0, 4, .inl (fun j => iI (g46 j)))), ((t_q 2), .inl (K 0, 4, .inl (fun j => iI (t_2_c j)))), ((t_q 3), .inl (K 3, 240, .inr (.inl (fun j => lI (t_3_c j)))))] := hD
          refine lv_aload_n hx hb dX12_row_47 rfl (lv_at hl 0 rfl) ?_
          refine va_get (D := D) (own := RX12) (ci := 12) (v := .ref (t_q 2)) (C := RX12) (T := TX12) (N := 51) hx hb hts inb_X12 hown hK.1 hP 0 rfl rfl 2 (by decide) (hts _ wd_1236) (fun _ h9 => h9) rfl dX12_row_48 ?_
          refine lv_iload_n hx hb dX12_row_51 rfl (lv_at hl 1 rfl) ?_
          refine lv_iload_n hx hb dX12_row_52 rfl (lv_at hl 3 rfl) ?_
          refine g_iast hx hb hK.1 hP hD hS 2 0 rfl rfl (by omega) (by omega) (by decide) dX12_row_53 (fun H locs g53 eg53 hP hD hS => ?_)
          have hg53 : ∀ j : Nat, 0 ≤ g53 j ∧ g53 j ≤ 60 := by rw [eg53]; exact uI_all hc_t_2 (by omega)
          have hP : va_P D vwCl [(t, .inr (12, oX12 t_q 0 t_x6 t_x7 t_x8 t_x9 t_x10 t_x11 t_x12 t_x13 t_x14 t_x15 t_x32 t_x33 t_x34 t_x35 t_x39 t_x40 t_x43 t_x44 t_x48 t_x49 t_x50)), ((t_q 1), .inl (K 0, 4, .inl (fun j => iI (g46 j)))), ((t_q 2), .inl (K 0, 4, .inl (fun j => iI (g53 j)))), ((t_q 3), .inl (K 3, 240, .inr (.inl (fun j => lI (t_3_c j)))))] H := hP
          have hD : va_D A [(t, .inr (12, oX12 t_q 0 t_x6 t_x7 t_x8 t_x9 t_x10 t_x11 t_x12 t_x13 t_x14 t_x15 t_x32 t_x33 t_x34 t_x35 t_x39 t_x40 t_x43 t_x44 t_x48 t_x49 t_x50)), ((t_q 1), .inl (K 0, 4, .inl (fun j => iI (g46 j)))), ((t_q 2), .inl (K 0, 4, .inl (fun j => iI (g53 j)))), ((t_q 3), .inl (K 3, 240, .inr (.inl (fun j => lI (t_3_c j)))))] := hD
          refine lv_iconst (v := iI 0) hx hb dX12_row_54 rfl ?_
          refine lv_istore (lv' := [(4, .int (iI 0)), (0, .ref t), (1, .int (iI p1)), (2, .int (iI p2)), (3, .int (iI p3))]) hx hb dX12_row_55 hl (by decide) rfl (fun ls hl => ?_)
          exact J57 _ 0 g46 g53 t_3_c _ _ ls (Nat.lt_succ_self _) (by omega) (show g46 = uI t_1_c (Int.toNat p1) p2 from eg46) (show g53 = uI t_2_c (Int.toNat p1) p3 from eg53) hg46 hg53 hc_t_3 (hP.sub [0, 1, 2, 3] rfl) (hD.sub [0, 1, 2, 3] (by decide) rfl) hS (lv_sub hl [1, 2, 3, 4, 0] rfl)
        · refine lv_bipush (v := iI (-3)) hx hb dX12_row_37 (by decide) ?_
          rw [hQ]; exact fn_iret hx hb hr hlocks rfl hP hD hS ((fun k => ([0] : List Int).getD k 0), (fun k => ([t_1_c, t_2_c, t_3_c] : List (Nat → Int)).getD k (fun _ => 0))) ⟨(-3), rfl, by omega, (by show (-2147483648) ≤ 0 ∧ 0 ≤ 2147483647 ∧ ((p1 < 0 ∨ 3 < p1 ∨ p2 < 0 ∨ 3 < p2 ∨ 60 < p3) → (-3 : Int) = -2) ∧ (0 ≤ p1 → p1 ≤ 3 → 0 ≤ p2 → p2 ≤ 3 → p3 < 0 → (-3 : Int) = -3) ∧ (0 ≤ p1 → p1 ≤ 3 → 0 ≤ p2 → p2 ≤ 3 → 0 ≤ p3 → p3 ≤ 60 → (-3 : Int) = 0); omega), (show (-3 : Int) = 0 → (t_1_c (Int.toNat p1) = p2 ∧ t_2_c (Int.toNat p1) = p3) from fun h9 => absurd h9 (by decide)), (show ∀ j : Nat, j ≠ (Int.toNat p1) → (t_1_c j = t_1_c j ∧ t_2_c j = t_2_c j) from fun j _ => ⟨rfl, rfl⟩), (show (-3 : Int) ≠ 0 → ∀ j : Nat, (t_1_c j = t_1_c j ∧ t_2_c j = t_2_c j) from fun _ j => ⟨rfl, rfl⟩), (hc_t_1), (hc_t_2), (hc_t_3), trivial⟩ [0, 1, 2, 3] (by decide) rfl dX12_row_39
      · refine lv_bipush (v := iI (-2)) hx hb dX12_row_30 (by decide) ?_
        rw [hQ]; exact fn_iret hx hb hr hlocks rfl hP hD hS ((fun k => ([0] : List Int).getD k 0), (fun k => ([t_1_c, t_2_c, t_3_c] : List (Nat → Int)).getD k (fun _ => 0))) ⟨(-2), rfl, by omega, (by show (-2147483648) ≤ 0 ∧ 0 ≤ 2147483647 ∧ ((p1 < 0 ∨ 3 < p1 ∨ p2 < 0 ∨ 3 < p2 ∨ 60 < p3) → (-2 : Int) = -2) ∧ (0 ≤ p1 → p1 ≤ 3 → 0 ≤ p2 → p2 ≤ 3 → p3 < 0 → (-2 : Int) = -3) ∧ (0 ≤ p1 → p1 ≤ 3 → 0 ≤ p2 → p2 ≤ 3 → 0 ≤ p3 → p3 ≤ 60 → (-2 : Int) = 0); omega), (show (-2 : Int) = 0 → (t_1_c (Int.toNat p1) = p2 ∧ t_2_c (Int.toNat p1) = p3) from fun h9 => absurd h9 (by decide)), (show ∀ j : Nat, j ≠ (Int.toNat p1) → (t_1_c j = t_1_c j ∧ t_2_c j = t_2_c j) from fun j _ => ⟨rfl, rfl⟩), (show (-2 : Int) ≠ 0 → ∀ j : Nat, (t_1_c j = t_1_c j ∧ t_2_c j = t_2_c j) from fun _ j => ⟨rfl, rfl⟩), (hc_t_1), (hc_t_2), (hc_t_3), trivial⟩ [0, 1, 2, 3] (by decide) rfl dX12_row_32
theorem wd_1218 : Cond.code ⟨"FootNotes$Row", "cutToWidth", "(J)J"⟩ prog_6_method_3_code 3 (Option.some Jvm.ClassFile.FieldType.long) ∈ fn_big := fn_tb (fn_l6 (List.mem_of_getElem? (i := 18) (by decide +kernel))) (by decide +kernel)
theorem wd_1217 : Cond.instanceMethod ⟨"FootNotes$Row", "cutToWidth", "(J)J"⟩ ∈ fn_big := fn_tb (fn_l6 (List.mem_of_getElem? (i := 17) (by decide +kernel))) (by decide +kernel)
theorem wp_92 : Cond.selects "FootNotes$Row" ⟨"FootNotes$Row", "cutToWidth", "(J)J"⟩ ⟨"FootNotes$Row", "cutToWidth", "(J)J"⟩ ∈ fn_big := fn_sel (q := (⟨"FootNotes$Row", "cutToWidth", "(J)J"⟩, 4)) 92 (by decide +kernel) (by decide +kernel)
theorem dX11_write_10 : decode cX11_write 10 = .ok (.aload_n 0, 1) := by decide +kernel
theorem dX11_write_11 : decode cX11_write 11 = .ok (.getfield 44, 3) := by decide +kernel
theorem dX11_write_14 : decode cX11_write 14 = .ok (.iload_n 1, 1) := by decide +kernel
theorem dX11_write_15 : decode cX11_write 15 = .ok (.aaload, 1) := by decide +kernel
theorem dX11_write_16 : decode cX11_write 16 = .ok (.astore 5, 2) := by decide +kernel
theorem dX11_write_18 : decode cX11_write 18 = .ok (.aload 5, 2) := by decide +kernel
theorem dX11_write_20 : decode cX11_write 20 = .ok (.getfield 340, 3) := by decide +kernel
theorem dX11_write_23 : decode cX11_write 23 = .ok (.ifCond .ne 6, 3) := by decide +kernel
theorem dX11_write_29 : decode cX11_write 29 = .ok (.iload_n 2, 1) := by decide +kernel
theorem dX11_write_30 : decode cX11_write 30 = .ok (.ifCond .lt 12, 3) := by decide +kernel
theorem dX11_write_42 : decode cX11_write 42 = .ok (.bipush (-7), 2) := by decide +kernel
theorem dX11_write_44 : decode cX11_write 44 = .ok (.ireturn, 1) := by decide +kernel
theorem dX11_write_33 : decode cX11_write 33 = .ok (.iload_n 2, 1) := by decide +kernel
theorem dX11_write_34 : decode cX11_write 34 = .ok (.aload 5, 2) := by decide +kernel
theorem dX11_write_36 : decode cX11_write 36 = .ok (.getfield 327, 3) := by decide +kernel
theorem dX11_write_39 : decode cX11_write 39 = .ok (.if_icmp .lt 6, 3) := by decide +kernel
theorem dX11_write_45 : decode cX11_write 45 = .ok (.aload 5, 2) := by decide +kernel
theorem dX11_write_47 : decode cX11_write 47 = .ok (.getfield 344, 3) := by decide +kernel
theorem dX11_write_50 : decode cX11_write 50 = .ok (.iload_n 2, 1) := by decide +kernel
theorem dX11_write_51 : decode cX11_write 51 = .ok (.aload 5, 2) := by decide +kernel
theorem dX11_write_53 : decode cX11_write 53 = .ok (.lload_n 3, 1) := by decide +kernel
theorem dX11_write_54 : decode cX11_write 54 = .ok (.invokevirtual 454, 3) := by decide +kernel
theorem dX11_write_57 : decode cX11_write 57 = .ok (.lastore, 1) := by decide +kernel
theorem dX11_write_58 : decode cX11_write 58 = .ok (.iconst 0, 1) := by decide +kernel
theorem dX11_write_59 : decode cX11_write 59 = .ok (.ireturn, 1) := by decide +kernel
theorem dX11_write_26 : decode cX11_write 26 = .ok (.bipush (-6), 2) := by decide +kernel
theorem dX11_write_28 : decode cX11_write 28 = .ok (.ireturn, 1) := by decide +kernel
set_option maxHeartbeats 4000000 in
set_option maxRecDepth 100000 in
theorem k_X11_write_0e (l : Launch) (D : va_G) (K : Nat → ClassId) (t : Nat) (t_q t_6_r t_6_0_q : Nat → Nat) (p2 p3 t_6_0_x0 t_6_0_x1 t_6_0_x2 : Int) (t_6_c : Nat → Option Nat) (t_6_0_3_c : Nat → Int) (hp2 : (-2147483648) ≤ p2 ∧ p2 ≤ 2147483647) (hp3 : (-9223372036854775808) ≤ p3 ∧ p3 ≤ 9223372036854775807) (hr_t_6 : ∀ j : Nat, j < 4 → t_6_c j = some (t_6_r j)) (hi_t_6_0 : bX4 t_6_0_x0 t_6_0_x1 t_6_0_x2) (hc_t_6_0_3 : ∀ j : Nat, (-9223372036854775808) ≤ t_6_0_3_c j ∧ t_6_0_3_c j ≤ 9223372036854775807) : fn_CI (S := (Nat → Int) × (Nat → Nat → Int)) l D K yX11_write (fn_ws yX11_write cX11_write 6 (some .int)) ({ frames := 8, cells := 0, slots := 0, locals := 200 } : Room) [.ref t, .int (iI 0), .int (iI p2), .long (lI p3)] [(t, .inr (11, oX11 t_q)), ((t_q 6), .inl (K 6, 4, .inr (.inr (.inr (.inr t_6_c))))), ((t_6_r 0), .inr (4, oX4 t_6_0_q t_6_0_x0 t_6_0_x1 t_6_0_x2)), ((t_6_0_q 3), .inl (K 3, 60, .inr (.inl (fun j => lI (t_6_0_3_c j)))))] (fun r u => ∃ k : Int, r = iI k ∧ ((-7) ≤ k ∧ k ≤ 0) ∧ ((t_6_0_x0 = 0 → k = -6) ∧ (t_6_0_x0 ≠ 0 → (p2 < 0 ∨ t_6_0_x2 ≤ p2) → k = -7) ∧ (t_6_0_x0 ≠ 0 → 0 ≤ p2 → p2 < t_6_0_x2 → k = 0)) ∧ (∀ j : Nat, (-9223372036854775808) ≤ (u.2 0) j ∧ (u.2 0) j ≤ 9223372036854775807) ∧ True) (fun u => [(t, .inr (11, oX11 t_q)), ((t_q 6), .inl (K 6, 4, .inr (.inr (.inr (.inr t_6_c))))), ((t_6_r 0), .inr (4, oX4 t_6_0_q t_6_0_x0 t_6_0_x1 t_6_0_x2)), ((t_6_0_q 3), .inl (K 3, 60, .inr (.inl (fun j => lI ((u.2 0) j)))))]) 0 0 := by
  refine g_inI (cc := cX11_write) (maxL := 6) (ret := (some .int)) (by decide) rfl (Nat.le_of_ble_eq_true rfl) ?_
  intro p e s m below meth c A ls ag Q B hA hP hD hS hl hQ
  obtain ⟨hx, hb, hr, hml, hts, hown, hlocks, hin, hK⟩ := B
  have hown : s.vm.findClass RX11 = some m.cls := hown
  have hts := fun w h => hts w (List.mem_cons_of_mem _ h)
  have hl : lv_has ls 6 [(0, .ref t), (1, .int (iI 0)), (2, .int (iI p2)), (3, .long (lI p3))] := hl
  refine lv_iload_n hx hb dX11_write_0 rfl (lv_at hl 1 rfl) ?_
  refine fn_goi (wc := []) (wr := [(t, .inr (11, oX11 t_q)), ((t_q 6), .inl (K 6, 4, .inr (.inr (.inr (.inr t_6_c))))), ((t_6_r 0), .inr (4, oX4 t_6_0_q t_6_0_x0 t_6_0_x1 t_6_0_x2)), ((t_6_0_q 3), .inl (K 3, 60, .inr (.inl (fun j => lI (t_6_0_3_c j)))))]) hK hP hD hS hA [] [0, 1, 2, 3] rfl rfl (by decide) (fun hp => va_runS (As := [.int (iI 0)]) (rest := []) ⟨hx, hb, hml, hown, hts⟩ (k_X11_noSlot (l := l) (D := D) (K := K) (p1 := 0) (hp1 := (by omega)) _) (va_cwS 1 hts (fn_ginS (fn_gin wd_963) wd_961 wd_962 wd_1) rfl rfl rfl (by decide +kernel) ⟨Nat.le_of_ble_eq_true rfl, Nat.le_of_ble_eq_true rfl⟩) ⟨fn_blind, hp⟩ rfl rfl hl.1 rfl (lv_room (Nat.le_of_ble_eq_true rfl)) dX11_write_1 ⟨Nat.le_of_ble_eq_true rfl, Nat.le_of_ble_eq_true rfl⟩) (fun r1 u1 H locs hwu1 hP hD hS => ?_)
  obtain ⟨u1a, u1b⟩ := u1
  obtain ⟨kr1, rfl, hkr1, hqu10, -⟩ := hwu1
  have hqu1 : (kr1 = 0 → 0 ≤ (0 : Int) ∧ (0 : Int) ≤ 3) ∧ (kr1 = 1 → (0 : Int) < 0 ∨ 3 < (0 : Int)) := hqu10
  clear hqu10
  have hP : va_P D vwCl [(t, .inr (11, oX11 t_q)), ((t_q 6), .inl (K 6, 4, .inr (.inr (.inr (.inr t_6_c))))), ((t_6_r 0), .inr (4, oX4 t_6_0_q t_6_0_x0 t_6_0_x1 t_6_0_x2)), ((t_6_0_q 3), .inl (K 3, 60, .inr (.inl (fun j => lI (t_6_0_3_c j)))))] H := hP
  have hD : va_D A [(t, .inr (11, oX11 t_q)), ((t_q 6), .inl (K 6, 4, .inr (.inr (.inr (.inr t_6_c))))), ((t_6_r 0), .inr (4, oX4 t_6_0_q t_6_0_x0 t_6_0_x1 t_6_0_x2)), ((t_6_0_q 3), .inl (K 3, 60, .inr (.inl (fun j => lI (t_6_0_3_c j)))))] := hD
  refine g_if_eq (tgt := 10) hx hb (by omega) dX11_write_4 (by decide) (fun c4 => ?_) (fun c4 => ?_)
  · refine lv_aload_n hx hb dX11_write_10 rfl (lv_at hl 0 rfl) ?_
    refine va_get (D := D) (own := RX11) (ci := 11) (v := .ref (t_q 6)) (C := RX11) (T := TX11) (N := 13) hx hb hts inb_X11 hown hK.1 hP 0 rfl rfl 6 (by decide) (hts _ wd_428) (fun _ h9 => h9) rfl dX11_write_11 ?_
    refine lv_iload_n hx hb dX11_write_14 rfl (lv_at hl 1 rfl) ?_
    refine va_aldq hx hb hK.1 hP 1 6 rfl rfl (iI_in (by decide) (by decide) (by decide)) dX11_write_15 ?_
    refine fn_topv (.ref (t_6_r 0)) (by rw [iI_cl (by decide)]; exact congrArg va_rf (hr_t_6 0 (by decide))) ?_
    refine lv_astore (lv' := [(5, .ref (t_6_r 0)), (0, .ref t), (1, .int (iI 0)), (2, .int (iI p2)), (3, .long (lI p3))]) hx hb dX11_write_16 hl (by decide) rfl (fun ls hl => ?_)
    refine lv_aload hx hb dX11_write_18 (lv_at hl 0 rfl) ?_
    refine va_getN (D := D) (own := RX11) (ci := 4) (v := .int (iI t_6_0_x0)) (C := RX4) (T := TX4) (N := 4) hx hb hts inb_X4 hown hK.1 hP 2 rfl rfl 0 (by decide) (hK.nf 89 rfl) (fun _ h9 => h9) rfl dX11_write_20 ?_
    have y20_1 : 0 ≤ t_6_0_x0 ∧ t_6_0_x0 ≤ 1 := hi_t_6_0.1
    refine g_if_ne (tgt := 29) hx hb (by omega) dX11_write_23 (by decide) (fun c23 => ?_) (fun c23 => ?_)
    · refine lv_iload_n hx hb dX11_write_29 rfl (lv_at hl 3 rfl) ?_
      refine g_if_lt (tgt := 42) hx hb (by omega) dX11_write_30 (by decide) (fun c30 => ?_) (fun c30 => ?_)
      · refine lv_bipush (v := iI (-7)) hx hb dX11_write_42 (by decide) ?_
        rw [hQ]; exact fn_iret hx hb hr hlocks rfl hP hD hS ((fun _ => 0), (fun k => ([t_6_0_3_c] : List (Nat → Int)).getD k (fun _ => 0))) ⟨(-7), rfl, by omega, (by show (t_6_0_x0 = 0 → (-7 : Int) = -6) ∧ (t_6_0_x0 ≠ 0 → (p2 < 0 ∨ t_6_0_x2 ≤ p2) → (-7 : Int) = -7) ∧ (t_6_0_x0 ≠ 0 → 0 ≤ p2 → p2 < t_6_0_x2 → (-7 : Int) = 0); omega), (hc_t_6_0_3), trivial⟩ [0, 1, 2, 3] (by decide) rfl dX11_write_44
      · refine lv_iload_n hx hb dX11_write_33 rfl (lv_at hl 3 rfl) ?_
        refine lv_aload hx hb dX11_write_34 (lv_at hl 0 rfl) ?_
        refine va_getN (D := D) (own := RX11) (ci := 4) (v := .int (iI t_6_0_x2)) (C := RX4) (T := TX4) (N := 4) hx hb hts inb_X4 hown hK.1 hP 2 rfl rfl 2 (by decide) (hK.nf 91 rfl) (fun _ h9 => h9) rfl dX11_write_36 ?_
        have y36_2 : 0 ≤ t_6_0_x2 ∧ t_6_0_x2 ≤ 60 := hi_t_6_0.2.2
        refine g_icmp_lt (tgt := 45) hx hb (by omega) (by omega) dX11_write_39 (by decide) (fun c39 => ?_) (fun c39 => ?_)
        · refine lv_aload hx hb dX11_write_45 (lv_at hl 0 rfl) ?_
          refine va_getN (D := D) (own := RX11) (ci := 4) (v := .ref (t_6_0_q 3)) (C := RX4) (T := TX4) (N := 4) hx hb hts inb_X4 hown hK.1 hP 2 rfl rfl 3 (by decide) (hK.nf 92 rfl) (fun _ h9 => h9) rfl dX11_write_47 ?_
          refine fn_at 50 rfl ?_
          refine lv_iload_n hx hb dX11_write_50 rfl (lv_at hl 3 rfl) ?_
          refine lv_aload hx hb dX11_write_51 (lv_at hl 0 rfl) ?_
          refine lv_lload_n hx hb dX11_write_53 rfl (lv_at hl 4 rfl) ?_
          refine fn_gol (wc := [((t_6_r 0), .inr (4, oX4 t_6_0_q t_6_0_x0 t_6_0_x1 t_6_0_x2))]) (wr := [(t, .inr (11, oX11 t_q)), ((t_q 6), .inl (K 6, 4, .inr (.inr (.inr (.inr t_6_c))))), ((t_6_0_q 3), .inl (K 3, 60, .inr (.inl (fun j => lI (t_6_0_3_c j)))))]) hK hP hD hS hA [2] [0, 1, 3] rfl rfl (by decide) (fun hp => va_runVN (C := RX4) (As := [.long (lI p3)]) (rest := [.int (iI p2), .ref (t_6_0_q 3)]) ⟨hx, hb, hml, hown, hts⟩ (k_X4_cutToWidth (l := l) (D := D) (K := K) (t := (t_6_r 0)) (p1 := p3) (t_q := t_6_0_q) (t_x0 := t_6_0_x0) (t_x1 := t_6_0_x1) (t_x2 := t_6_0_x2) (hp1 := (by omega)) (hi_t := hi_t_6_0) _) ⟨va_cnB (own := RX11) 1 hts (fn_gin wd_1218) rfl rfl rfl (hK.nw 154 rfl) (hts _ wd_12) (by decide +kernel) ⟨Nat.le_of_ble_eq_true rfl, Nat.le_of_ble_eq_true rfl⟩, hts _ wd_1217, hts _ wp_92⟩ ⟨fn_blind, va_recv hK.1 hP (ci := 4) (q0 := 2) rfl rfl, hp⟩ rfl rfl hl.1 rfl (lv_room (Nat.le_of_ble_eq_true rfl)) dX11_write_54 ⟨Nat.le_of_ble_eq_true rfl, Nat.le_of_ble_eq_true rfl⟩) (fun r54 u54 H locs hwu54 hP hD hS => ?_)
          obtain ⟨u54a, u54b⟩ := u54
          obtain ⟨kr54, rfl, hkr54, -⟩ := hwu54
          have hP : va_P D vwCl [(t, .inr (11, oX11 t_q)), ((t_q 6), .inl (K 6, 4, .inr (.inr (.inr (.inr t_6_c))))), ((t_6_0_q 3), .inl (K 3, 60, .inr (.inl (fun j => lI (t_6_0_3_c j))))), ((t_6_r 0), .inr (4, oX4 t_6_0_q t_6_0_x0 t_6_0_x1 t_6_0_x2))] H := hP
          have hD : va_D A [(t, .inr (11, oX11 t_q)), ((t_q 6), .inl (K 6, 4, .inr (.inr (.inr (.inr t_6_c))))), ((t_6_0_q 3), .inl (K 3, 60, .inr (.inl (fun j => lI (t_6_0_3_c j))))), ((t_6_r 0), .inr (4, oX4 t_6_0_q t_6_0_x0 t_6_0_x1 t_6_0_x2))] := hD
          refine g_last hx hb hK.1 hP hD hS 2 3 rfl rfl (by omega) (by omega) (by decide) dX11_write_57 (fun H locs g57 eg57 hP hD hS => ?_)
          have hg57 : ∀ j : Nat, (-9223372036854775808) ≤ g57 j ∧ g57 j ≤ 9223372036854775807 := by rw [eg57]; exact uI_all hc_t_6_0_3 (by omega)
          have hP : va_P D vwCl [(t, .inr (11, oX11 t_q)), ((t_q 6), .inl (K 6, 4, .inr (.inr (.inr (.inr t_6_c))))), ((t_6_0_q 3), .inl (K 3, 60, .inr (.inl (fun j => lI (g57 j))))), ((t_6_r 0), .inr (4, oX4 t_6_0_q t_6_0_x0 t_6_0_x1 t_6_0_x2))] H := hP
          have hD : va_D A [(t, .inr (11, oX11 t_q)), ((t_q 6), .inl (K 6, 4, .inr (.inr (.inr (.inr t_6_c))))), ((t_6_0_q 3), .inl (K 3, 60, .inr (.inl (fun j => lI (g57 j))))), ((t_6_r 0), .inr (4, oX4 t_6_0_q t_6_0_x0 t_6_0_x1 t_6_0_x2))] := hD
          refine lv_iconst (v := iI 0) hx hb dX11_write_58 rfl ?_
          rw [hQ]; exact fn_iret hx hb hr hlocks rfl hP hD hS ((fun _ => 0), (fun k => ([g57] : List (Nat → Int)).getD k (fun _ => 0))) ⟨0, rfl, by omega, (by show (t_6_0_x0 = 0 → (0 : Int) = -6) ∧ (t_6_0_x0 ≠ 0 → (p2 < 0 ∨ t_6_0_x2 ≤ p2) → (0 : Int) = -7) ∧ (t_6_0_x0 ≠ 0 → 0 ≤ p2 → p2 < t_6_0_x2 → (0 : Int) = 0); omega), (hg57), trivial⟩ [0, 1, 3, 2] (by decide) rfl dX11_write_59
        · refine lv_bipush (v := iI (-7)) hx hb dX11_write_42 (by decide) ?_
          rw [hQ]; exact fn_iret hx hb hr hlocks rfl hP hD hS ((fun _ => 0), (fun k => ([t_6_0_3_c] : List (Nat → Int)).getD k (fun _ => 0))) ⟨(-7), rfl, by omega, (by show (t_6_0_x0 = 0 → (-7 : Int) = -6) ∧ (t_6_0_x0 ≠ 0 → (p2 < 0 ∨ t_6_0_x2 ≤ p2) → (-7 : Int) = -7) ∧ (t_6_0_x0 ≠ 0 → 0 ≤ p2 → p2 < t_6_0_x2 → (-7 : Int) = 0); omega), (hc_t_6_0_3), trivial⟩ [0, 1, 2, 3] (by decide) rfl dX11_write_44
    · refine lv_bipush (v := iI (-6)) hx hb dX11_write_26 (by decide) ?_
      rw [hQ]; exact fn_iret hx hb hr hlocks rfl hP hD hS ((fun _ => 0), (fun k => ([t_6_0_3_c] : List (Nat → Int)).getD k (fun _ => 0))) ⟨(-6), rfl, by omega, (by show (t_6_0_x0 = 0 → (-6 : Int) = -6) ∧ (t_6_0_x0 ≠ 0 → (p2 < 0 ∨ t_6_0_x2 ≤ p2) → (-6 : Int) = -7) ∧ (t_6_0_x0 ≠ 0 → 0 ≤ p2 → p2 < t_6_0_x2 → (-6 : Int) = 0); omega), (hc_t_6_0_3), trivial⟩ [0, 1, 2, 3] (by decide) rfl dX11_write_28
  · exfalso; omega
set_option maxHeartbeats 4000000 in
set_option maxRecDepth 100000 in
theorem k_X11_write_1e (l : Launch) (D : va_G) (K : Nat → ClassId) (t : Nat) (t_q t_6_r t_6_1_q : Nat → Nat) (p2 p3 t_6_1_x0 t_6_1_x1 t_6_1_x2 : Int) (t_6_c : Nat → Option Nat) (t_6_1_3_c : Nat → Int) (hp2 : (-2147483648) ≤ p2 ∧ p2 ≤ 2147483647) (hp3 : (-9223372036854775808) ≤ p3 ∧ p3 ≤ 9223372036854775807) (hr_t_6 : ∀ j : Nat, j < 4 → t_6_c j = some (t_6_r j)) (hi_t_6_1 : bX4 t_6_1_x0 t_6_1_x1 t_6_1_x2) (hc_t_6_1_3 : ∀ j : Nat, (-9223372036854775808) ≤ t_6_1_3_c j ∧ t_6_1_3_c j ≤ 9223372036854775807) : fn_CI (S := (Nat → Int) × (Nat → Nat → Int)) l D K yX11_write (fn_ws yX11_write cX11_write 6 (some .int)) ({ frames := 8, cells := 0, slots := 0, locals := 200 } : Room) [.ref t, .int (iI 1), .int (iI p2), .long (lI p3)] [(t, .inr (11, oX11 t_q)), ((t_q 6), .inl (K 6, 4, .inr (.inr (.inr (.inr t_6_c))))), ((t_6_r 1), .inr (4, oX4 t_6_1_q t_6_1_x0 t_6_1_x1 t_6_1_x2)), ((t_6_1_q 3), .inl (K 3, 60, .inr (.inl (fun j => lI (t_6_1_3_c j)))))] (fun r u => ∃ k : Int, r = iI k ∧ ((-7) ≤ k ∧ k ≤ 0) ∧ ((t_6_1_x0 = 0 → k = -6) ∧ (t_6_1_x0 ≠ 0 → (p2 < 0 ∨ t_6_1_x2 ≤ p2) → k = -7) ∧ (t_6_1_x0 ≠ 0 → 0 ≤ p2 → p2 < t_6_1_x2 → k = 0)) ∧ (∀ j : Nat, (-9223372036854775808) ≤ (u.2 0) j ∧ (u.2 0) j ≤ 9223372036854775807) ∧ True) (fun u => [(t, .inr (11, oX11 t_q)), ((t_q 6), .inl (K 6, 4, .inr (.inr (.inr (.inr t_6_c))))), ((t_6_r 1), .inr (4, oX4 t_6_1_q t_6_1_x0 t_6_1_x1 t_6_1_x2)), ((t_6_1_q 3), .inl (K 3, 60, .inr (.inl (fun j => lI ((u.2 0) j)))))]) 0 0 := by
  refine g_inI (cc := cX11_write) (maxL := 6) (ret := (some .int)) (by decide) rfl (Nat.le_of_ble_eq_true rfl) ?_
  intro p e s m below meth c A ls ag Q B hA hP hD hS hl hQ
  obtain ⟨hx, hb, hr, hml, hts, hown, hlocks, hin, hK⟩ := B
  have hown : s.vm.findClass RX11 = some m.cls := hown
  have hts := fun w h => hts w (List.mem_cons_of_mem _ h)
  have hl : lv_has ls 6 [(0, .ref t), (1, .int (iI 1)), (2, .int (iI p2)), (3, .long (lI p3))] := hl
  refine lv_iload_n hx hb dX11_write_0 rfl (lv_at hl 1 rfl) ?_
  refine fn_goi (wc := []) (wr := [(t, .inr (11, oX11 t_q)), ((t_q 6), .inl (K 6, 4, .inr (.inr (.inr (.inr t_6_c))))), ((t_6_r 1), .inr (4, oX4 t_6_1_q t_6_1_x0 t_6_1_x1 t_6_1_x2)), ((t_6_1_q 3), .inl (K 3, 60, .inr (.inl (fun j => lI (t_6_1_3_c j)))))]) hK hP hD hS hA [] [0, 1, 2, 3] rfl rfl (by decide) (fun hp => va_runS (As := [.int (iI 1)]) (rest := []) ⟨hx, hb, hml, hown, hts⟩ (k_X11_noSlot (l := l) (D := D) (K := K) (p1 := 1) (hp1 := (by omega)) _) (va_cwS 1 hts (fn_ginS (fn_gin wd_963) wd_961 wd_962 wd_1) rfl rfl rfl (by decide +kernel) ⟨Nat.le_of_ble_eq_true rfl, Nat.le_of_ble_eq_true rfl⟩) ⟨fn_blind, hp⟩ rfl rfl hl.1 rfl (lv_room (Nat.le_of_ble_eq_true rfl)) dX11_write_1 ⟨Nat.le_of_ble_eq_true rfl, Nat.le_of_ble_eq_true rfl⟩) (fun r1 u1 H locs hwu1 hP hD hS => ?_)
  obtain ⟨u1a, u1b⟩ := u1
  obtain ⟨kr1, rfl, hkr1, hqu10, -⟩ := hwu1
  have hqu1 : (kr1 = 0 → 0 ≤ (1 : Int) ∧ (1 : Int) ≤ 3) ∧ (kr1 = 1 → (1 : Int) < 0 ∨ 3 < (1 : Int)) := hqu10
  clear hqu10
  have hP : va_P D vwCl [(t, .inr (11, oX11 t_q)), ((t_q 6), .inl (K 6, 4, .inr (.inr (.inr (.inr t_6_c))))), ((t_6_r 1), .inr (4, oX4 t_6_1_q t_6_1_x0 t_6_1_x1 t_6_1_x2)), ((t_6_1_q 3), .inl (K 3, 60, .inr (.inl (fun j => lI (t_6_1_3_c j)))))] H := hP
  have hD : va_D A [(t, .inr (11, oX11 t_q)), ((t_q 6), .inl (K 6, 4, .inr (.inr (.inr (.inr t_6_c))))), ((t_6_r 1), .inr (4, oX4 t_6_1_q t_6_1_x0 t_6_1_x1 t_6_1_x2)), ((t_6_1_q 3), .inl (K 3, 60, .inr (.inl (fun j => lI (t_6_1_3_c j)))))] := hD
  refine g_if_eq (tgt := 10) hx hb (by omega) dX11_write_4 (by decide) (fun c4 => ?_) (fun c4 => ?_)
  · refine lv_aload_n hx hb dX11_write_10 rfl (lv_at hl 0 rfl) ?_
    refine va_get (D := D) (own := RX11) (ci := 11) (v := .ref (t_q 6)) (C := RX11) (T := TX11) (N := 13) hx hb hts inb_X11 hown hK.1 hP 0 rfl rfl 6 (by decide) (hts _ wd_428) (fun _ h9 => h9) rfl dX11_write_11 ?_
    refine lv_iload_n hx hb dX11_write_14 rfl (lv_at hl 1 rfl) ?_
    refine va_aldq hx hb hK.1 hP 1 6 rfl rfl (iI_in (by decide) (by decide) (by decide)) dX11_write_15 ?_
    refine fn_topv (.ref (t_6_r 1)) (by rw [iI_cl (by decide)]; exact congrArg va_rf (hr_t_6 1 (by decide))) ?_
    refine lv_astore (lv' := [(5, .ref (t_6_r 1)), (0, .ref t), (1, .int (iI 1)), (2, .int (iI p2)), (3, .long (lI p3))]) hx hb dX11_write_16 hl (by decide) rfl (fun ls hl => ?_)
    refine lv_aload hx hb dX11_write_18 (lv_at hl 0 rfl) ?_
    refine va_getN (D := D) (own := RX11) (ci := 4) (v := .int (iI t_6_1_x0)) (C := RX4) (T := TX4) (N := 4) hx hb hts inb_X4 hown hK.1 hP 2 rfl rfl 0 (by decide) (hK.nf 89 rfl) (fun _ h9 => h9) rfl dX11_write_20 ?_
    have y20_1 : 0 ≤ t_6_1_x0 ∧ t_6_1_x0 ≤ 1 := hi_t_6_1.1
    refine g_if_ne (tgt := 29) hx hb (by omega) dX11_write_23 (by decide) (fun c23 => ?_) (fun c23 => ?_)
    · refine lv_iload_n hx hb dX11_write_29 rfl (lv_at hl 3 rfl) ?_
      refine g_if_lt (tgt := 42) hx hb (by omega) dX11_write_30 (by decide) (fun c30 => ?_) (fun c30 => ?_)
      · refine lv_bipush (v := iI (-7)) hx hb dX11_write_42 (by decide) ?_
        rw [hQ]; exact fn_iret hx hb hr hlocks rfl hP hD hS ((fun _ => 0), (fun k => ([t_6_1_3_c] : List (Nat → Int)).getD k (fun _ => 0))) ⟨(-7), rfl, by omega, (by show (t_6_1_x0 = 0 → (-7 : Int) = -6) ∧ (t_6_1_x0 ≠ 0 → (p2 < 0 ∨ t_6_1_x2 ≤ p2) → (-7 : Int) = -7) ∧ (t_6_1_x0 ≠ 0 → 0 ≤ p2 → p2 < t_6_1_x2 → (-7 : Int) = 0); omega), (hc_t_6_1_3), trivial⟩ [0, 1, 2, 3] (by decide) rfl dX11_write_44
      · refine lv_iload_n hx hb dX11_write_33 rfl (lv_at hl 3 rfl) ?_
        refine lv_aload hx hb dX11_write_34 (lv_at hl 0 rfl) ?_
        refine va_getN (D := D) (own := RX11) (ci := 4) (v := .int (iI t_6_1_x2)) (C := RX4) (T := TX4) (N := 4) hx hb hts inb_X4 hown hK.1 hP 2 rfl rfl 2 (by decide) (hK.nf 91 rfl) (fun _ h9 => h9) rfl dX11_write_36 ?_
        have y36_2 : 0 ≤ t_6_1_x2 ∧ t_6_1_x2 ≤ 60 := hi_t_6_1.2.2
        refine g_icmp_lt (tgt := 45) hx hb (by omega) (by omega) dX11_write_39 (by decide) (fun c39 => ?_) (fun c39 => ?_)
        · refine lv_aload hx hb dX11_write_45 (lv_at hl 0 rfl) ?_
          refine va_getN (D := D) (own := RX11) (ci := 4) (v := .ref (t_6_1_q 3)) (C := RX4) (T := TX4) (N := 4) hx hb hts inb_X4 hown hK.1 hP 2 rfl rfl 3 (by decide) (hK.nf 92 rfl) (fun _ h9 => h9) rfl dX11_write_47 ?_
          refine fn_at 50 rfl ?_
          refine lv_iload_n hx hb dX11_write_50 rfl (lv_at hl 3 rfl) ?_
          refine lv_aload hx hb dX11_write_51 (lv_at hl 0 rfl) ?_
          refine lv_lload_n hx hb dX11_write_53 rfl (lv_at hl 4 rfl) ?_
          refine fn_gol (wc := [((t_6_r 1), .inr (4, oX4 t_6_1_q t_6_1_x0 t_6_1_x1 t_6_1_x2))]) (wr := [(t, .inr (11, oX11 t_q)), ((t_q 6), .inl (K 6, 4, .inr (.inr (.inr (.inr t_6_c))))), ((t_6_1_q 3), .inl (K 3, 60, .inr (.inl (fun j => lI (t_6_1_3_c j)))))]) hK hP hD hS hA [2] [0, 1, 3] rfl rfl (by decide) (fun hp => va_runVN (C := RX4) (As := [.long (lI p3)]) (rest := [.int (iI p2), .ref (t_6_1_q 3)]) ⟨hx, hb, hml, hown, hts⟩ (k_X4_cutToWidth (l := l) (D := D) (K := K) (t := (t_6_r 1)) (p1 := p3) (t_q := t_6_1_q) (t_x0 := t_6_1_x0) (t_x1 := t_6_1_x1) (t_x2 := t_6_1_x2) (hp1 := (by omega)) (hi_t := hi_t_6_1) _) ⟨va_cnB (own := RX11) 1 hts (fn_gin wd_1218) rfl rfl rfl (hK.nw 154 rfl) (hts _ wd_12) (by decide +kernel) ⟨Nat.le_of_ble_eq_true rfl, Nat.le_of_ble_eq_true rfl⟩, hts _ wd_1217, hts _ wp_92⟩ ⟨fn_blind, va_recv hK.1 hP (ci := 4) (q0 := 2) rfl rfl, hp⟩ rfl rfl hl.1 rfl (lv_room (Nat.le_of_ble_eq_true rfl)) dX11_write_54 ⟨Nat.le_of_ble_eq_true rfl, Nat.le_of_ble_eq_true rfl⟩) (fun r54 u54 H locs hwu54 hP hD hS => ?_)
          obtain ⟨u54a, u54b⟩ := u54
          obtain ⟨kr54, rfl, hkr54, -⟩ := hwu54
          have hP : va_P D vwCl [(t, .inr (11, oX11 t_q)), ((t_q 6), .inl (K 6, 4, .inr (.inr (.inr (.inr t_6_c))))), ((t_6_1_q 3), .inl (K 3, 60, .inr (.inl (fun j => lI (t_6_1_3_c j))))), ((t_6_r 1), .inr (4, oX4 t_6_1_q t_6_1_x0 t_6_1_x1 t_6_1_x2))] H := hP
          have hD : va_D A [(t, .inr (11, oX11 t_q)), ((t_q 6), .inl (K 6, 4, .inr (.inr (.inr (.inr t_6_c))))), ((t_6_1_q 3), .inl (K 3, 60, .inr (.inl (fun j => lI (t_6_1_3_c j))))), ((t_6_r 1), .inr (4, oX4 t_6_1_q t_6_1_x0 t_6_1_x1 t_6_1_x2))] := hD
          refine g_last hx hb hK.1 hP hD hS 2 3 rfl rfl (by omega) (by omega) (by decide) dX11_write_57 (fun H locs g57 eg57 hP hD hS => ?_)
          have hg57 : ∀ j : Nat, (-9223372036854775808) ≤ g57 j ∧ g57 j ≤ 9223372036854775807 := by rw [eg57]; exact uI_all hc_t_6_1_3 (by omega)
          have hP : va_P D vwCl [(t, .inr (11, oX11 t_q)), ((t_q 6), .inl (K 6, 4, .inr (.inr (.inr (.inr t_6_c))))), ((t_6_1_q 3), .inl (K 3, 60, .inr (.inl (fun j => lI (g57 j))))), ((t_6_r 1), .inr (4, oX4 t_6_1_q t_6_1_x0 t_6_1_x1 t_6_1_x2))] H := hP
          have hD : va_D A [(t, .inr (11, oX11 t_q)), ((t_q 6), .inl (K 6, 4, .inr (.inr (.inr (.inr t_6_c))))), ((t_6_1_q 3), .inl (K 3, 60, .inr (.inl (fun j => lI (g57 j))))), ((t_6_r 1), .inr (4, oX4 t_6_1_q t_6_1_x0 t_6_1_x1 t_6_1_x2))] := hD
          refine lv_iconst (v := iI 0) hx hb dX11_write_58 rfl ?_
          rw [hQ]; exact fn_iret hx hb hr hlocks rfl hP hD hS ((fun _ => 0), (fun k => ([g57] : List (Nat → Int)).getD k (fun _ => 0))) ⟨0, rfl, by omega, (by show (t_6_1_x0 = 0 → (0 : Int) = -6) ∧ (t_6_1_x0 ≠ 0 → (p2 < 0 ∨ t_6_1_x2 ≤ p2) → (0 : Int) = -7) ∧ (t_6_1_x0 ≠ 0 → 0 ≤ p2 → p2 < t_6_1_x2 → (0 : Int) = 0); omega), (hg57), trivial⟩ [0, 1, 3, 2] (by decide) rfl dX11_write_59
        · refine lv_bipush (v := iI (-7)) hx hb dX11_write_42 (by decide) ?_
          rw [hQ]; exact fn_iret hx hb hr hlocks rfl hP hD hS ((fun _ => 0), (fun k => ([t_6_1_3_c] : List (Nat → Int)).getD k (fun _ => 0))) ⟨(-7), rfl, by omega, (by show (t_6_1_x0 = 0 → (-7 : Int) = -6) ∧ (t_6_1_x0 ≠ 0 → (p2 < 0 ∨ t_6_1_x2 ≤ p2) → (-7 : Int) = -7) ∧ (t_6_1_x0 ≠ 0 → 0 ≤ p2 → p2 < t_6_1_x2 → (-7 : Int) = 0); omega), (hc_t_6_1_3), trivial⟩ [0, 1, 2, 3] (by decide) rfl dX11_write_44
    · refine lv_bipush (v := iI (-6)) hx hb dX11_write_26 (by decide) ?_
      rw [hQ]; exact fn_iret hx hb hr hlocks rfl hP hD hS ((fun _ => 0), (fun k => ([t_6_1_3_c] : List (Nat → Int)).getD k (fun _ => 0))) ⟨(-6), rfl, by omega, (by show (t_6_1_x0 = 0 → (-6 : Int) = -6) ∧ (t_6_1_x0 ≠ 0 → (p2 < 0 ∨ t_6_1_x2 ≤ p2) → (-6 : Int) = -7) ∧ (t_6_1_x0 ≠ 0 → 0 ≤ p2 → p2 < t_6_1_x2 → (-6 : Int) = 0); omega), (hc_t_6_1_3), trivial⟩ [0, 1, 2, 3] (by decide) rfl dX11_write_28
  · exfalso; omega
set_option maxHeartbeats 4000000 in
set_option maxRecDepth 100000 in
theorem k_X11_write_2e (l : Launch) (D : va_G) (K : Nat → ClassId) (t : Nat) (t_q t_6_r t_6_2_q : Nat → Nat) (p2 p3 t_6_2_x0 t_6_2_x1 t_6_2_x2 : Int) (t_6_c : Nat → Option Nat) (t_6_2_3_c : Nat → Int) (hp2 : (-2147483648) ≤ p2 ∧ p2 ≤ 2147483647) (hp3 : (-9223372036854775808) ≤ p3 ∧ p3 ≤ 9223372036854775807) (hr_t_6 : ∀ j : Nat, j < 4 → t_6_c j = some (t_6_r j)) (hi_t_6_2 : bX4 t_6_2_x0 t_6_2_x1 t_6_2_x2) (hc_t_6_2_3 : ∀ j : Nat, (-9223372036854775808) ≤ t_6_2_3_c j ∧ t_6_2_3_c j ≤ 9223372036854775807) : fn_CI (S := (Nat → Int) × (Nat → Nat → Int)) l D K yX11_write (fn_ws yX11_write cX11_write 6 (some .int)) ({ frames := 8, cells := 0, slots := 0, locals := 200 } : Room) [.ref t, .int (iI 2), .int (iI p2), .long (lI p3)] [(t, .inr (11, oX11 t_q)), ((t_q 6), .inl (K 6, 4, .inr (.inr (.inr (.inr t_6_c))))), ((t_6_r 2), .inr (4, oX4 t_6_2_q t_6_2_x0 t_6_2_x1 t_6_2_x2)), ((t_6_2_q 3), .inl (K 3, 60, .inr (.inl (fun j => lI (t_6_2_3_c j)))))] (fun r u => ∃ k : Int, r = iI k ∧ ((-7) ≤ k ∧ k ≤ 0) ∧ ((t_6_2_x0 = 0 → k = -6) ∧ (t_6_2_x0 ≠ 0 → (p2 < 0 ∨ t_6_2_x2 ≤ p2) → k = -7) ∧ (t_6_2_x0 ≠ 0 → 0 ≤ p2 → p2 < t_6_2_x2 → k = 0)) ∧ (∀ j : Nat, (-9223372036854775808) ≤ (u.2 0) j ∧ (u.2 0) j ≤ 9223372036854775807) ∧ True) (fun u => [(t, .inr (11, oX11 t_q)), ((t_q 6), .inl (K 6, 4, .inr (.inr (.inr (.inr t_6_c))))), ((t_6_r 2), .inr (4, oX4 t_6_2_q t_6_2_x0 t_6_2_x1 t_6_2_x2)), ((t_6_2_q 3), .inl (K 3, 60, .inr (.inl (fun j => lI ((u.2 0) j)))))]) 0 0 := by
  refine g_inI (cc := cX11_write) (maxL := 6) (ret := (some .int)) (by decide) rfl (Nat.le_of_ble_eq_true rfl) ?_
  intro p e s m below meth c A ls ag Q B hA hP hD hS hl hQ
  obtain ⟨hx, hb, hr, hml, hts, hown, hlocks, hin, hK⟩ := B
  have hown : s.vm.findClass RX11 = some m.cls := hown
  have hts := fun w h => hts w (List.mem_cons_of_mem _ h)
  have hl : lv_has ls 6 [(0, .ref t), (1, .int (iI 2)), (2, .int (iI p2)), (3, .long (lI p3))] := hl
  refine lv_iload_n hx hb dX11_write_0 rfl (lv_at hl 1 rfl) ?_
  refine fn_goi (wc := []) (wr := [(t, .inr (11, oX11 t_q)), ((t_q 6), .inl (K 6, 4, .inr (.inr (.inr (.inr t_6_c))))), ((t_6_r 2), .inr (4, oX4 t_6_2_q t_6_2_x0 t_6_2_x1 t_6_2_x2)), ((t_6_2_q 3), .inl (K 3, 60, .inr (.inl (fun j => lI (t_6_2_3_c j)))))]) hK hP hD hS hA [] [0, 1, 2, 3] rfl rfl (by decide) (fun hp => va_runS (As := [.int (iI 2)]) (rest := []) ⟨hx, hb, hml, hown, hts⟩ (k_X11_noSlot (l := l) (D := D) (K := K) (p1 := 2) (hp1 := (by omega)) _) (va_cwS 1 hts (fn_ginS (fn_gin wd_963) wd_961 wd_962 wd_1) rfl rfl rfl (by decide +kernel) ⟨Nat.le_of_ble_eq_true rfl, Nat.le_of_ble_eq_true rfl⟩) ⟨fn_blind, hp⟩ rfl rfl hl.1 rfl (lv_room (Nat.le_of_ble_eq_true rfl)) dX11_write_1 ⟨Nat.le_of_ble_eq_true rfl, Nat.le_of_ble_eq_true rfl⟩) (fun r1 u1 H locs hwu1 hP hD hS => ?_)
  obtain ⟨u1a, u1b⟩ := u1
  obtain ⟨kr1, rfl, hkr1, hqu10, -⟩ := hwu1
  have hqu1 : (kr1 = 0 → 0 ≤ (2 : Int) ∧ (2 : Int) ≤ 3) ∧ (kr1 = 1 → (2 : Int) < 0 ∨ 3 < (2 : Int)) := hqu10
  clear hqu10
  have hP : va_P D vwCl [(t, .inr (11, oX11 t_q)), ((t_q 6), .inl (K 6, 4, .inr (.inr (.inr (.inr t_6_c))))), ((t_6_r 2), .inr (4, oX4 t_6_2_q t_6_2_x0 t_6_2_x1 t_6_2_x2)), ((t_6_2_q 3), .inl (K 3, 60, .inr (.inl (fun j => lI (t_6_2_3_c j)))))] H := hP
  have hD : va_D A [(t, .inr (11, oX11 t_q)), ((t_q 6), .inl (K 6, 4, .inr (.inr (.inr (.inr t_6_c))))), ((t_6_r 2), .inr (4, oX4 t_6_2_q t_6_2_x0 t_6_2_x1 t_6_2_x2)), ((t_6_2_q 3), .inl (K 3, 60, .inr (.inl (fun j => lI (t_6_2_3_c j)))))] := hD
  refine g_if_eq (tgt := 10) hx hb (by omega) dX11_write_4 (by decide) (fun c4 => ?_) (fun c4 => ?_)
  · refine lv_aload_n hx hb dX11_write_10 rfl (lv_at hl 0 rfl) ?_
    refine va_get (D := D) (own := RX11) (ci := 11) (v := .ref (t_q 6)) (C := RX11) (T := TX11) (N := 13) hx hb hts inb_X11 hown hK.1 hP 0 rfl rfl 6 (by decide) (hts _ wd_428) (fun _ h9 => h9) rfl dX11_write_11 ?_
    refine lv_iload_n hx hb dX11_write_14 rfl (lv_at hl 1 rfl) ?_
    refine va_aldq hx hb hK.1 hP 1 6 rfl rfl (iI_in (by decide) (by decide) (by decide)) dX11_write_15 ?_
    refine fn_topv (.ref (t_6_r 2)) (by rw [iI_cl (by decide)]; exact congrArg va_rf (hr_t_6 2 (by decide))) ?_
    refine lv_astore (lv' := [(5, .ref (t_6_r 2)), (0, .ref t), (1, .int (iI 2)), (2, .int (iI p2)), (3, .long (lI p3))]) hx hb dX11_write_16 hl (by decide) rfl (fun ls hl => ?_)
    refine lv_aload hx hb dX11_write_18 (lv_at hl 0 rfl) ?_
    refine va_getN (D := D) (own := RX11) (ci := 4) (v := .int (iI t_6_2_x0)) (C := RX4) (T := TX4) (N := 4) hx hb hts inb_X4 hown hK.1 hP 2 rfl rfl 0 (by decide) (hK.nf 89 rfl) (fun _ h9 => h9) rfl dX11_write_20 ?_
    have y20_1 : 0 ≤ t_6_2_x0 ∧ t_6_2_x0 ≤ 1 := hi_t_6_2.1
    refine g_if_ne (tgt := 29) hx hb (by omega) dX11_write_23 (by decide) (fun c23 => ?_) (fun c23 => ?_)
    · refine lv_iload_n hx hb dX11_write_29 rfl (lv_at hl 3 rfl) ?_
      refine g_if_lt (tgt := 42) hx hb (by omega) dX11_write_30 (by decide) (fun c30 => ?_) (fun c30 => ?_)
      · refine lv_bipush (v := iI (-7)) hx hb dX11_write_42 (by decide) ?_
        rw [hQ]; exact fn_iret hx hb hr hlocks rfl hP hD hS ((fun _ => 0), (fun k => ([t_6_2_3_c] : List (Nat → Int)).getD k (fun _ => 0))) ⟨(-7), rfl, by omega, (by show (t_6_2_x0 = 0 → (-7 : Int) = -6) ∧ (t_6_2_x0 ≠ 0 → (p2 < 0 ∨ t_6_2_x2 ≤ p2) → (-7 : Int) = -7) ∧ (t_6_2_x0 ≠ 0 → 0 ≤ p2 → p2 < t_6_2_x2 → (-7 : Int) = 0); omega), (hc_t_6_2_3), trivial⟩ [0, 1, 2, 3] (by decide) rfl dX11_write_44
      · refine lv_iload_n hx hb dX11_write_33 rfl (lv_at hl 3 rfl) ?_
        refine lv_aload hx hb dX11_write_34 (lv_at hl 0 rfl) ?_
        refine va_getN (D := D) (own := RX11) (ci := 4) (v := .int (iI t_6_2_x2)) (C := RX4) (T := TX4) (N := 4) hx hb hts inb_X4 hown hK.1 hP 2 rfl rfl 2 (by decide) (hK.nf 91 rfl) (fun _ h9 => h9) rfl dX11_write_36 ?_
        have y36_2 : 0 ≤ t_6_2_x2 ∧ t_6_2_x2 ≤ 60 := hi_t_6_2.2.2
        refine g_icmp_lt (tgt := 45) hx hb (by omega) (by omega) dX11_write_39 (by decide) (fun c39 => ?_) (fun c39 => ?_)
        · refine lv_aload hx hb dX11_write_45 (lv_at hl 0 rfl) ?_
          refine va_getN (D := D) (own := RX11) (ci := 4) (v := .ref (t_6_2_q 3)) (C := RX4) (T := TX4) (N := 4) hx hb hts inb_X4 hown hK.1 hP 2 rfl rfl 3 (by decide) (hK.nf 92 rfl) (fun _ h9 => h9) rfl dX11_write_47 ?_
          refine fn_at 50 rfl ?_
          refine lv_iload_n hx hb dX11_write_50 rfl (lv_at hl 3 rfl) ?_
          refine lv_aload hx hb dX11_write_51 (lv_at hl 0 rfl) ?_
          refine lv_lload_n hx hb dX11_write_53 rfl (lv_at hl 4 rfl) ?_
          refine fn_gol (wc := [((t_6_r 2), .inr (4, oX4 t_6_2_q t_6_2_x0 t_6_2_x1 t_6_2_x2))]) (wr := [(t, .inr (11, oX11 t_q)), ((t_q 6), .inl (K 6, 4, .inr (.inr (.inr (.inr t_6_c))))), ((t_6_2_q 3), .inl (K 3, 60, .inr (.inl (fun j => lI (t_6_2_3_c j)))))]) hK hP hD hS hA [2] [0, 1, 3] rfl rfl (by decide) (fun hp => va_runVN (C := RX4) (As := [.long (lI p3)]) (rest := [.int (iI p2), .ref (t_6_2_q 3)]) ⟨hx, hb, hml, hown, hts⟩ (k_X4_cutToWidth (l := l) (D := D) (K := K) (t := (t_6_r 2)) (p1 := p3) (t_q := t_6_2_q) (t_x0 := t_6_2_x0) (t_x1 := t_6_2_x1) (t_x2 := t_6_2_x2) (hp1 := (by omega)) (hi_t := hi_t_6_2) _) ⟨va_cnB (own := RX11) 1 hts (fn_gin wd_1218) rfl rfl rfl (hK.nw 154 rfl) (hts _ wd_12) (by decide +kernel) ⟨Nat.le_of_ble_eq_true rfl, Nat.le_of_ble_eq_true rfl⟩, hts _ wd_1217, hts _ wp_92⟩ ⟨fn_blind, va_recv hK.1 hP (ci := 4) (q0 := 2) rfl rfl, hp⟩ rfl rfl hl.1 rfl (lv_room (Nat.le_of_ble_eq_true rfl)) dX11_write_54 ⟨Nat.le_of_ble_eq_true rfl, Nat.le_of_ble_eq_true rfl⟩) (fun r54 u54 H locs hwu54 hP hD hS => ?_)
          obtain ⟨u54a, u54b⟩ := u54
          obtain ⟨kr54, rfl, hkr54, -⟩ := hwu54
          have hP : va_P D vwCl [(t, .inr (11, oX11 t_q)), ((t_q 6), .inl (K 6, 4, .inr (.inr (.inr (.inr t_6_c))))), ((t_6_2_q 3), .inl (K 3, 60, .inr (.inl (fun j => lI (t_6_2_3_c j))))), ((t_6_r 2), .inr (4, oX4 t_6_2_q t_6_2_x0 t_6_2_x1 t_6_2_x2))] H := hP
          have hD : va_D A [(t, .inr (11, oX11 t_q)), ((t_q 6), .inl (K 6, 4, .inr (.inr (.inr (.inr t_6_c))))), ((t_6_2_q 3), .inl (K 3, 60, .inr (.inl (fun j => lI (t_6_2_3_c j))))), ((t_6_r 2), .inr (4, oX4 t_6_2_q t_6_2_x0 t_6_2_x1 t_6_2_x2))] := hD
          refine g_last hx hb hK.1 hP hD hS 2 3 rfl rfl (by omega) (by omega) (by decide) dX11_write_57 (fun H locs g57 eg57 hP hD hS => ?_)
          have hg57 : ∀ j : Nat, (-9223372036854775808) ≤ g57 j ∧ g57 j ≤ 9223372036854775807 := by rw [eg57]; exact uI_all hc_t_6_2_3 (by omega)
          have hP : va_P D vwCl [(t, .inr (11, oX11 t_q)), ((t_q 6), .inl (K 6, 4, .inr (.inr (.inr (.inr t_6_c))))), ((t_6_2_q 3), .inl (K 3, 60, .inr (.inl (fun j => lI (g57 j))))), ((t_6_r 2), .inr (4, oX4 t_6_2_q t_6_2_x0 t_6_2_x1 t_6_2_x2))] H := hP
          have hD : va_D A [(t, .inr (11, oX11 t_q)), ((t_q 6), .inl (K 6, 4, .inr (.inr (.inr (.inr t_6_c))))), ((t_6_2_q 3), .inl (K 3, 60, .inr (.inl (fun j => lI (g57 j))))), ((t_6_r 2), .inr (4, oX4 t_6_2_q t_6_2_x0 t_6_2_x1 t_6_2_x2))] := hD
          refine lv_iconst (v := iI 0) hx hb dX11_write_58 rfl ?_
          rw [hQ]; exact fn_iret hx hb hr hlocks rfl hP hD hS ((fun _ => 0), (fun k => ([g57] : List (Nat → Int)).getD k (fun _ => 0))) ⟨0, rfl, by omega, (by show (t_6_2_x0 = 0 → (0 : Int) = -6) ∧ (t_6_2_x0 ≠ 0 → (p2 < 0 ∨ t_6_2_x2 ≤ p2) → (0 : Int) = -7) ∧ (t_6_2_x0 ≠ 0 → 0 ≤ p2 → p2 < t_6_2_x2 → (0 : Int) = 0); omega), (hg57), trivial⟩ [0, 1, 3, 2] (by decide) rfl dX11_write_59
        · refine lv_bipush (v := iI (-7)) hx hb dX11_write_42 (by decide) ?_
          rw [hQ]; exact fn_iret hx hb hr hlocks rfl hP hD hS ((fun _ => 0), (fun k => ([t_6_2_3_c] : List (Nat → Int)).getD k (fun _ => 0))) ⟨(-7), rfl, by omega, (by show (t_6_2_x0 = 0 → (-7 : Int) = -6) ∧ (t_6_2_x0 ≠ 0 → (p2 < 0 ∨ t_6_2_x2 ≤ p2) → (-7 : Int) = -7) ∧ (t_6_2_x0 ≠ 0 → 0 ≤ p2 → p2 < t_6_2_x2 → (-7 : Int) = 0); omega), (hc_t_6_2_3), trivial⟩ [0, 1, 2, 3] (by decide) rfl dX11_write_44
    · refine lv_bipush (v := iI (-6)) hx hb dX11_write_26 (by decide) ?_
      rw [hQ]; exact fn_iret hx hb hr hlocks rfl hP hD hS ((fun _ => 0), (fun k => ([t_6_2_3_c] : List (Nat → Int)).getD k (fun _ => 0))) ⟨(-6), rfl, by omega, (by show (t_6_2_x0 = 0 → (-6 : Int) = -6) ∧ (t_6_2_x0 ≠ 0 → (p2 < 0 ∨ t_6_2_x2 ≤ p2) → (-6 : Int) = -7) ∧ (t_6_2_x0 ≠ 0 → 0 ≤ p2 → p2 < t_6_2_x2 → (-6 : Int) = 0); omega), (hc_t_6_2_3), trivial⟩ [0, 1, 2, 3] (by decide) rfl dX11_write_28
  · exfalso; omega
set_option maxHeartbeats 4000000 in
set_option maxRecDepth 100000 in
theorem k_X11_write_3e (l : Launch) (D : va_G) (K : Nat → ClassId) (t : Nat) (t_q t_6_r t_6_3_q : Nat → Nat) (p2 p3 t_6_3_x0 t_6_3_x1 t_6_3_x2 : Int) (t_6_c : Nat → Option Nat) (t_6_3_3_c : Nat → Int) (hp2 : (-2147483648) ≤ p2 ∧ p2 ≤ 2147483647) (hp3 : (-9223372036854775808) ≤ p3 ∧ p3 ≤ 9223372036854775807) (hr_t_6 : ∀ j : Nat, j < 4 → t_6_c j = some (t_6_r j)) (hi_t_6_3 : bX4 t_6_3_x0 t_6_3_x1 t_6_3_x2) (hc_t_6_3_3 : ∀ j : Nat, (-9223372036854775808) ≤ t_6_3_3_c j ∧ t_6_3_3_c j ≤ 9223372036854775807) : fn_CI (S := (Nat → Int) × (Nat → Nat → Int)) l D K yX11_write (fn_ws yX11_write cX11_write 6 (some .int)) ({ frames := 8, cells := 0, slots := 0, locals := 200 } : Room) [.ref t, .int (iI 3), .int (iI p2), .long (lI p3)] [(t, .inr (11, oX11 t_q)), ((t_q 6), .inl (K 6, 4, .inr (.inr (.inr (.inr t_6_c))))), ((t_6_r 3), .inr (4, oX4 t_6_3_q t_6_3_x0 t_6_3_x1 t_6_3_x2)), ((t_6_3_q 3), .inl (K 3, 60, .inr (.inl (fun j => lI (t_6_3_3_c j)))))] (fun r u => ∃ k : Int, r = iI k ∧ ((-7) ≤ k ∧ k ≤ 0) ∧ ((t_6_3_x0 = 0 → k = -6) ∧ (t_6_3_x0 ≠ 0 → (p2 < 0 ∨ t_6_3_x2 ≤ p2) → k = -7) ∧ (t_6_3_x0 ≠ 0 → 0 ≤ p2 → p2 < t_6_3_x2 → k = 0)) ∧ (∀ j : Nat, (-9223372036854775808) ≤ (u.2 0) j ∧ (u.2 0) j ≤ 9223372036854775807) ∧ True) (fun u => [(t, .inr (11, oX11 t_q)), ((t_q 6), .inl (K 6, 4, .inr (.inr (.inr (.inr t_6_c))))), ((t_6_r 3), .inr (4, oX4 t_6_3_q t_6_3_x0 t_6_3_x1 t_6_3_x2)), ((t_6_3_q 3), .inl (K 3, 60, .inr (.inl (fun j => lI ((u.2 0) j)))))]) 0 0 := by
  refine g_inI (cc := cX11_write) (maxL := 6) (ret := (some .int)) (by decide) rfl (Nat.le_of_ble_eq_true rfl) ?_
  intro p e s m below meth c A ls ag Q B hA hP hD hS hl hQ
  obtain ⟨hx, hb, hr, hml, hts, hown, hlocks, hin, hK⟩ := B
  have hown : s.vm.findClass RX11 = some m.cls := hown
  have hts := fun w h => hts w (List.mem_cons_of_mem _ h)
  have hl : lv_has ls 6 [(0, .ref t), (1, .int (iI 3)), (2, .int (iI p2)), (3, .long (lI p3))] := hl
  refine lv_iload_n hx hb dX11_write_0 rfl (lv_at hl 1 rfl) ?_
  refine fn_goi (wc := []) (wr := [(t, .inr (11, oX11 t_q)), ((t_q 6), .inl (K 6, 4, .inr (.inr (.inr (.inr t_6_c))))), ((t_6_r 3), .inr (4, oX4 t_6_3_q t_6_3_x0 t_6_3_x1 t_6_3_x2)), ((t_6_3_q 3), .inl (K 3, 60, .inr (.inl (fun j => lI (t_6_3_3_c j)))))]) hK hP hD hS hA [] [0, 1, 2, 3] rfl rfl (by decide) (fun hp => va_runS (As := [.int (iI 3)]) (rest := []) ⟨hx, hb, hml, hown, hts⟩ (k_X11_noSlot (l := l) (D := D) (K := K) (p1 := 3) (hp1 := (by omega)) _) (va_cwS 1 hts (fn_ginS (fn_gin wd_963) wd_961 wd_962 wd_1) rfl rfl rfl (by decide +kernel) ⟨Nat.le_of_ble_eq_true rfl, Nat.le_of_ble_eq_true rfl⟩) ⟨fn_blind, hp⟩ rfl rfl hl.1 rfl (lv_room (Nat.le_of_ble_eq_true rfl)) dX11_write_1 ⟨Nat.le_of_ble_eq_true rfl, Nat.le_of_ble_eq_true rfl⟩) (fun r1 u1 H locs hwu1 hP hD hS => ?_)
  obtain ⟨u1a, u1b⟩ := u1
  obtain ⟨kr1, rfl, hkr1, hqu10, -⟩ := hwu1
  have hqu1 : (kr1 = 0 → 0 ≤ (3 : Int) ∧ (3 : Int) ≤ 3) ∧ (kr1 = 1 → (3 : Int) < 0 ∨ 3 < (3 : Int)) := hqu10
  clear hqu10
  have hP : va_P D vwCl [(t, .inr (11, oX11 t_q)), ((t_q 6), .inl (K 6, 4, .inr (.inr (.inr (.inr t_6_c))))), ((t_6_r 3), .inr (4, oX4 t_6_3_q t_6_3_x0 t_6_3_x1 t_6_3_x2)), ((t_6_3_q 3), .inl (K 3, 60, .inr (.inl (fun j => lI (t_6_3_3_c j)))))] H := hP
  have hD : va_D A [(t, .inr (11, oX11 t_q)), ((t_q 6), .inl (K 6, 4, .inr (.inr (.inr (.inr t_6_c))))), ((t_6_r 3), .inr (4, oX4 t_6_3_q t_6_3_x0 t_6_3_x1 t_6_3_x2)), ((t_6_3_q 3), .inl (K 3, 60, .inr (.inl (fun j => lI (t_6_3_3_c j)))))] := hD
  refine g_if_eq (tgt := 10) hx hb (by omega) dX11_write_4 (by decide) (fun c4 => ?_) (fun c4 => ?_)
  · refine lv_aload_n hx hb dX11_write_10 rfl (lv_at hl 0 rfl) ?_
    refine va_get (D := D) (own := RX11) (ci := 11) (v := .ref (t_q 6)) (C := RX11) (T := TX11) (N := 13) hx hb hts inb_X11 hown hK.1 hP 0 rfl rfl 6 (by decide) (hts _ wd_428) (fun _ h9 => h9) rfl dX11_write_11 ?_
    refine lv_iload_n hx hb dX11_write_14 rfl (lv_at hl 1 rfl) ?_
    refine va_aldq hx hb hK.1 hP 1 6 rfl rfl (iI_in (by decide) (by decide) (by decide)) dX11_write_15 ?_
    refine fn_topv (.ref (t_6_r 3)) (by rw [iI_cl (by decide)]; exact congrArg va_rf (hr_t_6 3 (by decide))) ?_
    refine lv_astore (lv' := [(5, .ref (t_6_r 3)), (0, .ref t), (1, .int (iI 3)), (2, .int (iI p2)), (3, .long (lI p3))]) hx hb dX11_write_16 hl (by decide) rfl (fun ls hl => ?_)
    refine lv_aload hx hb dX11_write_18 (lv_at hl 0 rfl) ?_
    refine va_getN (D := D) (own := RX11) (ci := 4) (v := .int (iI t_6_3_x0)) (C := RX4) (T := TX4) (N := 4) hx hb hts inb_X4 hown hK.1 hP 2 rfl rfl 0 (by decide) (hK.nf 89 rfl) (fun _ h9 => h9) rfl dX11_write_20 ?_
    have y20_1 : 0 ≤ t_6_3_x0 ∧ t_6_3_x0 ≤ 1 := hi_t_6_3.1
    refine g_if_ne (tgt := 29) hx hb (by omega) dX11_write_23 (by decide) (fun c23 => ?_) (fun c23 => ?_)
    · refine lv_iload_n hx hb dX11_write_29 rfl (lv_at hl 3 rfl) ?_
      refine g_if_lt (tgt := 42) hx hb (by omega) dX11_write_30 (by decide) (fun c30 => ?_) (fun c30 => ?_)
      · refine lv_bipush (v := iI (-7)) hx hb dX11_write_42 (by decide) ?_
        rw [hQ]; exact fn_iret hx hb hr hlocks rfl hP hD hS ((fun _ => 0), (fun k => ([t_6_3_3_c] : List (Nat → Int)).getD k (fun _ => 0))) ⟨(-7), rfl, by omega, (by show (t_6_3_x0 = 0 → (-7 : Int) = -6) ∧ (t_6_3_x0 ≠ 0 → (p2 < 0 ∨ t_6_3_x2 ≤ p2) → (-7 : Int) = -7) ∧ (t_6_3_x0 ≠ 0 → 0 ≤ p2 → p2 < t_6_3_x2 → (-7 : Int) = 0); omega), (hc_t_6_3_3), trivial⟩ [0, 1, 2, 3] (by decide) rfl dX11_write_44
      · refine lv_iload_n hx hb dX11_write_33 rfl (lv_at hl 3 rfl) ?_
        refine lv_aload hx hb dX11_write_34 (lv_at hl 0 rfl) ?_
        refine va_getN (D := D) (own := RX11) (ci := 4) (v := .int (iI t_6_3_x2)) (C := RX4) (T := TX4) (N := 4) hx hb hts inb_X4 hown hK.1 hP 2 rfl rfl 2 (by decide) (hK.nf 91 rfl) (fun _ h9 => h9) rfl dX11_write_36 ?_
        have y36_2 : 0 ≤ t_6_3_x2 ∧ t_6_3_x2 ≤ 60 := hi_t_6_3.2.2
        refine g_icmp_lt (tgt := 45) hx hb (by omega) (by omega) dX11_write_39 (by decide) (fun c39 => ?_) (fun c39 => ?_)
        · refine lv_aload hx hb dX11_write_45 (lv_at hl 0 rfl) ?_
          refine va_getN (D := D) (own := RX11) (ci := 4) (v := .ref (t_6_3_q 3)) (C := RX4) (T := TX4) (N := 4) hx hb hts inb_X4 hown hK.1 hP 2 rfl rfl 3 (by decide) (hK.nf 92 rfl) (fun _ h9 => h9) rfl dX11_write_47 ?_
          refine fn_at 50 rfl ?_
          refine lv_iload_n hx hb dX11_write_50 rfl (lv_at hl 3 rfl) ?_
          refine lv_aload hx hb dX11_write_51 (lv_at hl 0 rfl) ?_
          refine lv_lload_n hx hb dX11_write_53 rfl (lv_at hl 4 rfl) ?_
          refine fn_gol (wc := [((t_6_r 3), .inr (4, oX4 t_6_3_q t_6_3_x0 t_6_3_x1 t_6_3_x2))]) (wr := [(t, .inr (11, oX11 t_q)), ((t_q 6), .inl (K 6, 4, .inr (.inr (.inr (.inr t_6_c))))), ((t_6_3_q 3), .inl (K 3, 60, .inr (.inl (fun j => lI (t_6_3_3_c j)))))]) hK hP hD hS hA [2] [0, 1, 3] rfl rfl (by decide) (fun hp => va_runVN (C := RX4) (As := [.long (lI p3)]) (rest := [.int (iI p2), .ref (t_6_3_q 3)]) ⟨hx, hb, hml, hown, hts⟩ (k_X4_cutToWidth (l := l) (D := D) (K := K) (t := (t_6_r 3)) (p1 := p3) (t_q := t_6_3_q) (t_x0 := t_6_3_x0) (t_x1 := t_6_3_x1) (t_x2 := t_6_3_x2) (hp1 := (by omega)) (hi_t := hi_t_6_3) _) ⟨va_cnB (own := RX11) 1 hts (fn_gin wd_1218) rfl rfl rfl (hK.nw 154 rfl) (hts _ wd_12) (by decide +kernel) ⟨Nat.le_of_ble_eq_true rfl, Nat.le_of_ble_eq_true rfl⟩, hts _ wd_1217, hts _ wp_92⟩ ⟨fn_blind, va_recv hK.1 hP (ci := 4) (q0 := 2) rfl rfl, hp⟩ rfl rfl hl.1 rfl (lv_room (Nat.le_of_ble_eq_true rfl)) dX11_write_54 ⟨Nat.le_of_ble_eq_true rfl, Nat.le_of_ble_eq_true rfl⟩) (fun r54 u54 H locs hwu54 hP hD hS => ?_)
          obtain ⟨u54a, u54b⟩ := u54
          obtain ⟨kr54, rfl, hkr54, -⟩ := hwu54
          have hP : va_P D vwCl [(t, .inr (11, oX11 t_q)), ((t_q 6), .inl (K 6, 4, .inr (.inr (.inr (.inr t_6_c))))), ((t_6_3_q 3), .inl (K 3, 60, .inr (.inl (fun j => lI (t_6_3_3_c j))))), ((t_6_r 3), .inr (4, oX4 t_6_3_q t_6_3_x0 t_6_3_x1 t_6_3_x2))] H := hP
          have hD : va_D A [(t, .inr (11, oX11 t_q)), ((t_q 6), .inl (K 6, 4, .inr (.inr (.inr (.inr t_6_c))))), ((t_6_3_q 3), .inl (K 3, 60, .inr (.inl (fun j => lI (t_6_3_3_c j))))), ((t_6_r 3), .inr (4, oX4 t_6_3_q t_6_3_x0 t_6_3_x1 t_6_3_x2))] := hD
          refine g_last hx hb hK.1 hP hD hS 2 3 rfl rfl (by omega) (by omega) (by decide) dX11_write_57 (fun H locs g57 eg57 hP hD hS => ?_)
          have hg57 : ∀ j : Nat, (-9223372036854775808) ≤ g57 j ∧ g57 j ≤ 9223372036854775807 := by rw [eg57]; exact uI_all hc_t_6_3_3 (by omega)
          have hP : va_P D vwCl [(t, .inr (11, oX11 t_q)), ((t_q 6), .inl (K 6, 4, .inr (.inr (.inr (.inr t_6_c))))), ((t_6_3_q 3), .inl (K 3, 60, .inr (.inl (fun j => lI (g57 j))))), ((t_6_r 3), .inr (4, oX4 t_6_3_q t_6_3_x0 t_6_3_x1 t_6_3_x2))] H := hP
          have hD : va_D A [(t, .inr (11, oX11 t_q)), ((t_q 6), .inl (K 6, 4, .inr (.inr (.inr (.inr t_6_c))))), ((t_6_3_q 3), .inl (K 3, 60, .inr (.inl (fun j => lI (g57 j))))), ((t_6_r 3), .inr (4, oX4 t_6_3_q t_6_3_x0 t_6_3_x1 t_6_3_x2))] := hD
          refine lv_iconst (v := iI 0) hx hb dX11_write_58 rfl ?_
          rw [hQ]; exact fn_iret hx hb hr hlocks rfl hP hD hS ((fun _ => 0), (fun k => ([g57] : List (Nat → Int)).getD k (fun _ => 0))) ⟨0, rfl, by omega, (by show (t_6_3_x0 = 0 → (0 : Int) = -6) ∧ (t_6_3_x0 ≠ 0 → (p2 < 0 ∨ t_6_3_x2 ≤ p2) → (0 : Int) = -7) ∧ (t_6_3_x0 ≠ 0 → 0 ≤ p2 → p2 < t_6_3_x2 → (0 : Int) = 0); omega), (hg57), trivial⟩ [0, 1, 3, 2] (by decide) rfl dX11_write_59
        · refine lv_bipush (v := iI (-7)) hx hb dX11_write_42 (by decide) ?_
          rw [hQ]; exact fn_iret hx hb hr hlocks rfl hP hD hS ((fun _ => 0), (fun k => ([t_6_3_3_c] : List (Nat → Int)).getD k (fun _ => 0))) ⟨(-7), rfl, by omega, (by show (t_6_3_x0 = 0 → (-7 : Int) = -6) ∧ (t_6_3_x0 ≠ 0 → (p2 < 0 ∨ t_6_3_x2 ≤ p2) → (-7 : Int) = -7) ∧ (t_6_3_x0 ≠ 0 → 0 ≤ p2 → p2 < t_6_3_x2 → (-7 : Int) = 0); omega), (hc_t_6_3_3), trivial⟩ [0, 1, 2, 3] (by decide) rfl dX11_write_44
    · refine lv_bipush (v := iI (-6)) hx hb dX11_write_26 (by decide) ?_
      rw [hQ]; exact fn_iret hx hb hr hlocks rfl hP hD hS ((fun _ => 0), (fun k => ([t_6_3_3_c] : List (Nat → Int)).getD k (fun _ => 0))) ⟨(-6), rfl, by omega, (by show (t_6_3_x0 = 0 → (-6 : Int) = -6) ∧ (t_6_3_x0 ≠ 0 → (p2 < 0 ∨ t_6_3_x2 ≤ p2) → (-6 : Int) = -7) ∧ (t_6_3_x0 ≠ 0 → 0 ≤ p2 → p2 < t_6_3_x2 → (-6 : Int) = 0); omega), (hc_t_6_3_3), trivial⟩ [0, 1, 2, 3] (by decide) rfl dX11_write_28
  · exfalso; omega
theorem wd_1405 : Cond.code ⟨"FootNotesModel", "cut", "(JI)J"⟩ prog_14_method_6_code 3 (Option.some Jvm.ClassFile.FieldType.long) ∈ fn_big := fn_tb (fn_l6 (List.mem_of_getElem? (i := 205) (by decide +kernel))) (by decide +kernel)
theorem wd_1403 : Cond.methodLink "FootNotesModel" 117 ⟨"FootNotesModel", "cut", "(JI)J"⟩ ∈ fn_big := fn_tb (fn_l6 (List.mem_of_getElem? (i := 203) (by decide +kernel))) (by decide +kernel)
theorem wd_1404 : Cond.static ⟨"FootNotesModel", "cut", "(JI)J"⟩ ∈ fn_big := fn_tb (fn_l6 (List.mem_of_getElem? (i := 204) (by decide +kernel))) (by decide +kernel)
theorem dX12_write_0 : decode cX12_write 0 = .ok (.aload_n 0, 1) := by decide +kernel
theorem dX12_write_1 : decode cX12_write 1 = .ok (.iconst 0, 1) := by decide +kernel
theorem dX12_write_2 : decode cX12_write 2 = .ok (.putfield 104, 3) := by decide +kernel
theorem dX12_write_5 : decode cX12_write 5 = .ok (.iload_n 1, 1) := by decide +kernel
theorem dX12_write_6 : decode cX12_write 6 = .ok (.invokestatic 113, 3) := by decide +kernel
theorem dX12_write_9 : decode cX12_write 9 = .ok (.ifCond .ne 6, 3) := by decide +kernel
theorem dX12_write_15 : decode cX12_write 15 = .ok (.aload_n 0, 1) := by decide +kernel
theorem dX12_write_16 : decode cX12_write 16 = .ok (.getfield 7, 3) := by decide +kernel
theorem dX12_write_19 : decode cX12_write 19 = .ok (.iload_n 1, 1) := by decide +kernel
theorem dX12_write_20 : decode cX12_write 20 = .ok (.iaload, 1) := by decide +kernel
theorem dX12_write_21 : decode cX12_write 21 = .ok (.iconst (-1), 1) := by decide +kernel
theorem dX12_write_22 : decode cX12_write 22 = .ok (.if_icmp .ne 6, 3) := by decide +kernel
theorem dX12_write_28 : decode cX12_write 28 = .ok (.iload_n 2, 1) := by decide +kernel
theorem dX12_write_29 : decode cX12_write 29 = .ok (.i2l, 1) := by decide +kernel
theorem dX12_write_30 : decode cX12_write 30 = .ok (.lconst 0, 1) := by decide +kernel
theorem dX12_write_31 : decode cX12_write 31 = .ok (.aload_n 0, 1) := by decide +kernel
theorem dX12_write_32 : decode cX12_write 32 = .ok (.getfield 13, 3) := by decide +kernel
theorem dX12_write_35 : decode cX12_write 35 = .ok (.iload_n 1, 1) := by decide +kernel
theorem dX12_write_36 : decode cX12_write 36 = .ok (.iaload, 1) := by decide +kernel
theorem dX12_write_37 : decode cX12_write 37 = .ok (.iconst 1, 1) := by decide +kernel
theorem dX12_write_38 : decode cX12_write 38 = .ok (.isub, 1) := by decide +kernel
theorem dX12_write_39 : decode cX12_write 39 = .ok (.i2l, 1) := by decide +kernel
theorem dX12_write_40 : decode cX12_write 40 = .ok (.invokestatic 109, 3) := by decide +kernel
theorem dX12_write_43 : decode cX12_write 43 = .ok (.ifCond .ne 6, 3) := by decide +kernel
theorem dX12_write_49 : decode cX12_write 49 = .ok (.aload_n 0, 1) := by decide +kernel
theorem dX12_write_50 : decode cX12_write 50 = .ok (.getfield 16, 3) := by decide +kernel
theorem dX12_write_53 : decode cX12_write 53 = .ok (.bipush 60, 2) := by decide +kernel
theorem dX12_write_55 : decode cX12_write 55 = .ok (.iload_n 1, 1) := by decide +kernel
theorem dX12_write_56 : decode cX12_write 56 = .ok (.imul, 1) := by decide +kernel
theorem dX12_write_57 : decode cX12_write 57 = .ok (.iload_n 2, 1) := by decide +kernel
theorem dX12_write_58 : decode cX12_write 58 = .ok (.iadd, 1) := by decide +kernel
theorem dX12_write_59 : decode cX12_write 59 = .ok (.lload_n 3, 1) := by decide +kernel
theorem dX12_write_60 : decode cX12_write 60 = .ok (.aload_n 0, 1) := by decide +kernel
theorem dX12_write_61 : decode cX12_write 61 = .ok (.getfield 7, 3) := by decide +kernel
theorem dX12_write_64 : decode cX12_write 64 = .ok (.iload_n 1, 1) := by decide +kernel
theorem dX12_write_65 : decode cX12_write 65 = .ok (.iaload, 1) := by decide +kernel
theorem dX12_write_66 : decode cX12_write 66 = .ok (.invokestatic 117, 3) := by decide +kernel
theorem dX12_write_69 : decode cX12_write 69 = .ok (.lastore, 1) := by decide +kernel
theorem dX12_write_70 : decode cX12_write 70 = .ok (.iconst 0, 1) := by decide +kernel
theorem dX12_write_71 : decode cX12_write 71 = .ok (.ireturn, 1) := by decide +kernel
theorem dX12_write_46 : decode cX12_write 46 = .ok (.bipush (-7), 2) := by decide +kernel
theorem dX12_write_48 : decode cX12_write 48 = .ok (.ireturn, 1) := by decide +kernel
theorem dX12_write_25 : decode cX12_write 25 = .ok (.bipush (-6), 2) := by decide +kernel
theorem dX12_write_27 : decode cX12_write 27 = .ok (.ireturn, 1) := by decide +kernel
theorem dX12_write_12 : decode cX12_write 12 = .ok (.bipush (-2), 2) := by decide +kernel
theorem dX12_write_14 : decode cX12_write 14 = .ok (.ireturn, 1) := by decide +kernel
set_option maxHeartbeats 4000000 in
set_option maxRecDepth 100000 in
theorem k_X12_writee (l : Launch) (D : va_G) (K : Nat → ClassId) (t : Nat) (t_q : Nat → Nat) (p1 p2 p3 t_x0 t_x6 t_x7 t_x8 t_x9 t_x10 t_x11 t_x12 t_x13 t_x14 t_x15 t_x32 t_x33 t_x34 t_x35 t_x39 t_x40 t_x43 t_x44 t_x48 t_x49 t_x50 : Int) (t_1_c : Nat → Int) (t_2_c : Nat → Int) (t_3_c : Nat → Int) (hp1 : (-2147483648) ≤ p1 ∧ p1 ≤ 2147483647) (hp2 : (-2147483648) ≤ p2 ∧ p2 ≤ 2147483647) (hp3 : (-9223372036854775808) ≤ p3 ∧ p3 ≤ 9223372036854775807) (hi_t : bM12 t_x0 t_x6 t_x7 t_x8 t_x9 t_x10 t_x11 t_x12 t_x13 t_x14 t_x15 t_x32 t_x33 t_x34 t_x35 t_x39 t_x40 t_x43 t_x44 t_x48 t_x49 t_x50) (hc_t_1 : ∀ j : Nat, (-1) ≤ t_1_c j ∧ t_1_c j ≤ 3) (hc_t_2 : ∀ j : Nat, 0 ≤ t_2_c j ∧ t_2_c j ≤ 60) (hc_t_3 : ∀ j : Nat, (-9223372036854775808) ≤ t_3_c j ∧ t_3_c j ≤ 9223372036854775807) : fn_CI (S := (Nat → Int) × (Nat → Nat → Int)) l D K yX12_write (fn_ws yX12_write cX12_write 5 (some .int)) ({ frames := 12, cells := 0, slots := 0, locals := 300 } : Room) [.ref t, .int (iI p1), .int (iI p2), .long (lI p3)] [(t, .inr (12, oX12 t_q t_x0 t_x6 t_x7 t_x8 t_x9 t_x10 t_x11 t_x12 t_x13 t_x14 t_x15 t_x32 t_x33 t_x34 t_x35 t_x39 t_x40 t_x43 t_x44 t_x48 t_x49 t_x50)), ((t_q 1), .inl (K 0, 4, .inl (fun j => iI (t_1_c j)))), ((t_q 2), .inl (K 0, 4, .inl (fun j => iI (t_2_c j)))), ((t_q 3), .inl (K 3, 240, .inr (.inl (fun j => lI (t_3_c j)))))] (fun r u => ∃ k : Int, r = iI k ∧ ((-7) ≤ k ∧ k ≤ 0) ∧ ((-2147483648) ≤ (u.1 0) ∧ (u.1 0) ≤ 2147483647 ∧ ((p1 < 0 ∨ 3 < p1) → k = -2) ∧ (0 ≤ p1 → p1 ≤ 3 → t_1_c (Int.toNat p1) = -1 → k = -6) ∧ (0 ≤ p1 → p1 ≤ 3 → t_1_c (Int.toNat p1) ≠ -1 → (p2 < 0 ∨ t_2_c (Int.toNat p1) ≤ p2) → k = -7) ∧ (0 ≤ p1 → p1 ≤ 3 → t_1_c (Int.toNat p1) ≠ -1 → 0 ≤ p2 → p2 < t_2_c (Int.toNat p1) → k = 0)) ∧ (∀ j : Nat, (-9223372036854775808) ≤ (u.2 0) j ∧ (u.2 0) j ≤ 9223372036854775807) ∧ True) (fun u => [(t, .inr (12, oX12 t_q (u.1 0) t_x6 t_x7 t_x8 t_x9 t_x10 t_x11 t_x12 t_x13 t_x14 t_x15 t_x32 t_x33 t_x34 t_x35 t_x39 t_x40 t_x43 t_x44 t_x48 t_x49 t_x50)), ((t_q 1), .inl (K 0, 4, .inl (fun j => iI (t_1_c j)))), ((t_q 2), .inl (K 0, 4, .inl (fun j => iI (t_2_c j)))), ((t_q 3), .inl (K 3, 240, .inr (.inl (fun j => lI ((u.2 0) j)))))]) 0 0 := by
  refine g_inI (cc := cX12_write) (maxL := 5) (ret := (some .int)) (by decide) rfl (Nat.le_of_ble_eq_true rfl) ?_
  intro p e s m below meth c A ls ag Q B hA hP hD hS hl hQ
  obtain ⟨hx, hb, hr, hml, hts, hown, hlocks, hin, hK⟩ := B
  have hown : s.vm.findClass RX12 = some m.cls := hown
  have hts := fun w h => hts w (List.mem_cons_of_mem _ h)
  have hl : lv_has ls 5 [(0, .ref t), (1, .int (iI p1)), (2, .int (iI p2)), (3, .long (lI p3))] := hl
  refine lv_aload_n hx hb dX12_write_0 rfl (lv_at hl 0 rfl) ?_
  refine lv_iconst (v := iI 0) hx hb dX12_write_1 rfl ?_
  refine va_put (D := D) (own := RX12) (ci := 12) (v := .int (iI 0)) (ty := .int) (C := RX12) (T := TX12) (N := 51) hx hb hts inb_X12 tyX12 tyX12_ok nmX12 hown hK.1 hP hD hS 0 rfl rfl 0 (by decide) (hts _ wd_1234) (fun _ h9 => h9) rfl (by decide +kernel) rfl rfl (Nat.le_of_ble_eq_true rfl) dX12_write_2 (fun H locs hP hD hS => ?_)
  have hP : va_P D vwCl [(t, .inr (12, oX12 t_q 0 t_x6 t_x7 t_x8 t_x9 t_x10 t_x11 t_x12 t_x13 t_x14 t_x15 t_x32 t_x33 t_x34 t_x35 t_x39 t_x40 t_x43 t_x44 t_x48 t_x49 t_x50)), ((t_q 1), .inl (K 0, 4, .inl (fun j => iI (t_1_c j)))), ((t_q 2), .inl (K 0, 4, .inl (fun j => iI (t_2_c j)))), ((t_q 3), .inl (K 3, 240, .inr (.inl (fun j => lI (t_3_c j)))))] H := hP
  have hD : va_D A [(t, .inr (12, oX12 t_q 0 t_x6 t_x7 t_x8 t_x9 t_x10 t_x11 t_x12 t_x13 t_x14 t_x15 t_x32 t_x33 t_x34 t_x35 t_x39 t_x40 t_x43 t_x44 t_x48 t_x49 t_x50)), ((t_q 1), .inl (K 0, 4, .inl (fun j => iI (t_1_c j)))), ((t_q 2), .inl (K 0, 4, .inl (fun j => iI (t_2_c j)))), ((t_q 3), .inl (K 3, 240, .inr (.inl (fun j => lI (t_3_c j)))))] := hD
  refine lv_iload_n hx hb dX12_write_5 rfl (lv_at hl 1 rfl) ?_
  refine fn_goi (wc := []) (wr := [(t, .inr (12, oX12 t_q 0 t_x6 t_x7 t_x8 t_x9 t_x10 t_x11 t_x12 t_x13 t_x14 t_x15 t_x32 t_x33 t_x34 t_x35 t_x39 t_x40 t_x43 t_x44 t_x48 t_x49 t_x50)), ((t_q 1), .inl (K 0, 4, .inl (fun j => iI (t_1_c j)))), ((t_q 2), .inl (K 0, 4, .inl (fun j => iI (t_2_c j)))), ((t_q 3), .inl (K 3, 240, .inr (.inl (fun j => lI (t_3_c j)))))]) hK hP hD hS hA [] [0, 1, 2, 3] rfl rfl (by decide) (fun hp => va_runS (As := [.int (iI p1)]) (rest := []) ⟨hx, hb, hml, hown, hts⟩ (k_X12_isSlot (l := l) (D := D) (K := K) (p1 := p1) (hp1 := (by omega)) _) (va_cwS 1 hts (fn_ginS (fn_gin wd_1394) wd_1392 wd_1393 wd_13) rfl rfl rfl (by decide +kernel) ⟨Nat.le_of_ble_eq_true rfl, Nat.le_of_ble_eq_true rfl⟩) ⟨fn_blind, hp⟩ rfl rfl hl.1 rfl (lv_room (Nat.le_of_ble_eq_true rfl)) dX12_write_6 ⟨Nat.le_of_ble_eq_true rfl, Nat.le_of_ble_eq_true rfl⟩) (fun r6 u6 H locs hwu6 hP hD hS => ?_)
  obtain ⟨u6a, u6b⟩ := u6
  obtain ⟨kr6, rfl, hkr6, hqu60, -⟩ := hwu6
  have hqu6 : (kr6 = 1 → 0 ≤ p1 ∧ p1 ≤ 3) ∧ (kr6 = 0 → p1 < 0 ∨ 3 < p1) := hqu60
  clear hqu60
  have hP : va_P D vwCl [(t, .inr (12, oX12 t_q 0 t_x6 t_x7 t_x8 t_x9 t_x10 t_x11 t_x12 t_x13 t_x14 t_x15 t_x32 t_x33 t_x34 t_x35 t_x39 t_x40 t_x43 t_x44 t_x48 t_x49 t_x50)), ((t_q 1), .inl (K 0, 4, .inl (fun j => iI (t_1_c j)))), ((t_q 2), .inl (K 0, 4, .inl (fun j => iI (t_2_c j)))), ((t_q 3), .inl (K 3, 240, .inr (.inl (fun j => lI (t_3_c j)))))] H := hP
  have hD : va_D A [(t, .inr (12, oX12 t_q 0 t_x6 t_x7 t_x8 t_x9 t_x10 t_x11 t_x12 t_x13 t_x14 t_x15 t_x32 t_x33 t_x34 t_x35 t_x39 t_x40 t_x43 t_x44 t_x48 t_x49 t_x50)), ((t_q 1), .inl (K 0, 4, .inl (fun j => iI (t_1_c j)))), ((t_q 2), .inl (K 0, 4, .inl (fun j => iI (t_2_c j)))), ((t_q 3), .inl (K 3, 240, .inr (.inl (fun j => lI (t_3_c j)))))] := hD
  refine g_if_ne (tgt := 15) hx hb (by omega) dX12_write_9 (by decide) (fun c9 => ?_) (fun c9 => ?_)
  · refine lv_aload_n hx hb dX12_write_15 rfl (lv_at hl 0 rfl) ?_
    refine va_get (D := D) (own := RX12) (ci := 12) (v := .ref (t_q 1)) (C := RX12) (T := TX12) (N := 51) hx hb hts inb_X12 hown hK.1 hP 0 rfl rfl 1 (by decide) (hts _ wd_1235) (fun _ h9 => h9) rfl dX12_write_16 ?_
    refine lv_iload_n hx hb dX12_write_19 rfl (lv_at hl 1 rfl) ?_
    refine g_iald hx hb hK.1 hP 1 0 rfl rfl (by omega) (by omega) (by decide) dX12_write_20 ?_
    have y20 : (-1) ≤ (t_1_c p1.toNat) ∧ (t_1_c p1.toNat) ≤ 3 := hc_t_1 p1.toNat
    refine lv_iconst (v := iI (-1)) hx hb dX12_write_21 rfl ?_
    refine g_icmp_ne (tgt := 28) hx hb (by omega) (by omega) dX12_write_22 (by decide) (fun c22 => ?_) (fun c22 => ?_)
    · refine lv_iload_n hx hb dX12_write_28 rfl (lv_at hl 2 rfl) ?_
      refine lv_i2l (v := lI p2) hx hb dX12_write_29 (iI_2l (by omega)) ?_
      refine lv_lconst (v := lI 0) hx hb dX12_write_30 (by decide) ?_
      refine lv_aload_n hx hb dX12_write_31 rfl (lv_at hl 0 rfl) ?_
      refine va_get (D := D) (own := RX12) (ci := 12) (v := .ref (t_q 2)) (C := RX12) (T := TX12) (N := 51) hx hb hts inb_X12 hown hK.1 hP 0 rfl rfl 2 (by decide) (hts _ wd_1236) (fun _ h9 => h9) rfl dX12_write_32 ?_
      refine lv_iload_n hx hb dX12_write_35 rfl (lv_at hl 1 rfl) ?_
      refine g_iald hx hb hK.1 hP 2 0 rfl rfl (by omega) (by omega) (by decide) dX12_write_36 ?_
      have y36 : 0 ≤ (t_2_c p1.toNat) ∧ (t_2_c p1.toNat) ≤ 60 := hc_t_2 p1.toNat
      refine fn_at 37 rfl ?_
      refine lv_iconst (v := iI 1) hx hb dX12_write_37 rfl ?_
      refine g_isub hx hb dX12_write_38 ?_
      refine lv_i2l (v := lI (t_2_c p1.toNat - 1)) hx hb dX12_write_39 (iI_2l (by omega)) ?_
      refine fn_goi (wc := []) (wr := [(t, .inr (12, oX12 t_q 0 t_x6 t_x7 t_x8 t_x9 t_x10 t_x11 t_x12 t_x13 t_x14 t_x15 t_x32 t_x33 t_x34 t_x35 t_x39 t_x40 t_x43 t_x44 t_x48 t_x49 t_x50)), ((t_q 1), .inl (K 0, 4, .inl (fun j => iI (t_1_c j)))), ((t_q 2), .inl (K 0, 4, .inl (fun j => iI (t_2_c j)))), ((t_q 3), .inl (K 3, 240, .inr (.inl (fun j => lI (t_3_c j)))))]) hK hP hD hS hA [] [0, 1, 2, 3] rfl rfl (by decide) (fun hp => va_runS (As := [.long (lI p2), .long (lI 0), .long (lI (t_2_c p1.toNat - 1))]) (rest := []) ⟨hx, hb, hml, hown, hts⟩ (k_X12_in (l := l) (D := D) (K := K) (p1 := p2) (p2 := 0) (p3 := (t_2_c p1.toNat - 1)) (hp1 := (by omega)) (hp2 := (by omega)) (hp3 := (by omega)) _) (va_cwS 3 hts (fn_ginS (fn_gin wd_1398) wd_1396 wd_1397 wd_13) rfl rfl rfl (by decide +kernel) ⟨Nat.le_of_ble_eq_true rfl, Nat.le_of_ble_eq_true rfl⟩) ⟨fn_blind, hp⟩ rfl rfl hl.1 rfl (lv_room (Nat.le_of_ble_eq_true rfl)) dX12_write_40 ⟨Nat.le_of_ble_eq_true rfl, Nat.le_of_ble_eq_true rfl⟩) (fun r40 u40 H locs hwu40 hP hD hS => ?_)
      obtain ⟨u40a, u40b⟩ := u40
      obtain ⟨kr40, rfl, hkr40, hqu400, -⟩ := hwu40
      have hqu40 : (kr40 = 1 → (0 : Int) ≤ p2 ∧ p2 ≤ (t_2_c p1.toNat - 1)) ∧ (kr40 = 0 → p2 < (0 : Int) ∨ (t_2_c p1.toNat - 1) < p2) := hqu400
      clear hqu400
      have hP : va_P D vwCl [(t, .inr (12, oX12 t_q 0 t_x6 t_x7 t_x8 t_x9 t_x10 t_x11 t_x12 t_x13 t_x14 t_x15 t_x32 t_x33 t_x34 t_x35 t_x39 t_x40 t_x43 t_x44 t_x48 t_x49 t_x50)), ((t_q 1), .inl (K 0, 4, .inl (fun j => iI (t_1_c j)))), ((t_q 2), .inl (K 0, 4, .inl (fun j => iI (t_2_c j)))), ((t_q 3), .inl (K 3, 240, .inr (.inl (fun j => lI (t_3_c j)))))] H := hP
      have hD : va_D A [(t, .inr (12, oX12 t_q 0 t_x6 t_x7 t_x8 t_x9 t_x10 t_x11 t_x12 t_x13 t_x14 t_x15 t_x32 t_x33 t_x34 t_x35 t_x39 t_x40 t_x43 t_x44 t_x48 t_x49 t_x50)), ((t_q 1), .inl (K 0, 4, .inl (fun j => iI (t_1_c j)))), ((t_q 2), .inl (K 0, 4, .inl (fun j => iI (t_2_c j)))), ((t_q 3), .inl (K 3, 240, .inr (.inl (fun j => lI (t_3_c j)))))] := hD
      refine g_if_ne (tgt := 49) hx hb (by omega) dX12_write_43 (by decide) (fun c43 => ?_) (fun c43 => ?_)
      · refine lv_aload_n hx hb dX12_write_49 rfl (lv_at hl 0 rfl) ?_
        refine va_get (D := D) (own := RX12) (ci := 12) (v := .ref (t_q 3)) (C := RX12) (T := TX12) (N := 51) hx hb hts inb_X12 hown hK.1 hP 0 rfl rfl 3 (by decide) (hts _ wd_1237) (fun _ h9 => h9) rfl dX12_write_50 ?_
        refine lv_bipush (v := iI 60) hx hb dX12_write_53 (by decide) ?_
        refine lv_iload_n hx hb dX12_write_55 rfl (lv_at hl 1 rfl) ?_
        refine g_imul hx hb dX12_write_56 ?_
        refine lv_iload_n hx hb dX12_write_57 rfl (lv_at hl 2 rfl) ?_
        refine g_iadd hx hb dX12_write_58 ?_
        refine lv_lload_n hx hb dX12_write_59 rfl (lv_at hl 3 rfl) ?_
        refine lv_aload_n hx hb dX12_write_60 rfl (lv_at hl 0 rfl) ?_
        refine va_get (D := D) (own := RX12) (ci := 12) (v := .ref (t_q 1)) (C := RX12) (T := TX12) (N := 51) hx hb hts inb_X12 hown hK.1 hP 0 rfl rfl 1 (by decide) (hts _ wd_1235) (fun _ h9 => h9) rfl dX12_write_61 ?_
        refine lv_iload_n hx hb dX12_write_64 rfl (lv_at hl 1 rfl) ?_
        refine g_iald hx hb hK.1 hP 1 0 rfl rfl (by omega) (by omega) (by decide) dX12_write_65 ?_
        refine fn_gol (wc := []) (wr := [(t, .inr (12, oX12 t_q 0 t_x6 t_x7 t_x8 t_x9 t_x10 t_x11 t_x12 t_x13 t_x14 t_x15 t_x32 t_x33 t_x34 t_x35 t_x39 t_x40 t_x43 t_x44 t_x48 t_x49 t_x50)), ((t_q 1), .inl (K 0, 4, .inl (fun j => iI (t_1_c j)))), ((t_q 2), .inl (K 0, 4, .inl (fun j => iI (t_2_c j)))), ((t_q 3), .inl (K 3, 240, .inr (.inl (fun j => lI (t_3_c j)))))]) hK hP hD hS hA [] [0, 1, 2, 3] rfl rfl (by decide) (fun hp => va_runS (As := [.long (lI p3), .int (iI (t_1_c p1.toNat))]) (rest := [.int (iI (60 * p1 + p2)), .ref (t_q 3)]) ⟨hx, hb, hml, hown, hts⟩ (k_X12_cut (l := l) (D := D) (K := K) (p1 := p3) (p2 := (t_1_c p1.toNat)) (hp1 := (by omega)) (hp2 := (by omega)) _) (va_cwS 2 hts (fn_ginS (fn_gin wd_1405) wd_1403 wd_1404 wd_13) rfl rfl rfl (by decide +kernel) ⟨Nat.le_of_ble_eq_true rfl, Nat.le_of_ble_eq_true rfl⟩) ⟨fn_blind, hp⟩ rfl rfl hl.1 rfl (lv_room (Nat.le_of_ble_eq_true rfl)) dX12_write_66 ⟨Nat.le_of_ble_eq_true rfl, Nat.le_of_ble_eq_true rfl⟩) (fun r66 u66 H locs hwu66 hP hD hS => ?_)
        obtain ⟨u66a, u66b⟩ := u66
        obtain ⟨kr66, rfl, hkr66, -⟩ := hwu66
        have hP : va_P D vwCl [(t, .inr (12, oX12 t_q 0 t_x6 t_x7 t_x8 t_x9 t_x10 t_x11 t_x12 t_x13 t_x14 t_x15 t_x32 t_x33 t_x34 t_x35 t_x39 t_x40 t_x43 t_x44 t_x48 t_x49 t_x50)), ((t_q 1), .inl (K 0, 4, .inl (fun j => iI (t_1_c j)))), ((t_q 2), .inl (K 0, 4, .inl (fun j => iI (t_2_c j)))), ((t_q 3), .inl (K 3, 240, .inr (.inl (fun j => lI (t_3_c j)))))] H := hP
        have hD : va_D A [(t, .inr (12, oX12 t_q 0 t_x6 t_x7 t_x8 t_x9 t_x10 t_x11 t_x12 t_x13 t_x14 t_x15 t_x32 t_x33 t_x34 t_x35 t_x39 t_x40 t_x43 t_x44 t_x48 t_x49 t_x50)), ((t_q 1), .inl (K 0, 4, .inl (fun j => iI (t_1_c j)))), ((t_q 2), .inl (K 0, 4, .inl (fun j => iI (t_2_c j)))), ((t_q 3), .inl (K 3, 240, .inr (.inl (fun j => lI (t_3_c j)))))] := hD
        refine g_last hx hb hK.1 hP hD hS 3 3 rfl rfl (by omega) (by omega) (by decide) dX12_write_69 (fun H locs g69 eg69 hP hD hS => ?_)
        have hg69 : ∀ j : Nat, (-9223372036854775808) ≤ g69 j ∧ g69 j ≤ 9223372036854775807 := by rw [eg69]; exact uI_all hc_t_3 (by omega)
        have hP : va_P D vwCl [(t, .inr (12, oX12 t_q 0 t_x6 t_x7 t_x8 t_x9 t_x10 t_x11 t_x12 t_x13 t_x14 t_x15 t_x32 t_x33 t_x34 t_x35 t_x39 t_x40 t_x43 t_x44 t_x48 t_x49 t_x50)), ((t_q 1), .inl (K 0, 4, .inl (fun j => iI (t_1_c j)))), ((t_q 2), .inl (K 0, 4, .inl (fun j => iI (t_2_c j)))), ((t_q 3), .inl (K 3, 240, .inr (.inl (fun j => lI (g69 j)))))] H := hP
        have hD : va_D A [(t, .inr (12, oX12 t_q 0 t_x6 t_x7 t_x8 t_x9 t_x10 t_x11 t_x12 t_x13 t_x14 t_x15 t_x32 t_x33 t_x34 t_x35 t_x39 t_x40 t_x43 t_x44 t_x48 t_x49 t_x50)), ((t_q 1), .inl (K 0, 4, .inl (fun j => iI (t_1_c j)))), ((t_q 2), .inl (K 0, 4, .inl (fun j => iI (t_2_c j)))), ((t_q 3), .inl (K 3, 240, .inr (.inl (fun j => lI (g69 j)))))] := hD
        refine lv_iconst (v := iI 0) hx hb dX12_write_70 rfl ?_
        refine fn_at 71 rfl ?_
        rw [hQ]; exact fn_iret hx hb hr hlocks rfl hP hD hS ((fun k => ([0] : List Int).getD k 0), (fun k => ([g69] : List (Nat → Int)).getD k (fun _ => 0))) ⟨0, rfl, by omega, (by show (-2147483648) ≤ 0 ∧ 0 ≤ 2147483647 ∧ ((p1 < 0 ∨ 3 < p1) → (0 : Int) = -2) ∧ (0 ≤ p1 → p1 ≤ 3 → t_1_c (Int.toNat p1) = -1 → (0 : Int) = -6) ∧ (0 ≤ p1 → p1 ≤ 3 → t_1_c (Int.toNat p1) ≠ -1 → (p2 < 0 ∨ t_2_c (Int.toNat p1) ≤ p2) → (0 : Int) = -7) ∧ (0 ≤ p1 → p1 ≤ 3 → t_1_c (Int.toNat p1) ≠ -1 → 0 ≤ p2 → p2 < t_2_c (Int.toNat p1) → (0 : Int) = 0); omega), (hg69), trivial⟩ [0, 1, 2, 3] (by decide) rfl dX12_write_71
      · refine lv_bipush (v := iI (-7)) hx hb dX12_write_46 (by decide) ?_
        rw [hQ]; exact fn_iret hx hb hr hlocks rfl hP hD hS ((fun k => ([0] : List Int).getD k 0), (fun k => ([t_3_c] : List (Nat → Int)).getD k (fun _ => 0))) ⟨(-7), rfl, by omega, (by show (-2147483648) ≤ 0 ∧ 0 ≤ 2147483647 ∧ ((p1 < 0 ∨ 3 < p1) → (-7 : Int) = -2) ∧ (0 ≤ p1 → p1 ≤ 3 → t_1_c (Int.toNat p1) = -1 → (-7 : Int) = -6) ∧ (0 ≤ p1 → p1 ≤ 3 → t_1_c (Int.toNat p1) ≠ -1 → (p2 < 0 ∨ t_2_c (Int.toNat p1) ≤ p2) → (-7 : Int) = -7) ∧ (0 ≤ p1 → p1 ≤ 3 → t_1_c (Int.toNat p1) ≠ -1 → 0 ≤ p2 → p2 < t_2_c (Int.toNat p1) → (-7 : Int) = 0); omega), (hc_t_3), trivial⟩ [0, 1, 2, 3] (by decide) rfl dX12_write_48
    · refine lv_bipush (v := iI (-6)) hx hb dX12_write_25 (by decide) ?_
      rw [hQ]; exact fn_iret hx hb hr hlocks rfl hP hD hS ((fun k => ([0] : List Int).getD k 0), (fun k => ([t_3_c] : List (Nat → Int)).getD k (fun _ => 0))) ⟨(-6), rfl, by omega, (by show (-2147483648) ≤ 0 ∧ 0 ≤ 2147483647 ∧ ((p1 < 0 ∨ 3 < p1) → (-6 : Int) = -2) ∧ (0 ≤ p1 → p1 ≤ 3 → t_1_c (Int.toNat p1) = -1 → (-6 : Int) = -6) ∧ (0 ≤ p1 → p1 ≤ 3 → t_1_c (Int.toNat p1) ≠ -1 → (p2 < 0 ∨ t_2_c (Int.toNat p1) ≤ p2) → (-6 : Int) = -7) ∧ (0 ≤ p1 → p1 ≤ 3 → t_1_c (Int.toNat p1) ≠ -1 → 0 ≤ p2 → p2 < t_2_c (Int.toNat p1) → (-6 : Int) = 0); omega), (hc_t_3), trivial⟩ [0, 1, 2, 3] (by decide) rfl dX12_write_27
  · refine lv_bipush (v := iI (-2)) hx hb dX12_write_12 (by decide) ?_
    rw [hQ]; exact fn_iret hx hb hr hlocks rfl hP hD hS ((fun k => ([0] : List Int).getD k 0), (fun k => ([t_3_c] : List (Nat → Int)).getD k (fun _ => 0))) ⟨(-2), rfl, by omega, (by show (-2147483648) ≤ 0 ∧ 0 ≤ 2147483647 ∧ ((p1 < 0 ∨ 3 < p1) → (-2 : Int) = -2) ∧ (0 ≤ p1 → p1 ≤ 3 → t_1_c (Int.toNat p1) = -1 → (-2 : Int) = -6) ∧ (0 ≤ p1 → p1 ≤ 3 → t_1_c (Int.toNat p1) ≠ -1 → (p2 < 0 ∨ t_2_c (Int.toNat p1) ≤ p2) → (-2 : Int) = -7) ∧ (0 ≤ p1 → p1 ≤ 3 → t_1_c (Int.toNat p1) ≠ -1 → 0 ≤ p2 → p2 < t_2_c (Int.toNat p1) → (-2 : Int) = 0); omega), (hc_t_3), trivial⟩ [0, 1, 2, 3] (by decide) rfl dX12_write_14
theorem wd_1238 : Cond.fieldLink "FootNotesModel" 20 "FootNotesModel" "moved" "[J" ∈ fn_big := fn_tb (fn_l6 (List.mem_of_getElem? (i := 38) (by decide +kernel))) (by decide +kernel)
theorem dX12_paste_155 : decode cX12_paste 155 = .ok (.iload 6, 2) := by decide +kernel
theorem dX12_paste_157 : decode cX12_paste 157 = .ok (.iload 5, 2) := by decide +kernel
theorem dX12_paste_159 : decode cX12_paste 159 = .ok (.if_icmp .ge 31, 3) := by decide +kernel
theorem dX12_paste_190 : decode cX12_paste 190 = .ok (.iconst 0, 1) := by decide +kernel
theorem dX12_paste_191 : decode cX12_paste 191 = .ok (.ireturn, 1) := by decide +kernel
theorem dX12_paste_162 : decode cX12_paste 162 = .ok (.aload_n 0, 1) := by decide +kernel
theorem dX12_paste_163 : decode cX12_paste 163 = .ok (.getfield 16, 3) := by decide +kernel
theorem dX12_paste_166 : decode cX12_paste 166 = .ok (.bipush 60, 2) := by decide +kernel
theorem dX12_paste_168 : decode cX12_paste 168 = .ok (.iload_n 3, 1) := by decide +kernel
theorem dX12_paste_169 : decode cX12_paste 169 = .ok (.imul, 1) := by decide +kernel
theorem dX12_paste_170 : decode cX12_paste 170 = .ok (.iload 4, 2) := by decide +kernel
theorem dX12_paste_172 : decode cX12_paste 172 = .ok (.iadd, 1) := by decide +kernel
theorem dX12_paste_173 : decode cX12_paste 173 = .ok (.iload 6, 2) := by decide +kernel
theorem dX12_paste_175 : decode cX12_paste 175 = .ok (.iadd, 1) := by decide +kernel
theorem dX12_paste_176 : decode cX12_paste 176 = .ok (.aload_n 0, 1) := by decide +kernel
theorem dX12_paste_177 : decode cX12_paste 177 = .ok (.getfield 20, 3) := by decide +kernel
theorem dX12_paste_180 : decode cX12_paste 180 = .ok (.iload 6, 2) := by decide +kernel
theorem dX12_paste_182 : decode cX12_paste 182 = .ok (.laload, 1) := by decide +kernel
theorem dX12_paste_183 : decode cX12_paste 183 = .ok (.lastore, 1) := by decide +kernel
theorem dX12_paste_184 : decode cX12_paste 184 = .ok (.iinc 6 1, 3) := by decide +kernel
theorem dX12_paste_187 : decode cX12_paste 187 = .ok (.goto (-32), 3) := by decide +kernel
theorem dX12_paste_118 : decode cX12_paste 118 = .ok (.iload 6, 2) := by decide +kernel
theorem dX12_paste_120 : decode cX12_paste 120 = .ok (.iload 5, 2) := by decide +kernel
theorem dX12_paste_122 : decode cX12_paste 122 = .ok (.if_icmp .ge 30, 3) := by decide +kernel
theorem dX12_paste_152 : decode cX12_paste 152 = .ok (.iconst 0, 1) := by decide +kernel
theorem dX12_paste_153 : decode cX12_paste 153 = .ok (.istore 6, 2) := by decide +kernel
theorem dX12_paste_125 : decode cX12_paste 125 = .ok (.aload_n 0, 1) := by decide +kernel
theorem dX12_paste_126 : decode cX12_paste 126 = .ok (.getfield 20, 3) := by decide +kernel
theorem dX12_paste_129 : decode cX12_paste 129 = .ok (.iload 6, 2) := by decide +kernel
theorem dX12_paste_131 : decode cX12_paste 131 = .ok (.aload_n 0, 1) := by decide +kernel
theorem dX12_paste_132 : decode cX12_paste 132 = .ok (.getfield 16, 3) := by decide +kernel
theorem dX12_paste_135 : decode cX12_paste 135 = .ok (.bipush 60, 2) := by decide +kernel
theorem dX12_paste_137 : decode cX12_paste 137 = .ok (.iload_n 1, 1) := by decide +kernel
theorem dX12_paste_138 : decode cX12_paste 138 = .ok (.imul, 1) := by decide +kernel
theorem dX12_paste_139 : decode cX12_paste 139 = .ok (.iload_n 2, 1) := by decide +kernel
theorem dX12_paste_140 : decode cX12_paste 140 = .ok (.iadd, 1) := by decide +kernel
theorem dX12_paste_141 : decode cX12_paste 141 = .ok (.iload 6, 2) := by decide +kernel
theorem dX12_paste_143 : decode cX12_paste 143 = .ok (.iadd, 1) := by decide +kernel
theorem dX12_paste_144 : decode cX12_paste 144 = .ok (.laload, 1) := by decide +kernel
theorem dX12_paste_145 : decode cX12_paste 145 = .ok (.lastore, 1) := by decide +kernel
theorem dX12_paste_146 : decode cX12_paste 146 = .ok (.iinc 6 1, 3) := by decide +kernel
theorem dX12_paste_149 : decode cX12_paste 149 = .ok (.goto (-31), 3) := by decide +kernel
theorem dX12_paste_0 : decode cX12_paste 0 = .ok (.aload_n 0, 1) := by decide +kernel
theorem dX12_paste_1 : decode cX12_paste 1 = .ok (.iconst 0, 1) := by decide +kernel
theorem dX12_paste_2 : decode cX12_paste 2 = .ok (.putfield 104, 3) := by decide +kernel
theorem dX12_paste_5 : decode cX12_paste 5 = .ok (.iload_n 1, 1) := by decide +kernel
theorem dX12_paste_6 : decode cX12_paste 6 = .ok (.invokestatic 113, 3) := by decide +kernel
theorem dX12_paste_9 : decode cX12_paste 9 = .ok (.ifCond .eq 10, 3) := by decide +kernel
theorem dX12_paste_19 : decode cX12_paste 19 = .ok (.bipush (-2), 2) := by decide +kernel
theorem dX12_paste_21 : decode cX12_paste 21 = .ok (.ireturn, 1) := by decide +kernel
theorem dX12_paste_12 : decode cX12_paste 12 = .ok (.iload_n 3, 1) := by decide +kernel
theorem dX12_paste_13 : decode cX12_paste 13 = .ok (.invokestatic 113, 3) := by decide +kernel
theorem dX12_paste_16 : decode cX12_paste 16 = .ok (.ifCond .ne 6, 3) := by decide +kernel
theorem dX12_paste_22 : decode cX12_paste 22 = .ok (.aload_n 0, 1) := by decide +kernel
theorem dX12_paste_23 : decode cX12_paste 23 = .ok (.getfield 7, 3) := by decide +kernel
theorem dX12_paste_26 : decode cX12_paste 26 = .ok (.iload_n 1, 1) := by decide +kernel
theorem dX12_paste_27 : decode cX12_paste 27 = .ok (.iaload, 1) := by decide +kernel
theorem dX12_paste_28 : decode cX12_paste 28 = .ok (.iconst (-1), 1) := by decide +kernel
theorem dX12_paste_29 : decode cX12_paste 29 = .ok (.if_icmp .eq 13, 3) := by decide +kernel
theorem dX12_paste_42 : decode cX12_paste 42 = .ok (.bipush (-6), 2) := by decide +kernel
theorem dX12_paste_44 : decode cX12_paste 44 = .ok (.ireturn, 1) := by decide +kernel
theorem dX12_paste_32 : decode cX12_paste 32 = .ok (.aload_n 0, 1) := by decide +kernel
theorem dX12_paste_33 : decode cX12_paste 33 = .ok (.getfield 7, 3) := by decide +kernel
theorem dX12_paste_36 : decode cX12_paste 36 = .ok (.iload_n 3, 1) := by decide +kernel
theorem dX12_paste_37 : decode cX12_paste 37 = .ok (.iaload, 1) := by decide +kernel
theorem dX12_paste_38 : decode cX12_paste 38 = .ok (.iconst (-1), 1) := by decide +kernel
theorem dX12_paste_39 : decode cX12_paste 39 = .ok (.if_icmp .ne 6, 3) := by decide +kernel
theorem dX12_paste_45 : decode cX12_paste 45 = .ok (.aload_n 0, 1) := by decide +kernel
theorem dX12_paste_46 : decode cX12_paste 46 = .ok (.getfield 7, 3) := by decide +kernel
theorem dX12_paste_49 : decode cX12_paste 49 = .ok (.iload_n 1, 1) := by decide +kernel
theorem dX12_paste_50 : decode cX12_paste 50 = .ok (.iaload, 1) := by decide +kernel
theorem dX12_paste_51 : decode cX12_paste 51 = .ok (.aload_n 0, 1) := by decide +kernel
theorem dX12_paste_52 : decode cX12_paste 52 = .ok (.getfield 7, 3) := by decide +kernel
theorem dX12_paste_55 : decode cX12_paste 55 = .ok (.iload_n 3, 1) := by decide +kernel
theorem dX12_paste_56 : decode cX12_paste 56 = .ok (.iaload, 1) := by decide +kernel
theorem dX12_paste_57 : decode cX12_paste 57 = .ok (.if_icmp .eq 6, 3) := by decide +kernel
theorem dX12_paste_63 : decode cX12_paste 63 = .ok (.iload_n 2, 1) := by decide +kernel
theorem dX12_paste_64 : decode cX12_paste 64 = .ok (.ifCond .lt 48, 3) := by decide +kernel
theorem dX12_paste_112 : decode cX12_paste 112 = .ok (.bipush (-7), 2) := by decide +kernel
theorem dX12_paste_114 : decode cX12_paste 114 = .ok (.ireturn, 1) := by decide +kernel
theorem dX12_paste_67 : decode cX12_paste 67 = .ok (.iload 4, 2) := by decide +kernel
theorem dX12_paste_69 : decode cX12_paste 69 = .ok (.ifCond .lt 43, 3) := by decide +kernel
theorem dX12_paste_72 : decode cX12_paste 72 = .ok (.iload 5, 2) := by decide +kernel
theorem dX12_paste_74 : decode cX12_paste 74 = .ok (.ifCond .lt 38, 3) := by decide +kernel
theorem dX12_paste_77 : decode cX12_paste 77 = .ok (.iload_n 2, 1) := by decide +kernel
theorem dX12_paste_78 : decode cX12_paste 78 = .ok (.i2l, 1) := by decide +kernel
theorem dX12_paste_79 : decode cX12_paste 79 = .ok (.iload 5, 2) := by decide +kernel
theorem dX12_paste_81 : decode cX12_paste 81 = .ok (.i2l, 1) := by decide +kernel
theorem dX12_paste_82 : decode cX12_paste 82 = .ok (.ladd, 1) := by decide +kernel
theorem dX12_paste_83 : decode cX12_paste 83 = .ok (.aload_n 0, 1) := by decide +kernel
theorem dX12_paste_84 : decode cX12_paste 84 = .ok (.getfield 13, 3) := by decide +kernel
theorem dX12_paste_87 : decode cX12_paste 87 = .ok (.iload_n 1, 1) := by decide +kernel
theorem dX12_paste_88 : decode cX12_paste 88 = .ok (.iaload, 1) := by decide +kernel
theorem dX12_paste_89 : decode cX12_paste 89 = .ok (.i2l, 1) := by decide +kernel
theorem dX12_paste_90 : decode cX12_paste 90 = .ok (.lcmp, 1) := by decide +kernel
theorem dX12_paste_91 : decode cX12_paste 91 = .ok (.ifCond .gt 21, 3) := by decide +kernel
theorem dX12_paste_94 : decode cX12_paste 94 = .ok (.iload 4, 2) := by decide +kernel
theorem dX12_paste_96 : decode cX12_paste 96 = .ok (.i2l, 1) := by decide +kernel
theorem dX12_paste_97 : decode cX12_paste 97 = .ok (.iload 5, 2) := by decide +kernel
theorem dX12_paste_99 : decode cX12_paste 99 = .ok (.i2l, 1) := by decide +kernel
theorem dX12_paste_100 : decode cX12_paste 100 = .ok (.ladd, 1) := by decide +kernel
theorem dX12_paste_101 : decode cX12_paste 101 = .ok (.aload_n 0, 1) := by decide +kernel
theorem dX12_paste_102 : decode cX12_paste 102 = .ok (.getfield 13, 3) := by decide +kernel
theorem dX12_paste_105 : decode cX12_paste 105 = .ok (.iload_n 3, 1) := by decide +kernel
theorem dX12_paste_106 : decode cX12_paste 106 = .ok (.iaload, 1) := by decide +kernel
theorem dX12_paste_107 : decode cX12_paste 107 = .ok (.i2l, 1) := by decide +kernel
theorem dX12_paste_108 : decode cX12_paste 108 = .ok (.lcmp, 1) := by decide +kernel
theorem dX12_paste_109 : decode cX12_paste 109 = .ok (.ifCond .le 6, 3) := by decide +kernel
theorem dX12_paste_115 : decode cX12_paste 115 = .ok (.iconst 0, 1) := by decide +kernel
theorem dX12_paste_116 : decode cX12_paste 116 = .ok (.istore 6, 2) := by decide +kernel
theorem dX12_paste_60 : decode cX12_paste 60 = .ok (.bipush (-8), 2) := by decide +kernel
theorem dX12_paste_62 : decode cX12_paste 62 = .ok (.ireturn, 1) := by decide +kernel
set_option maxHeartbeats 4000000 in
set_option maxRecDepth 100000 in
theorem k_X12_pastee (l : Launch) (D : va_G) (K : Nat → ClassId) (t : Nat) (t_q : Nat → Nat) (p1 p2 p3 p4 p5 t_x0 t_x6 t_x7 t_x8 t_x9 t_x10 t_x11 t_x12 t_x13 t_x14 t_x15 t_x32 t_x33 t_x34 t_x35 t_x39 t_x40 t_x43 t_x44 t_x48 t_x49 t_x50 : Int) (t_1_c : Nat → Int) (t_2_c : Nat → Int) (t_3_c : Nat → Int) (t_4_c : Nat → Int) (hp1 : (-2147483648) ≤ p1 ∧ p1 ≤ 2147483647) (hp2 : (-2147483648) ≤ p2 ∧ p2 ≤ 2147483647) (hp3 : (-2147483648) ≤ p3 ∧ p3 ≤ 2147483647) (hp4 : (-2147483648) ≤ p4 ∧ p4 ≤ 2147483647) (hp5 : (-2147483648) ≤ p5 ∧ p5 ≤ 2147483647) (hi_t : bM12 t_x0 t_x6 t_x7 t_x8 t_x9 t_x10 t_x11 t_x12 t_x13 t_x14 t_x15 t_x32 t_x33 t_x34 t_x35 t_x39 t_x40 t_x43 t_x44 t_x48 t_x49 t_x50) (hc_t_1 : ∀ j : Nat, (-1) ≤ t_1_c j ∧ t_1_c j ≤ 3) (hc_t_2 : ∀ j : Nat, 0 ≤ t_2_c j ∧ t_2_c j ≤ 60) (hc_t_3 : ∀ j : Nat, (-9223372036854775808) ≤ t_3_c j ∧ t_3_c j ≤ 9223372036854775807) (hc_t_4 : ∀ j : Nat, (-9223372036854775808) ≤ t_4_c j ∧ t_4_c j ≤ 9223372036854775807) : fn_CI (S := (Nat → Int) × (Nat → Nat → Int)) l D K yX12_paste (fn_ws yX12_paste cX12_paste 7 (some .int)) ({ frames := 12, cells := 0, slots := 0, locals := 300 } : Room) [.ref t, .int (iI p1), .int (iI p2), .int (iI p3), .int (iI p4), .int (iI p5)] [(t, .inr (12, oX12 t_q t_x0 t_x6 t_x7 t_x8 t_x9 t_x10 t_x11 t_x12 t_x13 t_x14 t_x15 t_x32 t_x33 t_x34 t_x35 t_x39 t_x40 t_x43 t_x44 t_x48 t_x49 t_x50)), ((t_q 1), .inl (K 0, 4, .inl (fun j => iI (t_1_c j)))), ((t_q 2), .inl (K 0, 4, .inl (fun j => iI (t_2_c j)))), ((t_q 3), .inl (K 3, 240, .inr (.inl (fun j => lI (t_3_c j))))), ((t_q 4), .inl (K 3, 60, .inr (.inl (fun j => lI (t_4_c j)))))] (fun r u => ∃ k : Int, r = iI k ∧ ((-8) ≤ k ∧ k ≤ 0) ∧ ((-2147483648) ≤ (u.1 0) ∧ (u.1 0) ≤ 2147483647 ∧ ((p1 < 0 ∨ 3 < p1 ∨ p3 < 0 ∨ 3 < p3) → k = -2) ∧ (0 ≤ p1 → p1 ≤ 3 → 0 ≤ p3 → p3 ≤ 3 → (t_1_c (Int.toNat p1) = -1 ∨ t_1_c (Int.toNat p3) = -1) → k = -6) ∧ (0 ≤ p1 → p1 ≤ 3 → 0 ≤ p3 → p3 ≤ 3 → t_1_c (Int.toNat p1) ≠ -1 → t_1_c (Int.toNat p3) ≠ -1 → t_1_c (Int.toNat p1) ≠ t_1_c (Int.toNat p3) → k = -8) ∧ (0 ≤ p1 → p1 ≤ 3 → 0 ≤ p3 → p3 ≤ 3 → t_1_c (Int.toNat p1) ≠ -1 → t_1_c (Int.toNat p3) ≠ -1 → t_1_c (Int.toNat p1) = t_1_c (Int.toNat p3) → ¬ (0 ≤ p2 ∧ 0 ≤ p4 ∧ 0 ≤ p5 ∧ p2 + p5 ≤ t_2_c (Int.toNat p1) ∧ p4 + p5 ≤ t_2_c (Int.toNat p3)) → k = -7) ∧ (0 ≤ p1 → p1 ≤ 3 → 0 ≤ p3 → p3 ≤ 3 → t_1_c (Int.toNat p1) ≠ -1 → t_1_c (Int.toNat p3) ≠ -1 → t_1_c (Int.toNat p1) = t_1_c (Int.toNat p3) → (0 ≤ p2 ∧ 0 ≤ p4 ∧ 0 ≤ p5 ∧ p2 + p5 ≤ t_2_c (Int.toNat p1) ∧ p4 + p5 ≤ t_2_c (Int.toNat p3)) → k = 0)) ∧ (∀ j : Nat, (-9223372036854775808) ≤ (u.2 0) j ∧ (u.2 0) j ≤ 9223372036854775807) ∧ (∀ j : Nat, (-9223372036854775808) ≤ (u.2 1) j ∧ (u.2 1) j ≤ 9223372036854775807) ∧ True) (fun u => [(t, .inr (12, oX12 t_q (u.1 0) t_x6 t_x7 t_x8 t_x9 t_x10 t_x11 t_x12 t_x13 t_x14 t_x15 t_x32 t_x33 t_x34 t_x35 t_x39 t_x40 t_x43 t_x44 t_x48 t_x49 t_x50)), ((t_q 1), .inl (K 0, 4, .inl (fun j => iI (t_1_c j)))), ((t_q 2), .inl (K 0, 4, .inl (fun j => iI (t_2_c j)))), ((t_q 3), .inl (K 3, 240, .inr (.inl (fun j => lI ((u.2 0) j))))), ((t_q 4), .inl (K 3, 60, .inr (.inl (fun j => lI ((u.2 1) j)))))]) 0 0 := by
  refine g_inI (cc := cX12_paste) (maxL := 7) (ret := (some .int)) (by decide) rfl (Nat.le_of_ble_eq_true rfl) ?_
  intro p e s m below meth c A ls ag Q B hA hP hD hS hl hQ
  obtain ⟨hx, hb, hr, hml, hts, hown, hlocks, hin, hK⟩ := B
  have hown : s.vm.findClass RX12 = some m.cls := hown
  have hts := fun w h => hts w (List.mem_cons_of_mem _ h)
  have J155 : ∀ (n : Nat) (x155_6 : Int) (c155_t_3 : Nat → Int) (c155_t_4 : Nat → Int) (H : Heap) (locs : List Loc) (ls : Array Slot), (60 - x155_6).toNat < n → (0 ≤ p1 ∧ p1 ≤ 3 ∧ 0 ≤ p2 ∧ p2 ≤ 60 ∧ 0 ≤ p3 ∧ p3 ≤ 3 ∧ 0 ≤ p4 ∧ p4 ≤ 60 ∧ 0 ≤ p5 ∧ p5 ≤ 60 ∧ 0 ≤ x155_6 ∧ x155_6 ≤ 60 ∧ p2 + p5 ≤ 60 ∧ p4 + p5 ≤ 60 ∧ x155_6 ≤ p5 ∧ 0 ≤ p1 ∧ p1 ≤ 3 ∧ 0 ≤ p3 ∧ p3 ≤ 3 ∧ t_1_c (Int.toNat p1) ≠ -1 ∧ t_1_c (Int.toNat p3) ≠ -1 ∧ t_1_c (Int.toNat p1) = t_1_c (Int.toNat p3) ∧ 0 ≤ p2 ∧ 0 ≤ p4 ∧ 0 ≤ p5 ∧ p2 + p5 ≤ t_2_c (Int.toNat p1) ∧ p4 + p5 ≤ t_2_c (Int.toNat p3)) → (∀ j : Nat, (-9223372036854775808) ≤ c155_t_3 j ∧ c155_t_3 j ≤ 9223372036854775807) → (∀ j : Nat, (-9223372036854775808) ≤ c155_t_4 j ∧ c155_t_4 j ≤ 9223372036854775807) → va_P D vwCl [(t, .inr (12, oX12 t_q 0 t_x6 t_x7 t_x8 t_x9 t_x10 t_x11 t_x12 t_x13 t_x14 t_x15 t_x32 t_x33 t_x34 t_x35 t_x39 t_x40 t_x43 t_x44 t_x48 t_x49 t_x50)), ((t_q 1), .inl (K 0, 4, .inl (fun j => iI (t_1_c j)))), ((t_q 2), .inl (K 0, 4, .inl (fun j => iI (t_2_c j)))), ((t_q 3), .inl (K 3, 240, .inr (.inl (fun j => lI (c155_t_3 j))))), ((t_q 4), .inl (K 3, 60, .inr (.inl (fun j => lI (c155_t_4 j)))))] H → va_D A [(t, .inr (12, oX12 t_q 0 t_x6 t_x7 t_x8 t_x9 t_x10 t_x11 t_x12 t_x13 t_x14 t_x15 t_x32 t_x33 t_x34 t_x35 t_x39 t_x40 t_x43 t_x44 t_x48 t_x49 t_x50)), ((t_q 1), .inl (K 0, 4, .inl (fun j => iI (t_1_c j)))), ((t_q 2), .inl (K 0, 4, .inl (fun j => iI (t_2_c j)))), ((t_q 3), .inl (K 3, 240, .inr (.inl (fun j => lI (c155_t_3 j))))), ((t_q 4), .inl (K 3, 60, .inr (.inl (fun j => lI (c155_t_4 j)))))] → va_S A s.heap H locs → lv_has ls 7 [(0, .ref t), (1, .int (iI p1)), (2, .int (iI p2)), (3, .int (iI p3)), (4, .int (iI p4)), (5, .int (iI p5)), (6, .int (iI x155_6))] → W p l e ({ frames := 12, cells := 0, slots := 0, locals := 300 } : Room) s m ag below meth c H locs 0 0 Q (F0 m 155 ls []) := by
    intro n
    induction n with
    | zero =>
      intro x155_6 c155_t_3 c155_t_4 H locs ls hm155 hf155 hc155_t_3 hc155_t_4 hP hD hS hl
      exact absurd hm155 (Nat.not_lt_zero _)
    | succ n ih155 =>
      intro x155_6 c155_t_3 c155_t_4 H locs ls hm155 hf155 hc155_t_3 hc155_t_4 hP hD hS hl
      refine lv_iload hx hb dX12_paste_155 (lv_at hl 6 rfl) ?_
      refine lv_iload hx hb dX12_paste_157 (lv_at hl 5 rfl) ?_
      refine g_icmp_ge (tgt := 190) hx hb (by omega) (by omega) dX12_paste_159 (by decide) (fun c159 => ?_) (fun c159 => ?_)
      · refine lv_iconst (v := iI 0) hx hb dX12_paste_190 rfl ?_
        rw [hQ]; exact fn_iret hx hb hr hlocks rfl hP hD hS ((fun k => ([0] : List Int).getD k 0), (fun k => ([c155_t_3, c155_t_4] : List (Nat → Int)).getD k (fun _ => 0))) ⟨0, rfl, by omega, (by show (-2147483648) ≤ 0 ∧ 0 ≤ 2147483647 ∧ ((p1 < 0 ∨ 3 < p1 ∨ p3 < 0 ∨ 3 < p3) → (0 : Int) = -2) ∧ (0 ≤ p1 → p1 ≤ 3 → 0 ≤ p3 → p3 ≤ 3 → (t_1_c (Int.toNat p1) = -1 ∨ t_1_c (Int.toNat p3) = -1) → (0 : Int) = -6) ∧ (0 ≤ p1 → p1 ≤ 3 → 0 ≤ p3 → p3 ≤ 3 → t_1_c (Int.toNat p1) ≠ -1 → t_1_c (Int.toNat p3) ≠ -1 → t_1_c (Int.toNat p1) ≠ t_1_c (Int.toNat p3) → (0 : Int) = -8) ∧ (0 ≤ p1 → p1 ≤ 3 → 0 ≤ p3 → p3 ≤ 3 → t_1_c (Int.toNat p1) ≠ -1 → t_1_c (Int.toNat p3) ≠ -1 → t_1_c (Int.toNat p1) = t_1_c (Int.toNat p3) → ¬ (0 ≤ p2 ∧ 0 ≤ p4 ∧ 0 ≤ p5 ∧ p2 + p5 ≤ t_2_c (Int.toNat p1) ∧ p4 + p5 ≤ t_2_c (Int.toNat p3)) → (0 : Int) = -7) ∧ (0 ≤ p1 → p1 ≤ 3 → 0 ≤ p3 → p3 ≤ 3 → t_1_c (Int.toNat p1) ≠ -1 → t_1_c (Int.toNat p3) ≠ -1 → t_1_c (Int.toNat p1) = t_1_c (Int.toNat p3) → (0 ≤ p2 ∧ 0 ≤ p4 ∧ 0 ≤ p5 ∧ p2 + p5 ≤ t_2_c (Int.toNat p1) ∧ p4 + p5 ≤ t_2_c (Int.toNat p3)) → (0 : Int) = 0); omega), (hc155_t_3), (hc155_t_4), trivial⟩ [0, 1, 2, 3, 4] (by decide) rfl dX12_paste_191
      · refine lv_aload_n hx hb dX12_paste_162 rfl (lv_at hl 0 rfl) ?_
        refine va_get (D := D) (own := RX12) (ci := 12) (v := .ref (t_q 3)) (C := RX12) (T := TX12) (N := 51) hx hb hts inb_X12 hown hK.1 hP 0 rfl rfl 3 (by decide) (hts _ wd_1237) (fun _ h9 => h9) rfl dX12_paste_163 ?_
        refine lv_bipush (v := iI 60) hx hb dX12_paste_166 (by decide) ?_
        refine lv_iload_n hx hb dX12_paste_168 rfl (lv_at hl 3 rfl) ?_
        refine g_imul hx hb dX12_paste_169 ?_
        refine lv_iload hx hb dX12_paste_170 (lv_at hl 4 rfl) ?_
        refine g_iadd hx hb dX12_paste_172 ?_
        refine lv_iload hx hb dX12_paste_173 (lv_at hl 6 rfl) ?_
        refine g_iadd hx hb dX12_paste_175 ?_
        refine lv_aload_n hx hb dX12_paste_176 rfl (lv_at hl 0 rfl) ?_
        refine va_get (D := D) (own := RX12) (ci := 12) (v := .ref (t_q 4)) (C := RX12) (T := TX12) (N := 51) hx hb hts inb_X12 hown hK.1 hP 0 rfl rfl 4 (by decide) (hts _ wd_1238) (fun _ h9 => h9) rfl dX12_paste_177 ?_
        refine lv_iload hx hb dX12_paste_180 (lv_at hl 6 rfl) ?_
        refine g_lald hx hb hK.1 hP 4 3 rfl rfl (by omega) (by omega) (by decide) dX12_paste_182 ?_
        have y182 : (-9223372036854775808) ≤ (c155_t_4 x155_6.toNat) ∧ (c155_t_4 x155_6.toNat) ≤ 9223372036854775807 := hc155_t_4 x155_6.toNat
        refine g_last hx hb hK.1 hP hD hS 3 3 rfl rfl (by omega) (by omega) (by decide) dX12_paste_183 (fun H locs g183 eg183 hP hD hS => ?_)
        have hg183 : ∀ j : Nat, (-9223372036854775808) ≤ g183 j ∧ g183 j ≤ 9223372036854775807 := by rw [eg183]; exact uI_all hc155_t_3 (by omega)
        have hP : va_P D vwCl [(t, .inr (12, oX12 t_q 0 t_x6 t_x7 t_x8 t_x9 t_x10 t_x11 t_x12 t_x13 t_x14 t_x15 t_x32 t_x33 t_x34 t_x35 t_x39 t_x40 t_x43 t_x44 t_x48 t_x49 t_x50)), ((t_q 1), .inl (K 0, 4, .inl (fun j => iI (t_1_c j)))), ((t_q 2), .inl (K 0, 4, .inl (fun j => iI (t_2_c j)))), ((t_q 3), .inl (K 3, 240, .inr (.inl (fun j => lI (g183 j))))), ((t_q 4), .inl (K 3, 60, .inr (.inl (fun j => lI (c155_t_4 j)))))] H := hP
        have hD : va_D A [(t, .inr (12, oX12 t_q 0 t_x6 t_x7 t_x8 t_x9 t_x10 t_x11 t_x12 t_x13 t_x14 t_x15 t_x32 t_x33 t_x34 t_x35 t_x39 t_x40 t_x43 t_x44 t_x48 t_x49 t_x50)), ((t_q 1), .inl (K 0, 4, .inl (fun j => iI (t_1_c j)))), ((t_q 2), .inl (K 0, 4, .inl (fun j => iI (t_2_c j)))), ((t_q 3), .inl (K 3, 240, .inr (.inl (fun j => lI (g183 j))))), ((t_q 4), .inl (K 3, 60, .inr (.inl (fun j => lI (c155_t_4 j)))))] := hD
        refine lv_iinc (v := iI (x155_6 + 1)) (lv' := [(6, .int (iI (x155_6 + 1))), (0, .ref t), (1, .int (iI p1)), (2, .int (iI p2)), (3, .int (iI p3)), (4, .int (iI p4)), (5, .int (iI p5))]) hx hb dX12_paste_184 hl (k := 6) rfl (iI_add _ _) (by decide) rfl (fun ls hl => ?_)
        refine lv_goto (tgt := 155) hx hb dX12_paste_187 (by decide) ?_
        exact ih155 (x155_6 + 1) g183 c155_t_4 _ _ ls (by omega) (by omega) hg183 hc155_t_4 (hP.sub [0, 1, 2, 3, 4] rfl) (hD.sub [0, 1, 2, 3, 4] (by decide) rfl) hS (lv_sub hl [1, 2, 3, 4, 5, 6, 0] rfl)
  have J118 : ∀ (n : Nat) (x118_6 : Int) (c118_t_4 : Nat → Int) (H : Heap) (locs : List Loc) (ls : Array Slot), (60 - x118_6).toNat < n → (0 ≤ p1 ∧ p1 ≤ 3 ∧ 0 ≤ p2 ∧ p2 ≤ 60 ∧ 0 ≤ p3 ∧ p3 ≤ 3 ∧ 0 ≤ p4 ∧ p4 ≤ 60 ∧ 0 ≤ p5 ∧ p5 ≤ 60 ∧ 0 ≤ x118_6 ∧ x118_6 ≤ 60 ∧ p2 + p5 ≤ 60 ∧ p4 + p5 ≤ 60 ∧ x118_6 ≤ p5 ∧ 0 ≤ p1 ∧ p1 ≤ 3 ∧ 0 ≤ p3 ∧ p3 ≤ 3 ∧ t_1_c (Int.toNat p1) ≠ -1 ∧ t_1_c (Int.toNat p3) ≠ -1 ∧ t_1_c (Int.toNat p1) = t_1_c (Int.toNat p3) ∧ 0 ≤ p2 ∧ 0 ≤ p4 ∧ 0 ≤ p5 ∧ p2 + p5 ≤ t_2_c (Int.toNat p1) ∧ p4 + p5 ≤ t_2_c (Int.toNat p3)) → (∀ j : Nat, (-9223372036854775808) ≤ c118_t_4 j ∧ c118_t_4 j ≤ 9223372036854775807) → va_P D vwCl [(t, .inr (12, oX12 t_q 0 t_x6 t_x7 t_x8 t_x9 t_x10 t_x11 t_x12 t_x13 t_x14 t_x15 t_x32 t_x33 t_x34 t_x35 t_x39 t_x40 t_x43 t_x44 t_x48 t_x49 t_x50)), ((t_q 1), .inl (K 0, 4, .inl (fun j => iI (t_1_c j)))), ((t_q 2), .inl (K 0, 4, .inl (fun j => iI (t_2_c j)))), ((t_q 3), .inl (K 3, 240, .inr (.inl (fun j => lI (t_3_c j))))), ((t_q 4), .inl (K 3, 60, .inr (.inl (fun j => lI (c118_t_4 j)))))] H → va_D A [(t, .inr (12, oX12 t_q 0 t_x6 t_x7 t_x8 t_x9 t_x10 t_x11 t_x12 t_x13 t_x14 t_x15 t_x32 t_x33 t_x34 t_x35 t_x39 t_x40 t_x43 t_x44 t_x48 t_x49 t_x50)), ((t_q 1), .inl (K 0, 4, .inl (fun j => iI (t_1_c j)))), ((t_q 2), .inl (K 0, 4, .inl (fun j => iI (t_2_c j)))), ((t_q 3), .inl (K 3, 240, .inr (.inl (fun j => lI (t_3_c j))))), ((t_q 4), .inl (K 3, 60, .inr (.inl (fun j => lI (c118_t_4 j)))))] → va_S A s.heap H locs → lv_has ls 7 [(0, .ref t), (1, .int (iI p1)), (2, .int (iI p2)), (3, .int (iI p3)), (4, .int (iI p4)), (5, .int (iI p5)), (6, .int (iI x118_6))] → W p l e ({ frames := 12, cells := 0, slots := 0, locals := 300 } : Room) s m ag below meth c H locs 0 0 Q (F0 m 118 ls []) := by
    intro n
    induction n with
    | zero =>
      intro x118_6 c118_t_4 H locs ls hm118 hf118 hc118_t_4 hP hD hS hl
      exact absurd hm118 (Nat.not_lt_zero _)
    | succ n ih118 =>
      intro x118_6 c118_t_4 H locs ls hm118 hf118 hc118_t_4 hP hD hS hl
      refine lv_iload hx hb dX12_paste_118 (lv_at hl 6 rfl) ?_
      refine lv_iload hx hb dX12_paste_120 (lv_at hl 5 rfl) ?_
      refine g_icmp_ge (tgt := 152) hx hb (by omega) (by omega) dX12_paste_122 (by decide) (fun c122 => ?_) (fun c122 => ?_)
      · refine lv_iconst (v := iI 0) hx hb dX12_paste_152 rfl ?_
        refine lv_istore (lv' := [(6, .int (iI 0)), (0, .ref t), (1, .int (iI p1)), (2, .int (iI p2)), (3, .int (iI p3)), (4, .int (iI p4)), (5, .int (iI p5))]) hx hb dX12_paste_153 hl (by decide) rfl (fun ls hl => ?_)
        exact J155 _ 0 t_3_c c118_t_4 _ _ ls (Nat.lt_succ_self _) (by omega) hc_t_3 hc118_t_4 (hP.sub [0, 1, 2, 3, 4] rfl) (hD.sub [0, 1, 2, 3, 4] (by decide) rfl) hS (lv_sub hl [1, 2, 3, 4, 5, 6, 0] rfl)
      · refine lv_aload_n hx hb dX12_paste_125 rfl (lv_at hl 0 rfl) ?_
        refine va_get (D := D) (own := RX12) (ci := 12) (v := .ref (t_q 4)) (C := RX12) (T := TX12) (N := 51) hx hb hts inb_X12 hown hK.1 hP 0 rfl rfl 4 (by decide) (hts _ wd_1238) (fun _ h9 => h9) rfl dX12_paste_126 ?_
        refine lv_iload hx hb dX12_paste_129 (lv_at hl 6 rfl) ?_
        refine lv_aload_n hx hb dX12_paste_131 rfl (lv_at hl 0 rfl) ?_
        refine va_get (D := D) (own := RX12) (ci := 12) (v := .ref (t_q 3)) (C := RX12) (T := TX12) (N := 51) hx hb hts inb_X12 hown hK.1 hP 0 rfl rfl 3 (by decide) (hts _ wd_1237) (fun _ h9 => h9) rfl dX12_paste_132 ?_
        refine lv_bipush (v := iI 60) hx hb dX12_paste_135 (by decide) ?_
        refine lv_iload_n hx hb dX12_paste_137 rfl (lv_at hl 1 rfl) ?_
        refine g_imul hx hb dX12_paste_138 ?_
        refine lv_iload_n hx hb dX12_paste_139 rfl (lv_at hl 2 rfl) ?_
        refine g_iadd hx hb dX12_paste_140 ?_
        refine lv_iload hx hb dX12_paste_141 (lv_at hl 6 rfl) ?_
        refine g_iadd hx hb dX12_paste_143 ?_
        refine g_lald hx hb hK.1 hP 3 3 rfl rfl (by omega) (by omega) (by decide) dX12_paste_144 ?_
        have y144 : (-9223372036854775808) ≤ (t_3_c ((60 * p1 + p2 + x118_6).toNat)) ∧ (t_3_c ((60 * p1 + p2 + x118_6).toNat)) ≤ 9223372036854775807 := hc_t_3 ((60 * p1 + p2 + x118_6).toNat)
        refine g_last hx hb hK.1 hP hD hS 4 3 rfl rfl (by omega) (by omega) (by decide) dX12_paste_145 (fun H locs g145 eg145 hP hD hS => ?_)
        have hg145 : ∀ j : Nat, (-9223372036854775808) ≤ g145 j ∧ g145 j ≤ 9223372036854775807 := by rw [eg145]; exact uI_all hc118_t_4 (by omega)
        have hP : va_P D vwCl [(t, .inr (12, oX12 t_q 0 t_x6 t_x7 t_x8 t_x9 t_x10 t_x11 t_x12 t_x13 t_x14 t_x15 t_x32 t_x33 t_x34 t_x35 t_x39 t_x40 t_x43 t_x44 t_x48 t_x49 t_x50)), ((t_q 1), .inl (K 0, 4, .inl (fun j => iI (t_1_c j)))), ((t_q 2), .inl (K 0, 4, .inl (fun j => iI (t_2_c j)))), ((t_q 3), .inl (K 3, 240, .inr (.inl (fun j => lI (t_3_c j))))), ((t_q 4), .inl (K 3, 60, .inr (.inl (fun j => lI (g145 j)))))] H := hP
        have hD : va_D A [(t, .inr (12, oX12 t_q 0 t_x6 t_x7 t_x8 t_x9 t_x10 t_x11 t_x12 t_x13 t_x14 t_x15 t_x32 t_x33 t_x34 t_x35 t_x39 t_x40 t_x43 t_x44 t_x48 t_x49 t_x50)), ((t_q 1), .inl (K 0, 4, .inl (fun j => iI (t_1_c j)))), ((t_q 2), .inl (K 0, 4, .inl (fun j => iI (t_2_c j)))), ((t_q 3), .inl (K 3, 240, .inr (.inl (fun j => lI (t_3_c j))))), ((t_q 4), .inl (K 3, 60, .inr (.inl (fun j => lI (g145 j)))))] := hD
        refine lv_iinc (v := iI (x118_6 + 1)) (lv' := [(6, .int (iI (x118_6 + 1))), (0, .ref t), (1, .int (iI p1)), (2, .int (iI p2)), (3, .int (iI p3)), (4, .int (iI p4)), (5, .int (iI p5))]) hx hb dX12_paste_146 hl (k := 6) rfl (iI_add _ _) (by decide) rfl (fun ls hl => ?_)
        refine lv_goto (tgt := 118) hx hb dX12_paste_149 (by decide) ?_
        exact ih118 (x118_6 + 1) g145 _ _ ls (by omega) (by omega) hg145 (hP.sub [0, 1, 2, 3, 4] rfl) (hD.sub [0, 1, 2, 3, 4] (by decide) rfl) hS (lv_sub hl [1, 2, 3, 4, 5, 6, 0] rfl)
  have hl : lv_has ls 7 [(0, .ref t), (1, .int (iI p1)), (2, .int (iI p2)), (3, .int (iI p3)), (4, .int (iI p4)), (5, .int (iI p5))] := hl
  refine lv_aload_n hx hb dX12_paste_0 rfl (lv_at hl 0 rfl) ?_
  refine lv_iconst (v := iI 0) hx hb dX12_paste_1 rfl ?_
  refine va_put (D := D) (own := RX12) (ci := 12) (v := .int (iI 0)) (ty := .int) (C := RX12) (T := TX12) (N := 51) hx hb hts inb_X12 tyX12 tyX12_ok nmX12 hown hK.1 hP hD hS 0 rfl rfl 0 (by decide) (hts _ wd_1234) (fun _ h9 => h9) rfl (by decide +kernel) rfl rfl (Nat.le_of_ble_eq_true rfl) dX12_paste_2 (fun H locs hP hD hS => ?_)
  have hP : va_P D vwCl [(t, .inr (12, oX12 t_q 0 t_x6 t_x7 t_x8 t_x9 t_x10 t_x11 t_x12 t_x13 t_x14 t_x15 t_x32 t_x33 t_x34 t_x35 t_x39 t_x40 t_x43 t_x44 t_x48 t_x49 t_x50)), ((t_q 1), .inl (K 0, 4, .inl (fun j => iI (t_1_c j)))), ((t_q 2), .inl (K 0, 4, .inl (fun j => iI (t_2_c j)))), ((t_q 3), .inl (K 3, 240, .inr (.inl (fun j => lI (t_3_c j))))), ((t_q 4), .inl (K 3, 60, .inr (.inl (fun j => lI (t_4_c j)))))] H := hP
  have hD : va_D A [(t, .inr (12, oX12 t_q 0 t_x6 t_x7 t_x8 t_x9 t_x10 t_x11 t_x12 t_x13 t_x14 t_x15 t_x32 t_x33 t_x34 t_x35 t_x39 t_x40 t_x43 t_x44 t_x48 t_x49 t_x50)), ((t_q 1), .inl (K 0, 4, .inl (fun j => iI (t_1_c j)))), ((t_q 2), .inl (K 0, 4, .inl (fun j => iI (t_2_c j)))), ((t_q 3), .inl (K 3, 240, .inr (.inl (fun j => lI (t_3_c j))))), ((t_q 4), .inl (K 3, 60, .inr (.inl (fun j => lI (t_4_c j)))))] := hD
  refine lv_iload_n hx hb dX12_paste_5 rfl (lv_at hl 1 rfl) ?_
  refine fn_goi (wc := []) (wr := [(t, .inr (12, oX12 t_q 0 t_x6 t_x7 t_x8 t_x9 t_x10 t_x11 t_x12 t_x13 t_x14 t_x15 t_x32 t_x33 t_x34 t_x35 t_x39 t_x40 t_x43 t_x44 t_x48 t_x49 t_x50)), ((t_q 1), .inl (K 0, 4, .inl (fun j => iI (t_1_c j)))), ((t_q 2), .inl (K 0, 4, .inl (fun j => iI (t_2_c j)))), ((t_q 3), .inl (K 3, 240, .inr (.inl (fun j => lI (t_3_c j))))), ((t_q 4), .inl (K 3, 60, .inr (.inl (fun j => lI (t_4_c j)))))]) hK hP hD hS hA [] [0, 1, 2, 3, 4] rfl rfl (by decide) (fun hp => va_runS (As := [.int (iI p1)]) (rest := []) ⟨hx, hb, hml, hown, hts⟩ (k_X12_isSlot (l := l) (D := D) (K := K) (p1 := p1) (hp1 := (by omega)) _) (va_cwS 1 hts (fn_ginS (fn_gin wd_1394) wd_1392 wd_1393 wd_13) rfl rfl rfl (by decide +kernel) ⟨Nat.le_of_ble_eq_true rfl, Nat.le_of_ble_eq_true rfl⟩) ⟨fn_blind, hp⟩ rfl rfl hl.1 rfl (lv_room (Nat.le_of_ble_eq_true rfl)) dX12_paste_6 ⟨Nat.le_of_ble_eq_true rfl, Nat.le_of_ble_eq_true rfl⟩) (fun r6 u6 H locs hwu6 hP hD hS => ?_)
  obtain ⟨u6a, u6b⟩ := u6
  obtain ⟨kr6, rfl, hkr6, hqu60, -⟩ := hwu6
  have hqu6 : (kr6 = 1 → 0 ≤ p1 ∧ p1 ≤ 3) ∧ (kr6 = 0 → p1 < 0 ∨ 3 < p1) := hqu60
  clear hqu60
  have hP : va_P D vwCl [(t, .inr (12, oX12 t_q 0 t_x6 t_x7 t_x8 t_x9 t_x10 t_x11 t_x12 t_x13 t_x14 t_x15 t_x32 t_x33 t_x34 t_x35 t_x39 t_x40 t_x43 t_x44 t_x48 t_x49 t_x50)), ((t_q 1), .inl (K 0, 4, .inl (fun j => iI (t_1_c j)))), ((t_q 2), .inl (K 0, 4, .inl (fun j => iI (t_2_c j)))), ((t_q 3), .inl (K 3, 240, .inr (.inl (fun j => lI (t_3_c j))))), ((t_q 4), .inl (K 3, 60, .inr (.inl (fun j => lI (t_4_c j)))))] H := hP
  have hD : va_D A [(t, .inr (12, oX12 t_q 0 t_x6 t_x7 t_x8 t_x9 t_x10 t_x11 t_x12 t_x13 t_x14 t_x15 t_x32 t_x33 t_x34 t_x35 t_x39 t_x40 t_x43 t_x44 t_x48 t_x49 t_x50)), ((t_q 1), .inl (K 0, 4, .inl (fun j => iI (t_1_c j)))), ((t_q 2), .inl (K 0, 4, .inl (fun j => iI (t_2_c j)))), ((t_q 3), .inl (K 3, 240, .inr (.inl (fun j => lI (t_3_c j))))), ((t_q 4), .inl (K 3, 60, .inr (.inl (fun j => lI (t_4_c j)))))] := hD
  refine g_if_eq (tgt := 19) hx hb (by omega) dX12_paste_9 (by decide) (fun c9 => ?_) (fun c9 => ?_)
  · refine lv_bipush (v := iI (-2)) hx hb dX12_paste_19 (by decide) ?_
    rw [hQ]; exact fn_iret hx hb hr hlocks rfl hP hD hS ((fun k => ([0] : List Int).getD k 0), (fun k => ([t_3_c, t_4_c] : List (Nat → Int)).getD k (fun _ => 0))) ⟨(-2), rfl, by omega, (by show (-2147483648) ≤ 0 ∧ 0 ≤ 2147483647 ∧ ((p1 < 0 ∨ 3 < p1 ∨ p3 < 0 ∨ 3 < p3) → (-2 : Int) = -2) ∧ (0 ≤ p1 → p1 ≤ 3 → 0 ≤ p3 → p3 ≤ 3 → (t_1_c (Int.toNat p1) = -1 ∨ t_1_c (Int.toNat p3) = -1) → (-2 : Int) = -6) ∧ (0 ≤ p1 → p1 ≤ 3 → 0 ≤ p3 → p3 ≤ 3 → t_1_c (Int.toNat p1) ≠ -1 → t_1_c (Int.toNat p3) ≠ -1 → t_1_c (Int.toNat p1) ≠ t_1_c (Int.toNat p3) → (-2 : Int) = -8) ∧ (0 ≤ p1 → p1 ≤ 3 → 0 ≤ p3 → p3 ≤ 3 → t_1_c (Int.toNat p1) ≠ -1 → t_1_c (Int.toNat p3) ≠ -1 → t_1_c (Int.toNat p1) = t_1_c (Int.toNat p3) → ¬ (0 ≤ p2 ∧ 0 ≤ p4 ∧ 0 ≤ p5 ∧ p2 + p5 ≤ t_2_c (Int.toNat p1) ∧ p4 + p5 ≤ t_2_c (Int.toNat p3)) → (-2 : Int) = -7) ∧ (0 ≤ p1 → p1 ≤ 3 → 0 ≤ p3 → p3 ≤ 3 → t_1_c (Int.toNat p1) ≠ -1 → t_1_c (Int.toNat p3) ≠ -1 → t_1_c (Int.toNat p1) = t_1_c (Int.toNat p3) → (0 ≤ p2 ∧ 0 ≤ p4 ∧ 0 ≤ p5 ∧ p2 + p5 ≤ t_2_c (Int.toNat p1) ∧ p4 + p5 ≤ t_2_c (Int.toNat p3)) → (-2 : Int) = 0); omega), (hc_t_3), (hc_t_4), trivial⟩ [0, 1, 2, 3, 4] (by decide) rfl dX12_paste_21
  · refine lv_iload_n hx hb dX12_paste_12 rfl (lv_at hl 3 rfl) ?_
    refine fn_goi (wc := []) (wr := [(t, .inr (12, oX12 t_q 0 t_x6 t_x7 t_x8 t_x9 t_x10 t_x11 t_x12 t_x13 t_x14 t_x15 t_x32 t_x33 t_x34 t_x35 t_x39 t_x40 t_x43 t_x44 t_x48 t_x49 t_x50)), ((t_q 1), .inl (K 0, 4, .inl (fun j => iI (t_1_c j)))), ((t_q 2), .inl (K 0, 4, .inl (fun j => iI (t_2_c j)))), ((t_q 3), .inl (K 3, 240, .inr (.inl (fun j => lI (t_3_c j))))), ((t_q 4), .inl (K 3, 60, .inr (.inl (fun j => lI (t_4_c j)))))]) hK hP hD hS hA [] [0, 1, 2, 3, 4] rfl rfl (by decide) (fun hp => va_runS (As := [.int (iI p3)]) (rest := []) ⟨hx, hb, hml, hown, hts⟩ (k_X12_isSlot (l := l) (D := D) (K := K) (p1 := p3) (hp1 := (by omega)) _) (va_cwS 1 hts (fn_ginS (fn_gin wd_1394) wd_1392 wd_1393 wd_13) rfl rfl rfl (by decide +kernel) ⟨Nat.le_of_ble_eq_true rfl, Nat.le_of_ble_eq_true rfl⟩) ⟨fn_blind, hp⟩ rfl rfl hl.1 rfl (lv_room (Nat.le_of_ble_eq_true rfl)) dX12_paste_13 ⟨Nat.le_of_ble_eq_true rfl, Nat.le_of_ble_eq_true rfl⟩) (fun r13 u13 H locs hwu13 hP hD hS => ?_)
    obtain ⟨u13a, u13b⟩ := u13
    obtain ⟨kr13, rfl, hkr13, hqu130, -⟩ := hwu13
    have hqu13 : (kr13 = 1 → 0 ≤ p3 ∧ p3 ≤ 3) ∧ (kr13 = 0 → p3 < 0 ∨ 3 < p3) := hqu130
    clear hqu130
    have hP : va_P D vwCl [(t, .inr (12, oX12 t_q 0 t_x6 t_x7 t_x8 t_x9 t_x10 t_x11 t_x12 t_x13 t_x14 t_x15 t_x32 t_x33 t_x34 t_x35 t_x39 t_x40 t_x43 t_x44 t_x48 t_x49 t_x50)), ((t_q 1), .inl (K 0, 4, .inl (fun j => iI (t_1_c j)))), ((t_q 2), .inl (K 0, 4, .inl (fun j => iI (t_2_c j)))), ((t_q 3), .inl (K 3, 240, .inr (.inl (fun j => lI (t_3_c j))))), ((t_q 4), .inl (K 3, 60, .inr (.inl (fun j => lI (t_4_c j)))))] H := hP
    have hD : va_D A [(t, .inr (12, oX12 t_q 0 t_x6 t_x7 t_x8 t_x9 t_x10 t_x11 t_x12 t_x13 t_x14 t_x15 t_x32 t_x33 t_x34 t_x35 t_x39 t_x40 t_x43 t_x44 t_x48 t_x49 t_x50)), ((t_q 1), .inl (K 0, 4, .inl (fun j => iI (t_1_c j)))), ((t_q 2), .inl (K 0, 4, .inl (fun j => iI (t_2_c j)))), ((t_q 3), .inl (K 3, 240, .inr (.inl (fun j => lI (t_3_c j))))), ((t_q 4), .inl (K 3, 60, .inr (.inl (fun j => lI (t_4_c j)))))] := hD
    refine g_if_ne (tgt := 22) hx hb (by omega) dX12_paste_16 (by decide) (fun c16 => ?_) (fun c16 => ?_)
    · refine lv_aload_n hx hb dX12_paste_22 rfl (lv_at hl 0 rfl) ?_
      refine va_get (D := D) (own := RX12) (ci := 12) (v := .ref (t_q 1)) (C := RX12) (T := TX12) (N := 51) hx hb hts inb_X12 hown hK.1 hP 0 rfl rfl 1 (by decide) (hts _ wd_1235) (fun _ h9 => h9) rfl dX12_paste_23 ?_
      refine lv_iload_n hx hb dX12_paste_26 rfl (lv_at hl 1 rfl) ?_
      refine g_iald hx hb hK.1 hP 1 0 rfl rfl (by omega) (by omega) (by decide) dX12_paste_27 ?_
      have y27 : (-1) ≤ (t_1_c p1.toNat) ∧ (t_1_c p1.toNat) ≤ 3 := hc_t_1 p1.toNat
      refine lv_iconst (v := iI (-1)) hx hb dX12_paste_28 rfl ?_
      refine g_icmp_eq (tgt := 42) hx hb (by omega) (by omega) dX12_paste_29 (by decide) (fun c29 => ?_) (fun c29 => ?_)
      · refine lv_bipush (v := iI (-6)) hx hb dX12_paste_42 (by decide) ?_
        rw [hQ]; exact fn_iret hx hb hr hlocks rfl hP hD hS ((fun k => ([0] : List Int).getD k 0), (fun k => ([t_3_c, t_4_c] : List (Nat → Int)).getD k (fun _ => 0))) ⟨(-6), rfl, by omega, (by show (-2147483648) ≤ 0 ∧ 0 ≤ 2147483647 ∧ ((p1 < 0 ∨ 3 < p1 ∨ p3 < 0 ∨ 3 < p3) → (-6 : Int) = -2) ∧ (0 ≤ p1 → p1 ≤ 3 → 0 ≤ p3 → p3 ≤ 3 → (t_1_c (Int.toNat p1) = -1 ∨ t_1_c (Int.toNat p3) = -1) → (-6 : Int) = -6) ∧ (0 ≤ p1 → p1 ≤ 3 → 0 ≤ p3 → p3 ≤ 3 → t_1_c (Int.toNat p1) ≠ -1 → t_1_c (Int.toNat p3) ≠ -1 → t_1_c (Int.toNat p1) ≠ t_1_c (Int.toNat p3) → (-6 : Int) = -8) ∧ (0 ≤ p1 → p1 ≤ 3 → 0 ≤ p3 → p3 ≤ 3 → t_1_c (Int.toNat p1) ≠ -1 → t_1_c (Int.toNat p3) ≠ -1 → t_1_c (Int.toNat p1) = t_1_c (Int.toNat p3) → ¬ (0 ≤ p2 ∧ 0 ≤ p4 ∧ 0 ≤ p5 ∧ p2 + p5 ≤ t_2_c (Int.toNat p1) ∧ p4 + p5 ≤ t_2_c (Int.toNat p3)) → (-6 : Int) = -7) ∧ (0 ≤ p1 → p1 ≤ 3 → 0 ≤ p3 → p3 ≤ 3 → t_1_c (Int.toNat p1) ≠ -1 → t_1_c (Int.toNat p3) ≠ -1 → t_1_c (Int.toNat p1) = t_1_c (Int.toNat p3) → (0 ≤ p2 ∧ 0 ≤ p4 ∧ 0 ≤ p5 ∧ p2 + p5 ≤ t_2_c (Int.toNat p1) ∧ p4 + p5 ≤ t_2_c (Int.toNat p3)) → (-6 : Int) = 0); omega), (hc_t_3), (hc_t_4), trivial⟩ [0, 1, 2, 3, 4] (by decide) rfl dX12_paste_44
      · refine lv_aload_n hx hb dX12_paste_32 rfl (lv_at hl 0 rfl) ?_
        refine va_get (D := D) (own := RX12) (ci := 12) (v := .ref (t_q 1)) (C := RX12) (T := TX12) (N := 51) hx hb hts inb_X12 hown hK.1 hP 0 rfl rfl 1 (by decide) (hts _ wd_1235) (fun _ h9 => h9) rfl dX12_paste_33 ?_
        refine lv_iload_n hx hb dX12_paste_36 rfl (lv_at hl 3 rfl) ?_
        refine g_iald hx hb hK.1 hP 1 0 rfl rfl (by omega) (by omega) (by decide) dX12_paste_37 ?_
        have y37 : (-1) ≤ (t_1_c p3.toNat) ∧ (t_1_c p3.toNat) ≤ 3 := hc_t_1 p3.toNat
        refine fn_at 38 rfl ?_
        refine lv_iconst (v := iI (-1)) hx hb dX12_paste_38 rfl ?_
        refine g_icmp_ne (tgt := 45) hx hb (by omega) (by omega) dX12_paste_39 (by decide) (fun c39 => ?_) (fun c39 => ?_)
        · refine lv_aload_n hx hb dX12_paste_45 rfl (lv_at hl 0 rfl) ?_
          refine va_get (D := D) (own := RX12) (ci := 12) (v := .ref (t_q 1)) (C := RX12) (T := TX12) (N := 51) hx hb hts inb_X12 hown hK.1 hP 0 rfl rfl 1 (by decide) (hts _ wd_1235) (fun _ h9 => h9) rfl dX12_paste_46 ?_
          refine lv_iload_n hx hb dX12_paste_49 rfl (lv_at hl 1 rfl) ?_
          refine g_iald hx hb hK.1 hP 1 0 rfl rfl (by omega) (by omega) (by decide) dX12_paste_50 ?_
          refine lv_aload_n hx hb dX12_paste_51 rfl (lv_at hl 0 rfl) ?_
          refine va_get (D := D) (own := RX12) (ci := 12) (v := .ref (t_q 1)) (C := RX12) (T := TX12) (N := 51) hx hb hts inb_X12 hown hK.1 hP 0 rfl rfl 1 (by decide) (hts _ wd_1235) (fun _ h9 => h9) rfl dX12_paste_52 ?_
          refine lv_iload_n hx hb dX12_paste_55 rfl (lv_at hl 3 rfl) ?_
          refine g_iald hx hb hK.1 hP 1 0 rfl rfl (by omega) (by omega) (by decide) dX12_paste_56 ?_
          refine g_icmp_eq (tgt := 63) hx hb (by omega) (by omega) dX12_paste_57 (by decide) (fun c57 => ?_) (fun c57 => ?_)
          · refine lv_iload_n hx hb dX12_paste_63 rfl (lv_at hl 2 rfl) ?_
            refine g_if_lt (tgt := 112) hx hb (by omega) dX12_paste_64 (by decide) (fun c64 => ?_) (fun c64 => ?_)
            · refine lv_bipush (v := iI (-7)) hx hb dX12_paste_112 (by decide) ?_
              rw [hQ]; exact fn_iret hx hb hr hlocks rfl hP hD hS ((fun k => ([0] : List Int).getD k 0), (fun k => ([t_3_c, t_4_c] : List (Nat → Int)).getD k (fun _ => 0))) ⟨(-7), rfl, by omega, (by show (-2147483648) ≤ 0 ∧ 0 ≤ 2147483647 ∧ ((p1 < 0 ∨ 3 < p1 ∨ p3 < 0 ∨ 3 < p3) → (-7 : Int) = -2) ∧ (0 ≤ p1 → p1 ≤ 3 → 0 ≤ p3 → p3 ≤ 3 → (t_1_c (Int.toNat p1) = -1 ∨ t_1_c (Int.toNat p3) = -1) → (-7 : Int) = -6) ∧ (0 ≤ p1 → p1 ≤ 3 → 0 ≤ p3 → p3 ≤ 3 → t_1_c (Int.toNat p1) ≠ -1 → t_1_c (Int.toNat p3) ≠ -1 → t_1_c (Int.toNat p1) ≠ t_1_c (Int.toNat p3) → (-7 : Int) = -8) ∧ (0 ≤ p1 → p1 ≤ 3 → 0 ≤ p3 → p3 ≤ 3 → t_1_c (Int.toNat p1) ≠ -1 → t_1_c (Int.toNat p3) ≠ -1 → t_1_c (Int.toNat p1) = t_1_c (Int.toNat p3) → ¬ (0 ≤ p2 ∧ 0 ≤ p4 ∧ 0 ≤ p5 ∧ p2 + p5 ≤ t_2_c (Int.toNat p1) ∧ p4 + p5 ≤ t_2_c (Int.toNat p3)) → (-7 : Int) = -7) ∧ (0 ≤ p1 → p1 ≤ 3 → 0 ≤ p3 → p3 ≤ 3 → t_1_c (Int.toNat p1) ≠ -1 → t_1_c (Int.toNat p3) ≠ -1 → t_1_c (Int.toNat p1) = t_1_c (Int.toNat p3) → (0 ≤ p2 ∧ 0 ≤ p4 ∧ 0 ≤ p5 ∧ p2 + p5 ≤ t_2_c (Int.toNat p1) ∧ p4 + p5 ≤ t_2_c (Int.toNat p3)) → (-7 : Int) = 0); omega), (hc_t_3), (hc_t_4), trivial⟩ [0, 1, 2, 3, 4] (by decide) rfl dX12_paste_114
            · refine lv_iload hx hb dX12_paste_67 (lv_at hl 4 rfl) ?_
              refine g_if_lt (tgt := 112) hx hb (by omega) dX12_paste_69 (by decide) (fun c69 => ?_) (fun c69 => ?_)
              · refine lv_bipush (v := iI (-7)) hx hb dX12_paste_112 (by decide) ?_
                rw [hQ]; exact fn_iret hx hb hr hlocks rfl hP hD hS ((fun k => ([0] : List Int).getD k 0), (fun k => ([t_3_c, t_4_c] : List (Nat → Int)).getD k (fun _ => 0))) ⟨(-7), rfl, by omega, (by show (-2147483648) ≤ 0 ∧ 0 ≤ 2147483647 ∧ ((p1 < 0 ∨ 3 < p1 ∨ p3 < 0 ∨ 3 < p3) → (-7 : Int) = -2) ∧ (0 ≤ p1 → p1 ≤ 3 → 0 ≤ p3 → p3 ≤ 3 → (t_1_c (Int.toNat p1) = -1 ∨ t_1_c (Int.toNat p3) = -1) → (-7 : Int) = -6) ∧ (0 ≤ p1 → p1 ≤ 3 → 0 ≤ p3 → p3 ≤ 3 → t_1_c (Int.toNat p1) ≠ -1 → t_1_c (Int.toNat p3) ≠ -1 → t_1_c (Int.toNat p1) ≠ t_1_c (Int.toNat p3) → (-7 : Int) = -8) ∧ (0 ≤ p1 → p1 ≤ 3 → 0 ≤ p3 → p3 ≤ 3 → t_1_c (Int.toNat p1) ≠ -1 → t_1_c (Int.toNat p3) ≠ -1 → t_1_c (Int.toNat p1) = t_1_c (Int.toNat p3) → ¬ (0 ≤ p2 ∧ 0 ≤ p4 ∧ 0 ≤ p5 ∧ p2 + p5 ≤ t_2_c (Int.toNat p1) ∧ p4 + p5 ≤ t_2_c (Int.toNat p3)) → (-7 : Int) = -7) ∧ (0 ≤ p1 → p1 ≤ 3 → 0 ≤ p3 → p3 ≤ 3 → t_1_c (Int.toNat p1) ≠ -1 → t_1_c (Int.toNat p3) ≠ -1 → t_1_c (Int.toNat p1) = t_1_c (Int.toNat p3) → (0 ≤ p2 ∧ 0 ≤ p4 ∧ 0 ≤ p5 ∧ p2 + p5 ≤ t_2_c (Int.toNat p1) ∧ p4 + p5 ≤ t_2_c (Int.toNat p3)) → (-7 : Int) = 0); omega), (hc_t_3), (hc_t_4), trivial⟩ [0, 1, 2, 3, 4] (by decide) rfl dX12_paste_114
              · refine lv_iload hx hb dX12_paste_72 (lv_at hl 5 rfl) ?_
                refine g_if_lt (tgt := 112) hx hb (by omega) dX12_paste_74 (by decide) (fun c74 => ?_) (fun c74 => ?_)
                · refine lv_bipush (v := iI (-7)) hx hb dX12_paste_112 (by decide) ?_
                  rw [hQ]; exact fn_iret hx hb hr hlocks rfl hP hD hS ((fun k => ([0] : List Int).getD k 0), (fun k => ([t_3_c, t_4_c] : List (Nat → Int)).getD k (fun _ => 0))) ⟨(-7), rfl, by omega, (by show (-2147483648) ≤ 0 ∧ 0 ≤ 2147483647 ∧ ((p1 < 0 ∨ 3 < p1 ∨ p3 < 0 ∨ 3 < p3) → (-7 : Int) = -2) ∧ (0 ≤ p1 → p1 ≤ 3 → 0 ≤ p3 → p3 ≤ 3 → (t_1_c (Int.toNat p1) = -1 ∨ t_1_c (Int.toNat p3) = -1) → (-7 : Int) = -6) ∧ (0 ≤ p1 → p1 ≤ 3 → 0 ≤ p3 → p3 ≤ 3 → t_1_c (Int.toNat p1) ≠ -1 → t_1_c (Int.toNat p3) ≠ -1 → t_1_c (Int.toNat p1) ≠ t_1_c (Int.toNat p3) → (-7 : Int) = -8) ∧ (0 ≤ p1 → p1 ≤ 3 → 0 ≤ p3 → p3 ≤ 3 → t_1_c (Int.toNat p1) ≠ -1 → t_1_c (Int.toNat p3) ≠ -1 → t_1_c (Int.toNat p1) = t_1_c (Int.toNat p3) → ¬ (0 ≤ p2 ∧ 0 ≤ p4 ∧ 0 ≤ p5 ∧ p2 + p5 ≤ t_2_c (Int.toNat p1) ∧ p4 + p5 ≤ t_2_c (Int.toNat p3)) → (-7 : Int) = -7) ∧ (0 ≤ p1 → p1 ≤ 3 → 0 ≤ p3 → p3 ≤ 3 → t_1_c (Int.toNat p1) ≠ -1 → t_1_c (Int.toNat p3) ≠ -1 → t_1_c (Int.toNat p1) = t_1_c (Int.toNat p3) → (0 ≤ p2 ∧ 0 ≤ p4 ∧ 0 ≤ p5 ∧ p2 + p5 ≤ t_2_c (Int.toNat p1) ∧ p4 + p5 ≤ t_2_c (Int.toNat p3)) → (-7 : Int) = 0); omega), (hc_t_3), (hc_t_4), trivial⟩ [0, 1, 2, 3, 4] (by decide) rfl dX12_paste_114
                · refine lv_iload_n hx hb dX12_paste_77 rfl (lv_at hl 2 rfl) ?_
                  refine lv_i2l (v := lI p2) hx hb dX12_paste_78 (iI_2l (by omega)) ?_
                  refine lv_iload hx hb dX12_paste_79 (lv_at hl 5 rfl) ?_
                  refine fn_at 81 rfl ?_
                  refine lv_i2l (v := lI p5) hx hb dX12_paste_81 (iI_2l (by omega)) ?_
                  refine g_ladd hx hb dX12_paste_82 ?_
                  refine lv_aload_n hx hb dX12_paste_83 rfl (lv_at hl 0 rfl) ?_
                  refine va_get (D := D) (own := RX12) (ci := 12) (v := .ref (t_q 2)) (C := RX12) (T := TX12) (N := 51) hx hb hts inb_X12 hown hK.1 hP 0 rfl rfl 2 (by decide) (hts _ wd_1236) (fun _ h9 => h9) rfl dX12_paste_84 ?_
                  refine lv_iload_n hx hb dX12_paste_87 rfl (lv_at hl 1 rfl) ?_
                  refine g_iald hx hb hK.1 hP 2 0 rfl rfl (by omega) (by omega) (by decide) dX12_paste_88 ?_
                  have y88 : 0 ≤ (t_2_c p1.toNat) ∧ (t_2_c p1.toNat) ≤ 60 := hc_t_2 p1.toNat
                  refine lv_i2l (v := lI (t_2_c p1.toNat)) hx hb dX12_paste_89 (iI_2l (by omega)) ?_
                  refine W.lcmp hx hb dX12_paste_90 ?_
                  refine g_lif_gt (tgt := 112) hx hb (by omega) (by omega) dX12_paste_91 (by decide) (fun c91 => ?_) (fun c91 => ?_)
                  · refine lv_bipush (v := iI (-7)) hx hb dX12_paste_112 (by decide) ?_
                    rw [hQ]; exact fn_iret hx hb hr hlocks rfl hP hD hS ((fun k => ([0] : List Int).getD k 0), (fun k => ([t_3_c, t_4_c] : List (Nat → Int)).getD k (fun _ => 0))) ⟨(-7), rfl, by omega, (by show (-2147483648) ≤ 0 ∧ 0 ≤ 2147483647 ∧ ((p1 < 0 ∨ 3 < p1 ∨ p3 < 0 ∨ 3 < p3) → (-7 : Int) = -2) ∧ (0 ≤ p1 → p1 ≤ 3 → 0 ≤ p3 → p3 ≤ 3 → (t_1_c (Int.toNat p1) = -1 ∨ t_1_c (Int.toNat p3) = -1) → (-7 : Int) = -6) ∧ (0 ≤ p1 → p1 ≤ 3 → 0 ≤ p3 → p3 ≤ 3 → t_1_c (Int.toNat p1) ≠ -1 → t_1_c (Int.toNat p3) ≠ -1 → t_1_c (Int.toNat p1) ≠ t_1_c (Int.toNat p3) → (-7 : Int) = -8) ∧ (0 ≤ p1 → p1 ≤ 3 → 0 ≤ p3 → p3 ≤ 3 → t_1_c (Int.toNat p1) ≠ -1 → t_1_c (Int.toNat p3) ≠ -1 → t_1_c (Int.toNat p1) = t_1_c (Int.toNat p3) → ¬ (0 ≤ p2 ∧ 0 ≤ p4 ∧ 0 ≤ p5 ∧ p2 + p5 ≤ t_2_c (Int.toNat p1) ∧ p4 + p5 ≤ t_2_c (Int.toNat p3)) → (-7 : Int) = -7) ∧ (0 ≤ p1 → p1 ≤ 3 → 0 ≤ p3 → p3 ≤ 3 → t_1_c (Int.toNat p1) ≠ -1 → t_1_c (Int.toNat p3) ≠ -1 → t_1_c (Int.toNat p1) = t_1_c (Int.toNat p3) → (0 ≤ p2 ∧ 0 ≤ p4 ∧ 0 ≤ p5 ∧ p2 + p5 ≤ t_2_c (Int.toNat p1) ∧ p4 + p5 ≤ t_2_c (Int.toNat p3)) → (-7 : Int) = 0); omega), (hc_t_3), (hc_t_4), trivial⟩ [0, 1, 2, 3, 4] (by decide) rfl dX12_paste_114
                  · refine lv_iload hx hb dX12_paste_94 (lv_at hl 4 rfl) ?_
                    refine lv_i2l (v := lI p4) hx hb dX12_paste_96 (iI_2l (by omega)) ?_
                    refine lv_iload hx hb dX12_paste_97 (lv_at hl 5 rfl) ?_
                    refine lv_i2l (v := lI p5) hx hb dX12_paste_99 (iI_2l (by omega)) ?_
                    refine g_ladd hx hb dX12_paste_100 ?_
                    refine lv_aload_n hx hb dX12_paste_101 rfl (lv_at hl 0 rfl) ?_
                    refine va_get (D := D) (own := RX12) (ci := 12) (v := .ref (t_q 2)) (C := RX12) (T := TX12) (N := 51) hx hb hts inb_X12 hown hK.1 hP 0 rfl rfl 2 (by decide) (hts _ wd_1236) (fun _ h9 => h9) rfl dX12_paste_102 ?_
                    refine lv_iload_n hx hb dX12_paste_105 rfl (lv_at hl 3 rfl) ?_
                    refine g_iald hx hb hK.1 hP 2 0 rfl rfl (by omega) (by omega) (by decide) dX12_paste_106 ?_
                    have y106 : 0 ≤ (t_2_c p3.toNat) ∧ (t_2_c p3.toNat) ≤ 60 := hc_t_2 p3.toNat
                    refine lv_i2l (v := lI (t_2_c p3.toNat)) hx hb dX12_paste_107 (iI_2l (by omega)) ?_
                    refine W.lcmp hx hb dX12_paste_108 ?_
                    refine g_lif_le (tgt := 115) hx hb (by omega) (by omega) dX12_paste_109 (by decide) (fun c109 => ?_) (fun c109 => ?_)
                    · refine lv_iconst (v := iI 0) hx hb dX12_paste_115 rfl ?_
                      refine fn_at 116 rfl ?_
                      refine lv_istore (lv' := [(6, .int (iI 0)), (0, .ref t), (1, .int (iI p1)), (2, .int (iI p2)), (3, .int (iI p3)), (4, .int (iI p4)), (5, .int (iI p5))]) hx hb dX12_paste_116 hl (by decide) rfl (fun ls hl => ?_)
                      exact J118 _ 0 t_4_c _ _ ls (Nat.lt_succ_self _) (by omega) hc_t_4 (hP.sub [0, 1, 2, 3, 4] rfl) (hD.sub [0, 1, 2, 3, 4] (by decide) rfl) hS (lv_sub hl [1, 2, 3, 4, 5, 6, 0] rfl)
                    · refine lv_bipush (v := iI (-7)) hx hb dX12_paste_112 (by decide) ?_
                      refine fn_at 114 rfl ?_
                      rw [hQ]; exact fn_iret hx hb hr hlocks rfl hP hD hS ((fun k => ([0] : List Int).getD k 0), (fun k => ([t_3_c, t_4_c] : List (Nat → Int)).getD k (fun _ => 0))) ⟨(-7), rfl, by omega, (by show (-2147483648) ≤ 0 ∧ 0 ≤ 2147483647 ∧ ((p1 < 0 ∨ 3 < p1 ∨ p3 < 0 ∨ 3 < p3) → (-7 : Int) = -2) ∧ (0 ≤ p1 → p1 ≤ 3 → 0 ≤ p3 → p3 ≤ 3 → (t_1_c (Int.toNat p1) = -1 ∨ t_1_c (Int.toNat p3) = -1) → (-7 : Int) = -6) ∧ (0 ≤ p1 → p1 ≤ 3 → 0 ≤ p3 → p3 ≤ 3 → t_1_c (Int.toNat p1) ≠ -1 → t_1_c (Int.toNat p3) ≠ -1 → t_1_c (Int.toNat p1) ≠ t_1_c (Int.toNat p3) → (-7 : Int) = -8) ∧ (0 ≤ p1 → p1 ≤ 3 → 0 ≤ p3 → p3 ≤ 3 → t_1_c (Int.toNat p1) ≠ -1 → t_1_c (Int.toNat p3) ≠ -1 → t_1_c (Int.toNat p1) = t_1_c (Int.toNat p3) → ¬ (0 ≤ p2 ∧ 0 ≤ p4 ∧ 0 ≤ p5 ∧ p2 + p5 ≤ t_2_c (Int.toNat p1) ∧ p4 + p5 ≤ t_2_c (Int.toNat p3)) → (-7 : Int) = -7) ∧ (0 ≤ p1 → p1 ≤ 3 → 0 ≤ p3 → p3 ≤ 3 → t_1_c (Int.toNat p1) ≠ -1 → t_1_c (Int.toNat p3) ≠ -1 → t_1_c (Int.toNat p1) = t_1_c (Int.toNat p3) → (0 ≤ p2 ∧ 0 ≤ p4 ∧ 0 ≤ p5 ∧ p2 + p5 ≤ t_2_c (Int.toNat p1) ∧ p4 + p5 ≤ t_2_c (Int.toNat p3)) → (-7 : Int) = 0); omega), (hc_t_3), (hc_t_4), trivial⟩ [0, 1, 2, 3, 4] (by decide) rfl dX12_paste_114
          · refine lv_bipush (v := iI (-8)) hx hb dX12_paste_60 (by decide) ?_
            rw [hQ]; exact fn_iret hx hb hr hlocks rfl hP hD hS ((fun k => ([0] : List Int).getD k 0), (fun k => ([t_3_c, t_4_c] : List (Nat → Int)).getD k (fun _ => 0))) ⟨(-8), rfl, by omega, (by show (-2147483648) ≤ 0 ∧ 0 ≤ 2147483647 ∧ ((p1 < 0 ∨ 3 < p1 ∨ p3 < 0 ∨ 3 < p3) → (-8 : Int) = -2) ∧ (0 ≤ p1 → p1 ≤ 3 → 0 ≤ p3 → p3 ≤ 3 → (t_1_c (Int.toNat p1) = -1 ∨ t_1_c (Int.toNat p3) = -1) → (-8 : Int) = -6) ∧ (0 ≤ p1 → p1 ≤ 3 → 0 ≤ p3 → p3 ≤ 3 → t_1_c (Int.toNat p1) ≠ -1 → t_1_c (Int.toNat p3) ≠ -1 → t_1_c (Int.toNat p1) ≠ t_1_c (Int.toNat p3) → (-8 : Int) = -8) ∧ (0 ≤ p1 → p1 ≤ 3 → 0 ≤ p3 → p3 ≤ 3 → t_1_c (Int.toNat p1) ≠ -1 → t_1_c (Int.toNat p3) ≠ -1 → t_1_c (Int.toNat p1) = t_1_c (Int.toNat p3) → ¬ (0 ≤ p2 ∧ 0 ≤ p4 ∧ 0 ≤ p5 ∧ p2 + p5 ≤ t_2_c (Int.toNat p1) ∧ p4 + p5 ≤ t_2_c (Int.toNat p3)) → (-8 : Int) = -7) ∧ (0 ≤ p1 → p1 ≤ 3 → 0 ≤ p3 → p3 ≤ 3 → t_1_c (Int.toNat p1) ≠ -1 → t_1_c (Int.toNat p3) ≠ -1 → t_1_c (Int.toNat p1) = t_1_c (Int.toNat p3) → (0 ≤ p2 ∧ 0 ≤ p4 ∧ 0 ≤ p5 ∧ p2 + p5 ≤ t_2_c (Int.toNat p1) ∧ p4 + p5 ≤ t_2_c (Int.toNat p3)) → (-8 : Int) = 0); omega), (hc_t_3), (hc_t_4), trivial⟩ [0, 1, 2, 3, 4] (by decide) rfl dX12_paste_62
        · refine lv_bipush (v := iI (-6)) hx hb dX12_paste_42 (by decide) ?_
          rw [hQ]; exact fn_iret hx hb hr hlocks rfl hP hD hS ((fun k => ([0] : List Int).getD k 0), (fun k => ([t_3_c, t_4_c] : List (Nat → Int)).getD k (fun _ => 0))) ⟨(-6), rfl, by omega, (by show (-2147483648) ≤ 0 ∧ 0 ≤ 2147483647 ∧ ((p1 < 0 ∨ 3 < p1 ∨ p3 < 0 ∨ 3 < p3) → (-6 : Int) = -2) ∧ (0 ≤ p1 → p1 ≤ 3 → 0 ≤ p3 → p3 ≤ 3 → (t_1_c (Int.toNat p1) = -1 ∨ t_1_c (Int.toNat p3) = -1) → (-6 : Int) = -6) ∧ (0 ≤ p1 → p1 ≤ 3 → 0 ≤ p3 → p3 ≤ 3 → t_1_c (Int.toNat p1) ≠ -1 → t_1_c (Int.toNat p3) ≠ -1 → t_1_c (Int.toNat p1) ≠ t_1_c (Int.toNat p3) → (-6 : Int) = -8) ∧ (0 ≤ p1 → p1 ≤ 3 → 0 ≤ p3 → p3 ≤ 3 → t_1_c (Int.toNat p1) ≠ -1 → t_1_c (Int.toNat p3) ≠ -1 → t_1_c (Int.toNat p1) = t_1_c (Int.toNat p3) → ¬ (0 ≤ p2 ∧ 0 ≤ p4 ∧ 0 ≤ p5 ∧ p2 + p5 ≤ t_2_c (Int.toNat p1) ∧ p4 + p5 ≤ t_2_c (Int.toNat p3)) → (-6 : Int) = -7) ∧ (0 ≤ p1 → p1 ≤ 3 → 0 ≤ p3 → p3 ≤ 3 → t_1_c (Int.toNat p1) ≠ -1 → t_1_c (Int.toNat p3) ≠ -1 → t_1_c (Int.toNat p1) = t_1_c (Int.toNat p3) → (0 ≤ p2 ∧ 0 ≤ p4 ∧ 0 ≤ p5 ∧ p2 + p5 ≤ t_2_c (Int.toNat p1) ∧ p4 + p5 ≤ t_2_c (Int.toNat p3)) → (-6 : Int) = 0); omega), (hc_t_3), (hc_t_4), trivial⟩ [0, 1, 2, 3, 4] (by decide) rfl dX12_paste_44
    · refine lv_bipush (v := iI (-2)) hx hb dX12_paste_19 (by decide) ?_
      rw [hQ]; exact fn_iret hx hb hr hlocks rfl hP hD hS ((fun k => ([0] : List Int).getD k 0), (fun k => ([t_3_c, t_4_c] : List (Nat → Int)).getD k (fun _ => 0))) ⟨(-2), rfl, by omega, (by show (-2147483648) ≤ 0 ∧ 0 ≤ 2147483647 ∧ ((p1 < 0 ∨ 3 < p1 ∨ p3 < 0 ∨ 3 < p3) → (-2 : Int) = -2) ∧ (0 ≤ p1 → p1 ≤ 3 → 0 ≤ p3 → p3 ≤ 3 → (t_1_c (Int.toNat p1) = -1 ∨ t_1_c (Int.toNat p3) = -1) → (-2 : Int) = -6) ∧ (0 ≤ p1 → p1 ≤ 3 → 0 ≤ p3 → p3 ≤ 3 → t_1_c (Int.toNat p1) ≠ -1 → t_1_c (Int.toNat p3) ≠ -1 → t_1_c (Int.toNat p1) ≠ t_1_c (Int.toNat p3) → (-2 : Int) = -8) ∧ (0 ≤ p1 → p1 ≤ 3 → 0 ≤ p3 → p3 ≤ 3 → t_1_c (Int.toNat p1) ≠ -1 → t_1_c (Int.toNat p3) ≠ -1 → t_1_c (Int.toNat p1) = t_1_c (Int.toNat p3) → ¬ (0 ≤ p2 ∧ 0 ≤ p4 ∧ 0 ≤ p5 ∧ p2 + p5 ≤ t_2_c (Int.toNat p1) ∧ p4 + p5 ≤ t_2_c (Int.toNat p3)) → (-2 : Int) = -7) ∧ (0 ≤ p1 → p1 ≤ 3 → 0 ≤ p3 → p3 ≤ 3 → t_1_c (Int.toNat p1) ≠ -1 → t_1_c (Int.toNat p3) ≠ -1 → t_1_c (Int.toNat p1) = t_1_c (Int.toNat p3) → (0 ≤ p2 ∧ 0 ≤ p4 ∧ 0 ≤ p5 ∧ p2 + p5 ≤ t_2_c (Int.toNat p1) ∧ p4 + p5 ≤ t_2_c (Int.toNat p3)) → (-2 : Int) = 0); omega), (hc_t_3), (hc_t_4), trivial⟩ [0, 1, 2, 3, 4] (by decide) rfl dX12_paste_21
