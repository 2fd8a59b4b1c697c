theorem wd_1108 : Cond.code ⟨"FootNotes", "third", "(II)I"⟩ prog_1_method_61_code 8 (Option.some Jvm.ClassFile.FieldType.int) ∈ fn_big := fn_tb (fn_l5 (List.mem_of_getElem? (i := 148) (by decide +kernel))) (by decide +kernel)
theorem wd_1105 : Cond.methodLink "FootNotes" 391 ⟨"FootNotes", "third", "(II)I"⟩ ∈ fn_big := fn_tb (fn_l5 (List.mem_of_getElem? (i := 145) (by decide +kernel))) (by decide +kernel)
theorem wd_1106 : Cond.instanceMethod ⟨"FootNotes", "third", "(II)I"⟩ ∈ fn_big := fn_tb (fn_l5 (List.mem_of_getElem? (i := 146) (by decide +kernel))) (by decide +kernel)
theorem wd_1107 : Cond.selects "FootNotes" ⟨"FootNotes", "third", "(II)I"⟩ ⟨"FootNotes", "third", "(II)I"⟩ ∈ fn_big := fn_tb (fn_l5 (List.mem_of_getElem? (i := 147) (by decide +kernel))) (by decide +kernel)
theorem dX11_nearest_0 : decode cX11_nearest 0 = .ok (.aload_n 0, 1) := by decide +kernel
theorem dX11_nearest_1 : decode cX11_nearest 1 = .ok (.iload_n 1, 1) := by decide +kernel
theorem dX11_nearest_2 : decode cX11_nearest 2 = .ok (.iload_n 2, 1) := by decide +kernel
theorem dX11_nearest_3 : decode cX11_nearest 3 = .ok (.invokevirtual 387, 3) := by decide +kernel
theorem dX11_nearest_6 : decode cX11_nearest 6 = .ok (.ifCond .eq 6, 3) := by decide +kernel
theorem dX11_nearest_12 : decode cX11_nearest 12 = .ok (.aload_n 0, 1) := by decide +kernel
theorem dX11_nearest_13 : decode cX11_nearest 13 = .ok (.iload_n 1, 1) := by decide +kernel
theorem dX11_nearest_14 : decode cX11_nearest 14 = .ok (.iload_n 2, 1) := by decide +kernel
theorem dX11_nearest_15 : decode cX11_nearest 15 = .ok (.invokevirtual 391, 3) := by decide +kernel
theorem dX11_nearest_18 : decode cX11_nearest 18 = .ok (.istore_n 3, 1) := by decide +kernel
theorem dX11_nearest_19 : decode cX11_nearest 19 = .ok (.iload_n 3, 1) := by decide +kernel
theorem dX11_nearest_20 : decode cX11_nearest 20 = .ok (.ifCond .ge 7, 3) := by decide +kernel
theorem dX11_nearest_27 : decode cX11_nearest 27 = .ok (.aload_n 0, 1) := by decide +kernel
theorem dX11_nearest_28 : decode cX11_nearest 28 = .ok (.iload_n 1, 1) := by decide +kernel
theorem dX11_nearest_29 : decode cX11_nearest 29 = .ok (.iload_n 2, 1) := by decide +kernel
theorem dX11_nearest_30 : decode cX11_nearest 30 = .ok (.iload_n 3, 1) := by decide +kernel
theorem dX11_nearest_31 : decode cX11_nearest 31 = .ok (.invokevirtual 394, 3) := by decide +kernel
theorem dX11_nearest_34 : decode cX11_nearest 34 = .ok (.ireturn, 1) := by decide +kernel
theorem dX11_nearest_23 : decode cX11_nearest 23 = .ok (.iconst (-1), 1) := by decide +kernel
theorem dX11_nearest_24 : decode cX11_nearest 24 = .ok (.goto 10, 3) := by decide +kernel
theorem dX11_nearest_9 : decode cX11_nearest 9 = .ok (.bipush (-2), 2) := by decide +kernel
theorem dX11_nearest_11 : decode cX11_nearest 11 = .ok (.ireturn, 1) := by decide +kernel
set_option maxHeartbeats 4000000 in
set_option maxRecDepth 100000 in
theorem k_X11_nearest (l : Launch) (D : va_G) (K : Nat → ClassId) (t : Nat) (t_q t_1_q t_7_q : Nat → Nat) (p1 p2 t_1_x0 t_1_x1 t_1_x2 t_1_x3 t_1_x4 t_1_x5 t_1_x6 t_1_x7 t_1_x8 t_7_x0 t_7_x1 t_7_x6 : Int) (t_7_5_c : Nat → Int) (t_7_4_c : Nat → Int) (hp1 : (-2147483648) ≤ p1 ∧ p1 ≤ 2147483647) (hp2 : (-2147483648) ≤ p2 ∧ p2 ≤ 2147483647) (hi_t_1 : bX7 t_1_x0 t_1_x1 t_1_x2 t_1_x3 t_1_x4 t_1_x5 t_1_x6 t_1_x7 t_1_x8) (hi_t_7 : bX10 t_7_x0 t_7_x1 t_7_x6) (hc_t_7_5 : ∀ j : Nat, (-1) ≤ t_7_5_c j ∧ t_7_5_c j ≤ 12) (hc_t_7_4 : ∀ j : Nat, 0 ≤ t_7_4_c j ∧ t_7_4_c j ≤ 4095) : fn_CI (S := (Nat → Int) × (Nat → Nat → Int)) l D K yX11_nearest (fn_ws yX11_nearest cX11_nearest 4 (some .int)) ({ frames := 24, cells := 0, slots := 0, locals := 600 } : Room) [.ref t, .int (iI p1), .int (iI p2)] [(t, .inr (11, oX11 t_q)), ((t_q 1), .inr (7, oX7 t_1_q t_1_x0 t_1_x1 t_1_x2 t_1_x3 t_1_x4 t_1_x5 t_1_x6 t_1_x7 t_1_x8)), ((t_q 7), .inr (10, oX10 t_7_q t_7_x0 t_7_x1 t_7_x6)), ((t_7_q 5), .inl (K 0, 12, .inl (fun j => iI (t_7_5_c j)))), ((t_7_q 4), .inl (K 0, 12, .inl (fun j => iI (t_7_4_c j))))] (fun r u => ∃ k : Int, r = iI k ∧ ((-2) ≤ k ∧ k ≤ 24) ∧ (0 ≤ (u.1 0) ∧ (u.1 0) ≤ 4095) ∧ (∀ j : Nat, (-1) ≤ (u.2 0) j ∧ (u.2 0) j ≤ 12) ∧ True) (fun u => [(t, .inr (11, oX11 t_q)), ((t_q 1), .inr (7, oX7 t_1_q t_1_x0 t_1_x1 t_1_x2 t_1_x3 t_1_x4 t_1_x5 t_1_x6 t_1_x7 t_1_x8)), ((t_q 7), .inr (10, oX10 t_7_q t_7_x0 t_7_x1 (u.1 0))), ((t_7_q 5), .inl (K 0, 12, .inl (fun j => iI ((u.2 0) j)))), ((t_7_q 4), .inl (K 0, 12, .inl (fun j => iI (t_7_4_c j))))]) 0 0 := by
  refine g_inI (cc := cX11_nearest) (maxL := 4) (ret := (some .int)) (by decide) rfl (Nat.le_of_ble_eq_true rfl) ?_
  intro p e s m below meth c A ls ag Q B hA hP hD hS hl hQ
  obtain ⟨hx, hb, hr, hml, hts, hown, hlocks, hin, hK⟩ := B
  have hown : s.vm.findClass RX11 = some m.cls := hown
  have hts := fun w h => hts w (List.mem_cons_of_mem _ h)
  have hl : lv_has ls 4 [(0, .ref t), (1, .int (iI p1)), (2, .int (iI p2))] := hl
  refine lv_aload_n hx hb dX11_nearest_0 rfl (lv_at hl 0 rfl) ?_
  refine lv_iload_n hx hb dX11_nearest_1 rfl (lv_at hl 1 rfl) ?_
  refine lv_iload_n hx hb dX11_nearest_2 rfl (lv_at hl 2 rfl) ?_
  refine fn_goi (wc := [(t, .inr (11, oX11 t_q)), ((t_q 1), .inr (7, oX7 t_1_q t_1_x0 t_1_x1 t_1_x2 t_1_x3 t_1_x4 t_1_x5 t_1_x6 t_1_x7 t_1_x8))]) (wr := [((t_q 7), .inr (10, oX10 t_7_q t_7_x0 t_7_x1 t_7_x6)), ((t_7_q 5), .inl (K 0, 12, .inl (fun j => iI (t_7_5_c j)))), ((t_7_q 4), .inl (K 0, 12, .inl (fun j => iI (t_7_4_c j))))]) hK hP hD hS hA [0, 1] [2, 3, 4] rfl rfl (by decide) (fun hp => va_runV (C := RX11) (As := [.int (iI p1), .int (iI p2)]) (rest := []) ⟨hx, hb, hml, hown, hts⟩ (k_X11_noPair (l := l) (D := D) (K := K) (t := t) (p1 := p1) (p2 := p2) (t_q := t_q) (t_1_q := t_1_q) (t_1_x0 := t_1_x0) (t_1_x1 := t_1_x1) (t_1_x2 := t_1_x2) (t_1_x3 := t_1_x3) (t_1_x4 := t_1_x4) (t_1_x5 := t_1_x5) (t_1_x6 := t_1_x6) (t_1_x7 := t_1_x7) (t_1_x8 := t_1_x8) (hp1 := (by omega)) (hp2 := (by omega)) (hi_t_1 := hi_t_1) _) (cwV 2 hts (fn_ginV (fn_gin wd_1100) wd_1097 wd_1099 wp_79 wd_1) rfl rfl rfl (by decide +kernel) ⟨Nat.le_of_ble_eq_true rfl, Nat.le_of_ble_eq_true rfl⟩) ⟨fn_blind, va_recv hK.1 hP (ci := 11) (q0 := 0) rfl rfl, hp⟩ rfl rfl hl.1 rfl (lv_room (Nat.le_of_ble_eq_true rfl)) dX11_nearest_3 ⟨Nat.le_of_ble_eq_true rfl, Nat.le_of_ble_eq_true rfl⟩) (fun r3 u3 H locs hwu3 hP hD hS => ?_)
  obtain ⟨u3a, u3b⟩ := u3
  obtain ⟨kr3, rfl, hkr3, hqu30, -⟩ := hwu3
  have hqu3 : (kr3 = 0 → 0 ≤ p1 ∧ p1 ≤ 11 ∧ 0 ≤ p2 ∧ p2 ≤ 11) := hqu30
  clear hqu30
  have hP : va_P D vwCl [((t_q 7), .inr (10, oX10 t_7_q t_7_x0 t_7_x1 t_7_x6)), ((t_7_q 5), .inl (K 0, 12, .inl (fun j => iI (t_7_5_c j)))), ((t_7_q 4), .inl (K 0, 12, .inl (fun j => iI (t_7_4_c j)))), (t, .inr (11, oX11 t_q)), ((t_q 1), .inr (7, oX7 t_1_q t_1_x0 t_1_x1 t_1_x2 t_1_x3 t_1_x4 t_1_x5 t_1_x6 t_1_x7 t_1_x8))] H := hP
  have hD : va_D A [((t_q 7), .inr (10, oX10 t_7_q t_7_x0 t_7_x1 t_7_x6)), ((t_7_q 5), .inl (K 0, 12, .inl (fun j => iI (t_7_5_c j)))), ((t_7_q 4), .inl (K 0, 12, .inl (fun j => iI (t_7_4_c j)))), (t, .inr (11, oX11 t_q)), ((t_q 1), .inr (7, oX7 t_1_q t_1_x0 t_1_x1 t_1_x2 t_1_x3 t_1_x4 t_1_x5 t_1_x6 t_1_x7 t_1_x8))] := hD
  refine g_if_eq (tgt := 12) hx hb (by omega) dX11_nearest_6 (by decide) (fun c6 => ?_) (fun c6 => ?_)
  · refine lv_aload_n hx hb dX11_nearest_12 rfl (lv_at hl 0 rfl) ?_
    refine lv_iload_n hx hb dX11_nearest_13 rfl (lv_at hl 1 rfl) ?_
    refine lv_iload_n hx hb dX11_nearest_14 rfl (lv_at hl 2 rfl) ?_
    refine fn_goi (wc := [(t, .inr (11, oX11 t_q)), ((t_q 1), .inr (7, oX7 t_1_q t_1_x0 t_1_x1 t_1_x2 t_1_x3 t_1_x4 t_1_x5 t_1_x6 t_1_x7 t_1_x8)), ((t_q 7), .inr (10, oX10 t_7_q t_7_x0 t_7_x1 t_7_x6)), ((t_7_q 5), .inl (K 0, 12, .inl (fun j => iI (t_7_5_c j)))), ((t_7_q 4), .inl (K 0, 12, .inl (fun j => iI (t_7_4_c j))))]) (wr := []) hK hP hD hS hA [3, 4, 0, 1, 2] [] rfl rfl (by decide) (fun hp => va_runV (C := RX11) (As := [.int (iI p1), .int (iI p2)]) (rest := []) ⟨hx, hb, hml, hown, hts⟩ (k_X11_third (l := l) (D := D) (K := K) (t := t) (p1 := p1) (p2 := p2) (t_q := t_q) (t_1_q := t_1_q) (t_1_x0 := t_1_x0) (t_1_x1 := t_1_x1) (t_1_x2 := t_1_x2) (t_1_x3 := t_1_x3) (t_1_x4 := t_1_x4) (t_1_x5 := t_1_x5) (t_1_x6 := t_1_x6) (t_1_x7 := t_1_x7) (t_1_x8 := t_1_x8) (t_7_q := t_7_q) (t_7_x0 := t_7_x0) (t_7_x1 := t_7_x1) (t_7_x6 := t_7_x6) (t_7_5_c := t_7_5_c) (t_7_4_c := t_7_4_c) (hp1 := (by omega)) (hp2 := (by omega)) (hi_t_1 := hi_t_1) (hi_t_7 := hi_t_7) (hc_t_7_5 := hc_t_7_5) (hc_t_7_4 := hc_t_7_4) _) (cwV 2 hts (fn_ginV (fn_gin wd_1108) wd_1105 wd_1106 wd_1107 wd_1) rfl rfl rfl (by decide +kernel) ⟨Nat.le_of_ble_eq_true rfl, Nat.le_of_ble_eq_true rfl⟩) ⟨fn_blind, va_recv hK.1 hP (ci := 11) (q0 := 3) rfl rfl, hp⟩ rfl rfl hl.1 rfl (lv_room (Nat.le_of_ble_eq_true rfl)) dX11_nearest_15 ⟨Nat.le_of_ble_eq_true rfl, Nat.le_of_ble_eq_true rfl⟩) (fun r15 u15 H locs hwu15 hP hD hS => ?_)
    obtain ⟨u15a, u15b⟩ := u15
    obtain ⟨kr15, rfl, hkr15, hqu150, hu15_00, -⟩ := hwu15
    have hqu15 : 0 ≤ (u15a 0) ∧ (u15a 0) ≤ 4095 := hqu150
    have hu15_0 : ∀ j : Nat, (-1) ≤ (u15b 0) j ∧ (u15b 0) j ≤ 12 := hu15_00
    clear hqu150 hu15_00
    have hP : va_P D vwCl [(t, .inr (11, oX11 t_q)), ((t_q 1), .inr (7, oX7 t_1_q t_1_x0 t_1_x1 t_1_x2 t_1_x3 t_1_x4 t_1_x5 t_1_x6 t_1_x7 t_1_x8)), ((t_q 7), .inr (10, oX10 t_7_q t_7_x0 t_7_x1 (u15a 0))), ((t_7_q 5), .inl (K 0, 12, .inl (fun j => iI ((u15b 0) j)))), ((t_7_q 4), .inl (K 0, 12, .inl (fun j => iI (t_7_4_c j))))] H := hP
    have hD : va_D A [(t, .inr (11, oX11 t_q)), ((t_q 1), .inr (7, oX7 t_1_q t_1_x0 t_1_x1 t_1_x2 t_1_x3 t_1_x4 t_1_x5 t_1_x6 t_1_x7 t_1_x8)), ((t_q 7), .inr (10, oX10 t_7_q t_7_x0 t_7_x1 (u15a 0))), ((t_7_q 5), .inl (K 0, 12, .inl (fun j => iI ((u15b 0) j)))), ((t_7_q 4), .inl (K 0, 12, .inl (fun j => iI (t_7_4_c j))))] := hD
    refine lv_istore_n (lv' := [(3, .int (iI kr15)), (0, .ref t), (1, .int (iI p1)), (2, .int (iI p2))]) hx hb dX11_nearest_18 rfl hl (by decide) rfl (fun ls hl => ?_)
    refine lv_iload_n hx hb dX11_nearest_19 rfl (lv_at hl 0 rfl) ?_
    refine g_if_ge (tgt := 27) hx hb (by omega) dX11_nearest_20 (by decide) (fun c20 => ?_) (fun c20 => ?_)
    · refine lv_aload_n hx hb dX11_nearest_27 rfl (lv_at hl 1 rfl) ?_
      refine lv_iload_n hx hb dX11_nearest_28 rfl (lv_at hl 2 rfl) ?_
      refine lv_iload_n hx hb dX11_nearest_29 rfl (lv_at hl 3 rfl) ?_
      refine lv_iload_n hx hb dX11_nearest_30 rfl (lv_at hl 0 rfl) ?_
      refine fn_goi (wc := [(t, .inr (11, oX11 t_q)), ((t_q 7), .inr (10, oX10 t_7_q t_7_x0 t_7_x1 (u15a 0))), ((t_7_q 5), .inl (K 0, 12, .inl (fun j => iI ((u15b 0) j)))), ((t_7_q 4), .inl (K 0, 12, .inl (fun j => iI (t_7_4_c j))))]) (wr := [((t_q 1), .inr (7, oX7 t_1_q t_1_x0 t_1_x1 t_1_x2 t_1_x3 t_1_x4 t_1_x5 t_1_x6 t_1_x7 t_1_x8))]) hK hP hD hS hA [0, 2, 3, 4] [1] rfl rfl (by decide) (fun hp => va_runV (C := RX11) (As := [.int (iI p1), .int (iI p2), .int (iI kr15)]) (rest := []) ⟨hx, hb, hml, hown, hts⟩ (k_X11_stepsTogether (l := l) (D := D) (K := K) (t := t) (p1 := p1) (p2 := p2) (p3 := kr15) (t_q := t_q) (t_7_q := t_7_q) (t_7_x0 := t_7_x0) (t_7_x1 := t_7_x1) (t_7_x6 := (u15a 0)) (t_7_5_c := (u15b 0)) (t_7_4_c := t_7_4_c) (hp1 := (by omega)) (hp2 := (by omega)) (hp3 := (by omega)) (hi_t_7 := ⟨hi_t_7.1, hi_t_7.2.1, (by omega)⟩) (hc_t_7_5 := hu15_0) (hc_t_7_4 := hc_t_7_4) _) (cwV 3 hts (fn_ginV (fn_gin wd_1113) wd_1110 wd_1112 wp_80 wd_1) rfl rfl rfl (by decide +kernel) ⟨Nat.le_of_ble_eq_true rfl, Nat.le_of_ble_eq_true rfl⟩) ⟨fn_blind, va_recv hK.1 hP (ci := 11) (q0 := 0) rfl rfl, hp⟩ rfl rfl hl.1 rfl (lv_room (Nat.le_of_ble_eq_true rfl)) dX11_nearest_31 ⟨Nat.le_of_ble_eq_true rfl, Nat.le_of_ble_eq_true rfl⟩) (fun r31 u31 H locs hwu31 hP hD hS => ?_)
      obtain ⟨u31a, u31b⟩ := u31
      obtain ⟨kr31, rfl, hkr31, hqu310, hu31_00, -⟩ := hwu31
      have hqu31 : 0 ≤ (u31a 0) ∧ (u31a 0) ≤ 4095 := hqu310
      have hu31_0 : ∀ j : Nat, (-1) ≤ (u31b 0) j ∧ (u31b 0) j ≤ 12 := hu31_00
      clear hqu310 hu31_00
      have hP : va_P D vwCl [((t_q 1), .inr (7, oX7 t_1_q t_1_x0 t_1_x1 t_1_x2 t_1_x3 t_1_x4 t_1_x5 t_1_x6 t_1_x7 t_1_x8)), (t, .inr (11, oX11 t_q)), ((t_q 7), .inr (10, oX10 t_7_q t_7_x0 t_7_x1 (u31a 0))), ((t_7_q 5), .inl (K 0, 12, .inl (fun j => iI ((u31b 0) j)))), ((t_7_q 4), .inl (K 0, 12, .inl (fun j => iI (t_7_4_c j))))] H := hP
      have hD : va_D A [((t_q 1), .inr (7, oX7 t_1_q t_1_x0 t_1_x1 t_1_x2 t_1_x3 t_1_x4 t_1_x5 t_1_x6 t_1_x7 t_1_x8)), (t, .inr (11, oX11 t_q)), ((t_q 7), .inr (10, oX10 t_7_q t_7_x0 t_7_x1 (u31a 0))), ((t_7_q 5), .inl (K 0, 12, .inl (fun j => iI ((u31b 0) j)))), ((t_7_q 4), .inl (K 0, 12, .inl (fun j => iI (t_7_4_c j))))] := hD
      rw [hQ]; exact fn_iret hx hb hr hlocks rfl hP hD hS ((fun k => ([(u31a 0)] : List Int).getD k 0), (fun k => ([(u31b 0)] : List (Nat → Int)).getD k (fun _ => 0))) ⟨kr31, rfl, by omega, (by show 0 ≤ (u31a 0) ∧ (u31a 0) ≤ 4095; omega), (hu31_0), trivial⟩ [1, 0, 2, 3, 4] (by decide) rfl dX11_nearest_34
    · refine lv_iconst (v := iI (-1)) hx hb dX11_nearest_23 rfl ?_
      refine lv_goto (tgt := 34) hx hb dX11_nearest_24 (by decide) ?_
      rw [hQ]; exact fn_iret hx hb hr hlocks rfl hP hD hS ((fun k => ([(u15a 0)] : List Int).getD k 0), (fun k => ([(u15b 0)] : List (Nat → Int)).getD k (fun _ => 0))) ⟨(-1), rfl, by omega, (by show 0 ≤ (u15a 0) ∧ (u15a 0) ≤ 4095; omega), (hu15_0), trivial⟩ [0, 1, 2, 3, 4] (by decide) rfl dX11_nearest_34
  · refine lv_bipush (v := iI (-2)) hx hb dX11_nearest_9 (by decide) ?_
    have y11_1 : 0 ≤ t_7_x6 ∧ t_7_x6 ≤ 4095 := hi_t_7.2.2
    rw [hQ]; exact fn_iret hx hb hr hlocks rfl hP hD hS ((fun k => ([t_7_x6] : List Int).getD k 0), (fun k => ([t_7_5_c] : List (Nat → Int)).getD k (fun _ => 0))) ⟨(-2), rfl, by omega, (by show 0 ≤ t_7_x6 ∧ t_7_x6 ≤ 4095; omega), (hc_t_7_5), trivial⟩ [3, 4, 0, 1, 2] (by decide) rfl dX11_nearest_11
theorem dX11_noScholar_0 : decode cX11_noScholar 0 = .ok (.aload_n 0, 1) := by decide +kernel
theorem dX11_noScholar_1 : decode cX11_noScholar 1 = .ok (.invokevirtual 188, 3) := by decide +kernel
theorem dX11_noScholar_4 : decode cX11_noScholar 4 = .ok (.ifCond .ne 12, 3) := by decide +kernel
theorem dX11_noScholar_16 : decode cX11_noScholar 16 = .ok (.iconst 1, 1) := by decide +kernel
theorem dX11_noScholar_17 : decode cX11_noScholar 17 = .ok (.goto 4, 3) := by decide +kernel
theorem dX11_noScholar_21 : decode cX11_noScholar 21 = .ok (.ireturn, 1) := by decide +kernel
theorem dX11_noScholar_7 : decode cX11_noScholar 7 = .ok (.iload_n 1, 1) := by decide +kernel
theorem dX11_noScholar_8 : decode cX11_noScholar 8 = .ok (.ifCond .lt 8, 3) := by decide +kernel
theorem dX11_noScholar_11 : decode cX11_noScholar 11 = .ok (.iload_n 1, 1) := by decide +kernel
theorem dX11_noScholar_12 : decode cX11_noScholar 12 = .ok (.iconst 5, 1) := by decide +kernel
theorem dX11_noScholar_13 : decode cX11_noScholar 13 = .ok (.if_icmp .lt 7, 3) := by decide +kernel
theorem dX11_noScholar_20 : decode cX11_noScholar 20 = .ok (.iconst 0, 1) := by decide +kernel
set_option maxHeartbeats 4000000 in
set_option maxRecDepth 100000 in
theorem k_X11_noScholar (l : Launch) (D : va_G) (K : Nat → ClassId) (t : Nat) (t_q t_1_q : Nat → Nat) (p1 t_1_x0 t_1_x1 t_1_x2 t_1_x3 t_1_x4 t_1_x5 t_1_x6 t_1_x7 t_1_x8 : Int) (hp1 : (-2147483648) ≤ p1 ∧ p1 ≤ 2147483647) (hi_t_1 : bX7 t_1_x0 t_1_x1 t_1_x2 t_1_x3 t_1_x4 t_1_x5 t_1_x6 t_1_x7 t_1_x8) : fn_CI (S := (Nat → Int) × (Nat → Nat → Int)) l D K yX11_noScholar (fn_ws yX11_noScholar cX11_noScholar 2 (some .boolean)) ({ frames := 8, cells := 0, slots := 0, locals := 200 } : Room) [.ref t, .int (iI p1)] [(t, .inr (11, oX11 t_q)), ((t_q 1), .inr (7, oX7 t_1_q t_1_x0 t_1_x1 t_1_x2 t_1_x3 t_1_x4 t_1_x5 t_1_x6 t_1_x7 t_1_x8))] (fun r u => ∃ k : Int, r = iI k ∧ (0 ≤ k ∧ k ≤ 1) ∧ True) (fun u => [(t, .inr (11, oX11 t_q)), ((t_q 1), .inr (7, oX7 t_1_q t_1_x0 t_1_x1 t_1_x2 t_1_x3 t_1_x4 t_1_x5 t_1_x6 t_1_x7 t_1_x8))]) 0 0 := by
  refine g_inI (cc := cX11_noScholar) (maxL := 2) (ret := (some .boolean)) (by decide) rfl (Nat.le_of_ble_eq_true rfl) ?_
  intro p e s m below meth c A ls ag Q B hA hP hD hS hl hQ
  obtain ⟨hx, hb, hr, hml, hts, hown, hlocks, hin, hK⟩ := B
  have hown : s.vm.findClass RX11 = some m.cls := hown
  have hts := fun w h => hts w (List.mem_cons_of_mem _ h)
  have hl : lv_has ls 2 [(0, .ref t), (1, .int (iI p1))] := hl
  refine lv_aload_n hx hb dX11_noScholar_0 rfl (lv_at hl 0 rfl) ?_
  refine fn_goi (wc := [(t, .inr (11, oX11 t_q)), ((t_q 1), .inr (7, oX7 t_1_q t_1_x0 t_1_x1 t_1_x2 t_1_x3 t_1_x4 t_1_x5 t_1_x6 t_1_x7 t_1_x8))]) (wr := []) hK hP hD hS hA [0, 1] [] rfl rfl (by decide) (fun hp => va_runV (C := RX11) (As := []) (rest := []) ⟨hx, hb, hml, hown, hts⟩ (k_X11_noTown (l := l) (D := D) (K := K) (t := t) (t_q := t_q) (t_1_q := t_1_q) (t_1_x0 := t_1_x0) (t_1_x1 := t_1_x1) (t_1_x2 := t_1_x2) (t_1_x3 := t_1_x3) (t_1_x4 := t_1_x4) (t_1_x5 := t_1_x5) (t_1_x6 := t_1_x6) (t_1_x7 := t_1_x7) (t_1_x8 := t_1_x8) (hi_t_1 := hi_t_1) _) (cwV 0 hts (fn_ginV (fn_gin wd_709) wd_706 wd_708 wp_30 wd_1) rfl rfl rfl (by decide +kernel) ⟨Nat.le_of_ble_eq_true rfl, Nat.le_of_ble_eq_true rfl⟩) ⟨fn_blind, va_recv hK.1 hP (ci := 11) (q0 := 0) rfl rfl, hp⟩ rfl rfl hl.1 rfl (lv_room (Nat.le_of_ble_eq_true rfl)) dX11_noScholar_1 ⟨Nat.le_of_ble_eq_true rfl, Nat.le_of_ble_eq_true rfl⟩) (fun r1 u1 H locs hwu1 hP hD hS => ?_)
  obtain ⟨u1a, u1b⟩ := u1
  obtain ⟨kr1, rfl, hkr1, -⟩ := hwu1
  have hP : va_P D vwCl [(t, .inr (11, oX11 t_q)), ((t_q 1), .inr (7, oX7 t_1_q t_1_x0 t_1_x1 t_1_x2 t_1_x3 t_1_x4 t_1_x5 t_1_x6 t_1_x7 t_1_x8))] H := hP
  have hD : va_D A [(t, .inr (11, oX11 t_q)), ((t_q 1), .inr (7, oX7 t_1_q t_1_x0 t_1_x1 t_1_x2 t_1_x3 t_1_x4 t_1_x5 t_1_x6 t_1_x7 t_1_x8))] := hD
  refine g_if_ne (tgt := 16) hx hb (by omega) dX11_noScholar_4 (by decide) (fun c4 => ?_) (fun c4 => ?_)
  · refine lv_iconst (v := iI 1) hx hb dX11_noScholar_16 rfl ?_
    refine lv_goto (tgt := 21) hx hb dX11_noScholar_17 (by decide) ?_
    rw [hQ]; exact fn_iret hx hb hr hlocks (iI_nz (by omega)) hP hD hS ((fun _ => 0), (fun _ _ => 0)) ⟨1, rfl, by omega, trivial⟩ [0, 1] (by decide) rfl dX11_noScholar_21
  · refine lv_iload_n hx hb dX11_noScholar_7 rfl (lv_at hl 1 rfl) ?_
    refine g_if_lt (tgt := 16) hx hb (by omega) dX11_noScholar_8 (by decide) (fun c8 => ?_) (fun c8 => ?_)
    · refine lv_iconst (v := iI 1) hx hb dX11_noScholar_16 rfl ?_
      refine lv_goto (tgt := 21) hx hb dX11_noScholar_17 (by decide) ?_
      rw [hQ]; exact fn_iret hx hb hr hlocks (iI_nz (by omega)) hP hD hS ((fun _ => 0), (fun _ _ => 0)) ⟨1, rfl, by omega, trivial⟩ [0, 1] (by decide) rfl dX11_noScholar_21
    · refine lv_iload_n hx hb dX11_noScholar_11 rfl (lv_at hl 1 rfl) ?_
      refine lv_iconst (v := iI 5) hx hb dX11_noScholar_12 rfl ?_
      refine g_icmp_lt (tgt := 20) hx hb (by omega) (by omega) dX11_noScholar_13 (by decide) (fun c13 => ?_) (fun c13 => ?_)
      · refine lv_iconst (v := iI 0) hx hb dX11_noScholar_20 rfl ?_
        rw [hQ]; exact fn_iret hx hb hr hlocks (iI_nz (by omega)) hP hD hS ((fun _ => 0), (fun _ _ => 0)) ⟨0, rfl, by omega, trivial⟩ [0, 1] (by decide) rfl dX11_noScholar_21
      · refine lv_iconst (v := iI 1) hx hb dX11_noScholar_16 rfl ?_
        refine lv_goto (tgt := 21) hx hb dX11_noScholar_17 (by decide) ?_
        rw [hQ]; exact fn_iret hx hb hr hlocks (iI_nz (by omega)) hP hD hS ((fun _ => 0), (fun _ _ => 0)) ⟨1, rfl, by omega, trivial⟩ [0, 1] (by decide) rfl dX11_noScholar_21
theorem wd_1138 : Cond.code ⟨"FootNotes$Text", "scholarOf", "(I)I"⟩ prog_9_method_10_code 2 (Option.some Jvm.ClassFile.FieldType.int) ∈ fn_big := fn_tb (fn_l5 (List.mem_of_getElem? (i := 178) (by decide +kernel))) (by decide +kernel)
theorem wd_1137 : Cond.instanceMethod ⟨"FootNotes$Text", "scholarOf", "(I)I"⟩ ∈ fn_big := fn_tb (fn_l5 (List.mem_of_getElem? (i := 177) (by decide +kernel))) (by decide +kernel)
theorem wp_85 : Cond.selects "FootNotes$Text" ⟨"FootNotes$Text", "scholarOf", "(I)I"⟩ ⟨"FootNotes$Text", "scholarOf", "(I)I"⟩ ∈ fn_big := fn_sel (q := (⟨"FootNotes$Text", "scholarOf", "(I)I"⟩, 15)) 85 (by decide +kernel) (by decide +kernel)
theorem dX11_leadsBetween_71 : decode cX11_leadsBetween 71 = .ok (.iinc 4 1, 3) := by decide +kernel
theorem dX11_leadsBetween_74 : decode cX11_leadsBetween 74 = .ok (.goto (-69), 3) := by decide +kernel
theorem dX11_leadsBetween_5 : decode cX11_leadsBetween 5 = .ok (.iload 4, 2) := by decide +kernel
theorem dX11_leadsBetween_7 : decode cX11_leadsBetween 7 = .ok (.aload_n 0, 1) := by decide +kernel
theorem dX11_leadsBetween_8 : decode cX11_leadsBetween 8 = .ok (.getfield 19, 3) := by decide +kernel
theorem dX11_leadsBetween_11 : decode cX11_leadsBetween 11 = .ok (.getfield 192, 3) := by decide +kernel
theorem dX11_leadsBetween_14 : decode cX11_leadsBetween 14 = .ok (.if_icmp .ge 63, 3) := by decide +kernel
theorem dX11_leadsBetween_77 : decode cX11_leadsBetween 77 = .ok (.iload_n 3, 1) := by decide +kernel
theorem dX11_leadsBetween_78 : decode cX11_leadsBetween 78 = .ok (.ireturn, 1) := by decide +kernel
theorem dX11_leadsBetween_17 : decode cX11_leadsBetween 17 = .ok (.aload_n 0, 1) := by decide +kernel
theorem dX11_leadsBetween_18 : decode cX11_leadsBetween 18 = .ok (.getfield 51, 3) := by decide +kernel
theorem dX11_leadsBetween_21 : decode cX11_leadsBetween 21 = .ok (.getfield 182, 3) := by decide +kernel
theorem dX11_leadsBetween_24 : decode cX11_leadsBetween 24 = .ok (.iload 4, 2) := by decide +kernel
theorem dX11_leadsBetween_26 : decode cX11_leadsBetween 26 = .ok (.iaload, 1) := by decide +kernel
theorem dX11_leadsBetween_27 : decode cX11_leadsBetween 27 = .ok (.istore 5, 2) := by decide +kernel
theorem dX11_leadsBetween_29 : decode cX11_leadsBetween 29 = .ok (.iload 5, 2) := by decide +kernel
theorem dX11_leadsBetween_31 : decode cX11_leadsBetween 31 = .ok (.ifCond .lt 40, 3) := by decide +kernel
theorem dX11_leadsBetween_34 : decode cX11_leadsBetween 34 = .ok (.aload_n 0, 1) := by decide +kernel
theorem dX11_leadsBetween_35 : decode cX11_leadsBetween 35 = .ok (.getfield 19, 3) := by decide +kernel
theorem dX11_leadsBetween_38 : decode cX11_leadsBetween 38 = .ok (.iload 5, 2) := by decide +kernel
theorem dX11_leadsBetween_40 : decode cX11_leadsBetween 40 = .ok (.invokevirtual 413, 3) := by decide +kernel
theorem dX11_leadsBetween_43 : decode cX11_leadsBetween 43 = .ok (.iload_n 2, 1) := by decide +kernel
theorem dX11_leadsBetween_44 : decode cX11_leadsBetween 44 = .ok (.if_icmp .ne 27, 3) := by decide +kernel
theorem dX11_leadsBetween_47 : decode cX11_leadsBetween 47 = .ok (.aload_n 0, 1) := by decide +kernel
theorem dX11_leadsBetween_48 : decode cX11_leadsBetween 48 = .ok (.getfield 19, 3) := by decide +kernel
theorem dX11_leadsBetween_51 : decode cX11_leadsBetween 51 = .ok (.aload_n 0, 1) := by decide +kernel
theorem dX11_leadsBetween_52 : decode cX11_leadsBetween 52 = .ok (.getfield 19, 3) := by decide +kernel
theorem dX11_leadsBetween_55 : decode cX11_leadsBetween 55 = .ok (.getfield 170, 3) := by decide +kernel
theorem dX11_leadsBetween_58 : decode cX11_leadsBetween 58 = .ok (.iload 4, 2) := by decide +kernel
theorem dX11_leadsBetween_60 : decode cX11_leadsBetween 60 = .ok (.iaload, 1) := by decide +kernel
theorem dX11_leadsBetween_61 : decode cX11_leadsBetween 61 = .ok (.invokevirtual 413, 3) := by decide +kernel
theorem dX11_leadsBetween_64 : decode cX11_leadsBetween 64 = .ok (.iload_n 1, 1) := by decide +kernel
theorem dX11_leadsBetween_65 : decode cX11_leadsBetween 65 = .ok (.if_icmp .ne 6, 3) := by decide +kernel
theorem dX11_leadsBetween_68 : decode cX11_leadsBetween 68 = .ok (.iinc 3 1, 3) := by decide +kernel
theorem dX11_leadsBetween_0 : decode cX11_leadsBetween 0 = .ok (.iconst 0, 1) := by decide +kernel
theorem dX11_leadsBetween_1 : decode cX11_leadsBetween 1 = .ok (.istore_n 3, 1) := by decide +kernel
theorem dX11_leadsBetween_2 : decode cX11_leadsBetween 2 = .ok (.iconst 0, 1) := by decide +kernel
theorem dX11_leadsBetween_3 : decode cX11_leadsBetween 3 = .ok (.istore 4, 2) := by decide +kernel
set_option maxHeartbeats 4000000 in
set_option maxRecDepth 100000 in
theorem k_X11_leadsBetween (l : Launch) (D : va_G) (K : Nat → ClassId) (t : Nat) (t_q t_1_q t_7_q : Nat → Nat) (p1 p2 t_1_x0 t_1_x1 t_1_x2 t_1_x3 t_1_x4 t_1_x5 t_1_x6 t_1_x7 t_1_x8 t_7_x0 t_7_x1 t_7_x6 : Int) (t_7_3_c : Nat → Int) (t_1_11_c : Nat → Int) (t_1_9_c : Nat → Int) (t_1_12_c : Nat → Int) (hp1 : (-2147483648) ≤ p1 ∧ p1 ≤ 2147483647) (hp2 : (-2147483648) ≤ p2 ∧ p2 ≤ 2147483647) (hi_t_1 : bX7 t_1_x0 t_1_x1 t_1_x2 t_1_x3 t_1_x4 t_1_x5 t_1_x6 t_1_x7 t_1_x8) (hi_t_7 : bX10 t_7_x0 t_7_x1 t_7_x6) (hc_t_7_3 : ∀ j : Nat, (-1) ≤ t_7_3_c j ∧ t_7_3_c j ≤ 11) (hc_t_1_11 : ∀ j : Nat, 0 ≤ t_1_11_c j ∧ t_1_11_c j ≤ 4) (hc_t_1_9 : ∀ j : Nat, 0 ≤ t_1_9_c j ∧ t_1_9_c j ≤ 4) (hc_t_1_12 : ∀ j : Nat, 0 ≤ t_1_12_c j ∧ t_1_12_c j ≤ 11) : fn_CI (S := (Nat → Int) × (Nat → Nat → Int)) l D K yX11_leadsBetween (fn_ws yX11_leadsBetween cX11_leadsBetween 6 (some .int)) ({ frames := 8, cells := 0, slots := 0, locals := 200 } : Room) [.ref t, .int (iI p1), .int (iI p2)] [(t, .inr (11, oX11 t_q)), ((t_q 1), .inr (7, oX7 t_1_q t_1_x0 t_1_x1 t_1_x2 t_1_x3 t_1_x4 t_1_x5 t_1_x6 t_1_x7 t_1_x8)), ((t_q 7), .inr (10, oX10 t_7_q t_7_x0 t_7_x1 t_7_x6)), ((t_7_q 3), .inl (K 0, 24, .inl (fun j => iI (t_7_3_c j)))), ((t_1_q 11), .inl (K 0, 12, .inl (fun j => iI (t_1_11_c j)))), ((t_1_q 9), .inl (K 0, 5, .inl (fun j => iI (t_1_9_c j)))), ((t_1_q 12), .inl (K 0, 24, .inl (fun j => iI (t_1_12_c j))))] (fun r u => ∃ k : Int, r = iI k ∧ (0 ≤ k ∧ k ≤ 24) ∧ True) (fun u => [(t, .inr (11, oX11 t_q)), ((t_q 1), .inr (7, oX7 t_1_q t_1_x0 t_1_x1 t_1_x2 t_1_x3 t_1_x4 t_1_x5 t_1_x6 t_1_x7 t_1_x8)), ((t_q 7), .inr (10, oX10 t_7_q t_7_x0 t_7_x1 t_7_x6)), ((t_7_q 3), .inl (K 0, 24, .inl (fun j => iI (t_7_3_c j)))), ((t_1_q 11), .inl (K 0, 12, .inl (fun j => iI (t_1_11_c j)))), ((t_1_q 9), .inl (K 0, 5, .inl (fun j => iI (t_1_9_c j)))), ((t_1_q 12), .inl (K 0, 24, .inl (fun j => iI (t_1_12_c j))))]) 0 0 := by
  refine g_inI (cc := cX11_leadsBetween) (maxL := 6) (ret := (some .int)) (by decide) rfl (Nat.le_of_ble_eq_true rfl) ?_
  intro p e s m below meth c A ls ag Q B hA hP hD hS hl hQ
  obtain ⟨hx, hb, hr, hml, hts, hown, hlocks, hin, hK⟩ := B
  have hown : s.vm.findClass RX11 = some m.cls := hown
  have hts := fun w h => hts w (List.mem_cons_of_mem _ h)
  have J5 : ∀ (n : Nat) (x5_3 : Int) (x5_4 : Int) (H : Heap) (locs : List Loc) (ls : Array Slot), (24 - x5_4).toNat < n → (0 ≤ x5_3 ∧ x5_3 ≤ 24 ∧ 0 ≤ x5_4 ∧ x5_4 ≤ 24 ∧ x5_3 ≤ x5_4) → va_P D vwCl [(t, .inr (11, oX11 t_q)), ((t_q 1), .inr (7, oX7 t_1_q t_1_x0 t_1_x1 t_1_x2 t_1_x3 t_1_x4 t_1_x5 t_1_x6 t_1_x7 t_1_x8)), ((t_q 7), .inr (10, oX10 t_7_q t_7_x0 t_7_x1 t_7_x6)), ((t_7_q 3), .inl (K 0, 24, .inl (fun j => iI (t_7_3_c j)))), ((t_1_q 11), .inl (K 0, 12, .inl (fun j => iI (t_1_11_c j)))), ((t_1_q 9), .inl (K 0, 5, .inl (fun j => iI (t_1_9_c j)))), ((t_1_q 12), .inl (K 0, 24, .inl (fun j => iI (t_1_12_c j))))] H → va_D A [(t, .inr (11, oX11 t_q)), ((t_q 1), .inr (7, oX7 t_1_q t_1_x0 t_1_x1 t_1_x2 t_1_x3 t_1_x4 t_1_x5 t_1_x6 t_1_x7 t_1_x8)), ((t_q 7), .inr (10, oX10 t_7_q t_7_x0 t_7_x1 t_7_x6)), ((t_7_q 3), .inl (K 0, 24, .inl (fun j => iI (t_7_3_c j)))), ((t_1_q 11), .inl (K 0, 12, .inl (fun j => iI (t_1_11_c j)))), ((t_1_q 9), .inl (K 0, 5, .inl (fun j => iI (t_1_9_c j)))), ((t_1_q 12), .inl (K 0, 24, .inl (fun j => iI (t_1_12_c j))))] → va_S A s.heap H locs → lv_has ls 6 [(0, .ref t), (1, .int (iI p1)), (2, .int (iI p2)), (3, .int (iI x5_3)), (4, .int (iI x5_4))] → W p l e ({ frames := 8, cells := 0, slots := 0, locals := 200 } : Room) s m ag below meth c H locs 0 0 Q (F0 m 5 ls []) := by
    intro n
    induction n with
    | zero =>
      intro x5_3 x5_4 H locs ls hm5 hf5 hP hD hS hl
      exact absurd hm5 (Nat.not_lt_zero _)
    | succ n ih5 =>
      intro x5_3 x5_4 H locs ls hm5 hf5 hP hD hS hl
      have J71 : ∀ (x71_3 : Int) (x71_5 : Int) (H : Heap) (locs : List Loc) (ls : Array Slot), (0 ≤ x71_3 ∧ x71_3 ≤ 24 ∧ 0 ≤ x5_4 ∧ x5_4 ≤ 23 ∧ (-1) ≤ x71_5 ∧ x71_5 ≤ 11 ∧ 1 ≤ t_1_x5 ∧ t_1_x5 ≤ 24 ∧ x71_3 ≤ x5_4 + 1) → va_P D vwCl [(t, .inr (11, oX11 t_q)), ((t_q 1), .inr (7, oX7 t_1_q t_1_x0 t_1_x1 t_1_x2 t_1_x3 t_1_x4 t_1_x5 t_1_x6 t_1_x7 t_1_x8)), ((t_q 7), .inr (10, oX10 t_7_q t_7_x0 t_7_x1 t_7_x6)), ((t_7_q 3), .inl (K 0, 24, .inl (fun j => iI (t_7_3_c j)))), ((t_1_q 11), .inl (K 0, 12, .inl (fun j => iI (t_1_11_c j)))), ((t_1_q 9), .inl (K 0, 5, .inl (fun j => iI (t_1_9_c j)))), ((t_1_q 12), .inl (K 0, 24, .inl (fun j => iI (t_1_12_c j))))] H → va_D A [(t, .inr (11, oX11 t_q)), ((t_q 1), .inr (7, oX7 t_1_q t_1_x0 t_1_x1 t_1_x2 t_1_x3 t_1_x4 t_1_x5 t_1_x6 t_1_x7 t_1_x8)), ((t_q 7), .inr (10, oX10 t_7_q t_7_x0 t_7_x1 t_7_x6)), ((t_7_q 3), .inl (K 0, 24, .inl (fun j => iI (t_7_3_c j)))), ((t_1_q 11), .inl (K 0, 12, .inl (fun j => iI (t_1_11_c j)))), ((t_1_q 9), .inl (K 0, 5, .inl (fun j => iI (t_1_9_c j)))), ((t_1_q 12), .inl (K 0, 24, .inl (fun j => iI (t_1_12_c j))))] → va_S A s.heap H locs → lv_has ls 6 [(0, .ref t), (1, .int (iI p1)), (2, .int (iI p2)), (3, .int (iI x71_3)), (4, .int (iI x5_4)), (5, .int (iI x71_5))] → W p l e ({ frames := 8, cells := 0, slots := 0, locals := 200 } : Room) s m ag below meth c H locs 0 0 Q (F0 m 71 ls []) := by
        intro x71_3 x71_5 H locs ls hf71 hP hD hS hl
        refine lv_iinc (v := iI (x5_4 + 1)) (lv' := [(4, .int (iI (x5_4 + 1))), (0, .ref t), (1, .int (iI p1)), (2, .int (iI p2)), (3, .int (iI x71_3)), (5, .int (iI x71_5))]) hx hb dX11_leadsBetween_71 hl (k := 4) rfl (iI_add _ _) (by decide) rfl (fun ls hl => ?_)
        refine lv_goto (tgt := 5) hx hb dX11_leadsBetween_74 (by decide) ?_
        exact ih5 x71_3 (x5_4 + 1) _ _ ls (by omega) (by omega) (hP.sub [0, 1, 2, 3, 4, 5, 6] rfl) (hD.sub [0, 1, 2, 3, 4, 5, 6] (by decide) rfl) hS (lv_sub hl [1, 2, 3, 4, 0] rfl)
      refine lv_iload hx hb dX11_leadsBetween_5 (lv_at hl 4 rfl) ?_
      refine lv_aload_n hx hb dX11_leadsBetween_7 rfl (lv_at hl 0 rfl) ?_
      refine va_get (D := D) (own := RX11) (ci := 11) (v := .ref (t_q 1)) (C := RX11) (T := TX11) (N := 13) hx hb hts inb_X11 hown hK.1 hP 0 rfl rfl 1 (by decide) (hts _ wd_423) (fun _ h9 => h9) rfl dX11_leadsBetween_8 ?_
      refine va_getN (D := D) (own := RX11) (ci := 7) (v := .int (iI t_1_x5)) (C := RX7) (T := TX7) (N := 15) hx hb hts inb_X7 hown hK.1 hP 1 rfl rfl 5 (by decide) (hK.nf 29 rfl) (fun _ h9 => h9) rfl dX11_leadsBetween_11 ?_
      have y11_1 : 0 ≤ t_1_x5 ∧ t_1_x5 ≤ 24 := hi_t_1.2.2.2.2.2.1
      refine g_icmp_ge (tgt := 77) hx hb (by omega) (by omega) dX11_leadsBetween_14 (by decide) (fun c14 => ?_) (fun c14 => ?_)
      · refine lv_iload_n hx hb dX11_leadsBetween_77 rfl (lv_at hl 3 rfl) ?_
        rw [hQ]; exact fn_iret hx hb hr hlocks rfl hP hD hS ((fun _ => 0), (fun _ _ => 0)) ⟨x5_3, rfl, by omega, trivial⟩ [0, 1, 2, 3, 4, 5, 6] (by decide) rfl dX11_leadsBetween_78
      · refine lv_aload_n hx hb dX11_leadsBetween_17 rfl (lv_at hl 0 rfl) ?_
        refine va_get (D := D) (own := RX11) (ci := 11) (v := .ref (t_q 7)) (C := RX11) (T := TX11) (N := 13) hx hb hts inb_X11 hown hK.1 hP 0 rfl rfl 7 (by decide) (hts _ wd_429) (fun _ h9 => h9) rfl dX11_leadsBetween_18 ?_
        refine va_getN (D := D) (own := RX11) (ci := 10) (v := .ref (t_7_q 3)) (C := RX10) (T := TX10) (N := 7) hx hb hts inb_X10 hown hK.1 hP 2 rfl rfl 3 (by decide) (hK.nf 69 rfl) (fun _ h9 => h9) rfl dX11_leadsBetween_21 ?_
        refine lv_iload hx hb dX11_leadsBetween_24 (lv_at hl 4 rfl) ?_
        refine g_iald hx hb hK.1 hP 3 0 rfl rfl (by omega) (by omega) (by decide) dX11_leadsBetween_26 ?_
        have y26 : (-1) ≤ (t_7_3_c x5_4.toNat) ∧ (t_7_3_c x5_4.toNat) ≤ 11 := hc_t_7_3 x5_4.toNat
        refine lv_istore (lv' := [(5, .int (iI (t_7_3_c x5_4.toNat))), (0, .ref t), (1, .int (iI p1)), (2, .int (iI p2)), (3, .int (iI x5_3)), (4, .int (iI x5_4))]) hx hb dX11_leadsBetween_27 hl (by decide) rfl (fun ls hl => ?_)
        refine lv_iload hx hb dX11_leadsBetween_29 (lv_at hl 0 rfl) ?_
        refine g_if_lt (tgt := 71) hx hb (by omega) dX11_leadsBetween_31 (by decide) (fun c31 => ?_) (fun c31 => ?_)
        · exact J71 x5_3 (t_7_3_c x5_4.toNat) _ _ ls (by omega) (hP.sub [0, 1, 2, 3, 4, 5, 6] rfl) (hD.sub [0, 1, 2, 3, 4, 5, 6] (by decide) rfl) hS (lv_sub hl [1, 2, 3, 4, 5, 0] rfl)
        · refine lv_aload_n hx hb dX11_leadsBetween_34 rfl (lv_at hl 1 rfl) ?_
          refine va_get (D := D) (own := RX11) (ci := 11) (v := .ref (t_q 1)) (C := RX11) (T := TX11) (N := 13) hx hb hts inb_X11 hown hK.1 hP 0 rfl rfl 1 (by decide) (hts _ wd_423) (fun _ h9 => h9) rfl dX11_leadsBetween_35 ?_
          refine lv_iload hx hb dX11_leadsBetween_38 (lv_at hl 0 rfl) ?_
          refine fn_goi (wc := [((t_q 1), .inr (7, oX7 t_1_q t_1_x0 t_1_x1 t_1_x2 t_1_x3 t_1_x4 t_1_x5 t_1_x6 t_1_x7 t_1_x8)), ((t_1_q 11), .inl (K 0, 12, .inl (fun j => iI (t_1_11_c j)))), ((t_1_q 9), .inl (K 0, 5, .inl (fun j => iI (t_1_9_c j))))]) (wr := [(t, .inr (11, oX11 t_q)), ((t_q 7), .inr (10, oX10 t_7_q t_7_x0 t_7_x1 t_7_x6)), ((t_7_q 3), .inl (K 0, 24, .inl (fun j => iI (t_7_3_c j)))), ((t_1_q 12), .inl (K 0, 24, .inl (fun j => iI (t_1_12_c j))))]) hK hP hD hS hA [1, 4, 5] [0, 2, 3, 6] rfl rfl (by decide) (fun hp => va_runVN (C := RX7) (As := [.int (iI (t_7_3_c x5_4.toNat))]) (rest := []) ⟨hx, hb, hml, hown, hts⟩ (k_X7_scholarOf (l := l) (D := D) (K := K) (t := (t_q 1)) (p1 := (t_7_3_c x5_4.toNat)) (t_q := t_1_q) (t_x0 := t_1_x0) (t_x1 := t_1_x1) (t_x2 := t_1_x2) (t_x3 := t_1_x3) (t_x4 := t_1_x4) (t_x5 := t_1_x5) (t_x6 := t_1_x6) (t_x7 := t_1_x7) (t_x8 := t_1_x8) (t_11_c := t_1_11_c) (t_9_c := t_1_9_c) (hp1 := (by omega)) (hi_t := hi_t_1) (hc_t_11 := hc_t_1_11) (hc_t_9 := hc_t_1_9) _) ⟨va_cnB (own := RX11) 1 hts (fn_gin wd_1138) rfl rfl rfl (hK.nw 151 rfl) (hts _ wd_4) (by decide +kernel) ⟨Nat.le_of_ble_eq_true rfl, Nat.le_of_ble_eq_true rfl⟩, hts _ wd_1137, hts _ wp_85⟩ ⟨fn_blind, va_recv hK.1 hP (ci := 7) (q0 := 1) rfl rfl, hp⟩ rfl rfl hl.1 rfl (lv_room (Nat.le_of_ble_eq_true rfl)) dX11_leadsBetween_40 ⟨Nat.le_of_ble_eq_true rfl, Nat.le_of_ble_eq_true rfl⟩) (fun r40 u40 H locs hwu40 hP hD hS => ?_)
          obtain ⟨u40a, u40b⟩ := u40
          obtain ⟨kr40, rfl, hkr40, -⟩ := hwu40
          have hP : va_P D vwCl [(t, .inr (11, oX11 t_q)), ((t_q 7), .inr (10, oX10 t_7_q t_7_x0 t_7_x1 t_7_x6)), ((t_7_q 3), .inl (K 0, 24, .inl (fun j => iI (t_7_3_c j)))), ((t_1_q 12), .inl (K 0, 24, .inl (fun j => iI (t_1_12_c j)))), ((t_q 1), .inr (7, oX7 t_1_q t_1_x0 t_1_x1 t_1_x2 t_1_x3 t_1_x4 t_1_x5 t_1_x6 t_1_x7 t_1_x8)), ((t_1_q 11), .inl (K 0, 12, .inl (fun j => iI (t_1_11_c j)))), ((t_1_q 9), .inl (K 0, 5, .inl (fun j => iI (t_1_9_c j))))] H := hP
          have hD : va_D A [(t, .inr (11, oX11 t_q)), ((t_q 7), .inr (10, oX10 t_7_q t_7_x0 t_7_x1 t_7_x6)), ((t_7_q 3), .inl (K 0, 24, .inl (fun j => iI (t_7_3_c j)))), ((t_1_q 12), .inl (K 0, 24, .inl (fun j => iI (t_1_12_c j)))), ((t_q 1), .inr (7, oX7 t_1_q t_1_x0 t_1_x1 t_1_x2 t_1_x3 t_1_x4 t_1_x5 t_1_x6 t_1_x7 t_1_x8)), ((t_1_q 11), .inl (K 0, 12, .inl (fun j => iI (t_1_11_c j)))), ((t_1_q 9), .inl (K 0, 5, .inl (fun j => iI (t_1_9_c j))))] := hD
          refine lv_iload_n hx hb dX11_leadsBetween_43 rfl (lv_at hl 3 rfl) ?_
          refine g_icmp_ne (tgt := 71) hx hb (by omega) (by omega) dX11_leadsBetween_44 (by decide) (fun c44 => ?_) (fun c44 => ?_)
          · exact J71 x5_3 (t_7_3_c x5_4.toNat) _ _ ls (by omega) (hP.sub [0, 4, 1, 2, 5, 6, 3] rfl) (hD.sub [0, 4, 1, 2, 5, 6, 3] (by decide) rfl) hS (lv_sub hl [1, 2, 3, 4, 5, 0] rfl)
          · refine fn_at 47 rfl ?_
            refine lv_aload_n hx hb dX11_leadsBetween_47 rfl (lv_at hl 1 rfl) ?_
            refine va_get (D := D) (own := RX11) (ci := 11) (v := .ref (t_q 1)) (C := RX11) (T := TX11) (N := 13) hx hb hts inb_X11 hown hK.1 hP 0 rfl rfl 1 (by decide) (hts _ wd_423) (fun _ h9 => h9) rfl dX11_leadsBetween_48 ?_
            refine lv_aload_n hx hb dX11_leadsBetween_51 rfl (lv_at hl 1 rfl) ?_
            refine va_get (D := D) (own := RX11) (ci := 11) (v := .ref (t_q 1)) (C := RX11) (T := TX11) (N := 13) hx hb hts inb_X11 hown hK.1 hP 0 rfl rfl 1 (by decide) (hts _ wd_423) (fun _ h9 => h9) rfl dX11_leadsBetween_52 ?_
            refine va_getN (D := D) (own := RX11) (ci := 7) (v := .ref (t_1_q 12)) (C := RX7) (T := TX7) (N := 15) hx hb hts inb_X7 hown hK.1 hP 4 rfl rfl 12 (by decide) (hK.nf 46 rfl) (fun _ h9 => h9) rfl dX11_leadsBetween_55 ?_
            refine lv_iload hx hb dX11_leadsBetween_58 (lv_at hl 5 rfl) ?_
            refine g_iald hx hb hK.1 hP 3 0 rfl rfl (by omega) (by omega) (by decide) dX11_leadsBetween_60 ?_
            have y60 : 0 ≤ (t_1_12_c x5_4.toNat) ∧ (t_1_12_c x5_4.toNat) ≤ 11 := hc_t_1_12 x5_4.toNat
            refine fn_goi (wc := [((t_q 1), .inr (7, oX7 t_1_q t_1_x0 t_1_x1 t_1_x2 t_1_x3 t_1_x4 t_1_x5 t_1_x6 t_1_x7 t_1_x8)), ((t_1_q 11), .inl (K 0, 12, .inl (fun j => iI (t_1_11_c j)))), ((t_1_q 9), .inl (K 0, 5, .inl (fun j => iI (t_1_9_c j))))]) (wr := [(t, .inr (11, oX11 t_q)), ((t_q 7), .inr (10, oX10 t_7_q t_7_x0 t_7_x1 t_7_x6)), ((t_7_q 3), .inl (K 0, 24, .inl (fun j => iI (t_7_3_c j)))), ((t_1_q 12), .inl (K 0, 24, .inl (fun j => iI (t_1_12_c j))))]) hK hP hD hS hA [4, 5, 6] [0, 1, 2, 3] rfl rfl (by decide) (fun hp => va_runVN (C := RX7) (As := [.int (iI (t_1_12_c x5_4.toNat))]) (rest := []) ⟨hx, hb, hml, hown, hts⟩ (k_X7_scholarOf (l := l) (D := D) (K := K) (t := (t_q 1)) (p1 := (t_1_12_c x5_4.toNat)) (t_q := t_1_q) (t_x0 := t_1_x0) (t_x1 := t_1_x1) (t_x2 := t_1_x2) (t_x3 := t_1_x3) (t_x4 := t_1_x4) (t_x5 := t_1_x5) (t_x6 := t_1_x6) (t_x7 := t_1_x7) (t_x8 := t_1_x8) (t_11_c := t_1_11_c) (t_9_c := t_1_9_c) (hp1 := (by omega)) (hi_t := hi_t_1) (hc_t_11 := hc_t_1_11) (hc_t_9 := hc_t_1_9) _) ⟨va_cnB (own := RX11) 1 hts (fn_gin wd_1138) rfl rfl rfl (hK.nw 151 rfl) (hts _ wd_4) (by decide +kernel) ⟨Nat.le_of_ble_eq_true rfl, Nat.le_of_ble_eq_true rfl⟩, hts _ wd_1137, hts _ wp_85⟩ ⟨fn_blind, va_recv hK.1 hP (ci := 7) (q0 := 4) rfl rfl, hp⟩ rfl rfl hl.1 rfl (lv_room (Nat.le_of_ble_eq_true rfl)) dX11_leadsBetween_61 ⟨Nat.le_of_ble_eq_true rfl, Nat.le_of_ble_eq_true rfl⟩) (fun r61 u61 H locs hwu61 hP hD hS => ?_)
            obtain ⟨u61a, u61b⟩ := u61
            obtain ⟨kr61, rfl, hkr61, -⟩ := hwu61
            have hP : va_P D vwCl [(t, .inr (11, oX11 t_q)), ((t_q 7), .inr (10, oX10 t_7_q t_7_x0 t_7_x1 t_7_x6)), ((t_7_q 3), .inl (K 0, 24, .inl (fun j => iI (t_7_3_c j)))), ((t_1_q 12), .inl (K 0, 24, .inl (fun j => iI (t_1_12_c j)))), ((t_q 1), .inr (7, oX7 t_1_q t_1_x0 t_1_x1 t_1_x2 t_1_x3 t_1_x4 t_1_x5 t_1_x6 t_1_x7 t_1_x8)), ((t_1_q 11), .inl (K 0, 12, .inl (fun j => iI (t_1_11_c j)))), ((t_1_q 9), .inl (K 0, 5, .inl (fun j => iI (t_1_9_c j))))] H := hP
            have hD : va_D A [(t, .inr (11, oX11 t_q)), ((t_q 7), .inr (10, oX10 t_7_q t_7_x0 t_7_x1 t_7_x6)), ((t_7_q 3), .inl (K 0, 24, .inl (fun j => iI (t_7_3_c j)))), ((t_1_q 12), .inl (K 0, 24, .inl (fun j => iI (t_1_12_c j)))), ((t_q 1), .inr (7, oX7 t_1_q t_1_x0 t_1_x1 t_1_x2 t_1_x3 t_1_x4 t_1_x5 t_1_x6 t_1_x7 t_1_x8)), ((t_1_q 11), .inl (K 0, 12, .inl (fun j => iI (t_1_11_c j)))), ((t_1_q 9), .inl (K 0, 5, .inl (fun j => iI (t_1_9_c j))))] := hD
            refine lv_iload_n hx hb dX11_leadsBetween_64 rfl (lv_at hl 2 rfl) ?_
            refine g_icmp_ne (tgt := 71) hx hb (by omega) (by omega) dX11_leadsBetween_65 (by decide) (fun c65 => ?_) (fun c65 => ?_)
            · exact J71 x5_3 (t_7_3_c x5_4.toNat) _ _ ls (by omega) (hP.sub [0, 4, 1, 2, 5, 6, 3] rfl) (hD.sub [0, 4, 1, 2, 5, 6, 3] (by decide) rfl) hS (lv_sub hl [1, 2, 3, 4, 5, 0] rfl)
            · refine lv_iinc (v := iI (x5_3 + 1)) (lv' := [(3, .int (iI (x5_3 + 1))), (5, .int (iI (t_7_3_c x5_4.toNat))), (0, .ref t), (1, .int (iI p1)), (2, .int (iI p2)), (4, .int (iI x5_4))]) hx hb dX11_leadsBetween_68 hl (k := 4) rfl (iI_add _ _) (by decide) rfl (fun ls hl => ?_)
              exact J71 (x5_3 + 1) (t_7_3_c x5_4.toNat) _ _ ls (by omega) (hP.sub [0, 4, 1, 2, 5, 6, 3] rfl) (hD.sub [0, 4, 1, 2, 5, 6, 3] (by decide) rfl) hS (lv_sub hl [2, 3, 4, 0, 5, 1] rfl)
  have hl : lv_has ls 6 [(0, .ref t), (1, .int (iI p1)), (2, .int (iI p2))] := hl
  refine lv_iconst (v := iI 0) hx hb dX11_leadsBetween_0 rfl ?_
  refine lv_istore_n (lv' := [(3, .int (iI 0)), (0, .ref t), (1, .int (iI p1)), (2, .int (iI p2))]) hx hb dX11_leadsBetween_1 rfl hl (by decide) rfl (fun ls hl => ?_)
  refine lv_iconst (v := iI 0) hx hb dX11_leadsBetween_2 rfl ?_
  refine lv_istore (lv' := [(4, .int (iI 0)), (3, .int (iI 0)), (0, .ref t), (1, .int (iI p1)), (2, .int (iI p2))]) hx hb dX11_leadsBetween_3 hl (by decide) rfl (fun ls hl => ?_)
  exact J5 _ 0 0 _ _ ls (Nat.lt_succ_self _) (by omega) (hP.sub [0, 1, 2, 3, 4, 5, 6] rfl) (hD.sub [0, 1, 2, 3, 4, 5, 6] (by decide) rfl) hS (lv_sub hl [2, 3, 4, 1, 0] rfl)
theorem wd_1134 : Cond.code ⟨"FootNotes", "leadsBetween", "(II)I"⟩ prog_1_method_66_code 6 (Option.some Jvm.ClassFile.FieldType.int) ∈ fn_big := fn_tb (fn_l5 (List.mem_of_getElem? (i := 174) (by decide +kernel))) (by decide +kernel)
theorem wd_1131 : Cond.methodLink "FootNotes" 410 ⟨"FootNotes", "leadsBetween", "(II)I"⟩ ∈ fn_big := fn_tb (fn_l5 (List.mem_of_getElem? (i := 171) (by decide +kernel))) (by decide +kernel)
theorem wd_1133 : Cond.instanceMethod ⟨"FootNotes", "leadsBetween", "(II)I"⟩ ∈ fn_big := fn_tb (fn_l5 (List.mem_of_getElem? (i := 173) (by decide +kernel))) (by decide +kernel)
theorem wp_84 : Cond.selects "FootNotes" ⟨"FootNotes", "leadsBetween", "(II)I"⟩ ⟨"FootNotes", "leadsBetween", "(II)I"⟩ ∈ fn_big := fn_sel (q := (⟨"FootNotes", "leadsBetween", "(II)I"⟩, 13)) 84 (by decide +kernel) (by decide +kernel)
theorem dX11_leadsTo_4 : decode cX11_leadsTo 4 = .ok (.iload_n 3, 1) := by decide +kernel
theorem dX11_leadsTo_5 : decode cX11_leadsTo 5 = .ok (.iconst 5, 1) := by decide +kernel
theorem dX11_leadsTo_6 : decode cX11_leadsTo 6 = .ok (.if_icmp .ge 18, 3) := by decide +kernel
theorem dX11_leadsTo_24 : decode cX11_leadsTo 24 = .ok (.iload_n 2, 1) := by decide +kernel
theorem dX11_leadsTo_25 : decode cX11_leadsTo 25 = .ok (.ireturn, 1) := by decide +kernel
theorem dX11_leadsTo_9 : decode cX11_leadsTo 9 = .ok (.iload_n 2, 1) := by decide +kernel
theorem dX11_leadsTo_10 : decode cX11_leadsTo 10 = .ok (.aload_n 0, 1) := by decide +kernel
theorem dX11_leadsTo_11 : decode cX11_leadsTo 11 = .ok (.iload_n 3, 1) := by decide +kernel
theorem dX11_leadsTo_12 : decode cX11_leadsTo 12 = .ok (.iload_n 1, 1) := by decide +kernel
theorem dX11_leadsTo_13 : decode cX11_leadsTo 13 = .ok (.invokevirtual 410, 3) := by decide +kernel
theorem dX11_leadsTo_16 : decode cX11_leadsTo 16 = .ok (.iadd, 1) := by decide +kernel
theorem dX11_leadsTo_17 : decode cX11_leadsTo 17 = .ok (.istore_n 2, 1) := by decide +kernel
theorem dX11_leadsTo_18 : decode cX11_leadsTo 18 = .ok (.iinc 3 1, 3) := by decide +kernel
theorem dX11_leadsTo_21 : decode cX11_leadsTo 21 = .ok (.goto (-17), 3) := by decide +kernel
theorem dX11_leadsTo_0 : decode cX11_leadsTo 0 = .ok (.iconst 0, 1) := by decide +kernel
theorem dX11_leadsTo_1 : decode cX11_leadsTo 1 = .ok (.istore_n 2, 1) := by decide +kernel
theorem dX11_leadsTo_2 : decode cX11_leadsTo 2 = .ok (.iconst 0, 1) := by decide +kernel
theorem dX11_leadsTo_3 : decode cX11_leadsTo 3 = .ok (.istore_n 3, 1) := by decide +kernel
set_option maxHeartbeats 4000000 in
set_option maxRecDepth 100000 in
theorem k_X11_leadsTo (l : Launch) (D : va_G) (K : Nat → ClassId) (t : Nat) (t_q t_1_q t_7_q : Nat → Nat) (p1 t_1_x0 t_1_x1 t_1_x2 t_1_x3 t_1_x4 t_1_x5 t_1_x6 t_1_x7 t_1_x8 t_7_x0 t_7_x1 t_7_x6 : Int) (t_7_3_c : Nat → Int) (t_1_11_c : Nat → Int) (t_1_9_c : Nat → Int) (t_1_12_c : Nat → Int) (hp1 : (-2147483648) ≤ p1 ∧ p1 ≤ 2147483647) (hi_t_1 : bX7 t_1_x0 t_1_x1 t_1_x2 t_1_x3 t_1_x4 t_1_x5 t_1_x6 t_1_x7 t_1_x8) (hi_t_7 : bX10 t_7_x0 t_7_x1 t_7_x6) (hc_t_7_3 : ∀ j : Nat, (-1) ≤ t_7_3_c j ∧ t_7_3_c j ≤ 11) (hc_t_1_11 : ∀ j : Nat, 0 ≤ t_1_11_c j ∧ t_1_11_c j ≤ 4) (hc_t_1_9 : ∀ j : Nat, 0 ≤ t_1_9_c j ∧ t_1_9_c j ≤ 4) (hc_t_1_12 : ∀ j : Nat, 0 ≤ t_1_12_c j ∧ t_1_12_c j ≤ 11) : fn_CI (S := (Nat → Int) × (Nat → Nat → Int)) l D K yX11_leadsTo (fn_ws yX11_leadsTo cX11_leadsTo 4 (some .int)) ({ frames := 12, cells := 0, slots := 0, locals := 300 } : Room) [.ref t, .int (iI p1)] [(t, .inr (11, oX11 t_q)), ((t_q 1), .inr (7, oX7 t_1_q t_1_x0 t_1_x1 t_1_x2 t_1_x3 t_1_x4 t_1_x5 t_1_x6 t_1_x7 t_1_x8)), ((t_q 7), .inr (10, oX10 t_7_q t_7_x0 t_7_x1 t_7_x6)), ((t_7_q 3), .inl (K 0, 24, .inl (fun j => iI (t_7_3_c j)))), ((t_1_q 11), .inl (K 0, 12, .inl (fun j => iI (t_1_11_c j)))), ((t_1_q 9), .inl (K 0, 5, .inl (fun j => iI (t_1_9_c j)))), ((t_1_q 12), .inl (K 0, 24, .inl (fun j => iI (t_1_12_c j))))] (fun r u => ∃ k : Int, r = iI k ∧ ((-2147483648) ≤ k ∧ k ≤ 2147483647) ∧ True) (fun u => [(t, .inr (11, oX11 t_q)), ((t_q 1), .inr (7, oX7 t_1_q t_1_x0 t_1_x1 t_1_x2 t_1_x3 t_1_x4 t_1_x5 t_1_x6 t_1_x7 t_1_x8)), ((t_q 7), .inr (10, oX10 t_7_q t_7_x0 t_7_x1 t_7_x6)), ((t_7_q 3), .inl (K 0, 24, .inl (fun j => iI (t_7_3_c j)))), ((t_1_q 11), .inl (K 0, 12, .inl (fun j => iI (t_1_11_c j)))), ((t_1_q 9), .inl (K 0, 5, .inl (fun j => iI (t_1_9_c j)))), ((t_1_q 12), .inl (K 0, 24, .inl (fun j => iI (t_1_12_c j))))]) 0 0 := by
  refine g_inI (cc := cX11_leadsTo) (maxL := 4) (ret := (some .int)) (by decide) rfl (Nat.le_of_ble_eq_true rfl) ?_
  intro p e s m below meth c A ls ag Q B hA hP hD hS hl hQ
  obtain ⟨hx, hb, hr, hml, hts, hown, hlocks, hin, hK⟩ := B
  have hown : s.vm.findClass RX11 = some m.cls := hown
  have hts := fun w h => hts w (List.mem_cons_of_mem _ h)
  have J4 : ∀ (n : Nat) (x4_2 : Int) (x4_3 : Int) (H : Heap) (locs : List Loc) (ls : Array Slot), (5 - x4_3).toNat < n → ((-2147483648) ≤ x4_2 ∧ x4_2 ≤ 2147483647 ∧ 0 ≤ x4_3 ∧ x4_3 ≤ 5) → va_P D vwCl [(t, .inr (11, oX11 t_q)), ((t_q 1), .inr (7, oX7 t_1_q t_1_x0 t_1_x1 t_1_x2 t_1_x3 t_1_x4 t_1_x5 t_1_x6 t_1_x7 t_1_x8)), ((t_q 7), .inr (10, oX10 t_7_q t_7_x0 t_7_x1 t_7_x6)), ((t_7_q 3), .inl (K 0, 24, .inl (fun j => iI (t_7_3_c j)))), ((t_1_q 11), .inl (K 0, 12, .inl (fun j => iI (t_1_11_c j)))), ((t_1_q 9), .inl (K 0, 5, .inl (fun j => iI (t_1_9_c j)))), ((t_1_q 12), .inl (K 0, 24, .inl (fun j => iI (t_1_12_c j))))] H → va_D A [(t, .inr (11, oX11 t_q)), ((t_q 1), .inr (7, oX7 t_1_q t_1_x0 t_1_x1 t_1_x2 t_1_x3 t_1_x4 t_1_x5 t_1_x6 t_1_x7 t_1_x8)), ((t_q 7), .inr (10, oX10 t_7_q t_7_x0 t_7_x1 t_7_x6)), ((t_7_q 3), .inl (K 0, 24, .inl (fun j => iI (t_7_3_c j)))), ((t_1_q 11), .inl (K 0, 12, .inl (fun j => iI (t_1_11_c j)))), ((t_1_q 9), .inl (K 0, 5, .inl (fun j => iI (t_1_9_c j)))), ((t_1_q 12), .inl (K 0, 24, .inl (fun j => iI (t_1_12_c j))))] → va_S A s.heap H locs → lv_has ls 4 [(0, .ref t), (1, .int (iI p1)), (2, .int (iI x4_2)), (3, .int (iI x4_3))] → W p l e ({ frames := 12, cells := 0, slots := 0, locals := 300 } : Room) s m ag below meth c H locs 0 0 Q (F0 m 4 ls []) := by
    intro n
    induction n with
    | zero =>
      intro x4_2 x4_3 H locs ls hm4 hf4 hP hD hS hl
      exact absurd hm4 (Nat.not_lt_zero _)
    | succ n ih4 =>
      intro x4_2 x4_3 H locs ls hm4 hf4 hP hD hS hl
      refine lv_iload_n hx hb dX11_leadsTo_4 rfl (lv_at hl 3 rfl) ?_
      refine lv_iconst (v := iI 5) hx hb dX11_leadsTo_5 rfl ?_
      refine g_icmp_ge (tgt := 24) hx hb (by omega) (by omega) dX11_leadsTo_6 (by decide) (fun c6 => ?_) (fun c6 => ?_)
      · refine lv_iload_n hx hb dX11_leadsTo_24 rfl (lv_at hl 2 rfl) ?_
        rw [hQ]; exact fn_iret hx hb hr hlocks rfl hP hD hS ((fun _ => 0), (fun _ _ => 0)) ⟨x4_2, rfl, by omega, trivial⟩ [0, 1, 2, 3, 4, 5, 6] (by decide) rfl dX11_leadsTo_25
      · refine lv_iload_n hx hb dX11_leadsTo_9 rfl (lv_at hl 2 rfl) ?_
        refine lv_aload_n hx hb dX11_leadsTo_10 rfl (lv_at hl 0 rfl) ?_
        refine lv_iload_n hx hb dX11_leadsTo_11 rfl (lv_at hl 3 rfl) ?_
        refine lv_iload_n hx hb dX11_leadsTo_12 rfl (lv_at hl 1 rfl) ?_
        refine fn_goi (wc := [(t, .inr (11, oX11 t_q)), ((t_q 1), .inr (7, oX7 t_1_q t_1_x0 t_1_x1 t_1_x2 t_1_x3 t_1_x4 t_1_x5 t_1_x6 t_1_x7 t_1_x8)), ((t_q 7), .inr (10, oX10 t_7_q t_7_x0 t_7_x1 t_7_x6)), ((t_7_q 3), .inl (K 0, 24, .inl (fun j => iI (t_7_3_c j)))), ((t_1_q 11), .inl (K 0, 12, .inl (fun j => iI (t_1_11_c j)))), ((t_1_q 9), .inl (K 0, 5, .inl (fun j => iI (t_1_9_c j)))), ((t_1_q 12), .inl (K 0, 24, .inl (fun j => iI (t_1_12_c j))))]) (wr := []) hK hP hD hS hA [0, 1, 2, 3, 4, 5, 6] [] rfl rfl (by decide) (fun hp => va_runV (C := RX11) (As := [.int (iI x4_3), .int (iI p1)]) (rest := [.int (iI x4_2)]) ⟨hx, hb, hml, hown, hts⟩ (k_X11_leadsBetween (l := l) (D := D) (K := K) (t := t) (p1 := x4_3) (p2 := p1) (t_q := t_q) (t_1_q := t_1_q) (t_1_x0 := t_1_x0) (t_1_x1 := t_1_x1) (t_1_x2 := t_1_x2) (t_1_x3 := t_1_x3) (t_1_x4 := t_1_x4) (t_1_x5 := t_1_x5) (t_1_x6 := t_1_x6) (t_1_x7 := t_1_x7) (t_1_x8 := t_1_x8) (t_7_q := t_7_q) (t_7_x0 := t_7_x0) (t_7_x1 := t_7_x1) (t_7_x6 := t_7_x6) (t_7_3_c := t_7_3_c) (t_1_11_c := t_1_11_c) (t_1_9_c := t_1_9_c) (t_1_12_c := t_1_12_c) (hp1 := (by omega)) (hp2 := (by omega)) (hi_t_1 := hi_t_1) (hi_t_7 := hi_t_7) (hc_t_7_3 := hc_t_7_3) (hc_t_1_11 := hc_t_1_11) (hc_t_1_9 := hc_t_1_9) (hc_t_1_12 := hc_t_1_12) _) (cwV 2 hts (fn_ginV (fn_gin wd_1134) wd_1131 wd_1133 wp_84 wd_1) rfl rfl rfl (by decide +kernel) ⟨Nat.le_of_ble_eq_true rfl, Nat.le_of_ble_eq_true rfl⟩) ⟨fn_blind, va_recv hK.1 hP (ci := 11) (q0 := 0) rfl rfl, hp⟩ rfl rfl hl.1 rfl (lv_room (Nat.le_of_ble_eq_true rfl)) dX11_leadsTo_13 ⟨Nat.le_of_ble_eq_true rfl, Nat.le_of_ble_eq_true rfl⟩) (fun r13 u13 H locs hwu13 hP hD hS => ?_)
        obtain ⟨u13a, u13b⟩ := u13
        obtain ⟨kr13, rfl, hkr13, -⟩ := hwu13
        have hP : va_P D vwCl [(t, .inr (11, oX11 t_q)), ((t_q 1), .inr (7, oX7 t_1_q t_1_x0 t_1_x1 t_1_x2 t_1_x3 t_1_x4 t_1_x5 t_1_x6 t_1_x7 t_1_x8)), ((t_q 7), .inr (10, oX10 t_7_q t_7_x0 t_7_x1 t_7_x6)), ((t_7_q 3), .inl (K 0, 24, .inl (fun j => iI (t_7_3_c j)))), ((t_1_q 11), .inl (K 0, 12, .inl (fun j => iI (t_1_11_c j)))), ((t_1_q 9), .inl (K 0, 5, .inl (fun j => iI (t_1_9_c j)))), ((t_1_q 12), .inl (K 0, 24, .inl (fun j => iI (t_1_12_c j))))] H := hP
        have hD : va_D A [(t, .inr (11, oX11 t_q)), ((t_q 1), .inr (7, oX7 t_1_q t_1_x0 t_1_x1 t_1_x2 t_1_x3 t_1_x4 t_1_x5 t_1_x6 t_1_x7 t_1_x8)), ((t_q 7), .inr (10, oX10 t_7_q t_7_x0 t_7_x1 t_7_x6)), ((t_7_q 3), .inl (K 0, 24, .inl (fun j => iI (t_7_3_c j)))), ((t_1_q 11), .inl (K 0, 12, .inl (fun j => iI (t_1_11_c j)))), ((t_1_q 9), .inl (K 0, 5, .inl (fun j => iI (t_1_9_c j)))), ((t_1_q 12), .inl (K 0, 24, .inl (fun j => iI (t_1_12_c j))))] := hD
        refine g_iadd hx hb dX11_leadsTo_16 ?_
        refine g_any (fun w16 hw16 ew16 => ?_)
        refine lv_istore_n (lv' := [(2, .int (iI w16)), (0, .ref t), (1, .int (iI p1)), (3, .int (iI x4_3))]) hx hb dX11_leadsTo_17 rfl hl (by decide) rfl (fun ls hl => ?_)
        refine lv_iinc (v := iI (x4_3 + 1)) (lv' := [(3, .int (iI (x4_3 + 1))), (2, .int (iI w16)), (0, .ref t), (1, .int (iI p1))]) hx hb dX11_leadsTo_18 hl (k := 3) rfl (iI_add _ _) (by decide) rfl (fun ls hl => ?_)
        refine lv_goto (tgt := 4) hx hb dX11_leadsTo_21 (by decide) ?_
        exact ih4 w16 (x4_3 + 1) _ _ ls (by omega) (by omega) (hP.sub [0, 1, 2, 3, 4, 5, 6] rfl) (hD.sub [0, 1, 2, 3, 4, 5, 6] (by decide) rfl) hS (lv_sub hl [2, 3, 1, 0] rfl)
  have hl : lv_has ls 4 [(0, .ref t), (1, .int (iI p1))] := hl
  refine lv_iconst (v := iI 0) hx hb dX11_leadsTo_0 rfl ?_
  refine lv_istore_n (lv' := [(2, .int (iI 0)), (0, .ref t), (1, .int (iI p1))]) hx hb dX11_leadsTo_1 rfl hl (by decide) rfl (fun ls hl => ?_)
  refine lv_iconst (v := iI 0) hx hb dX11_leadsTo_2 rfl ?_
  refine lv_istore_n (lv' := [(3, .int (iI 0)), (2, .int (iI 0)), (0, .ref t), (1, .int (iI p1))]) hx hb dX11_leadsTo_3 rfl hl (by decide) rfl (fun ls hl => ?_)
  exact J4 _ 0 0 _ _ ls (Nat.lt_succ_self _) (by omega) (hP.sub [0, 1, 2, 3, 4, 5, 6] rfl) (hD.sub [0, 1, 2, 3, 4, 5, 6] (by decide) rfl) hS (lv_sub hl [2, 3, 1, 0] rfl)
theorem wd_1126 : Cond.code ⟨"FootNotes", "noScholar", "(I)Z"⟩ prog_1_method_63_code 2 (Option.some Jvm.ClassFile.FieldType.boolean) ∈ fn_big := fn_tb (fn_l5 (List.mem_of_getElem? (i := 166) (by decide +kernel))) (by decide +kernel)
theorem wd_1123 : Cond.methodLink "FootNotes" 404 ⟨"FootNotes", "noScholar", "(I)Z"⟩ ∈ fn_big := fn_tb (fn_l5 (List.mem_of_getElem? (i := 163) (by decide +kernel))) (by decide +kernel)
theorem wd_1125 : Cond.instanceMethod ⟨"FootNotes", "noScholar", "(I)Z"⟩ ∈ fn_big := fn_tb (fn_l5 (List.mem_of_getElem? (i := 165) (by decide +kernel))) (by decide +kernel)
theorem wp_82 : Cond.selects "FootNotes" ⟨"FootNotes", "noScholar", "(I)Z"⟩ ⟨"FootNotes", "noScholar", "(I)Z"⟩ ∈ fn_big := fn_sel (q := (⟨"FootNotes", "noScholar", "(I)Z"⟩, 13)) 82 (by decide +kernel) (by decide +kernel)
theorem wd_1130 : Cond.code ⟨"FootNotes", "leadsTo", "(I)I"⟩ prog_1_method_65_code 4 (Option.some Jvm.ClassFile.FieldType.int) ∈ fn_big := fn_tb (fn_l5 (List.mem_of_getElem? (i := 170) (by decide +kernel))) (by decide +kernel)
theorem wd_1127 : Cond.methodLink "FootNotes" 407 ⟨"FootNotes", "leadsTo", "(I)I"⟩ ∈ fn_big := fn_tb (fn_l5 (List.mem_of_getElem? (i := 167) (by decide +kernel))) (by decide +kernel)
theorem wd_1129 : Cond.instanceMethod ⟨"FootNotes", "leadsTo", "(I)I"⟩ ∈ fn_big := fn_tb (fn_l5 (List.mem_of_getElem? (i := 169) (by decide +kernel))) (by decide +kernel)
theorem wp_83 : Cond.selects "FootNotes" ⟨"FootNotes", "leadsTo", "(I)I"⟩ ⟨"FootNotes", "leadsTo", "(I)I"⟩ ∈ fn_big := fn_sel (q := (⟨"FootNotes", "leadsTo", "(I)I"⟩, 13)) 83 (by decide +kernel) (by decide +kernel)
theorem dX11_cited_0 : decode cX11_cited 0 = .ok (.aload_n 0, 1) := by decide +kernel
theorem dX11_cited_1 : decode cX11_cited 1 = .ok (.iload_n 1, 1) := by decide +kernel
theorem dX11_cited_2 : decode cX11_cited 2 = .ok (.invokevirtual 404, 3) := by decide +kernel
theorem dX11_cited_5 : decode cX11_cited 5 = .ok (.ifCond .eq 8, 3) := by decide +kernel
theorem dX11_cited_13 : decode cX11_cited 13 = .ok (.aload_n 0, 1) := by decide +kernel
theorem dX11_cited_14 : decode cX11_cited 14 = .ok (.iload_n 1, 1) := by decide +kernel
theorem dX11_cited_15 : decode cX11_cited 15 = .ok (.invokevirtual 407, 3) := by decide +kernel
theorem dX11_cited_18 : decode cX11_cited 18 = .ok (.ireturn, 1) := by decide +kernel
theorem dX11_cited_8 : decode cX11_cited 8 = .ok (.bipush (-2), 2) := by decide +kernel
theorem dX11_cited_10 : decode cX11_cited 10 = .ok (.goto 8, 3) := by decide +kernel
set_option maxHeartbeats 4000000 in
set_option maxRecDepth 100000 in
theorem k_X11_cited (l : Launch) (D : va_G) (K : Nat → ClassId) (t : Nat) (t_q t_1_q t_7_q : Nat → Nat) (p1 t_1_x0 t_1_x1 t_1_x2 t_1_x3 t_1_x4 t_1_x5 t_1_x6 t_1_x7 t_1_x8 t_7_x0 t_7_x1 t_7_x6 : Int) (t_7_3_c : Nat → Int) (t_1_11_c : Nat → Int) (t_1_9_c : Nat → Int) (t_1_12_c : Nat → Int) (hp1 : (-2147483648) ≤ p1 ∧ p1 ≤ 2147483647) (hi_t_1 : bX7 t_1_x0 t_1_x1 t_1_x2 t_1_x3 t_1_x4 t_1_x5 t_1_x6 t_1_x7 t_1_x8) (hi_t_7 : bX10 t_7_x0 t_7_x1 t_7_x6) (hc_t_7_3 : ∀ j : Nat, (-1) ≤ t_7_3_c j ∧ t_7_3_c j ≤ 11) (hc_t_1_11 : ∀ j : Nat, 0 ≤ t_1_11_c j ∧ t_1_11_c j ≤ 4) (hc_t_1_9 : ∀ j : Nat, 0 ≤ t_1_9_c j ∧ t_1_9_c j ≤ 4) (hc_t_1_12 : ∀ j : Nat, 0 ≤ t_1_12_c j ∧ t_1_12_c j ≤ 11) : fn_CI (S := (Nat → Int) × (Nat → Nat → Int)) l D K yX11_cited (fn_ws yX11_cited cX11_cited 2 (some .int)) ({ frames := 16, cells := 0, slots := 0, locals := 400 } : Room) [.ref t, .int (iI p1)] [(t, .inr (11, oX11 t_q)), ((t_q 1), .inr (7, oX7 t_1_q t_1_x0 t_1_x1 t_1_x2 t_1_x3 t_1_x4 t_1_x5 t_1_x6 t_1_x7 t_1_x8)), ((t_q 7), .inr (10, oX10 t_7_q t_7_x0 t_7_x1 t_7_x6)), ((t_7_q 3), .inl (K 0, 24, .inl (fun j => iI (t_7_3_c j)))), ((t_1_q 11), .inl (K 0, 12, .inl (fun j => iI (t_1_11_c j)))), ((t_1_q 9), .inl (K 0, 5, .inl (fun j => iI (t_1_9_c j)))), ((t_1_q 12), .inl (K 0, 24, .inl (fun j => iI (t_1_12_c j))))] (fun r u => ∃ k : Int, r = iI k ∧ ((-2147483648) ≤ k ∧ k ≤ 2147483647) ∧ True) (fun u => [(t, .inr (11, oX11 t_q)), ((t_q 1), .inr (7, oX7 t_1_q t_1_x0 t_1_x1 t_1_x2 t_1_x3 t_1_x4 t_1_x5 t_1_x6 t_1_x7 t_1_x8)), ((t_q 7), .inr (10, oX10 t_7_q t_7_x0 t_7_x1 t_7_x6)), ((t_7_q 3), .inl (K 0, 24, .inl (fun j => iI (t_7_3_c j)))), ((t_1_q 11), .inl (K 0, 12, .inl (fun j => iI (t_1_11_c j)))), ((t_1_q 9), .inl (K 0, 5, .inl (fun j => iI (t_1_9_c j)))), ((t_1_q 12), .inl (K 0, 24, .inl (fun j => iI (t_1_12_c j))))]) 0 0 := by
  refine g_inI (cc := cX11_cited) (maxL := 2) (ret := (some .int)) (by decide) rfl (Nat.le_of_ble_eq_true rfl) ?_
  intro p e s m below meth c A ls ag Q B hA hP hD hS hl hQ
  obtain ⟨hx, hb, hr, hml, hts, hown, hlocks, hin, hK⟩ := B
  have hown : s.vm.findClass RX11 = some m.cls := hown
  have hts := fun w h => hts w (List.mem_cons_of_mem _ h)
  have hl : lv_has ls 2 [(0, .ref t), (1, .int (iI p1))] := hl
  refine lv_aload_n hx hb dX11_cited_0 rfl (lv_at hl 0 rfl) ?_
  refine lv_iload_n hx hb dX11_cited_1 rfl (lv_at hl 1 rfl) ?_
  refine fn_goi (wc := [(t, .inr (11, oX11 t_q)), ((t_q 1), .inr (7, oX7 t_1_q t_1_x0 t_1_x1 t_1_x2 t_1_x3 t_1_x4 t_1_x5 t_1_x6 t_1_x7 t_1_x8))]) (wr := [((t_q 7), .inr (10, oX10 t_7_q t_7_x0 t_7_x1 t_7_x6)), ((t_7_q 3), .inl (K 0, 24, .inl (fun j => iI (t_7_3_c j)))), ((t_1_q 11), .inl (K 0, 12, .inl (fun j => iI (t_1_11_c j)))), ((t_1_q 9), .inl (K 0, 5, .inl (fun j => iI (t_1_9_c j)))), ((t_1_q 12), .inl (K 0, 24, .inl (fun j => iI (t_1_12_c j))))]) hK hP hD hS hA [0, 1] [2, 3, 4, 5, 6] rfl rfl (by decide) (fun hp => va_runV (C := RX11) (As := [.int (iI p1)]) (rest := []) ⟨hx, hb, hml, hown, hts⟩ (k_X11_noScholar (l := l) (D := D) (K := K) (t := t) (p1 := p1) (t_q := t_q) (t_1_q := t_1_q) (t_1_x0 := t_1_x0) (t_1_x1 := t_1_x1) (t_1_x2 := t_1_x2) (t_1_x3 := t_1_x3) (t_1_x4 := t_1_x4) (t_1_x5 := t_1_x5) (t_1_x6 := t_1_x6) (t_1_x7 := t_1_x7) (t_1_x8 := t_1_x8) (hp1 := (by omega)) (hi_t_1 := hi_t_1) _) (cwV 1 hts (fn_ginV (fn_gin wd_1126) wd_1123 wd_1125 wp_82 wd_1) rfl rfl rfl (by decide +kernel) ⟨Nat.le_of_ble_eq_true rfl, Nat.le_of_ble_eq_true rfl⟩) ⟨fn_blind, va_recv hK.1 hP (ci := 11) (q0 := 0) rfl rfl, hp⟩ rfl rfl hl.1 rfl (lv_room (Nat.le_of_ble_eq_true rfl)) dX11_cited_2 ⟨Nat.le_of_ble_eq_true rfl, Nat.le_of_ble_eq_true rfl⟩) (fun r2 u2 H locs hwu2 hP hD hS => ?_)
  obtain ⟨u2a, u2b⟩ := u2
  obtain ⟨kr2, rfl, hkr2, -⟩ := hwu2
  have hP : va_P D vwCl [((t_q 7), .inr (10, oX10 t_7_q t_7_x0 t_7_x1 t_7_x6)), ((t_7_q 3), .inl (K 0, 24, .inl (fun j => iI (t_7_3_c j)))), ((t_1_q 11), .inl (K 0, 12, .inl (fun j => iI (t_1_11_c j)))), ((t_1_q 9), .inl (K 0, 5, .inl (fun j => iI (t_1_9_c j)))), ((t_1_q 12), .inl (K 0, 24, .inl (fun j => iI (t_1_12_c j)))), (t, .inr (11, oX11 t_q)), ((t_q 1), .inr (7, oX7 t_1_q t_1_x0 t_1_x1 t_1_x2 t_1_x3 t_1_x4 t_1_x5 t_1_x6 t_1_x7 t_1_x8))] H := hP
  have hD : va_D A [((t_q 7), .inr (10, oX10 t_7_q t_7_x0 t_7_x1 t_7_x6)), ((t_7_q 3), .inl (K 0, 24, .inl (fun j => iI (t_7_3_c j)))), ((t_1_q 11), .inl (K 0, 12, .inl (fun j => iI (t_1_11_c j)))), ((t_1_q 9), .inl (K 0, 5, .inl (fun j => iI (t_1_9_c j)))), ((t_1_q 12), .inl (K 0, 24, .inl (fun j => iI (t_1_12_c j)))), (t, .inr (11, oX11 t_q)), ((t_q 1), .inr (7, oX7 t_1_q t_1_x0 t_1_x1 t_1_x2 t_1_x3 t_1_x4 t_1_x5 t_1_x6 t_1_x7 t_1_x8))] := hD
  refine g_if_eq (tgt := 13) hx hb (by omega) dX11_cited_5 (by decide) (fun c5 => ?_) (fun c5 => ?_)
  · refine lv_aload_n hx hb dX11_cited_13 rfl (lv_at hl 0 rfl) ?_
    refine lv_iload_n hx hb dX11_cited_14 rfl (lv_at hl 1 rfl) ?_
    refine fn_goi (wc := [(t, .inr (11, oX11 t_q)), ((t_q 1), .inr (7, oX7 t_1_q t_1_x0 t_1_x1 t_1_x2 t_1_x3 t_1_x4 t_1_x5 t_1_x6 t_1_x7 t_1_x8)), ((t_q 7), .inr (10, oX10 t_7_q t_7_x0 t_7_x1 t_7_x6)), ((t_7_q 3), .inl (K 0, 24, .inl (fun j => iI (t_7_3_c j)))), ((t_1_q 11), .inl (K 0, 12, .inl (fun j => iI (t_1_11_c j)))), ((t_1_q 9), .inl (K 0, 5, .inl (fun j => iI (t_1_9_c j)))), ((t_1_q 12), .inl (K 0, 24, .inl (fun j => iI (t_1_12_c j))))]) (wr := []) hK hP hD hS hA [5, 6, 0, 1, 2, 3, 4] [] rfl rfl (by decide) (fun hp => va_runV (C := RX11) (As := [.int (iI p1)]) (rest := []) ⟨hx, hb, hml, hown, hts⟩ (k_X11_leadsTo (l := l) (D := D) (K := K) (t := t) (p1 := p1) (t_q := t_q) (t_1_q := t_1_q) (t_1_x0 := t_1_x0) (t_1_x1 := t_1_x1) (t_1_x2 := t_1_x2) (t_1_x3 := t_1_x3) (t_1_x4 := t_1_x4) (t_1_x5 := t_1_x5) (t_1_x6 := t_1_x6) (t_1_x7 := t_1_x7) (t_1_x8 := t_1_x8) (t_7_q := t_7_q) (t_7_x0 := t_7_x0) (t_7_x1 := t_7_x1) (t_7_x6 := t_7_x6) (t_7_3_c := t_7_3_c) (t_1_11_c := t_1_11_c) (t_1_9_c := t_1_9_c) (t_1_12_c := t_1_12_c) (hp1 := (by omega)) (hi_t_1 := hi_t_1) (hi_t_7 := hi_t_7) (hc_t_7_3 := hc_t_7_3) (hc_t_1_11 := hc_t_1_11) (hc_t_1_9 := hc_t_1_9) (hc_t_1_12 := hc_t_1_12) _) (cwV 1 hts (fn_ginV (fn_gin wd_1130) wd_1127 wd_1129 wp_83 wd_1) rfl rfl rfl (by decide +kernel) ⟨Nat.le_of_ble_eq_true rfl, Nat.le_of_ble_eq_true rfl⟩) ⟨fn_blind, va_recv hK.1 hP (ci := 11) (q0 := 5) rfl rfl, hp⟩ rfl rfl hl.1 rfl (lv_room (Nat.le_of_ble_eq_true rfl)) dX11_cited_15 ⟨Nat.le_of_ble_eq_true rfl, Nat.le_of_ble_eq_true rfl⟩) (fun r15 u15 H locs hwu15 hP hD hS => ?_)
    obtain ⟨u15a, u15b⟩ := u15
    obtain ⟨kr15, rfl, hkr15, -⟩ := hwu15
    have hP : va_P D vwCl [(t, .inr (11, oX11 t_q)), ((t_q 1), .inr (7, oX7 t_1_q t_1_x0 t_1_x1 t_1_x2 t_1_x3 t_1_x4 t_1_x5 t_1_x6 t_1_x7 t_1_x8)), ((t_q 7), .inr (10, oX10 t_7_q t_7_x0 t_7_x1 t_7_x6)), ((t_7_q 3), .inl (K 0, 24, .inl (fun j => iI (t_7_3_c j)))), ((t_1_q 11), .inl (K 0, 12, .inl (fun j => iI (t_1_11_c j)))), ((t_1_q 9), .inl (K 0, 5, .inl (fun j => iI (t_1_9_c j)))), ((t_1_q 12), .inl (K 0, 24, .inl (fun j => iI (t_1_12_c j))))] H := hP
    have hD : va_D A [(t, .inr (11, oX11 t_q)), ((t_q 1), .inr (7, oX7 t_1_q t_1_x0 t_1_x1 t_1_x2 t_1_x3 t_1_x4 t_1_x5 t_1_x6 t_1_x7 t_1_x8)), ((t_q 7), .inr (10, oX10 t_7_q t_7_x0 t_7_x1 t_7_x6)), ((t_7_q 3), .inl (K 0, 24, .inl (fun j => iI (t_7_3_c j)))), ((t_1_q 11), .inl (K 0, 12, .inl (fun j => iI (t_1_11_c j)))), ((t_1_q 9), .inl (K 0, 5, .inl (fun j => iI (t_1_9_c j)))), ((t_1_q 12), .inl (K 0, 24, .inl (fun j => iI (t_1_12_c j))))] := hD
    rw [hQ]; exact fn_iret hx hb hr hlocks rfl hP hD hS ((fun _ => 0), (fun _ _ => 0)) ⟨kr15, rfl, by omega, trivial⟩ [0, 1, 2, 3, 4, 5, 6] (by decide) rfl dX11_cited_18
  · refine lv_bipush (v := iI (-2)) hx hb dX11_cited_8 (by decide) ?_
    refine lv_goto (tgt := 18) hx hb dX11_cited_10 (by decide) ?_
    rw [hQ]; exact fn_iret hx hb hr hlocks rfl hP hD hS ((fun _ => 0), (fun _ _ => 0)) ⟨(-2), rfl, by omega, trivial⟩ [5, 6, 0, 1, 2, 3, 4] (by decide) rfl dX11_cited_18
theorem dX11_famous_84 : decode cX11_famous 84 = .ok (.iinc 4 1, 3) := by decide +kernel
theorem dX11_famous_87 : decode cX11_famous 87 = .ok (.goto (-61), 3) := by decide +kernel
theorem dX11_famous_57 : decode cX11_famous 57 = .ok (.istore 5, 2) := by decide +kernel
theorem dX11_famous_59 : decode cX11_famous 59 = .ok (.aload_n 0, 1) := by decide +kernel
theorem dX11_famous_60 : decode cX11_famous 60 = .ok (.iload 4, 2) := by decide +kernel
theorem dX11_famous_62 : decode cX11_famous 62 = .ok (.invokevirtual 407, 3) := by decide +kernel
theorem dX11_famous_65 : decode cX11_famous 65 = .ok (.istore 6, 2) := by decide +kernel
theorem dX11_famous_67 : decode cX11_famous 67 = .ok (.iload 5, 2) := by decide +kernel
theorem dX11_famous_69 : decode cX11_famous 69 = .ok (.ifCond .eq 15, 3) := by decide +kernel
theorem dX11_famous_72 : decode cX11_famous 72 = .ok (.iload 6, 2) := by decide +kernel
theorem dX11_famous_74 : decode cX11_famous 74 = .ok (.iload_n 3, 1) := by decide +kernel
theorem dX11_famous_75 : decode cX11_famous 75 = .ok (.if_icmp .le 9, 3) := by decide +kernel
theorem dX11_famous_78 : decode cX11_famous 78 = .ok (.iload 6, 2) := by decide +kernel
theorem dX11_famous_80 : decode cX11_famous 80 = .ok (.istore_n 3, 1) := by decide +kernel
theorem dX11_famous_81 : decode cX11_famous 81 = .ok (.iload 4, 2) := by decide +kernel
theorem dX11_famous_83 : decode cX11_famous 83 = .ok (.istore_n 2, 1) := by decide +kernel
theorem dX11_famous_52 : decode cX11_famous 52 = .ok (.iconst 1, 1) := by decide +kernel
theorem dX11_famous_53 : decode cX11_famous 53 = .ok (.goto 4, 3) := by decide +kernel
theorem dX11_famous_26 : decode cX11_famous 26 = .ok (.iload 4, 2) := by decide +kernel
theorem dX11_famous_28 : decode cX11_famous 28 = .ok (.iconst 5, 1) := by decide +kernel
theorem dX11_famous_29 : decode cX11_famous 29 = .ok (.if_icmp .ge 61, 3) := by decide +kernel
theorem dX11_famous_90 : decode cX11_famous 90 = .ok (.iload_n 2, 1) := by decide +kernel
theorem dX11_famous_91 : decode cX11_famous 91 = .ok (.ireturn, 1) := by decide +kernel
theorem dX11_famous_32 : decode cX11_famous 32 = .ok (.iload_n 1, 1) := by decide +kernel
theorem dX11_famous_33 : decode cX11_famous 33 = .ok (.ifCond .eq 19, 3) := by decide +kernel
theorem dX11_famous_36 : decode cX11_famous 36 = .ok (.aload_n 0, 1) := by decide +kernel
theorem dX11_famous_37 : decode cX11_famous 37 = .ok (.getfield 19, 3) := by decide +kernel
theorem dX11_famous_40 : decode cX11_famous 40 = .ok (.getfield 160, 3) := by decide +kernel
theorem dX11_famous_43 : decode cX11_famous 43 = .ok (.iload 4, 2) := by decide +kernel
theorem dX11_famous_45 : decode cX11_famous 45 = .ok (.ishr, 1) := by decide +kernel
theorem dX11_famous_46 : decode cX11_famous 46 = .ok (.iconst 1, 1) := by decide +kernel
theorem dX11_famous_47 : decode cX11_famous 47 = .ok (.iand, 1) := by decide +kernel
theorem dX11_famous_48 : decode cX11_famous 48 = .ok (.iconst 1, 1) := by decide +kernel
theorem dX11_famous_49 : decode cX11_famous 49 = .ok (.if_icmp .ne 7, 3) := by decide +kernel
theorem dX11_famous_56 : decode cX11_famous 56 = .ok (.iconst 0, 1) := by decide +kernel
theorem dX11_famous_0 : decode cX11_famous 0 = .ok (.aload_n 0, 1) := by decide +kernel
theorem dX11_famous_1 : decode cX11_famous 1 = .ok (.invokevirtual 188, 3) := by decide +kernel
theorem dX11_famous_4 : decode cX11_famous 4 = .ok (.ifCond .ne 12, 3) := by decide +kernel
theorem dX11_famous_16 : decode cX11_famous 16 = .ok (.bipush (-2), 2) := by decide +kernel
theorem dX11_famous_18 : decode cX11_famous 18 = .ok (.ireturn, 1) := by decide +kernel
theorem dX11_famous_7 : decode cX11_famous 7 = .ok (.iload_n 1, 1) := by decide +kernel
theorem dX11_famous_8 : decode cX11_famous 8 = .ok (.ifCond .lt 8, 3) := by decide +kernel
theorem dX11_famous_11 : decode cX11_famous 11 = .ok (.iload_n 1, 1) := by decide +kernel
theorem dX11_famous_12 : decode cX11_famous 12 = .ok (.iconst 1, 1) := by decide +kernel
theorem dX11_famous_13 : decode cX11_famous 13 = .ok (.if_icmp .le 6, 3) := by decide +kernel
theorem dX11_famous_19 : decode cX11_famous 19 = .ok (.iconst (-1), 1) := by decide +kernel
theorem dX11_famous_20 : decode cX11_famous 20 = .ok (.istore_n 2, 1) := by decide +kernel
theorem dX11_famous_21 : decode cX11_famous 21 = .ok (.iconst 0, 1) := by decide +kernel
theorem dX11_famous_22 : decode cX11_famous 22 = .ok (.istore_n 3, 1) := by decide +kernel
theorem dX11_famous_23 : decode cX11_famous 23 = .ok (.iconst 0, 1) := by decide +kernel
theorem dX11_famous_24 : decode cX11_famous 24 = .ok (.istore 4, 2) := by decide +kernel
set_option maxHeartbeats 4000000 in
set_option maxRecDepth 100000 in
theorem k_X11_famous (l : Launch) (D : va_G) (K : Nat → ClassId) (t : Nat) (t_q t_1_q t_7_q : Nat → Nat) (p1 t_1_x0 t_1_x1 t_1_x2 t_1_x3 t_1_x4 t_1_x5 t_1_x6 t_1_x7 t_1_x8 t_7_x0 t_7_x1 t_7_x6 : Int) (t_7_3_c : Nat → Int) (t_1_11_c : Nat → Int) (t_1_9_c : Nat → Int) (t_1_12_c : Nat → Int) (hp1 : (-2147483648) ≤ p1 ∧ p1 ≤ 2147483647) (hi_t_1 : bX7 t_1_x0 t_1_x1 t_1_x2 t_1_x3 t_1_x4 t_1_x5 t_1_x6 t_1_x7 t_1_x8) (hi_t_7 : bX10 t_7_x0 t_7_x1 t_7_x6) (hc_t_7_3 : ∀ j : Nat, (-1) ≤ t_7_3_c j ∧ t_7_3_c j ≤ 11) (hc_t_1_11 : ∀ j : Nat, 0 ≤ t_1_11_c j ∧ t_1_11_c j ≤ 4) (hc_t_1_9 : ∀ j : Nat, 0 ≤ t_1_9_c j ∧ t_1_9_c j ≤ 4) (hc_t_1_12 : ∀ j : Nat, 0 ≤ t_1_12_c j ∧ t_1_12_c j ≤ 11) : fn_CI (S := (Nat → Int) × (Nat → Nat → Int)) l D K yX11_famous (fn_ws yX11_famous cX11_famous 7 (some .int)) ({ frames := 16, cells := 0, slots := 0, locals := 400 } : Room) [.ref t, .int (iI p1)] [(t, .inr (11, oX11 t_q)), ((t_q 1), .inr (7, oX7 t_1_q t_1_x0 t_1_x1 t_1_x2 t_1_x3 t_1_x4 t_1_x5 t_1_x6 t_1_x7 t_1_x8)), ((t_q 7), .inr (10, oX10 t_7_q t_7_x0 t_7_x1 t_7_x6)), ((t_7_q 3), .inl (K 0, 24, .inl (fun j => iI (t_7_3_c j)))), ((t_1_q 11), .inl (K 0, 12, .inl (fun j => iI (t_1_11_c j)))), ((t_1_q 9), .inl (K 0, 5, .inl (fun j => iI (t_1_9_c j)))), ((t_1_q 12), .inl (K 0, 24, .inl (fun j => iI (t_1_12_c j))))] (fun r u => ∃ k : Int, r = iI k ∧ ((-2) ≤ k ∧ k ≤ 4) ∧ True) (fun u => [(t, .inr (11, oX11 t_q)), ((t_q 1), .inr (7, oX7 t_1_q t_1_x0 t_1_x1 t_1_x2 t_1_x3 t_1_x4 t_1_x5 t_1_x6 t_1_x7 t_1_x8)), ((t_q 7), .inr (10, oX10 t_7_q t_7_x0 t_7_x1 t_7_x6)), ((t_7_q 3), .inl (K 0, 24, .inl (fun j => iI (t_7_3_c j)))), ((t_1_q 11), .inl (K 0, 12, .inl (fun j => iI (t_1_11_c j)))), ((t_1_q 9), .inl (K 0, 5, .inl (fun j => iI (t_1_9_c j)))), ((t_1_q 12), .inl (K 0, 24, .inl (fun j => iI (t_1_12_c j))))]) 0 0 := by
  refine g_inI (cc := cX11_famous) (maxL := 7) (ret := (some .int)) (by decide) rfl (Nat.le_of_ble_eq_true rfl) ?_
  intro p e s m below meth c A ls ag Q B hA hP hD hS hl hQ
  obtain ⟨hx, hb, hr, hml, hts, hown, hlocks, hin, hK⟩ := B
  have hown : s.vm.findClass RX11 = some m.cls := hown
  have hts := fun w h => hts w (List.mem_cons_of_mem _ h)
  have J26 : ∀ (n : Nat) (x26_2 : Int) (x26_3 : Int) (x26_4 : Int) (H : Heap) (locs : List Loc) (ls : Array Slot), (5 - x26_4).toNat < n → (0 ≤ p1 ∧ p1 ≤ 1 ∧ (-1) ≤ x26_2 ∧ x26_2 ≤ 4 ∧ 0 ≤ x26_3 ∧ x26_3 ≤ 2147483647 ∧ 0 ≤ x26_4 ∧ x26_4 ≤ 5) → va_P D vwCl [(t, .inr (11, oX11 t_q)), ((t_q 1), .inr (7, oX7 t_1_q t_1_x0 t_1_x1 t_1_x2 t_1_x3 t_1_x4 t_1_x5 t_1_x6 t_1_x7 t_1_x8)), ((t_q 7), .inr (10, oX10 t_7_q t_7_x0 t_7_x1 t_7_x6)), ((t_7_q 3), .inl (K 0, 24, .inl (fun j => iI (t_7_3_c j)))), ((t_1_q 11), .inl (K 0, 12, .inl (fun j => iI (t_1_11_c j)))), ((t_1_q 9), .inl (K 0, 5, .inl (fun j => iI (t_1_9_c j)))), ((t_1_q 12), .inl (K 0, 24, .inl (fun j => iI (t_1_12_c j))))] H → va_D A [(t, .inr (11, oX11 t_q)), ((t_q 1), .inr (7, oX7 t_1_q t_1_x0 t_1_x1 t_1_x2 t_1_x3 t_1_x4 t_1_x5 t_1_x6 t_1_x7 t_1_x8)), ((t_q 7), .inr (10, oX10 t_7_q t_7_x0 t_7_x1 t_7_x6)), ((t_7_q 3), .inl (K 0, 24, .inl (fun j => iI (t_7_3_c j)))), ((t_1_q 11), .inl (K 0, 12, .inl (fun j => iI (t_1_11_c j)))), ((t_1_q 9), .inl (K 0, 5, .inl (fun j => iI (t_1_9_c j)))), ((t_1_q 12), .inl (K 0, 24, .inl (fun j => iI (t_1_12_c j))))] → va_S A s.heap H locs → lv_has ls 7 [(0, .ref t), (1, .int (iI p1)), (2, .int (iI x26_2)), (3, .int (iI x26_3)), (4, .int (iI x26_4))] → W p l e ({ frames := 16, cells := 0, slots := 0, locals := 400 } : Room) s m ag below meth c H locs 0 0 Q (F0 m 26 ls []) := by
    intro n
    induction n with
    | zero =>
      intro x26_2 x26_3 x26_4 H locs ls hm26 hf26 hP hD hS hl
      exact absurd hm26 (Nat.not_lt_zero _)
    | succ n ih26 =>
      intro x26_2 x26_3 x26_4 H locs ls hm26 hf26 hP hD hS hl
      have J84 : ∀ (x84_2 : Int) (x84_3 : Int) (x84_5 : Int) (x84_6 : Int) (H : Heap) (locs : List Loc) (ls : Array Slot), (0 ≤ p1 ∧ p1 ≤ 1 ∧ (-1) ≤ x84_2 ∧ x84_2 ≤ 4 ∧ 0 ≤ x84_3 ∧ x84_3 ≤ 2147483647 ∧ 0 ≤ x26_4 ∧ x26_4 ≤ 4 ∧ 0 ≤ x84_5 ∧ x84_5 ≤ 1 ∧ (-2147483648) ≤ x84_6 ∧ x84_6 ≤ 2147483647) → va_P D vwCl [(t, .inr (11, oX11 t_q)), ((t_q 1), .inr (7, oX7 t_1_q t_1_x0 t_1_x1 t_1_x2 t_1_x3 t_1_x4 t_1_x5 t_1_x6 t_1_x7 t_1_x8)), ((t_q 7), .inr (10, oX10 t_7_q t_7_x0 t_7_x1 t_7_x6)), ((t_7_q 3), .inl (K 0, 24, .inl (fun j => iI (t_7_3_c j)))), ((t_1_q 11), .inl (K 0, 12, .inl (fun j => iI (t_1_11_c j)))), ((t_1_q 9), .inl (K 0, 5, .inl (fun j => iI (t_1_9_c j)))), ((t_1_q 12), .inl (K 0, 24, .inl (fun j => iI (t_1_12_c j))))] H → va_D A [(t, .inr (11, oX11 t_q)), ((t_q 1), .inr (7, oX7 t_1_q t_1_x0 t_1_x1 t_1_x2 t_1_x3 t_1_x4 t_1_x5 t_1_x6 t_1_x7 t_1_x8)), ((t_q 7), .inr (10, oX10 t_7_q t_7_x0 t_7_x1 t_7_x6)), ((t_7_q 3), .inl (K 0, 24, .inl (fun j => iI (t_7_3_c j)))), ((t_1_q 11), .inl (K 0, 12, .inl (fun j => iI (t_1_11_c j)))), ((t_1_q 9), .inl (K 0, 5, .inl (fun j => iI (t_1_9_c j)))), ((t_1_q 12), .inl (K 0, 24, .inl (fun j => iI (t_1_12_c j))))] → va_S A s.heap H locs → lv_has ls 7 [(0, .ref t), (1, .int (iI p1)), (2, .int (iI x84_2)), (3, .int (iI x84_3)), (4, .int (iI x26_4)), (5, .int (iI x84_5)), (6, .int (iI x84_6))] → W p l e ({ frames := 16, cells := 0, slots := 0, locals := 400 } : Room) s m ag below meth c H locs 0 0 Q (F0 m 84 ls []) := by
        intro x84_2 x84_3 x84_5 x84_6 H locs ls hf84 hP hD hS hl
        refine lv_iinc (v := iI (x26_4 + 1)) (lv' := [(4, .int (iI (x26_4 + 1))), (0, .ref t), (1, .int (iI p1)), (2, .int (iI x84_2)), (3, .int (iI x84_3)), (5, .int (iI x84_5)), (6, .int (iI x84_6))]) hx hb dX11_famous_84 hl (k := 4) rfl (iI_add _ _) (by decide) rfl (fun ls hl => ?_)
        refine lv_goto (tgt := 26) hx hb dX11_famous_87 (by decide) ?_
        exact ih26 x84_2 x84_3 (x26_4 + 1) _ _ ls (by omega) (by omega) (hP.sub [0, 1, 2, 3, 4, 5, 6] rfl) (hD.sub [0, 1, 2, 3, 4, 5, 6] (by decide) rfl) hS (lv_sub hl [1, 2, 3, 4, 0] rfl)
      have J57 : ∀ (z57_0 : Int) (H : Heap) (locs : List Loc) (ls : Array Slot), (0 ≤ p1 ∧ p1 ≤ 1 ∧ 0 ≤ x26_4 ∧ x26_4 ≤ 4 ∧ 0 ≤ z57_0 ∧ z57_0 ≤ 1) → va_P D vwCl [(t, .inr (11, oX11 t_q)), ((t_q 1), .inr (7, oX7 t_1_q t_1_x0 t_1_x1 t_1_x2 t_1_x3 t_1_x4 t_1_x5 t_1_x6 t_1_x7 t_1_x8)), ((t_q 7), .inr (10, oX10 t_7_q t_7_x0 t_7_x1 t_7_x6)), ((t_7_q 3), .inl (K 0, 24, .inl (fun j => iI (t_7_3_c j)))), ((t_1_q 11), .inl (K 0, 12, .inl (fun j => iI (t_1_11_c j)))), ((t_1_q 9), .inl (K 0, 5, .inl (fun j => iI (t_1_9_c j)))), ((t_1_q 12), .inl (K 0, 24, .inl (fun j => iI (t_1_12_c j))))] H → va_D A [(t, .inr (11, oX11 t_q)), ((t_q 1), .inr (7, oX7 t_1_q t_1_x0 t_1_x1 t_1_x2 t_1_x3 t_1_x4 t_1_x5 t_1_x6 t_1_x7 t_1_x8)), ((t_q 7), .inr (10, oX10 t_7_q t_7_x0 t_7_x1 t_7_x6)), ((t_7_q 3), .inl (K 0, 24, .inl (fun j => iI (t_7_3_c j)))), ((t_1_q 11), .inl (K 0, 12, .inl (fun j => iI (t_1_11_c j)))), ((t_1_q 9), .inl (K 0, 5, .inl (fun j => iI (t_1_9_c j)))), ((t_1_q 12), .inl (K 0, 24, .inl (fun j => iI (t_1_12_c j))))] → va_S A s.heap H locs → lv_has ls 7 [(0, .ref t), (1, .int (iI p1)), (2, .int (iI x26_2)), (3, .int (iI x26_3)), (4, .int (iI x26_4))] → W p l e ({ frames := 16, cells := 0, slots := 0, locals := 400 } : Room) s m ag below meth c H locs 0 0 Q (F0 m 57 ls [.int (iI z57_0)]) := by
        intro z57_0 H locs ls hf57 hP hD hS hl
        refine lv_istore (lv' := [(5, .int (iI z57_0)), (0, .ref t), (1, .int (iI p1)), (2, .int (iI x26_2)), (3, .int (iI x26_3)), (4, .int (iI x26_4))]) hx hb dX11_famous_57 hl (by decide) rfl (fun ls hl => ?_)
        refine lv_aload_n hx hb dX11_famous_59 rfl (lv_at hl 1 rfl) ?_
        refine lv_iload hx hb dX11_famous_60 (lv_at hl 5 rfl) ?_
        refine fn_goi (wc := [(t, .inr (11, oX11 t_q)), ((t_q 1), .inr (7, oX7 t_1_q t_1_x0 t_1_x1 t_1_x2 t_1_x3 t_1_x4 t_1_x5 t_1_x6 t_1_x7 t_1_x8)), ((t_q 7), .inr (10, oX10 t_7_q t_7_x0 t_7_x1 t_7_x6)), ((t_7_q 3), .inl (K 0, 24, .inl (fun j => iI (t_7_3_c j)))), ((t_1_q 11), .inl (K 0, 12, .inl (fun j => iI (t_1_11_c j)))), ((t_1_q 9), .inl (K 0, 5, .inl (fun j => iI (t_1_9_c j)))), ((t_1_q 12), .inl (K 0, 24, .inl (fun j => iI (t_1_12_c j))))]) (wr := []) hK hP hD hS hA [0, 1, 2, 3, 4, 5, 6] [] rfl rfl (by decide) (fun hp => va_runV (C := RX11) (As := [.int (iI x26_4)]) (rest := []) ⟨hx, hb, hml, hown, hts⟩ (k_X11_leadsTo (l := l) (D := D) (K := K) (t := t) (p1 := x26_4) (t_q := t_q) (t_1_q := t_1_q) (t_1_x0 := t_1_x0) (t_1_x1 := t_1_x1) (t_1_x2 := t_1_x2) (t_1_x3 := t_1_x3) (t_1_x4 := t_1_x4) (t_1_x5 := t_1_x5) (t_1_x6 := t_1_x6) (t_1_x7 := t_1_x7) (t_1_x8 := t_1_x8) (t_7_q := t_7_q) (t_7_x0 := t_7_x0) (t_7_x1 := t_7_x1) (t_7_x6 := t_7_x6) (t_7_3_c := t_7_3_c) (t_1_11_c := t_1_11_c) (t_1_9_c := t_1_9_c) (t_1_12_c := t_1_12_c) (hp1 := (by omega)) (hi_t_1 := hi_t_1) (hi_t_7 := hi_t_7) (hc_t_7_3 := hc_t_7_3) (hc_t_1_11 := hc_t_1_11) (hc_t_1_9 := hc_t_1_9) (hc_t_1_12 := hc_t_1_12) _) (cwV 1 hts (fn_ginV (fn_gin wd_1130) wd_1127 wd_1129 wp_83 wd_1) rfl rfl rfl (by decide +kernel) ⟨Nat.le_of_ble_eq_true rfl, Nat.le_of_ble_eq_true rfl⟩) ⟨fn_blind, va_recv hK.1 hP (ci := 11) (q0 := 0) rfl rfl, hp⟩ rfl rfl hl.1 rfl (lv_room (Nat.le_of_ble_eq_true rfl)) dX11_famous_62 ⟨Nat.le_of_ble_eq_true rfl, Nat.le_of_ble_eq_true rfl⟩) (fun r62 u62 H locs hwu62 hP hD hS => ?_)
        obtain ⟨u62a, u62b⟩ := u62
        obtain ⟨kr62, rfl, hkr62, -⟩ := hwu62
        have hP : va_P D vwCl [(t, .inr (11, oX11 t_q)), ((t_q 1), .inr (7, oX7 t_1_q t_1_x0 t_1_x1 t_1_x2 t_1_x3 t_1_x4 t_1_x5 t_1_x6 t_1_x7 t_1_x8)), ((t_q 7), .inr (10, oX10 t_7_q t_7_x0 t_7_x1 t_7_x6)), ((t_7_q 3), .inl (K 0, 24, .inl (fun j => iI (t_7_3_c j)))), ((t_1_q 11), .inl (K 0, 12, .inl (fun j => iI (t_1_11_c j)))), ((t_1_q 9), .inl (K 0, 5, .inl (fun j => iI (t_1_9_c j)))), ((t_1_q 12), .inl (K 0, 24, .inl (fun j => iI (t_1_12_c j))))] H := hP
        have hD : va_D A [(t, .inr (11, oX11 t_q)), ((t_q 1), .inr (7, oX7 t_1_q t_1_x0 t_1_x1 t_1_x2 t_1_x3 t_1_x4 t_1_x5 t_1_x6 t_1_x7 t_1_x8)), ((t_q 7), .inr (10, oX10 t_7_q t_7_x0 t_7_x1 t_7_x6)), ((t_7_q 3), .inl (K 0, 24, .inl (fun j => iI (t_7_3_c j)))), ((t_1_q 11), .inl (K 0, 12, .inl (fun j => iI (t_1_11_c j)))), ((t_1_q 9), .inl (K 0, 5, .inl (fun j => iI (t_1_9_c j)))), ((t_1_q 12), .inl (K 0, 24, .inl (fun j => iI (t_1_12_c j))))] := hD
        refine lv_istore (lv' := [(6, .int (iI kr62)), (5, .int (iI z57_0)), (0, .ref t), (1, .int (iI p1)), (2, .int (iI x26_2)), (3, .int (iI x26_3)), (4, .int (iI x26_4))]) hx hb dX11_famous_65 hl (by decide) rfl (fun ls hl => ?_)
        refine lv_iload hx hb dX11_famous_67 (lv_at hl 1 rfl) ?_
        refine g_if_eq (tgt := 84) hx hb (by omega) dX11_famous_69 (by decide) (fun c69 => ?_) (fun c69 => ?_)
        · exact J84 x26_2 x26_3 z57_0 kr62 _ _ ls (by omega) (hP.sub [0, 1, 2, 3, 4, 5, 6] rfl) (hD.sub [0, 1, 2, 3, 4, 5, 6] (by decide) rfl) hS (lv_sub hl [2, 3, 4, 5, 6, 1, 0] rfl)
        · refine lv_iload hx hb dX11_famous_72 (lv_at hl 0 rfl) ?_
          refine lv_iload_n hx hb dX11_famous_74 rfl (lv_at hl 5 rfl) ?_
          refine g_icmp_le (tgt := 84) hx hb (by omega) (by omega) dX11_famous_75 (by decide) (fun c75 => ?_) (fun c75 => ?_)
          · exact J84 x26_2 x26_3 z57_0 kr62 _ _ ls (by omega) (hP.sub [0, 1, 2, 3, 4, 5, 6] rfl) (hD.sub [0, 1, 2, 3, 4, 5, 6] (by decide) rfl) hS (lv_sub hl [2, 3, 4, 5, 6, 1, 0] rfl)
          · refine lv_iload hx hb dX11_famous_78 (lv_at hl 0 rfl) ?_
            refine lv_istore_n (lv' := [(3, .int (iI kr62)), (6, .int (iI kr62)), (5, .int (iI z57_0)), (0, .ref t), (1, .int (iI p1)), (2, .int (iI x26_2)), (4, .int (iI x26_4))]) hx hb dX11_famous_80 rfl hl (by decide) rfl (fun ls hl => ?_)
            refine lv_iload hx hb dX11_famous_81 (lv_at hl 6 rfl) ?_
            refine lv_istore_n (lv' := [(2, .int (iI x26_4)), (3, .int (iI kr62)), (6, .int (iI kr62)), (5, .int (iI z57_0)), (0, .ref t), (1, .int (iI p1)), (4, .int (iI x26_4))]) hx hb dX11_famous_83 rfl hl (by decide) rfl (fun ls hl => ?_)
            exact J84 x26_4 kr62 z57_0 kr62 _ _ ls (by omega) (hP.sub [0, 1, 2, 3, 4, 5, 6] rfl) (hD.sub [0, 1, 2, 3, 4, 5, 6] (by decide) rfl) hS (lv_sub hl [4, 5, 0, 1, 6, 3, 2] rfl)
      have J52 : ∀  (H : Heap) (locs : List Loc) (ls : Array Slot), (0 ≤ p1 ∧ p1 ≤ 1 ∧ 0 ≤ x26_4 ∧ x26_4 ≤ 4) → va_P D vwCl [(t, .inr (11, oX11 t_q)), ((t_q 1), .inr (7, oX7 t_1_q t_1_x0 t_1_x1 t_1_x2 t_1_x3 t_1_x4 t_1_x5 t_1_x6 t_1_x7 t_1_x8)), ((t_q 7), .inr (10, oX10 t_7_q t_7_x0 t_7_x1 t_7_x6)), ((t_7_q 3), .inl (K 0, 24, .inl (fun j => iI (t_7_3_c j)))), ((t_1_q 11), .inl (K 0, 12, .inl (fun j => iI (t_1_11_c j)))), ((t_1_q 9), .inl (K 0, 5, .inl (fun j => iI (t_1_9_c j)))), ((t_1_q 12), .inl (K 0, 24, .inl (fun j => iI (t_1_12_c j))))] H → va_D A [(t, .inr (11, oX11 t_q)), ((t_q 1), .inr (7, oX7 t_1_q t_1_x0 t_1_x1 t_1_x2 t_1_x3 t_1_x4 t_1_x5 t_1_x6 t_1_x7 t_1_x8)), ((t_q 7), .inr (10, oX10 t_7_q t_7_x0 t_7_x1 t_7_x6)), ((t_7_q 3), .inl (K 0, 24, .inl (fun j => iI (t_7_3_c j)))), ((t_1_q 11), .inl (K 0, 12, .inl (fun j => iI (t_1_11_c j)))), ((t_1_q 9), .inl (K 0, 5, .inl (fun j => iI (t_1_9_c j)))), ((t_1_q 12), .inl (K 0, 24, .inl (fun j => iI (t_1_12_c j))))] → va_S A s.heap H locs → lv_has ls 7 [(0, .ref t), (1, .int (iI p1)), (2, .int (iI x26_2)), (3, .int (iI x26_3)), (4, .int (iI x26_4))] → W p l e ({ frames := 16, cells := 0, slots := 0, locals := 400 } : Room) s m ag below meth c H locs 0 0 Q (F0 m 52 ls []) := by
        intro  H locs ls hf52 hP hD hS hl
        refine lv_iconst (v := iI 1) hx hb dX11_famous_52 rfl ?_
        refine lv_goto (tgt := 57) hx hb dX11_famous_53 (by decide) ?_
        exact J57 1 _ _ ls (by omega) (hP.sub [0, 1, 2, 3, 4, 5, 6] rfl) (hD.sub [0, 1, 2, 3, 4, 5, 6] (by decide) rfl) hS (lv_sub hl [0, 1, 2, 3, 4] rfl)
      refine lv_iload hx hb dX11_famous_26 (lv_at hl 4 rfl) ?_
      refine lv_iconst (v := iI 5) hx hb dX11_famous_28 rfl ?_
      refine g_icmp_ge (tgt := 90) hx hb (by omega) (by omega) dX11_famous_29 (by decide) (fun c29 => ?_) (fun c29 => ?_)
      · refine lv_iload_n hx hb dX11_famous_90 rfl (lv_at hl 2 rfl) ?_
        rw [hQ]; exact fn_iret hx hb hr hlocks rfl hP hD hS ((fun _ => 0), (fun _ _ => 0)) ⟨x26_2, rfl, by omega, trivial⟩ [0, 1, 2, 3, 4, 5, 6] (by decide) rfl dX11_famous_91
      · refine lv_iload_n hx hb dX11_famous_32 rfl (lv_at hl 1 rfl) ?_
        refine g_if_eq (tgt := 52) hx hb (by omega) dX11_famous_33 (by decide) (fun c33 => ?_) (fun c33 => ?_)
        · exact J52  _ _ ls (by omega) (hP.sub [0, 1, 2, 3, 4, 5, 6] rfl) (hD.sub [0, 1, 2, 3, 4, 5, 6] (by decide) rfl) hS (lv_sub hl [0, 1, 2, 3, 4] rfl)
        · refine lv_aload_n hx hb dX11_famous_36 rfl (lv_at hl 0 rfl) ?_
          refine va_get (D := D) (own := RX11) (ci := 11) (v := .ref (t_q 1)) (C := RX11) (T := TX11) (N := 13) hx hb hts inb_X11 hown hK.1 hP 0 rfl rfl 1 (by decide) (hts _ wd_423) (fun _ h9 => h9) rfl dX11_famous_37 ?_
          refine va_getN (D := D) (own := RX11) (ci := 7) (v := .int (iI t_1_x7)) (C := RX7) (T := TX7) (N := 15) hx hb hts inb_X7 hown hK.1 hP 1 rfl rfl 7 (by decide) (hK.nf 35 rfl) (fun _ h9 => h9) rfl dX11_famous_40 ?_
          have y40_1 : 0 ≤ t_1_x7 ∧ t_1_x7 ≤ 31 := hi_t_1.2.2.2.2.2.2.2.1
          refine lv_iload hx hb dX11_famous_43 (lv_at hl 4 rfl) ?_
          refine lv_ishr hx hb dX11_famous_45 ?_
          obtain ⟨w45, ew45, hw45⟩ := iI_shr t_1_x7 x26_4 (by omega) (by omega)
          refine fn_top (iI w45) ew45 ?_
          refine lv_iconst (v := iI 1) hx hb dX11_famous_46 rfl ?_
          refine lv_iand hx hb dX11_famous_47 ?_
          obtain ⟨w47, ew47, hw47⟩ := iI_and1 w45 (by omega)
          refine fn_top (iI w47) ew47 ?_
          refine lv_iconst (v := iI 1) hx hb dX11_famous_48 rfl ?_
          refine g_icmp_ne (tgt := 56) hx hb (by omega) (by omega) dX11_famous_49 (by decide) (fun c49 => ?_) (fun c49 => ?_)
          · refine lv_iconst (v := iI 0) hx hb dX11_famous_56 rfl ?_
            exact J57 0 _ _ ls (by omega) (hP.sub [0, 1, 2, 3, 4, 5, 6] rfl) (hD.sub [0, 1, 2, 3, 4, 5, 6] (by decide) rfl) hS (lv_sub hl [0, 1, 2, 3, 4] rfl)
          · exact J52  _ _ ls (by omega) (hP.sub [0, 1, 2, 3, 4, 5, 6] rfl) (hD.sub [0, 1, 2, 3, 4, 5, 6] (by decide) rfl) hS (lv_sub hl [0, 1, 2, 3, 4] rfl)
  have hl : lv_has ls 7 [(0, .ref t), (1, .int (iI p1))] := hl
  refine lv_aload_n hx hb dX11_famous_0 rfl (lv_at hl 0 rfl) ?_
  refine fn_goi (wc := [(t, .inr (11, oX11 t_q)), ((t_q 1), .inr (7, oX7 t_1_q t_1_x0 t_1_x1 t_1_x2 t_1_x3 t_1_x4 t_1_x5 t_1_x6 t_1_x7 t_1_x8))]) (wr := [((t_q 7), .inr (10, oX10 t_7_q t_7_x0 t_7_x1 t_7_x6)), ((t_7_q 3), .inl (K 0, 24, .inl (fun j => iI (t_7_3_c j)))), ((t_1_q 11), .inl (K 0, 12, .inl (fun j => iI (t_1_11_c j)))), ((t_1_q 9), .inl (K 0, 5, .inl (fun j => iI (t_1_9_c j)))), ((t_1_q 12), .inl (K 0, 24, .inl (fun j => iI (t_1_12_c j))))]) hK hP hD hS hA [0, 1] [2, 3, 4, 5, 6] rfl rfl (by decide) (fun hp => va_runV (C := RX11) (As := []) (rest := []) ⟨hx, hb, hml, hown, hts⟩ (k_X11_noTown (l := l) (D := D) (K := K) (t := t) (t_q := t_q) (t_1_q := t_1_q) (t_1_x0 := t_1_x0) (t_1_x1 := t_1_x1) (t_1_x2 := t_1_x2) (t_1_x3 := t_1_x3) (t_1_x4 := t_1_x4) (t_1_x5 := t_1_x5) (t_1_x6 := t_1_x6) (t_1_x7 := t_1_x7) (t_1_x8 := t_1_x8) (hi_t_1 := hi_t_1) _) (cwV 0 hts (fn_ginV (fn_gin wd_709) wd_706 wd_708 wp_30 wd_1) rfl rfl rfl (by decide +kernel) ⟨Nat.le_of_ble_eq_true rfl, Nat.le_of_ble_eq_true rfl⟩) ⟨fn_blind, va_recv hK.1 hP (ci := 11) (q0 := 0) rfl rfl, hp⟩ rfl rfl hl.1 rfl (lv_room (Nat.le_of_ble_eq_true rfl)) dX11_famous_1 ⟨Nat.le_of_ble_eq_true rfl, Nat.le_of_ble_eq_true rfl⟩) (fun r1 u1 H locs hwu1 hP hD hS => ?_)
  obtain ⟨u1a, u1b⟩ := u1
  obtain ⟨kr1, rfl, hkr1, -⟩ := hwu1
  have hP : va_P D vwCl [((t_q 7), .inr (10, oX10 t_7_q t_7_x0 t_7_x1 t_7_x6)), ((t_7_q 3), .inl (K 0, 24, .inl (fun j => iI (t_7_3_c j)))), ((t_1_q 11), .inl (K 0, 12, .inl (fun j => iI (t_1_11_c j)))), ((t_1_q 9), .inl (K 0, 5, .inl (fun j => iI (t_1_9_c j)))), ((t_1_q 12), .inl (K 0, 24, .inl (fun j => iI (t_1_12_c j)))), (t, .inr (11, oX11 t_q)), ((t_q 1), .inr (7, oX7 t_1_q t_1_x0 t_1_x1 t_1_x2 t_1_x3 t_1_x4 t_1_x5 t_1_x6 t_1_x7 t_1_x8))] H := hP
  have hD : va_D A [((t_q 7), .inr (10, oX10 t_7_q t_7_x0 t_7_x1 t_7_x6)), ((t_7_q 3), .inl (K 0, 24, .inl (fun j => iI (t_7_3_c j)))), ((t_1_q 11), .inl (K 0, 12, .inl (fun j => iI (t_1_11_c j)))), ((t_1_q 9), .inl (K 0, 5, .inl (fun j => iI (t_1_9_c j)))), ((t_1_q 12), .inl (K 0, 24, .inl (fun j => iI (t_1_12_c j)))), (t, .inr (11, oX11 t_q)), ((t_q 1), .inr (7, oX7 t_1_q t_1_x0 t_1_x1 t_1_x2 t_1_x3 t_1_x4 t_1_x5 t_1_x6 t_1_x7 t_1_x8))] := hD
  refine g_if_ne (tgt := 16) hx hb (by omega) dX11_famous_4 (by decide) (fun c4 => ?_) (fun c4 => ?_)
  · refine lv_bipush (v := iI (-2)) hx hb dX11_famous_16 (by decide) ?_
    rw [hQ]; exact fn_iret hx hb hr hlocks rfl hP hD hS ((fun _ => 0), (fun _ _ => 0)) ⟨(-2), rfl, by omega, trivial⟩ [5, 6, 0, 1, 2, 3, 4] (by decide) rfl dX11_famous_18
  · refine lv_iload_n hx hb dX11_famous_7 rfl (lv_at hl 1 rfl) ?_
    refine g_if_lt (tgt := 16) hx hb (by omega) dX11_famous_8 (by decide) (fun c8 => ?_) (fun c8 => ?_)
    · refine lv_bipush (v := iI (-2)) hx hb dX11_famous_16 (by decide) ?_
      rw [hQ]; exact fn_iret hx hb hr hlocks rfl hP hD hS ((fun _ => 0), (fun _ _ => 0)) ⟨(-2), rfl, by omega, trivial⟩ [5, 6, 0, 1, 2, 3, 4] (by decide) rfl dX11_famous_18
    · refine lv_iload_n hx hb dX11_famous_11 rfl (lv_at hl 1 rfl) ?_
      refine lv_iconst (v := iI 1) hx hb dX11_famous_12 rfl ?_
      refine g_icmp_le (tgt := 19) hx hb (by omega) (by omega) dX11_famous_13 (by decide) (fun c13 => ?_) (fun c13 => ?_)
      · refine lv_iconst (v := iI (-1)) hx hb dX11_famous_19 rfl ?_
        refine lv_istore_n (lv' := [(2, .int (iI (-1))), (0, .ref t), (1, .int (iI p1))]) hx hb dX11_famous_20 rfl hl (by decide) rfl (fun ls hl => ?_)
        refine lv_iconst (v := iI 0) hx hb dX11_famous_21 rfl ?_
        refine lv_istore_n (lv' := [(3, .int (iI 0)), (2, .int (iI (-1))), (0, .ref t), (1, .int (iI p1))]) hx hb dX11_famous_22 rfl hl (by decide) rfl (fun ls hl => ?_)
        refine lv_iconst (v := iI 0) hx hb dX11_famous_23 rfl ?_
        refine lv_istore (lv' := [(4, .int (iI 0)), (3, .int (iI 0)), (2, .int (iI (-1))), (0, .ref t), (1, .int (iI p1))]) hx hb dX11_famous_24 hl (by decide) rfl (fun ls hl => ?_)
        exact J26 _ (-1) 0 0 _ _ ls (Nat.lt_succ_self _) (by omega) (hP.sub [5, 6, 0, 1, 2, 3, 4] rfl) (hD.sub [5, 6, 0, 1, 2, 3, 4] (by decide) rfl) hS (lv_sub hl [3, 4, 2, 1, 0] rfl)
      · refine lv_bipush (v := iI (-2)) hx hb dX11_famous_16 (by decide) ?_
        rw [hQ]; exact fn_iret hx hb hr hlocks rfl hP hD hS ((fun _ => 0), (fun _ _ => 0)) ⟨(-2), rfl, by omega, trivial⟩ [5, 6, 0, 1, 2, 3, 4] (by decide) rfl dX11_famous_18
theorem dX11_quotes_0 : decode cX11_quotes 0 = .ok (.aload_n 0, 1) := by decide +kernel
theorem dX11_quotes_1 : decode cX11_quotes 1 = .ok (.iload_n 1, 1) := by decide +kernel
theorem dX11_quotes_2 : decode cX11_quotes 2 = .ok (.invokevirtual 404, 3) := by decide +kernel
theorem dX11_quotes_5 : decode cX11_quotes 5 = .ok (.ifCond .ne 11, 3) := by decide +kernel
theorem dX11_quotes_16 : decode cX11_quotes 16 = .ok (.bipush (-2), 2) := by decide +kernel
theorem dX11_quotes_18 : decode cX11_quotes 18 = .ok (.ireturn, 1) := by decide +kernel
theorem dX11_quotes_8 : decode cX11_quotes 8 = .ok (.aload_n 0, 1) := by decide +kernel
theorem dX11_quotes_9 : decode cX11_quotes 9 = .ok (.iload_n 2, 1) := by decide +kernel
theorem dX11_quotes_10 : decode cX11_quotes 10 = .ok (.invokevirtual 404, 3) := by decide +kernel
theorem dX11_quotes_13 : decode cX11_quotes 13 = .ok (.ifCond .eq 6, 3) := by decide +kernel
theorem dX11_quotes_19 : decode cX11_quotes 19 = .ok (.aload_n 0, 1) := by decide +kernel
theorem dX11_quotes_20 : decode cX11_quotes 20 = .ok (.iload_n 1, 1) := by decide +kernel
theorem dX11_quotes_21 : decode cX11_quotes 21 = .ok (.iload_n 2, 1) := by decide +kernel
theorem dX11_quotes_22 : decode cX11_quotes 22 = .ok (.invokevirtual 410, 3) := by decide +kernel
theorem dX11_quotes_25 : decode cX11_quotes 25 = .ok (.ireturn, 1) := by decide +kernel
set_option maxHeartbeats 4000000 in
set_option maxRecDepth 100000 in
theorem k_X11_quotes (l : Launch) (D : va_G) (K : Nat → ClassId) (t : Nat) (t_q t_1_q t_7_q : Nat → Nat) (p1 p2 t_1_x0 t_1_x1 t_1_x2 t_1_x3 t_1_x4 t_1_x5 t_1_x6 t_1_x7 t_1_x8 t_7_x0 t_7_x1 t_7_x6 : Int) (t_7_3_c : Nat → Int) (t_1_11_c : Nat → Int) (t_1_9_c : Nat → Int) (t_1_12_c : Nat → Int) (hp1 : (-2147483648) ≤ p1 ∧ p1 ≤ 2147483647) (hp2 : (-2147483648) ≤ p2 ∧ p2 ≤ 2147483647) (hi_t_1 : bX7 t_1_x0 t_1_x1 t_1_x2 t_1_x3 t_1_x4 t_1_x5 t_1_x6 t_1_x7 t_1_x8) (hi_t_7 : bX10 t_7_x0 t_7_x1 t_7_x6) (hc_t_7_3 : ∀ j : Nat, (-1) ≤ t_7_3_c j ∧ t_7_3_c j ≤ 11) (hc_t_1_11 : ∀ j : Nat, 0 ≤ t_1_11_c j ∧ t_1_11_c j ≤ 4) (hc_t_1_9 : ∀ j : Nat, 0 ≤ t_1_9_c j ∧ t_1_9_c j ≤ 4) (hc_t_1_12 : ∀ j : Nat, 0 ≤ t_1_12_c j ∧ t_1_12_c j ≤ 11) : fn_CI (S := (Nat → Int) × (Nat → Nat → Int)) l D K yX11_quotes (fn_ws yX11_quotes cX11_quotes 3 (some .int)) ({ frames := 12, cells := 0, slots := 0, locals := 300 } : Room) [.ref t, .int (iI p1), .int (iI p2)] [(t, .inr (11, oX11 t_q)), ((t_q 1), .inr (7, oX7 t_1_q t_1_x0 t_1_x1 t_1_x2 t_1_x3 t_1_x4 t_1_x5 t_1_x6 t_1_x7 t_1_x8)), ((t_q 7), .inr (10, oX10 t_7_q t_7_x0 t_7_x1 t_7_x6)), ((t_7_q 3), .inl (K 0, 24, .inl (fun j => iI (t_7_3_c j)))), ((t_1_q 11), .inl (K 0, 12, .inl (fun j => iI (t_1_11_c j)))), ((t_1_q 9), .inl (K 0, 5, .inl (fun j => iI (t_1_9_c j)))), ((t_1_q 12), .inl (K 0, 24, .inl (fun j => iI (t_1_12_c j))))] (fun r u => ∃ k : Int, r = iI k ∧ ((-2) ≤ k ∧ k ≤ 24) ∧ True) (fun u => [(t, .inr (11, oX11 t_q)), ((t_q 1), .inr (7, oX7 t_1_q t_1_x0 t_1_x1 t_1_x2 t_1_x3 t_1_x4 t_1_x5 t_1_x6 t_1_x7 t_1_x8)), ((t_q 7), .inr (10, oX10 t_7_q t_7_x0 t_7_x1 t_7_x6)), ((t_7_q 3), .inl (K 0, 24, .inl (fun j => iI (t_7_3_c j)))), ((t_1_q 11), .inl (K 0, 12, .inl (fun j => iI (t_1_11_c j)))), ((t_1_q 9), .inl (K 0, 5, .inl (fun j => iI (t_1_9_c j)))), ((t_1_q 12), .inl (K 0, 24, .inl (fun j => iI (t_1_12_c j))))]) 0 0 := by
  refine g_inI (cc := cX11_quotes) (maxL := 3) (ret := (some .int)) (by decide) rfl (Nat.le_of_ble_eq_true rfl) ?_
  intro p e s m below meth c A ls ag Q B hA hP hD hS hl hQ
  obtain ⟨hx, hb, hr, hml, hts, hown, hlocks, hin, hK⟩ := B
  have hown : s.vm.findClass RX11 = some m.cls := hown
  have hts := fun w h => hts w (List.mem_cons_of_mem _ h)
  have hl : lv_has ls 3 [(0, .ref t), (1, .int (iI p1)), (2, .int (iI p2))] := hl
  refine lv_aload_n hx hb dX11_quotes_0 rfl (lv_at hl 0 rfl) ?_
  refine lv_iload_n hx hb dX11_quotes_1 rfl (lv_at hl 1 rfl) ?_
  refine fn_goi (wc := [(t, .inr (11, oX11 t_q)), ((t_q 1), .inr (7, oX7 t_1_q t_1_x0 t_1_x1 t_1_x2 t_1_x3 t_1_x4 t_1_x5 t_1_x6 t_1_x7 t_1_x8))]) (wr := [((t_q 7), .inr (10, oX10 t_7_q t_7_x0 t_7_x1 t_7_x6)), ((t_7_q 3), .inl (K 0, 24, .inl (fun j => iI (t_7_3_c j)))), ((t_1_q 11), .inl (K 0, 12, .inl (fun j => iI (t_1_11_c j)))), ((t_1_q 9), .inl (K 0, 5, .inl (fun j => iI (t_1_9_c j)))), ((t_1_q 12), .inl (K 0, 24, .inl (fun j => iI (t_1_12_c j))))]) hK hP hD hS hA [0, 1] [2, 3, 4, 5, 6] rfl rfl (by decide) (fun hp => va_runV (C := RX11) (As := [.int (iI p1)]) (rest := []) ⟨hx, hb, hml, hown, hts⟩ (k_X11_noScholar (l := l) (D := D) (K := K) (t := t) (p1 := p1) (t_q := t_q) (t_1_q := t_1_q) (t_1_x0 := t_1_x0) (t_1_x1 := t_1_x1) (t_1_x2 := t_1_x2) (t_1_x3 := t_1_x3) (t_1_x4 := t_1_x4) (t_1_x5 := t_1_x5) (t_1_x6 := t_1_x6) (t_1_x7 := t_1_x7) (t_1_x8 := t_1_x8) (hp1 := (by omega)) (hi_t_1 := hi_t_1) _) (cwV 1 hts (fn_ginV (fn_gin wd_1126) wd_1123 wd_1125 wp_82 wd_1) rfl rfl rfl (by decide +kernel) ⟨Nat.le_of_ble_eq_true rfl, Nat.le_of_ble_eq_true rfl⟩) ⟨fn_blind, va_recv hK.1 hP (ci := 11) (q0 := 0) rfl rfl, hp⟩ rfl rfl hl.1 rfl (lv_room (Nat.le_of_ble_eq_true rfl)) dX11_quotes_2 ⟨Nat.le_of_ble_eq_true rfl, Nat.le_of_ble_eq_true rfl⟩) (fun r2 u2 H locs hwu2 hP hD hS => ?_)
  obtain ⟨u2a, u2b⟩ := u2
  obtain ⟨kr2, rfl, hkr2, -⟩ := hwu2
  have hP : va_P D vwCl [((t_q 7), .inr (10, oX10 t_7_q t_7_x0 t_7_x1 t_7_x6)), ((t_7_q 3), .inl (K 0, 24, .inl (fun j => iI (t_7_3_c j)))), ((t_1_q 11), .inl (K 0, 12, .inl (fun j => iI (t_1_11_c j)))), ((t_1_q 9), .inl (K 0, 5, .inl (fun j => iI (t_1_9_c j)))), ((t_1_q 12), .inl (K 0, 24, .inl (fun j => iI (t_1_12_c j)))), (t, .inr (11, oX11 t_q)), ((t_q 1), .inr (7, oX7 t_1_q t_1_x0 t_1_x1 t_1_x2 t_1_x3 t_1_x4 t_1_x5 t_1_x6 t_1_x7 t_1_x8))] H := hP
  have hD : va_D A [((t_q 7), .inr (10, oX10 t_7_q t_7_x0 t_7_x1 t_7_x6)), ((t_7_q 3), .inl (K 0, 24, .inl (fun j => iI (t_7_3_c j)))), ((t_1_q 11), .inl (K 0, 12, .inl (fun j => iI (t_1_11_c j)))), ((t_1_q 9), .inl (K 0, 5, .inl (fun j => iI (t_1_9_c j)))), ((t_1_q 12), .inl (K 0, 24, .inl (fun j => iI (t_1_12_c j)))), (t, .inr (11, oX11 t_q)), ((t_q 1), .inr (7, oX7 t_1_q t_1_x0 t_1_x1 t_1_x2 t_1_x3 t_1_x4 t_1_x5 t_1_x6 t_1_x7 t_1_x8))] := hD
  refine g_if_ne (tgt := 16) hx hb (by omega) dX11_quotes_5 (by decide) (fun c5 => ?_) (fun c5 => ?_)
  · refine lv_bipush (v := iI (-2)) hx hb dX11_quotes_16 (by decide) ?_
    rw [hQ]; exact fn_iret hx hb hr hlocks rfl hP hD hS ((fun _ => 0), (fun _ _ => 0)) ⟨(-2), rfl, by omega, trivial⟩ [5, 6, 0, 1, 2, 3, 4] (by decide) rfl dX11_quotes_18
  · refine lv_aload_n hx hb dX11_quotes_8 rfl (lv_at hl 0 rfl) ?_
    refine lv_iload_n hx hb dX11_quotes_9 rfl (lv_at hl 2 rfl) ?_
    refine fn_goi (wc := [(t, .inr (11, oX11 t_q)), ((t_q 1), .inr (7, oX7 t_1_q t_1_x0 t_1_x1 t_1_x2 t_1_x3 t_1_x4 t_1_x5 t_1_x6 t_1_x7 t_1_x8))]) (wr := [((t_q 7), .inr (10, oX10 t_7_q t_7_x0 t_7_x1 t_7_x6)), ((t_7_q 3), .inl (K 0, 24, .inl (fun j => iI (t_7_3_c j)))), ((t_1_q 11), .inl (K 0, 12, .inl (fun j => iI (t_1_11_c j)))), ((t_1_q 9), .inl (K 0, 5, .inl (fun j => iI (t_1_9_c j)))), ((t_1_q 12), .inl (K 0, 24, .inl (fun j => iI (t_1_12_c j))))]) hK hP hD hS hA [5, 6] [0, 1, 2, 3, 4] rfl rfl (by decide) (fun hp => va_runV (C := RX11) (As := [.int (iI p2)]) (rest := []) ⟨hx, hb, hml, hown, hts⟩ (k_X11_noScholar (l := l) (D := D) (K := K) (t := t) (p1 := p2) (t_q := t_q) (t_1_q := t_1_q) (t_1_x0 := t_1_x0) (t_1_x1 := t_1_x1) (t_1_x2 := t_1_x2) (t_1_x3 := t_1_x3) (t_1_x4 := t_1_x4) (t_1_x5 := t_1_x5) (t_1_x6 := t_1_x6) (t_1_x7 := t_1_x7) (t_1_x8 := t_1_x8) (hp1 := (by omega)) (hi_t_1 := hi_t_1) _) (cwV 1 hts (fn_ginV (fn_gin wd_1126) wd_1123 wd_1125 wp_82 wd_1) rfl rfl rfl (by decide +kernel) ⟨Nat.le_of_ble_eq_true rfl, Nat.le_of_ble_eq_true rfl⟩) ⟨fn_blind, va_recv hK.1 hP (ci := 11) (q0 := 5) rfl rfl, hp⟩ rfl rfl hl.1 rfl (lv_room (Nat.le_of_ble_eq_true rfl)) dX11_quotes_10 ⟨Nat.le_of_ble_eq_true rfl, Nat.le_of_ble_eq_true rfl⟩) (fun r10 u10 H locs hwu10 hP hD hS => ?_)
    obtain ⟨u10a, u10b⟩ := u10
    obtain ⟨kr10, rfl, hkr10, -⟩ := hwu10
    have hP : va_P D vwCl [((t_q 7), .inr (10, oX10 t_7_q t_7_x0 t_7_x1 t_7_x6)), ((t_7_q 3), .inl (K 0, 24, .inl (fun j => iI (t_7_3_c j)))), ((t_1_q 11), .inl (K 0, 12, .inl (fun j => iI (t_1_11_c j)))), ((t_1_q 9), .inl (K 0, 5, .inl (fun j => iI (t_1_9_c j)))), ((t_1_q 12), .inl (K 0, 24, .inl (fun j => iI (t_1_12_c j)))), (t, .inr (11, oX11 t_q)), ((t_q 1), .inr (7, oX7 t_1_q t_1_x0 t_1_x1 t_1_x2 t_1_x3 t_1_x4 t_1_x5 t_1_x6 t_1_x7 t_1_x8))] H := hP
    have hD : va_D A [((t_q 7), .inr (10, oX10 t_7_q t_7_x0 t_7_x1 t_7_x6)), ((t_7_q 3), .inl (K 0, 24, .inl (fun j => iI (t_7_3_c j)))), ((t_1_q 11), .inl (K 0, 12, .inl (fun j => iI (t_1_11_c j)))), ((t_1_q 9), .inl (K 0, 5, .inl (fun j => iI (t_1_9_c j)))), ((t_1_q 12), .inl (K 0, 24, .inl (fun j => iI (t_1_12_c j)))), (t, .inr (11, oX11 t_q)), ((t_q 1), .inr (7, oX7 t_1_q t_1_x0 t_1_x1 t_1_x2 t_1_x3 t_1_x4 t_1_x5 t_1_x6 t_1_x7 t_1_x8))] := hD
    refine g_if_eq (tgt := 19) hx hb (by omega) dX11_quotes_13 (by decide) (fun c13 => ?_) (fun c13 => ?_)
    · refine lv_aload_n hx hb dX11_quotes_19 rfl (lv_at hl 0 rfl) ?_
      refine lv_iload_n hx hb dX11_quotes_20 rfl (lv_at hl 1 rfl) ?_
      refine lv_iload_n hx hb dX11_quotes_21 rfl (lv_at hl 2 rfl) ?_
      refine fn_goi (wc := [(t, .inr (11, oX11 t_q)), ((t_q 1), .inr (7, oX7 t_1_q t_1_x0 t_1_x1 t_1_x2 t_1_x3 t_1_x4 t_1_x5 t_1_x6 t_1_x7 t_1_x8)), ((t_q 7), .inr (10, oX10 t_7_q t_7_x0 t_7_x1 t_7_x6)), ((t_7_q 3), .inl (K 0, 24, .inl (fun j => iI (t_7_3_c j)))), ((t_1_q 11), .inl (K 0, 12, .inl (fun j => iI (t_1_11_c j)))), ((t_1_q 9), .inl (K 0, 5, .inl (fun j => iI (t_1_9_c j)))), ((t_1_q 12), .inl (K 0, 24, .inl (fun j => iI (t_1_12_c j))))]) (wr := []) hK hP hD hS hA [5, 6, 0, 1, 2, 3, 4] [] rfl rfl (by decide) (fun hp => va_runV (C := RX11) (As := [.int (iI p1), .int (iI p2)]) (rest := []) ⟨hx, hb, hml, hown, hts⟩ (k_X11_leadsBetween (l := l) (D := D) (K := K) (t := t) (p1 := p1) (p2 := p2) (t_q := t_q) (t_1_q := t_1_q) (t_1_x0 := t_1_x0) (t_1_x1 := t_1_x1) (t_1_x2 := t_1_x2) (t_1_x3 := t_1_x3) (t_1_x4 := t_1_x4) (t_1_x5 := t_1_x5) (t_1_x6 := t_1_x6) (t_1_x7 := t_1_x7) (t_1_x8 := t_1_x8) (t_7_q := t_7_q) (t_7_x0 := t_7_x0) (t_7_x1 := t_7_x1) (t_7_x6 := t_7_x6) (t_7_3_c := t_7_3_c) (t_1_11_c := t_1_11_c) (t_1_9_c := t_1_9_c) (t_1_12_c := t_1_12_c) (hp1 := (by omega)) (hp2 := (by omega)) (hi_t_1 := hi_t_1) (hi_t_7 := hi_t_7) (hc_t_7_3 := hc_t_7_3) (hc_t_1_11 := hc_t_1_11) (hc_t_1_9 := hc_t_1_9) (hc_t_1_12 := hc_t_1_12) _) (cwV 2 hts (fn_ginV (fn_gin wd_1134) wd_1131 wd_1133 wp_84 wd_1) rfl rfl rfl (by decide +kernel) ⟨Nat.le_of_ble_eq_true rfl, Nat.le_of_ble_eq_true rfl⟩) ⟨fn_blind, va_recv hK.1 hP (ci := 11) (q0 := 5) rfl rfl, hp⟩ rfl rfl hl.1 rfl (lv_room (Nat.le_of_ble_eq_true rfl)) dX11_quotes_22 ⟨Nat.le_of_ble_eq_true rfl, Nat.le_of_ble_eq_true rfl⟩) (fun r22 u22 H locs hwu22 hP hD hS => ?_)
      obtain ⟨u22a, u22b⟩ := u22
      obtain ⟨kr22, rfl, hkr22, -⟩ := hwu22
      have hP : va_P D vwCl [(t, .inr (11, oX11 t_q)), ((t_q 1), .inr (7, oX7 t_1_q t_1_x0 t_1_x1 t_1_x2 t_1_x3 t_1_x4 t_1_x5 t_1_x6 t_1_x7 t_1_x8)), ((t_q 7), .inr (10, oX10 t_7_q t_7_x0 t_7_x1 t_7_x6)), ((t_7_q 3), .inl (K 0, 24, .inl (fun j => iI (t_7_3_c j)))), ((t_1_q 11), .inl (K 0, 12, .inl (fun j => iI (t_1_11_c j)))), ((t_1_q 9), .inl (K 0, 5, .inl (fun j => iI (t_1_9_c j)))), ((t_1_q 12), .inl (K 0, 24, .inl (fun j => iI (t_1_12_c j))))] H := hP
      have hD : va_D A [(t, .inr (11, oX11 t_q)), ((t_q 1), .inr (7, oX7 t_1_q t_1_x0 t_1_x1 t_1_x2 t_1_x3 t_1_x4 t_1_x5 t_1_x6 t_1_x7 t_1_x8)), ((t_q 7), .inr (10, oX10 t_7_q t_7_x0 t_7_x1 t_7_x6)), ((t_7_q 3), .inl (K 0, 24, .inl (fun j => iI (t_7_3_c j)))), ((t_1_q 11), .inl (K 0, 12, .inl (fun j => iI (t_1_11_c j)))), ((t_1_q 9), .inl (K 0, 5, .inl (fun j => iI (t_1_9_c j)))), ((t_1_q 12), .inl (K 0, 24, .inl (fun j => iI (t_1_12_c j))))] := hD
      rw [hQ]; exact fn_iret hx hb hr hlocks rfl hP hD hS ((fun _ => 0), (fun _ _ => 0)) ⟨kr22, rfl, by omega, trivial⟩ [0, 1, 2, 3, 4, 5, 6] (by decide) rfl dX11_quotes_25
    · refine lv_bipush (v := iI (-2)) hx hb dX11_quotes_16 (by decide) ?_
      rw [hQ]; exact fn_iret hx hb hr hlocks rfl hP hD hS ((fun _ => 0), (fun _ _ => 0)) ⟨(-2), rfl, by omega, trivial⟩ [5, 6, 0, 1, 2, 3, 4] (by decide) rfl dX11_quotes_18
theorem wd_1155 : Cond.constant "FootNotes" 416 (2000000000 : Int32) ∈ fn_big := fn_tb (fn_l5 (List.mem_of_getElem? (i := 195) (by decide +kernel))) (by decide +kernel)
theorem dX11_noSeed_0 : decode cX11_noSeed 0 = .ok (.aload_n 0, 1) := by decide +kernel
theorem dX11_noSeed_1 : decode cX11_noSeed 1 = .ok (.invokevirtual 188, 3) := by decide +kernel
theorem dX11_noSeed_4 : decode cX11_noSeed 4 = .ok (.ifCond .ne 14, 3) := by decide +kernel
theorem dX11_noSeed_18 : decode cX11_noSeed 18 = .ok (.iconst 1, 1) := by decide +kernel
theorem dX11_noSeed_19 : decode cX11_noSeed 19 = .ok (.goto 4, 3) := by decide +kernel
theorem dX11_noSeed_23 : decode cX11_noSeed 23 = .ok (.ireturn, 1) := by decide +kernel
theorem dX11_noSeed_7 : decode cX11_noSeed 7 = .ok (.iload_n 1, 1) := by decide +kernel
theorem dX11_noSeed_8 : decode cX11_noSeed 8 = .ok (.ifCond .lt 10, 3) := by decide +kernel
theorem dX11_noSeed_11 : decode cX11_noSeed 11 = .ok (.iload_n 1, 1) := by decide +kernel
theorem dX11_noSeed_12 : decode cX11_noSeed 12 = .ok (.ldc_w 416, 3) := by decide +kernel
theorem dX11_noSeed_15 : decode cX11_noSeed 15 = .ok (.if_icmp .le 7, 3) := by decide +kernel
theorem dX11_noSeed_22 : decode cX11_noSeed 22 = .ok (.iconst 0, 1) := by decide +kernel
set_option maxHeartbeats 4000000 in
set_option maxRecDepth 100000 in
theorem k_X11_noSeed (l : Launch) (D : va_G) (K : Nat → ClassId) (t : Nat) (t_q t_1_q : Nat → Nat) (p1 t_1_x0 t_1_x1 t_1_x2 t_1_x3 t_1_x4 t_1_x5 t_1_x6 t_1_x7 t_1_x8 : Int) (hp1 : (-2147483648) ≤ p1 ∧ p1 ≤ 2147483647) (hi_t_1 : bX7 t_1_x0 t_1_x1 t_1_x2 t_1_x3 t_1_x4 t_1_x5 t_1_x6 t_1_x7 t_1_x8) : fn_CI (S := (Nat → Int) × (Nat → Nat → Int)) l D K yX11_noSeed (fn_ws yX11_noSeed cX11_noSeed 2 (some .boolean)) ({ frames := 8, cells := 0, slots := 0, locals := 200 } : Room) [.ref t, .int (iI p1)] [(t, .inr (11, oX11 t_q)), ((t_q 1), .inr (7, oX7 t_1_q t_1_x0 t_1_x1 t_1_x2 t_1_x3 t_1_x4 t_1_x5 t_1_x6 t_1_x7 t_1_x8))] (fun r u => ∃ k : Int, r = iI k ∧ (0 ≤ k ∧ k ≤ 1) ∧ True) (fun u => [(t, .inr (11, oX11 t_q)), ((t_q 1), .inr (7, oX7 t_1_q t_1_x0 t_1_x1 t_1_x2 t_1_x3 t_1_x4 t_1_x5 t_1_x6 t_1_x7 t_1_x8))]) 0 0 := by
  refine g_inI (cc := cX11_noSeed) (maxL := 2) (ret := (some .boolean)) (by decide) rfl (Nat.le_of_ble_eq_true rfl) ?_
  intro p e s m below meth c A ls ag Q B hA hP hD hS hl hQ
  obtain ⟨hx, hb, hr, hml, hts, hown, hlocks, hin, hK⟩ := B
  have hown : s.vm.findClass RX11 = some m.cls := hown
  have hts := fun w h => hts w (List.mem_cons_of_mem _ h)
  have hl : lv_has ls 2 [(0, .ref t), (1, .int (iI p1))] := hl
  refine lv_aload_n hx hb dX11_noSeed_0 rfl (lv_at hl 0 rfl) ?_
  refine fn_goi (wc := [(t, .inr (11, oX11 t_q)), ((t_q 1), .inr (7, oX7 t_1_q t_1_x0 t_1_x1 t_1_x2 t_1_x3 t_1_x4 t_1_x5 t_1_x6 t_1_x7 t_1_x8))]) (wr := []) hK hP hD hS hA [0, 1] [] rfl rfl (by decide) (fun hp => va_runV (C := RX11) (As := []) (rest := []) ⟨hx, hb, hml, hown, hts⟩ (k_X11_noTown (l := l) (D := D) (K := K) (t := t) (t_q := t_q) (t_1_q := t_1_q) (t_1_x0 := t_1_x0) (t_1_x1 := t_1_x1) (t_1_x2 := t_1_x2) (t_1_x3 := t_1_x3) (t_1_x4 := t_1_x4) (t_1_x5 := t_1_x5) (t_1_x6 := t_1_x6) (t_1_x7 := t_1_x7) (t_1_x8 := t_1_x8) (hi_t_1 := hi_t_1) _) (cwV 0 hts (fn_ginV (fn_gin wd_709) wd_706 wd_708 wp_30 wd_1) rfl rfl rfl (by decide +kernel) ⟨Nat.le_of_ble_eq_true rfl, Nat.le_of_ble_eq_true rfl⟩) ⟨fn_blind, va_recv hK.1 hP (ci := 11) (q0 := 0) rfl rfl, hp⟩ rfl rfl hl.1 rfl (lv_room (Nat.le_of_ble_eq_true rfl)) dX11_noSeed_1 ⟨Nat.le_of_ble_eq_true rfl, Nat.le_of_ble_eq_true rfl⟩) (fun r1 u1 H locs hwu1 hP hD hS => ?_)
  obtain ⟨u1a, u1b⟩ := u1
  obtain ⟨kr1, rfl, hkr1, -⟩ := hwu1
  have hP : va_P D vwCl [(t, .inr (11, oX11 t_q)), ((t_q 1), .inr (7, oX7 t_1_q t_1_x0 t_1_x1 t_1_x2 t_1_x3 t_1_x4 t_1_x5 t_1_x6 t_1_x7 t_1_x8))] H := hP
  have hD : va_D A [(t, .inr (11, oX11 t_q)), ((t_q 1), .inr (7, oX7 t_1_q t_1_x0 t_1_x1 t_1_x2 t_1_x3 t_1_x4 t_1_x5 t_1_x6 t_1_x7 t_1_x8))] := hD
  refine g_if_ne (tgt := 18) hx hb (by omega) dX11_noSeed_4 (by decide) (fun c4 => ?_) (fun c4 => ?_)
  · refine lv_iconst (v := iI 1) hx hb dX11_noSeed_18 rfl ?_
    refine lv_goto (tgt := 23) hx hb dX11_noSeed_19 (by decide) ?_
    rw [hQ]; exact fn_iret hx hb hr hlocks (iI_nz (by omega)) hP hD hS ((fun _ => 0), (fun _ _ => 0)) ⟨1, rfl, by omega, trivial⟩ [0, 1] (by decide) rfl dX11_noSeed_23
  · refine lv_iload_n hx hb dX11_noSeed_7 rfl (lv_at hl 1 rfl) ?_
    refine g_if_lt (tgt := 18) hx hb (by omega) dX11_noSeed_8 (by decide) (fun c8 => ?_) (fun c8 => ?_)
    · refine lv_iconst (v := iI 1) hx hb dX11_noSeed_18 rfl ?_
      refine lv_goto (tgt := 23) hx hb dX11_noSeed_19 (by decide) ?_
      rw [hQ]; exact fn_iret hx hb hr hlocks (iI_nz (by omega)) hP hD hS ((fun _ => 0), (fun _ _ => 0)) ⟨1, rfl, by omega, trivial⟩ [0, 1] (by decide) rfl dX11_noSeed_23
    · refine lv_iload_n hx hb dX11_noSeed_11 rfl (lv_at hl 1 rfl) ?_
      refine lv_ldcw (own := RX11) (v := 2000000000) hx hb hown (hts _ wd_1155) dX11_noSeed_12 ?_
      refine fn_top (iI 2000000000) (by decide) ?_
      refine g_icmp_le (tgt := 22) hx hb (by omega) (by omega) dX11_noSeed_15 (by decide) (fun c15 => ?_) (fun c15 => ?_)
      · refine lv_iconst (v := iI 0) hx hb dX11_noSeed_22 rfl ?_
        rw [hQ]; exact fn_iret hx hb hr hlocks (iI_nz (by omega)) hP hD hS ((fun _ => 0), (fun _ _ => 0)) ⟨0, rfl, by omega, trivial⟩ [0, 1] (by decide) rfl dX11_noSeed_23
      · refine lv_iconst (v := iI 1) hx hb dX11_noSeed_18 rfl ?_
        refine lv_goto (tgt := 23) hx hb dX11_noSeed_19 (by decide) ?_
        rw [hQ]; exact fn_iret hx hb hr hlocks (iI_nz (by omega)) hP hD hS ((fun _ => 0), (fun _ _ => 0)) ⟨1, rfl, by omega, trivial⟩ [0, 1] (by decide) rfl dX11_noSeed_23
theorem wd_1160 : Cond.constantLong "FootNotes" 424 (1103515245 : Int64) ∈ fn_big := fn_tb (fn_l5 (List.mem_of_getElem? (i := 200) (by decide +kernel))) (by decide +kernel)
theorem wd_1161 : Cond.constantLong "FootNotes" 426 (12345 : Int64) ∈ fn_big := fn_tb (fn_l5 (List.mem_of_getElem? (i := 201) (by decide +kernel))) (by decide +kernel)
theorem wd_1162 : Cond.constantLong "FootNotes" 428 (2147483647 : Int64) ∈ fn_big := fn_tb (fn_l5 (List.mem_of_getElem? (i := 202) (by decide +kernel))) (by decide +kernel)
theorem wd_1163 : Cond.constantLong "FootNotes" 430 (65536 : Int64) ∈ fn_big := fn_tb (fn_l5 (List.mem_of_getElem? (i := 203) (by decide +kernel))) (by decide +kernel)
theorem wd_1164 : Cond.constantLong "FootNotes" 432 (100 : Int64) ∈ fn_big := fn_tb (fn_l5 (List.mem_of_getElem? (i := 204) (by decide +kernel))) (by decide +kernel)
theorem dX11_drawMisprints_62 : decode cX11_drawMisprints 62 = .ok (.invokestatic 195, 3) := by decide +kernel
theorem dX11_drawMisprints_65 : decode cX11_drawMisprints 65 = .ok (.iload 6, 2) := by decide +kernel
theorem dX11_drawMisprints_67 : decode cX11_drawMisprints 67 = .ok (.ishl, 1) := by decide +kernel
theorem dX11_drawMisprints_68 : decode cX11_drawMisprints 68 = .ok (.ior, 1) := by decide +kernel
theorem dX11_drawMisprints_69 : decode cX11_drawMisprints 69 = .ok (.istore 5, 2) := by decide +kernel
theorem dX11_drawMisprints_71 : decode cX11_drawMisprints 71 = .ok (.iinc 6 1, 3) := by decide +kernel
theorem dX11_drawMisprints_74 : decode cX11_drawMisprints 74 = .ok (.goto (-66), 3) := by decide +kernel
theorem dX11_drawMisprints_8 : decode cX11_drawMisprints 8 = .ok (.iload 6, 2) := by decide +kernel
theorem dX11_drawMisprints_10 : decode cX11_drawMisprints 10 = .ok (.aload_n 0, 1) := by decide +kernel
theorem dX11_drawMisprints_11 : decode cX11_drawMisprints 11 = .ok (.getfield 19, 3) := by decide +kernel
theorem dX11_drawMisprints_14 : decode cX11_drawMisprints 14 = .ok (.getfield 192, 3) := by decide +kernel
theorem dX11_drawMisprints_17 : decode cX11_drawMisprints 17 = .ok (.if_icmp .ge 60, 3) := by decide +kernel
theorem dX11_drawMisprints_77 : decode cX11_drawMisprints 77 = .ok (.iload 5, 2) := by decide +kernel
theorem dX11_drawMisprints_79 : decode cX11_drawMisprints 79 = .ok (.ireturn, 1) := by decide +kernel
theorem dX11_drawMisprints_20 : decode cX11_drawMisprints 20 = .ok (.ldc2_w 424, 3) := by decide +kernel
theorem dX11_drawMisprints_23 : decode cX11_drawMisprints 23 = .ok (.lload_n 3, 1) := by decide +kernel
theorem dX11_drawMisprints_24 : decode cX11_drawMisprints 24 = .ok (.lmul, 1) := by decide +kernel
theorem dX11_drawMisprints_25 : decode cX11_drawMisprints 25 = .ok (.ldc2_w 426, 3) := by decide +kernel
theorem dX11_drawMisprints_28 : decode cX11_drawMisprints 28 = .ok (.ladd, 1) := by decide +kernel
theorem dX11_drawMisprints_29 : decode cX11_drawMisprints 29 = .ok (.ldc2_w 428, 3) := by decide +kernel
theorem dX11_drawMisprints_32 : decode cX11_drawMisprints 32 = .ok (.land, 1) := by decide +kernel
theorem dX11_drawMisprints_33 : decode cX11_drawMisprints 33 = .ok (.lstore_n 3, 1) := by decide +kernel
theorem dX11_drawMisprints_34 : decode cX11_drawMisprints 34 = .ok (.iload 5, 2) := by decide +kernel
theorem dX11_drawMisprints_36 : decode cX11_drawMisprints 36 = .ok (.lload_n 3, 1) := by decide +kernel
theorem dX11_drawMisprints_37 : decode cX11_drawMisprints 37 = .ok (.ldc2_w 430, 3) := by decide +kernel
theorem dX11_drawMisprints_40 : decode cX11_drawMisprints 40 = .ok (.ldiv, 1) := by decide +kernel
theorem dX11_drawMisprints_41 : decode cX11_drawMisprints 41 = .ok (.ldc2_w 432, 3) := by decide +kernel
theorem dX11_drawMisprints_44 : decode cX11_drawMisprints 44 = .ok (.lrem, 1) := by decide +kernel
theorem dX11_drawMisprints_45 : decode cX11_drawMisprints 45 = .ok (.aload_n 0, 1) := by decide +kernel
theorem dX11_drawMisprints_46 : decode cX11_drawMisprints 46 = .ok (.getfield 19, 3) := by decide +kernel
theorem dX11_drawMisprints_49 : decode cX11_drawMisprints 49 = .ok (.getfield 434, 3) := by decide +kernel
theorem dX11_drawMisprints_52 : decode cX11_drawMisprints 52 = .ok (.i2l, 1) := by decide +kernel
theorem dX11_drawMisprints_53 : decode cX11_drawMisprints 53 = .ok (.lcmp, 1) := by decide +kernel
theorem dX11_drawMisprints_54 : decode cX11_drawMisprints 54 = .ok (.ifCond .ge 7, 3) := by decide +kernel
theorem dX11_drawMisprints_61 : decode cX11_drawMisprints 61 = .ok (.iconst 0, 1) := by decide +kernel
theorem dX11_drawMisprints_57 : decode cX11_drawMisprints 57 = .ok (.iconst 1, 1) := by decide +kernel
theorem dX11_drawMisprints_58 : decode cX11_drawMisprints 58 = .ok (.goto 4, 3) := by decide +kernel
theorem dX11_drawMisprints_0 : decode cX11_drawMisprints 0 = .ok (.lload_n 1, 1) := by decide +kernel
theorem dX11_drawMisprints_1 : decode cX11_drawMisprints 1 = .ok (.lstore_n 3, 1) := by decide +kernel
theorem dX11_drawMisprints_2 : decode cX11_drawMisprints 2 = .ok (.iconst 0, 1) := by decide +kernel
theorem dX11_drawMisprints_3 : decode cX11_drawMisprints 3 = .ok (.istore 5, 2) := by decide +kernel
theorem dX11_drawMisprints_5 : decode cX11_drawMisprints 5 = .ok (.iconst 0, 1) := by decide +kernel
theorem dX11_drawMisprints_6 : decode cX11_drawMisprints 6 = .ok (.istore 6, 2) := by decide +kernel
set_option maxHeartbeats 4000000 in
set_option maxRecDepth 100000 in
theorem k_X11_drawMisprints (l : Launch) (D : va_G) (K : Nat → ClassId) (t : Nat) (t_q t_1_q : Nat → Nat) (p1 t_1_x0 t_1_x1 t_1_x2 t_1_x3 t_1_x4 t_1_x5 t_1_x6 t_1_x7 t_1_x8 : Int) (hp1 : (-9223372036854775808) ≤ p1 ∧ p1 ≤ 9223372036854775807) (hi_t_1 : bX7 t_1_x0 t_1_x1 t_1_x2 t_1_x3 t_1_x4 t_1_x5 t_1_x6 t_1_x7 t_1_x8) : fn_CI (S := (Nat → Int) × (Nat → Nat → Int)) l D K yX11_drawMisprints (fn_ws yX11_drawMisprints cX11_drawMisprints 7 (some .int)) ({ frames := 8, cells := 0, slots := 0, locals := 200 } : Room) [.ref t, .long (lI p1)] [(t, .inr (11, oX11 t_q)), ((t_q 1), .inr (7, oX7 t_1_q t_1_x0 t_1_x1 t_1_x2 t_1_x3 t_1_x4 t_1_x5 t_1_x6 t_1_x7 t_1_x8))] (fun r u => ∃ k : Int, r = iI k ∧ ((-2147483648) ≤ k ∧ k ≤ 2147483647) ∧ True) (fun u => [(t, .inr (11, oX11 t_q)), ((t_q 1), .inr (7, oX7 t_1_q t_1_x0 t_1_x1 t_1_x2 t_1_x3 t_1_x4 t_1_x5 t_1_x6 t_1_x7 t_1_x8))]) 0 0 := by
  refine g_inI (cc := cX11_drawMisprints) (maxL := 7) (ret := (some .int)) (by decide) rfl (Nat.le_of_ble_eq_true rfl) ?_
  intro p e s m below meth c A ls ag Q B hA hP hD hS hl hQ
  obtain ⟨hx, hb, hr, hml, hts, hown, hlocks, hin, hK⟩ := B
  have hown : s.vm.findClass RX11 = some m.cls := hown
  have hts := fun w h => hts w (List.mem_cons_of_mem _ h)
  have J8 : ∀ (n : Nat) (x8_3 : Int) (x8_5 : Int) (x8_6 : Int) (H : Heap) (locs : List Loc) (ls : Array Slot), (24 - x8_6).toNat < n → ((-9223372036854775808) ≤ x8_3 ∧ x8_3 ≤ 9223372036854775807 ∧ (-2147483648) ≤ x8_5 ∧ x8_5 ≤ 2147483647 ∧ 0 ≤ x8_6 ∧ x8_6 ≤ 24) → va_P D vwCl [(t, .inr (11, oX11 t_q)), ((t_q 1), .inr (7, oX7 t_1_q t_1_x0 t_1_x1 t_1_x2 t_1_x3 t_1_x4 t_1_x5 t_1_x6 t_1_x7 t_1_x8))] H → va_D A [(t, .inr (11, oX11 t_q)), ((t_q 1), .inr (7, oX7 t_1_q t_1_x0 t_1_x1 t_1_x2 t_1_x3 t_1_x4 t_1_x5 t_1_x6 t_1_x7 t_1_x8))] → va_S A s.heap H locs → lv_has ls 7 [(0, .ref t), (1, .long (lI p1)), (3, .long (lI x8_3)), (5, .int (iI x8_5)), (6, .int (iI x8_6))] → W p l e ({ frames := 8, cells := 0, slots := 0, locals := 200 } : Room) s m ag below meth c H locs 0 0 Q (F0 m 8 ls []) := by
    intro n
    induction n with
    | zero =>
      intro x8_3 x8_5 x8_6 H locs ls hm8 hf8 hP hD hS hl
      exact absurd hm8 (Nat.not_lt_zero _)
    | succ n ih8 =>
      intro x8_3 x8_5 x8_6 H locs ls hm8 hf8 hP hD hS hl
      have J62 : ∀ (x62_3 : Int) (z62_1 : Int) (H : Heap) (locs : List Loc) (ls : Array Slot), ((-9223372036854775808) ≤ x62_3 ∧ x62_3 ≤ 9223372036854775807 ∧ 0 ≤ x8_6 ∧ x8_6 ≤ 23 ∧ 0 ≤ z62_1 ∧ z62_1 ≤ 1 ∧ 1 ≤ t_1_x5 ∧ t_1_x5 ≤ 24) → va_P D vwCl [(t, .inr (11, oX11 t_q)), ((t_q 1), .inr (7, oX7 t_1_q t_1_x0 t_1_x1 t_1_x2 t_1_x3 t_1_x4 t_1_x5 t_1_x6 t_1_x7 t_1_x8))] H → va_D A [(t, .inr (11, oX11 t_q)), ((t_q 1), .inr (7, oX7 t_1_q t_1_x0 t_1_x1 t_1_x2 t_1_x3 t_1_x4 t_1_x5 t_1_x6 t_1_x7 t_1_x8))] → va_S A s.heap H locs → lv_has ls 7 [(0, .ref t), (1, .long (lI p1)), (3, .long (lI x62_3)), (5, .int (iI x8_5)), (6, .int (iI x8_6))] → W p l e ({ frames := 8, cells := 0, slots := 0, locals := 200 } : Room) s m ag below meth c H locs 0 0 Q (F0 m 62 ls [.int (iI z62_1), .int (iI x8_5)]) := by
        intro x62_3 z62_1 H locs ls hf62 hP hD hS hl
        refine fn_goi (wc := []) (wr := [(t, .inr (11, oX11 t_q)), ((t_q 1), .inr (7, oX7 t_1_q t_1_x0 t_1_x1 t_1_x2 t_1_x3 t_1_x4 t_1_x5 t_1_x6 t_1_x7 t_1_x8))]) hK hP hD hS hA [] [0, 1] rfl rfl (by decide) (fun hp => va_runS (As := [.int (iI z62_1)]) (rest := [.int (iI x8_5)]) ⟨hx, hb, hml, hown, hts⟩ (k_X11_bit (l := l) (D := D) (K := K) (p1 := z62_1) (hp1 := (by omega)) _) (va_cwS 1 hts (fn_ginS (fn_gin wd_605) wd_710 wd_604 wd_1) rfl rfl rfl (by decide +kernel) ⟨Nat.le_of_ble_eq_true rfl, Nat.le_of_ble_eq_true rfl⟩) ⟨fn_blind, hp⟩ rfl rfl hl.1 rfl (lv_room (Nat.le_of_ble_eq_true rfl)) dX11_drawMisprints_62 ⟨Nat.le_of_ble_eq_true rfl, Nat.le_of_ble_eq_true rfl⟩) (fun r62 u62 H locs hwu62 hP hD hS => ?_)
        obtain ⟨u62a, u62b⟩ := u62
        obtain ⟨kr62, rfl, hkr62, -⟩ := hwu62
        have hP : va_P D vwCl [(t, .inr (11, oX11 t_q)), ((t_q 1), .inr (7, oX7 t_1_q t_1_x0 t_1_x1 t_1_x2 t_1_x3 t_1_x4 t_1_x5 t_1_x6 t_1_x7 t_1_x8))] H := hP
        have hD : va_D A [(t, .inr (11, oX11 t_q)), ((t_q 1), .inr (7, oX7 t_1_q t_1_x0 t_1_x1 t_1_x2 t_1_x3 t_1_x4 t_1_x5 t_1_x6 t_1_x7 t_1_x8))] := hD
        refine lv_iload hx hb dX11_drawMisprints_65 (lv_at hl 4 rfl) ?_
        refine lv_ishl hx hb dX11_drawMisprints_67 ?_
        refine g_any (fun w67 hw67 ew67 => ?_)
        refine lv_ior hx hb dX11_drawMisprints_68 ?_
        refine g_any (fun w68 hw68 ew68 => ?_)
        refine lv_istore (lv' := [(5, .int (iI w68)), (0, .ref t), (1, .long (lI p1)), (3, .long (lI x62_3)), (6, .int (iI x8_6))]) hx hb dX11_drawMisprints_69 hl (by decide) rfl (fun ls hl => ?_)
        refine lv_iinc (v := iI (x8_6 + 1)) (lv' := [(6, .int (iI (x8_6 + 1))), (5, .int (iI w68)), (0, .ref t), (1, .long (lI p1)), (3, .long (lI x62_3))]) hx hb dX11_drawMisprints_71 hl (k := 4) rfl (iI_add _ _) (by decide) rfl (fun ls hl => ?_)
        refine lv_goto (tgt := 8) hx hb dX11_drawMisprints_74 (by decide) ?_
        exact ih8 x62_3 w68 (x8_6 + 1) _ _ ls (by omega) (by omega) (hP.sub [0, 1] rfl) (hD.sub [0, 1] (by decide) rfl) hS (lv_sub hl [2, 3, 4, 1, 0] rfl)
      refine lv_iload hx hb dX11_drawMisprints_8 (lv_at hl 4 rfl) ?_
      refine lv_aload_n hx hb dX11_drawMisprints_10 rfl (lv_at hl 0 rfl) ?_
      refine va_get (D := D) (own := RX11) (ci := 11) (v := .ref (t_q 1)) (C := RX11) (T := TX11) (N := 13) hx hb hts inb_X11 hown hK.1 hP 0 rfl rfl 1 (by decide) (hts _ wd_423) (fun _ h9 => h9) rfl dX11_drawMisprints_11 ?_
      refine va_getN (D := D) (own := RX11) (ci := 7) (v := .int (iI t_1_x5)) (C := RX7) (T := TX7) (N := 15) hx hb hts inb_X7 hown hK.1 hP 1 rfl rfl 5 (by decide) (hK.nf 29 rfl) (fun _ h9 => h9) rfl dX11_drawMisprints_14 ?_
      have y14_1 : 0 ≤ t_1_x5 ∧ t_1_x5 ≤ 24 := hi_t_1.2.2.2.2.2.1
      refine g_icmp_ge (tgt := 77) hx hb (by omega) (by omega) dX11_drawMisprints_17 (by decide) (fun c17 => ?_) (fun c17 => ?_)
      · refine lv_iload hx hb dX11_drawMisprints_77 (lv_at hl 3 rfl) ?_
        rw [hQ]; exact fn_iret hx hb hr hlocks rfl hP hD hS ((fun _ => 0), (fun _ _ => 0)) ⟨x8_5, rfl, by omega, trivial⟩ [0, 1] (by decide) rfl dX11_drawMisprints_79
      · refine lv_ldc2 (own := RX11) (v := 1103515245) hx hb hown (hts _ wd_1160) dX11_drawMisprints_20 ?_
        refine fn_topl (lI 1103515245) (by decide) ?_
        refine lv_lload_n hx hb dX11_drawMisprints_23 rfl (lv_at hl 2 rfl) ?_
        refine g_lmul hx hb dX11_drawMisprints_24 ?_
        refine g_anyl (fun w24 hw24 ew24 => ?_)
        refine lv_ldc2 (own := RX11) (v := 12345) hx hb hown (hts _ wd_1161) dX11_drawMisprints_25 ?_
        refine fn_topl (lI 12345) (by decide) ?_
        refine g_ladd hx hb dX11_drawMisprints_28 ?_
        refine g_anyl (fun w28 hw28 ew28 => ?_)
        refine lv_ldc2 (own := RX11) (v := 2147483647) hx hb hown (hts _ wd_1162) dX11_drawMisprints_29 ?_
        refine fn_topl (lI 2147483647) (by decide) ?_
        refine lv_land hx hb dX11_drawMisprints_32 ?_
        refine g_anyl (fun w32 hw32 ew32 => ?_)
        refine lv_lstore_n (lv' := [(3, .long (lI w32)), (0, .ref t), (1, .long (lI p1)), (5, .int (iI x8_5)), (6, .int (iI x8_6))]) hx hb dX11_drawMisprints_33 rfl hl (by decide) rfl (fun ls hl => ?_)
        refine lv_iload hx hb dX11_drawMisprints_34 (lv_at hl 3 rfl) ?_
        refine lv_lload_n hx hb dX11_drawMisprints_36 rfl (lv_at hl 0 rfl) ?_
        refine lv_ldc2 (own := RX11) (v := 65536) hx hb hown (hts _ wd_1163) dX11_drawMisprints_37 ?_
        refine fn_topl (lI 65536) (by decide) ?_
        refine lv_ldiv hx hb dX11_drawMisprints_40 (lI_n0 (by omega) (by omega)) ?_
        refine g_anyl (fun w40 hw40 ew40 => ?_)
        refine lv_ldc2 (own := RX11) (v := 100) hx hb hown (hts _ wd_1164) dX11_drawMisprints_41 ?_
        refine fn_topl (lI 100) (by decide) ?_
        refine lv_lrem hx hb dX11_drawMisprints_44 (lI_n0 (by omega) (by omega)) ?_
        refine g_anyl (fun w44 hw44 ew44 => ?_)
        refine fn_at 45 rfl ?_
        refine lv_aload_n hx hb dX11_drawMisprints_45 rfl (lv_at hl 1 rfl) ?_
        refine va_get (D := D) (own := RX11) (ci := 11) (v := .ref (t_q 1)) (C := RX11) (T := TX11) (N := 13) hx hb hts inb_X11 hown hK.1 hP 0 rfl rfl 1 (by decide) (hts _ wd_423) (fun _ h9 => h9) rfl dX11_drawMisprints_46 ?_
        refine va_getN (D := D) (own := RX11) (ci := 7) (v := .int (iI t_1_x2)) (C := RX7) (T := TX7) (N := 15) hx hb hts inb_X7 hown hK.1 hP 1 rfl rfl 2 (by decide) (hK.nf 12 rfl) (fun _ h9 => h9) rfl dX11_drawMisprints_49 ?_
        have y49_2 : 0 ≤ t_1_x2 ∧ t_1_x2 ≤ 100 := hi_t_1.2.2.1
        refine lv_i2l (v := lI t_1_x2) hx hb dX11_drawMisprints_52 (iI_2l (by omega)) ?_
        refine W.lcmp hx hb dX11_drawMisprints_53 ?_
        refine g_lif_ge (tgt := 61) hx hb (by omega) (by omega) dX11_drawMisprints_54 (by decide) (fun c54 => ?_) (fun c54 => ?_)
        · refine lv_iconst (v := iI 0) hx hb dX11_drawMisprints_61 rfl ?_
          exact J62 w32 0 _ _ ls (by omega) (hP.sub [0, 1] rfl) (hD.sub [0, 1] (by decide) rfl) hS (lv_sub hl [1, 2, 0, 3, 4] rfl)
        · refine lv_iconst (v := iI 1) hx hb dX11_drawMisprints_57 rfl ?_
          refine lv_goto (tgt := 62) hx hb dX11_drawMisprints_58 (by decide) ?_
          exact J62 w32 1 _ _ ls (by omega) (hP.sub [0, 1] rfl) (hD.sub [0, 1] (by decide) rfl) hS (lv_sub hl [1, 2, 0, 3, 4] rfl)
  have hl : lv_has ls 7 [(0, .ref t), (1, .long (lI p1))] := hl
  refine lv_lload_n hx hb dX11_drawMisprints_0 rfl (lv_at hl 1 rfl) ?_
  refine lv_lstore_n (lv' := [(3, .long (lI p1)), (0, .ref t), (1, .long (lI p1))]) hx hb dX11_drawMisprints_1 rfl hl (by decide) rfl (fun ls hl => ?_)
  refine lv_iconst (v := iI 0) hx hb dX11_drawMisprints_2 rfl ?_
  refine lv_istore (lv' := [(5, .int (iI 0)), (3, .long (lI p1)), (0, .ref t), (1, .long (lI p1))]) hx hb dX11_drawMisprints_3 hl (by decide) rfl (fun ls hl => ?_)
  refine lv_iconst (v := iI 0) hx hb dX11_drawMisprints_5 rfl ?_
  refine lv_istore (lv' := [(6, .int (iI 0)), (5, .int (iI 0)), (3, .long (lI p1)), (0, .ref t), (1, .long (lI p1))]) hx hb dX11_drawMisprints_6 hl (by decide) rfl (fun ls hl => ?_)
  exact J8 _ p1 0 0 _ _ ls (Nat.lt_succ_self _) (by omega) (hP.sub [0, 1] rfl) (hD.sub [0, 1] (by decide) rfl) hS (lv_sub hl [3, 4, 2, 1, 0] rfl)
theorem wd_1154 : Cond.code ⟨"FootNotes", "noSeed", "(I)Z"⟩ prog_1_method_69_code 2 (Option.some Jvm.ClassFile.FieldType.boolean) ∈ fn_big := fn_tb (fn_l5 (List.mem_of_getElem? (i := 194) (by decide +kernel))) (by decide +kernel)
theorem wd_1151 : Cond.methodLink "FootNotes" 417 ⟨"FootNotes", "noSeed", "(I)Z"⟩ ∈ fn_big := fn_tb (fn_l5 (List.mem_of_getElem? (i := 191) (by decide +kernel))) (by decide +kernel)
theorem wd_1153 : Cond.instanceMethod ⟨"FootNotes", "noSeed", "(I)Z"⟩ ∈ fn_big := fn_tb (fn_l5 (List.mem_of_getElem? (i := 193) (by decide +kernel))) (by decide +kernel)
theorem wp_86 : Cond.selects "FootNotes" ⟨"FootNotes", "noSeed", "(I)Z"⟩ ⟨"FootNotes", "noSeed", "(I)Z"⟩ ∈ fn_big := fn_sel (q := (⟨"FootNotes", "noSeed", "(I)Z"⟩, 13)) 86 (by decide +kernel) (by decide +kernel)
theorem wd_1159 : Cond.code ⟨"FootNotes", "drawMisprints", "(J)I"⟩ prog_1_method_71_code 7 (Option.some Jvm.ClassFile.FieldType.int) ∈ fn_big := fn_tb (fn_l5 (List.mem_of_getElem? (i := 199) (by decide +kernel))) (by decide +kernel)
theorem wd_1156 : Cond.methodLink "FootNotes" 420 ⟨"FootNotes", "drawMisprints", "(J)I"⟩ ∈ fn_big := fn_tb (fn_l5 (List.mem_of_getElem? (i := 196) (by decide +kernel))) (by decide +kernel)
theorem wd_1158 : Cond.instanceMethod ⟨"FootNotes", "drawMisprints", "(J)I"⟩ ∈ fn_big := fn_tb (fn_l5 (List.mem_of_getElem? (i := 198) (by decide +kernel))) (by decide +kernel)
theorem wp_87 : Cond.selects "FootNotes" ⟨"FootNotes", "drawMisprints", "(J)I"⟩ ⟨"FootNotes", "drawMisprints", "(J)I"⟩ ∈ fn_big := fn_sel (q := (⟨"FootNotes", "drawMisprints", "(J)I"⟩, 13)) 87 (by decide +kernel) (by decide +kernel)
theorem dX11_drawn_0 : decode cX11_drawn 0 = .ok (.aload_n 0, 1) := by decide +kernel
theorem dX11_drawn_1 : decode cX11_drawn 1 = .ok (.iload_n 1, 1) := by decide +kernel
theorem dX11_drawn_2 : decode cX11_drawn 2 = .ok (.invokevirtual 417, 3) := by decide +kernel
theorem dX11_drawn_5 : decode cX11_drawn 5 = .ok (.ifCond .eq 8, 3) := by decide +kernel
theorem dX11_drawn_13 : decode cX11_drawn 13 = .ok (.aload_n 0, 1) := by decide +kernel
theorem dX11_drawn_14 : decode cX11_drawn 14 = .ok (.iload_n 1, 1) := by decide +kernel
theorem dX11_drawn_15 : decode cX11_drawn 15 = .ok (.i2l, 1) := by decide +kernel
theorem dX11_drawn_16 : decode cX11_drawn 16 = .ok (.invokevirtual 420, 3) := by decide +kernel
theorem dX11_drawn_19 : decode cX11_drawn 19 = .ok (.ireturn, 1) := by decide +kernel
theorem dX11_drawn_8 : decode cX11_drawn 8 = .ok (.bipush (-2), 2) := by decide +kernel
theorem dX11_drawn_10 : decode cX11_drawn 10 = .ok (.goto 9, 3) := by decide +kernel
set_option maxHeartbeats 4000000 in
set_option maxRecDepth 100000 in
theorem k_X11_drawn (l : Launch) (D : va_G) (K : Nat → ClassId) (t : Nat) (t_q t_1_q : Nat → Nat) (p1 t_1_x0 t_1_x1 t_1_x2 t_1_x3 t_1_x4 t_1_x5 t_1_x6 t_1_x7 t_1_x8 : Int) (hp1 : (-2147483648) ≤ p1 ∧ p1 ≤ 2147483647) (hi_t_1 : bX7 t_1_x0 t_1_x1 t_1_x2 t_1_x3 t_1_x4 t_1_x5 t_1_x6 t_1_x7 t_1_x8) : fn_CI (S := (Nat → Int) × (Nat → Nat → Int)) l D K yX11_drawn (fn_ws yX11_drawn cX11_drawn 2 (some .int)) ({ frames := 12, cells := 0, slots := 0, locals := 300 } : Room) [.ref t, .int (iI p1)] [(t, .inr (11, oX11 t_q)), ((t_q 1), .inr (7, oX7 t_1_q t_1_x0 t_1_x1 t_1_x2 t_1_x3 t_1_x4 t_1_x5 t_1_x6 t_1_x7 t_1_x8))] (fun r u => ∃ k : Int, r = iI k ∧ ((-2147483648) ≤ k ∧ k ≤ 2147483647) ∧ True) (fun u => [(t, .inr (11, oX11 t_q)), ((t_q 1), .inr (7, oX7 t_1_q t_1_x0 t_1_x1 t_1_x2 t_1_x3 t_1_x4 t_1_x5 t_1_x6 t_1_x7 t_1_x8))]) 0 0 := by
  refine g_inI (cc := cX11_drawn) (maxL := 2) (ret := (some .int)) (by decide) rfl (Nat.le_of_ble_eq_true rfl) ?_
  intro p e s m below meth c A ls ag Q B hA hP hD hS hl hQ
  obtain ⟨hx, hb, hr, hml, hts, hown, hlocks, hin, hK⟩ := B
  have hown : s.vm.findClass RX11 = some m.cls := hown
  have hts := fun w h => hts w (List.mem_cons_of_mem _ h)
  have hl : lv_has ls 2 [(0, .ref t), (1, .int (iI p1))] := hl
  refine lv_aload_n hx hb dX11_drawn_0 rfl (lv_at hl 0 rfl) ?_
  refine lv_iload_n hx hb dX11_drawn_1 rfl (lv_at hl 1 rfl) ?_
  refine fn_goi (wc := [(t, .inr (11, oX11 t_q)), ((t_q 1), .inr (7, oX7 t_1_q t_1_x0 t_1_x1 t_1_x2 t_1_x3 t_1_x4 t_1_x5 t_1_x6 t_1_x7 t_1_x8))]) (wr := []) hK hP hD hS hA [0, 1] [] rfl rfl (by decide) (fun hp => va_runV (C := RX11) (As := [.int (iI p1)]) (rest := []) ⟨hx, hb, hml, hown, hts⟩ (k_X11_noSeed (l := l) (D := D) (K := K) (t := t) (p1 := p1) (t_q := t_q) (t_1_q := t_1_q) (t_1_x0 := t_1_x0) (t_1_x1 := t_1_x1) (t_1_x2 := t_1_x2) (t_1_x3 := t_1_x3) (t_1_x4 := t_1_x4) (t_1_x5 := t_1_x5) (t_1_x6 := t_1_x6) (t_1_x7 := t_1_x7) (t_1_x8 := t_1_x8) (hp1 := (by omega)) (hi_t_1 := hi_t_1) _) (cwV 1 hts (fn_ginV (fn_gin wd_1154) wd_1151 wd_1153 wp_86 wd_1) rfl rfl rfl (by decide +kernel) ⟨Nat.le_of_ble_eq_true rfl, Nat.le_of_ble_eq_true rfl⟩) ⟨fn_blind, va_recv hK.1 hP (ci := 11) (q0 := 0) rfl rfl, hp⟩ rfl rfl hl.1 rfl (lv_room (Nat.le_of_ble_eq_true rfl)) dX11_drawn_2 ⟨Nat.le_of_ble_eq_true rfl, Nat.le_of_ble_eq_true rfl⟩) (fun r2 u2 H locs hwu2 hP hD hS => ?_)
  obtain ⟨u2a, u2b⟩ := u2
  obtain ⟨kr2, rfl, hkr2, -⟩ := hwu2
  have hP : va_P D vwCl [(t, .inr (11, oX11 t_q)), ((t_q 1), .inr (7, oX7 t_1_q t_1_x0 t_1_x1 t_1_x2 t_1_x3 t_1_x4 t_1_x5 t_1_x6 t_1_x7 t_1_x8))] H := hP
  have hD : va_D A [(t, .inr (11, oX11 t_q)), ((t_q 1), .inr (7, oX7 t_1_q t_1_x0 t_1_x1 t_1_x2 t_1_x3 t_1_x4 t_1_x5 t_1_x6 t_1_x7 t_1_x8))] := hD
  refine g_if_eq (tgt := 13) hx hb (by omega) dX11_drawn_5 (by decide) (fun c5 => ?_) (fun c5 => ?_)
  · refine lv_aload_n hx hb dX11_drawn_13 rfl (lv_at hl 0 rfl) ?_
    refine lv_iload_n hx hb dX11_drawn_14 rfl (lv_at hl 1 rfl) ?_
    refine lv_i2l (v := lI p1) hx hb dX11_drawn_15 (iI_2l (by omega)) ?_
    refine fn_goi (wc := [(t, .inr (11, oX11 t_q)), ((t_q 1), .inr (7, oX7 t_1_q t_1_x0 t_1_x1 t_1_x2 t_1_x3 t_1_x4 t_1_x5 t_1_x6 t_1_x7 t_1_x8))]) (wr := []) hK hP hD hS hA [0, 1] [] rfl rfl (by decide) (fun hp => va_runV (C := RX11) (As := [.long (lI p1)]) (rest := []) ⟨hx, hb, hml, hown, hts⟩ (k_X11_drawMisprints (l := l) (D := D) (K := K) (t := t) (p1 := p1) (t_q := t_q) (t_1_q := t_1_q) (t_1_x0 := t_1_x0) (t_1_x1 := t_1_x1) (t_1_x2 := t_1_x2) (t_1_x3 := t_1_x3) (t_1_x4 := t_1_x4) (t_1_x5 := t_1_x5) (t_1_x6 := t_1_x6) (t_1_x7 := t_1_x7) (t_1_x8 := t_1_x8) (hp1 := (by omega)) (hi_t_1 := hi_t_1) _) (cwV 1 hts (fn_ginV (fn_gin wd_1159) wd_1156 wd_1158 wp_87 wd_1) rfl rfl rfl (by decide +kernel) ⟨Nat.le_of_ble_eq_true rfl, Nat.le_of_ble_eq_true rfl⟩) ⟨fn_blind, va_recv hK.1 hP (ci := 11) (q0 := 0) rfl rfl, hp⟩ rfl rfl hl.1 rfl (lv_room (Nat.le_of_ble_eq_true rfl)) dX11_drawn_16 ⟨Nat.le_of_ble_eq_true rfl, Nat.le_of_ble_eq_true rfl⟩) (fun r16 u16 H locs hwu16 hP hD hS => ?_)
    obtain ⟨u16a, u16b⟩ := u16
    obtain ⟨kr16, rfl, hkr16, -⟩ := hwu16
    have hP : va_P D vwCl [(t, .inr (11, oX11 t_q)), ((t_q 1), .inr (7, oX7 t_1_q t_1_x0 t_1_x1 t_1_x2 t_1_x3 t_1_x4 t_1_x5 t_1_x6 t_1_x7 t_1_x8))] H := hP
    have hD : va_D A [(t, .inr (11, oX11 t_q)), ((t_q 1), .inr (7, oX7 t_1_q t_1_x0 t_1_x1 t_1_x2 t_1_x3 t_1_x4 t_1_x5 t_1_x6 t_1_x7 t_1_x8))] := hD
    rw [hQ]; exact fn_iret hx hb hr hlocks rfl hP hD hS ((fun _ => 0), (fun _ _ => 0)) ⟨kr16, rfl, by omega, trivial⟩ [0, 1] (by decide) rfl dX11_drawn_19
  · refine lv_bipush (v := iI (-2)) hx hb dX11_drawn_8 (by decide) ?_
    refine lv_goto (tgt := 19) hx hb dX11_drawn_10 (by decide) ?_
    rw [hQ]; exact fn_iret hx hb hr hlocks rfl hP hD hS ((fun _ => 0), (fun _ _ => 0)) ⟨(-2), rfl, by omega, trivial⟩ [0, 1] (by decide) rfl dX11_drawn_19
theorem wd_430 : Cond.fieldLink "FootNotes" 55 "FootNotes" "shakenWeb" "LFootNotes$Web;" ∈ fn_big := fn_tb (fn_l2 (List.mem_of_getElem? (i := 190) (by decide +kernel))) (by decide +kernel)
theorem dX11_groundedByDraw_0 : decode cX11_groundedByDraw 0 = .ok (.aload_n 0, 1) := by decide +kernel
theorem dX11_groundedByDraw_1 : decode cX11_groundedByDraw 1 = .ok (.getfield 55, 3) := by decide +kernel
theorem dX11_groundedByDraw_4 : decode cX11_groundedByDraw 4 = .ok (.aload_n 0, 1) := by decide +kernel
theorem dX11_groundedByDraw_5 : decode cX11_groundedByDraw 5 = .ok (.getfield 19, 3) := by decide +kernel
theorem dX11_groundedByDraw_8 : decode cX11_groundedByDraw 8 = .ok (.aload_n 0, 1) := by decide +kernel
theorem dX11_groundedByDraw_9 : decode cX11_groundedByDraw 9 = .ok (.getfield 26, 3) := by decide +kernel
theorem dX11_groundedByDraw_12 : decode cX11_groundedByDraw 12 = .ok (.aload_n 0, 1) := by decide +kernel
theorem dX11_groundedByDraw_13 : decode cX11_groundedByDraw 13 = .ok (.lload_n 1, 1) := by decide +kernel
theorem dX11_groundedByDraw_14 : decode cX11_groundedByDraw 14 = .ok (.invokevirtual 420, 3) := by decide +kernel
theorem dX11_groundedByDraw_17 : decode cX11_groundedByDraw 17 = .ok (.invokevirtual 126, 3) := by decide +kernel
theorem dX11_groundedByDraw_20 : decode cX11_groundedByDraw 20 = .ok (.aload_n 0, 1) := by decide +kernel
theorem dX11_groundedByDraw_21 : decode cX11_groundedByDraw 21 = .ok (.getfield 55, 3) := by decide +kernel
theorem dX11_groundedByDraw_24 : decode cX11_groundedByDraw 24 = .ok (.iconst 0, 1) := by decide +kernel
theorem dX11_groundedByDraw_25 : decode cX11_groundedByDraw 25 = .ok (.invokevirtual 239, 3) := by decide +kernel
theorem dX11_groundedByDraw_28 : decode cX11_groundedByDraw 28 = .ok (.ireturn, 1) := by decide +kernel
set_option maxHeartbeats 4000000 in
set_option maxRecDepth 100000 in
theorem k_X11_groundedByDraw (l : Launch) (D : va_G) (K : Nat → ClassId) (t : Nat) (t_q t_1_q t_8_q t_2_q : Nat → Nat) (p1 t_1_x0 t_1_x1 t_1_x2 t_1_x3 t_1_x4 t_1_x5 t_1_x6 t_1_x7 t_1_x8 t_8_x0 t_8_x1 t_8_x6 t_2_x0 : Int) (t_8_2_c : Nat → Int) (t_2_1_c : Nat → Int) (t_2_2_c : Nat → Int) (t_8_4_c : Nat → Int) (t_1_12_c : Nat → Int) (t_2_3_c : Nat → Int) (t_1_13_c : Nat → Int) (t_8_3_c : Nat → Int) (hp1 : (-9223372036854775808) ≤ p1 ∧ p1 ≤ 9223372036854775807) (hi_t_1 : bX7 t_1_x0 t_1_x1 t_1_x2 t_1_x3 t_1_x4 t_1_x5 t_1_x6 t_1_x7 t_1_x8) (hi_t_8 : bX10 t_8_x0 t_8_x1 t_8_x6) (hc_t_8_2 : ∀ j : Nat, (-1) ≤ t_8_2_c j ∧ t_8_2_c j ≤ 149) (hi_t_2 : bX5 t_2_x0) (hc_t_2_1 : ∀ j : Nat, (-1000) ≤ t_2_1_c j ∧ t_2_1_c j ≤ 30) (hc_t_2_2 : ∀ j : Nat, (-4) ≤ t_2_2_c j ∧ t_2_2_c j ≤ 11) (hc_t_8_4 : ∀ j : Nat, 0 ≤ t_8_4_c j ∧ t_8_4_c j ≤ 4095) (hc_t_1_12 : ∀ j : Nat, 0 ≤ t_1_12_c j ∧ t_1_12_c j ≤ 11) (hc_t_2_3 : ∀ j : Nat, 0 ≤ t_2_3_c j ∧ t_2_3_c j ≤ 29) (hc_t_1_13 : ∀ j : Nat, 0 ≤ t_1_13_c j ∧ t_1_13_c j ≤ 4) (hc_t_8_3 : ∀ j : Nat, (-1) ≤ t_8_3_c j ∧ t_8_3_c j ≤ 11) : fn_CI (S := (Nat → Int) × (Nat → Nat → Int)) l D K yX11_groundedByDraw (fn_ws yX11_groundedByDraw cX11_groundedByDraw 3 (some .int)) ({ frames := 16, cells := 0, slots := 0, locals := 400 } : Room) [.ref t, .long (lI p1)] [(t, .inr (11, oX11 t_q)), ((t_q 1), .inr (7, oX7 t_1_q t_1_x0 t_1_x1 t_1_x2 t_1_x3 t_1_x4 t_1_x5 t_1_x6 t_1_x7 t_1_x8)), ((t_q 8), .inr (10, oX10 t_8_q t_8_x0 t_8_x1 t_8_x6)), ((t_8_q 2), .inl (K 0, 12, .inl (fun j => iI (t_8_2_c j)))), ((t_q 2), .inr (5, oX5 t_2_q t_2_x0)), ((t_2_q 1), .inl (K 0, 5, .inl (fun j => iI (t_2_1_c j)))), ((t_2_q 2), .inl (K 0, 150, .inl (fun j => iI (t_2_2_c j)))), ((t_8_q 4), .inl (K 0, 12, .inl (fun j => iI (t_8_4_c j)))), ((t_1_q 12), .inl (K 0, 24, .inl (fun j => iI (t_1_12_c j)))), ((t_2_q 3), .inl (K 0, 24, .inl (fun j => iI (t_2_3_c j)))), ((t_1_q 13), .inl (K 0, 24, .inl (fun j => iI (t_1_13_c j)))), ((t_8_q 3), .inl (K 0, 24, .inl (fun j => iI (t_8_3_c j))))] (fun r u => ∃ k : Int, r = iI k ∧ (0 ≤ k ∧ k ≤ 4095) ∧ (0 ≤ (u.1 0) ∧ (u.1 0) ≤ 12 ∧ 0 ≤ (u.1 1) ∧ (u.1 1) ≤ 4095) ∧ (∀ j : Nat, (-1) ≤ (u.2 0) j ∧ (u.2 0) j ≤ 149) ∧ (∀ j : Nat, (-1) ≤ (u.2 1) j ∧ (u.2 1) j ≤ 11) ∧ (∀ j : Nat, 0 ≤ (u.2 2) j ∧ (u.2 2) j ≤ 4095) ∧ True) (fun u => [(t, .inr (11, oX11 t_q)), ((t_q 1), .inr (7, oX7 t_1_q t_1_x0 t_1_x1 t_1_x2 t_1_x3 t_1_x4 t_1_x5 t_1_x6 t_1_x7 t_1_x8)), ((t_q 8), .inr (10, oX10 t_8_q (u.1 0) (u.1 1) t_8_x6)), ((t_8_q 2), .inl (K 0, 12, .inl (fun j => iI ((u.2 0) j)))), ((t_q 2), .inr (5, oX5 t_2_q t_2_x0)), ((t_2_q 1), .inl (K 0, 5, .inl (fun j => iI (t_2_1_c j)))), ((t_2_q 2), .inl (K 0, 150, .inl (fun j => iI (t_2_2_c j)))), ((t_8_q 4), .inl (K 0, 12, .inl (fun j => iI ((u.2 2) j)))), ((t_1_q 12), .inl (K 0, 24, .inl (fun j => iI (t_1_12_c j)))), ((t_2_q 3), .inl (K 0, 24, .inl (fun j => iI (t_2_3_c j)))), ((t_1_q 13), .inl (K 0, 24, .inl (fun j => iI (t_1_13_c j)))), ((t_8_q 3), .inl (K 0, 24, .inl (fun j => iI ((u.2 1) j))))]) 0 0 := by
  refine g_inI (cc := cX11_groundedByDraw) (maxL := 3) (ret := (some .int)) (by decide) rfl (Nat.le_of_ble_eq_true rfl) ?_
  intro p e s m below meth c A ls ag Q B hA hP hD hS hl hQ
  obtain ⟨hx, hb, hr, hml, hts, hown, hlocks, hin, hK⟩ := B
  have hown : s.vm.findClass RX11 = some m.cls := hown
  have hts := fun w h => hts w (List.mem_cons_of_mem _ h)
  have hl : lv_has ls 3 [(0, .ref t), (1, .long (lI p1))] := hl
  refine lv_aload_n hx hb dX11_groundedByDraw_0 rfl (lv_at hl 0 rfl) ?_
  refine va_get (D := D) (own := RX11) (ci := 11) (v := .ref (t_q 8)) (C := RX11) (T := TX11) (N := 13) hx hb hts inb_X11 hown hK.1 hP 0 rfl rfl 8 (by decide) (hts _ wd_430) (fun _ h9 => h9) rfl dX11_groundedByDraw_1 ?_
  refine lv_aload_n hx hb dX11_groundedByDraw_4 rfl (lv_at hl 0 rfl) ?_
  refine va_get (D := D) (own := RX11) (ci := 11) (v := .ref (t_q 1)) (C := RX11) (T := TX11) (N := 13) hx hb hts inb_X11 hown hK.1 hP 0 rfl rfl 1 (by decide) (hts _ wd_423) (fun _ h9 => h9) rfl dX11_groundedByDraw_5 ?_
  refine lv_aload_n hx hb dX11_groundedByDraw_8 rfl (lv_at hl 0 rfl) ?_
  refine va_get (D := D) (own := RX11) (ci := 11) (v := .ref (t_q 2)) (C := RX11) (T := TX11) (N := 13) hx hb hts inb_X11 hown hK.1 hP 0 rfl rfl 2 (by decide) (hts _ wd_424) (fun _ h9 => h9) rfl dX11_groundedByDraw_9 ?_
  refine lv_aload_n hx hb dX11_groundedByDraw_12 rfl (lv_at hl 0 rfl) ?_
  refine lv_lload_n hx hb dX11_groundedByDraw_13 rfl (lv_at hl 1 rfl) ?_
  refine fn_goi (wc := [(t, .inr (11, oX11 t_q)), ((t_q 1), .inr (7, oX7 t_1_q t_1_x0 t_1_x1 t_1_x2 t_1_x3 t_1_x4 t_1_x5 t_1_x6 t_1_x7 t_1_x8))]) (wr := [((t_q 8), .inr (10, oX10 t_8_q t_8_x0 t_8_x1 t_8_x6)), ((t_8_q 2), .inl (K 0, 12, .inl (fun j => iI (t_8_2_c j)))), ((t_q 2), .inr (5, oX5 t_2_q t_2_x0)), ((t_2_q 1), .inl (K 0, 5, .inl (fun j => iI (t_2_1_c j)))), ((t_2_q 2), .inl (K 0, 150, .inl (fun j => iI (t_2_2_c j)))), ((t_8_q 4), .inl (K 0, 12, .inl (fun j => iI (t_8_4_c j)))), ((t_1_q 12), .inl (K 0, 24, .inl (fun j => iI (t_1_12_c j)))), ((t_2_q 3), .inl (K 0, 24, .inl (fun j => iI (t_2_3_c j)))), ((t_1_q 13), .inl (K 0, 24, .inl (fun j => iI (t_1_13_c j)))), ((t_8_q 3), .inl (K 0, 24, .inl (fun j => iI (t_8_3_c j))))]) hK hP hD hS hA [0, 1] [2, 3, 4, 5, 6, 7, 8, 9, 10, 11] rfl rfl (by decide) (fun hp => va_runV (C := RX11) (As := [.long (lI p1)]) (rest := [.ref (t_q 2), .ref (t_q 1), .ref (t_q 8)]) ⟨hx, hb, hml, hown, hts⟩ (k_X11_drawMisprints (l := l) (D := D) (K := K) (t := t) (p1 := p1) (t_q := t_q) (t_1_q := t_1_q) (t_1_x0 := t_1_x0) (t_1_x1 := t_1_x1) (t_1_x2 := t_1_x2) (t_1_x3 := t_1_x3) (t_1_x4 := t_1_x4) (t_1_x5 := t_1_x5) (t_1_x6 := t_1_x6) (t_1_x7 := t_1_x7) (t_1_x8 := t_1_x8) (hp1 := (by omega)) (hi_t_1 := hi_t_1) _) (cwV 1 hts (fn_ginV (fn_gin wd_1159) wd_1156 wd_1158 wp_87 wd_1) rfl rfl rfl (by decide +kernel) ⟨Nat.le_of_ble_eq_true rfl, Nat.le_of_ble_eq_true rfl⟩) ⟨fn_blind, va_recv hK.1 hP (ci := 11) (q0 := 0) rfl rfl, hp⟩ rfl rfl hl.1 rfl (lv_room (Nat.le_of_ble_eq_true rfl)) dX11_groundedByDraw_14 ⟨Nat.le_of_ble_eq_true rfl, Nat.le_of_ble_eq_true rfl⟩) (fun r14 u14 H locs hwu14 hP hD hS => ?_)
  obtain ⟨u14a, u14b⟩ := u14
  obtain ⟨kr14, rfl, hkr14, -⟩ := hwu14
  have hP : va_P D vwCl [((t_q 8), .inr (10, oX10 t_8_q t_8_x0 t_8_x1 t_8_x6)), ((t_8_q 2), .inl (K 0, 12, .inl (fun j => iI (t_8_2_c j)))), ((t_q 2), .inr (5, oX5 t_2_q t_2_x0)), ((t_2_q 1), .inl (K 0, 5, .inl (fun j => iI (t_2_1_c j)))), ((t_2_q 2), .inl (K 0, 150, .inl (fun j => iI (t_2_2_c j)))), ((t_8_q 4), .inl (K 0, 12, .inl (fun j => iI (t_8_4_c j)))), ((t_1_q 12), .inl (K 0, 24, .inl (fun j => iI (t_1_12_c j)))), ((t_2_q 3), .inl (K 0, 24, .inl (fun j => iI (t_2_3_c j)))), ((t_1_q 13), .inl (K 0, 24, .inl (fun j => iI (t_1_13_c j)))), ((t_8_q 3), .inl (K 0, 24, .inl (fun j => iI (t_8_3_c j)))), (t, .inr (11, oX11 t_q)), ((t_q 1), .inr (7, oX7 t_1_q t_1_x0 t_1_x1 t_1_x2 t_1_x3 t_1_x4 t_1_x5 t_1_x6 t_1_x7 t_1_x8))] H := hP
  have hD : va_D A [((t_q 8), .inr (10, oX10 t_8_q t_8_x0 t_8_x1 t_8_x6)), ((t_8_q 2), .inl (K 0, 12, .inl (fun j => iI (t_8_2_c j)))), ((t_q 2), .inr (5, oX5 t_2_q t_2_x0)), ((t_2_q 1), .inl (K 0, 5, .inl (fun j => iI (t_2_1_c j)))), ((t_2_q 2), .inl (K 0, 150, .inl (fun j => iI (t_2_2_c j)))), ((t_8_q 4), .inl (K 0, 12, .inl (fun j => iI (t_8_4_c j)))), ((t_1_q 12), .inl (K 0, 24, .inl (fun j => iI (t_1_12_c j)))), ((t_2_q 3), .inl (K 0, 24, .inl (fun j => iI (t_2_3_c j)))), ((t_1_q 13), .inl (K 0, 24, .inl (fun j => iI (t_1_13_c j)))), ((t_8_q 3), .inl (K 0, 24, .inl (fun j => iI (t_8_3_c j)))), (t, .inr (11, oX11 t_q)), ((t_q 1), .inr (7, oX7 t_1_q t_1_x0 t_1_x1 t_1_x2 t_1_x3 t_1_x4 t_1_x5 t_1_x6 t_1_x7 t_1_x8))] := hD
  refine fn_gov (wc := [((t_q 1), .inr (7, oX7 t_1_q t_1_x0 t_1_x1 t_1_x2 t_1_x3 t_1_x4 t_1_x5 t_1_x6 t_1_x7 t_1_x8)), ((t_q 8), .inr (10, oX10 t_8_q t_8_x0 t_8_x1 t_8_x6)), ((t_8_q 2), .inl (K 0, 12, .inl (fun j => iI (t_8_2_c j)))), ((t_q 2), .inr (5, oX5 t_2_q t_2_x0)), ((t_2_q 1), .inl (K 0, 5, .inl (fun j => iI (t_2_1_c j)))), ((t_2_q 2), .inl (K 0, 150, .inl (fun j => iI (t_2_2_c j)))), ((t_8_q 4), .inl (K 0, 12, .inl (fun j => iI (t_8_4_c j)))), ((t_1_q 12), .inl (K 0, 24, .inl (fun j => iI (t_1_12_c j)))), ((t_2_q 3), .inl (K 0, 24, .inl (fun j => iI (t_2_3_c j)))), ((t_1_q 13), .inl (K 0, 24, .inl (fun j => iI (t_1_13_c j)))), ((t_8_q 3), .inl (K 0, 24, .inl (fun j => iI (t_8_3_c j))))]) (wr := [(t, .inr (11, oX11 t_q))]) hK hP hD hS hA [11, 0, 1, 2, 3, 4, 5, 6, 7, 8, 9] [10] rfl rfl (by decide) (fun hp => va_runVN (C := RX10) (As := [.ref (t_q 1), .ref (t_q 2), .int (iI kr14)]) (rest := []) ⟨hx, hb, hml, hown, hts⟩ (k_X10_weave (l := l) (D := D) (K := K) (t := (t_q 8)) (a1 := (t_q 1)) (a2 := (t_q 2)) (p3 := kr14) (a1_q := t_1_q) (a1_x0 := t_1_x0) (a1_x1 := t_1_x1) (a1_x2 := t_1_x2) (a1_x3 := t_1_x3) (a1_x4 := t_1_x4) (a1_x5 := t_1_x5) (a1_x6 := t_1_x6) (a1_x7 := t_1_x7) (a1_x8 := t_1_x8) (t_q := t_8_q) (t_x0 := t_8_x0) (t_x1 := t_8_x1) (t_x6 := t_8_x6) (t_2_c := t_8_2_c) (a2_q := t_2_q) (a2_x0 := t_2_x0) (a2_1_c := t_2_1_c) (a2_2_c := t_2_2_c) (t_4_c := t_8_4_c) (a1_12_c := t_1_12_c) (a2_3_c := t_2_3_c) (a1_13_c := t_1_13_c) (t_3_c := t_8_3_c) (hp3 := (by omega)) (hi_a1 := hi_t_1) (hi_t := hi_t_8) (hc_t_2 := hc_t_8_2) (hi_a2 := hi_t_2) (hc_a2_1 := hc_t_2_1) (hc_a2_2 := hc_t_2_2) (hc_t_4 := hc_t_8_4) (hc_a1_12 := hc_t_1_12) (hc_a2_3 := hc_t_2_3) (hc_a1_13 := hc_t_1_13) (hc_t_3 := hc_t_8_3) _) ⟨va_cnB (own := RX11) 3 hts (fn_gin wd_639) rfl rfl rfl (hK.nw 106 rfl) (hts _ wd_6) (by decide +kernel) ⟨Nat.le_of_ble_eq_true rfl, Nat.le_of_ble_eq_true rfl⟩, hts _ wd_638, hts _ wp_22⟩ ⟨fn_blind, va_recv hK.1 hP (ci := 10) (q0 := 0) rfl rfl, hp⟩ rfl rfl hl.1 rfl (lv_room (Nat.le_of_ble_eq_true rfl)) dX11_groundedByDraw_17 ⟨Nat.le_of_ble_eq_true rfl, Nat.le_of_ble_eq_true rfl⟩) (fun u17 H locs hwu17 hP hD hS => ?_)
  obtain ⟨u17a, u17b⟩ := u17
  obtain ⟨hqu170, hu17_00, hu17_10, hu17_20, -⟩ := hwu17
  have hqu17 : 0 ≤ (u17a 0) ∧ (u17a 0) ≤ 12 ∧ 0 ≤ (u17a 1) ∧ (u17a 1) ≤ 4095 := hqu170
  have hu17_0 : ∀ j : Nat, (-1) ≤ (u17b 0) j ∧ (u17b 0) j ≤ 149 := hu17_00
  have hu17_1 : ∀ j : Nat, (-1) ≤ (u17b 1) j ∧ (u17b 1) j ≤ 11 := hu17_10
  have hu17_2 : ∀ j : Nat, 0 ≤ (u17b 2) j ∧ (u17b 2) j ≤ 4095 := hu17_20
  clear hqu170 hu17_00 hu17_10 hu17_20
  have hP : va_P D vwCl [(t, .inr (11, oX11 t_q)), ((t_q 1), .inr (7, oX7 t_1_q t_1_x0 t_1_x1 t_1_x2 t_1_x3 t_1_x4 t_1_x5 t_1_x6 t_1_x7 t_1_x8)), ((t_q 8), .inr (10, oX10 t_8_q (u17a 0) (u17a 1) t_8_x6)), ((t_8_q 2), .inl (K 0, 12, .inl (fun j => iI ((u17b 0) j)))), ((t_q 2), .inr (5, oX5 t_2_q t_2_x0)), ((t_2_q 1), .inl (K 0, 5, .inl (fun j => iI (t_2_1_c j)))), ((t_2_q 2), .inl (K 0, 150, .inl (fun j => iI (t_2_2_c j)))), ((t_8_q 4), .inl (K 0, 12, .inl (fun j => iI ((u17b 2) j)))), ((t_1_q 12), .inl (K 0, 24, .inl (fun j => iI (t_1_12_c j)))), ((t_2_q 3), .inl (K 0, 24, .inl (fun j => iI (t_2_3_c j)))), ((t_1_q 13), .inl (K 0, 24, .inl (fun j => iI (t_1_13_c j)))), ((t_8_q 3), .inl (K 0, 24, .inl (fun j => iI ((u17b 1) j))))] H := hP
  have hD : va_D A [(t, .inr (11, oX11 t_q)), ((t_q 1), .inr (7, oX7 t_1_q t_1_x0 t_1_x1 t_1_x2 t_1_x3 t_1_x4 t_1_x5 t_1_x6 t_1_x7 t_1_x8)), ((t_q 8), .inr (10, oX10 t_8_q (u17a 0) (u17a 1) t_8_x6)), ((t_8_q 2), .inl (K 0, 12, .inl (fun j => iI ((u17b 0) j)))), ((t_q 2), .inr (5, oX5 t_2_q t_2_x0)), ((t_2_q 1), .inl (K 0, 5, .inl (fun j => iI (t_2_1_c j)))), ((t_2_q 2), .inl (K 0, 150, .inl (fun j => iI (t_2_2_c j)))), ((t_8_q 4), .inl (K 0, 12, .inl (fun j => iI ((u17b 2) j)))), ((t_1_q 12), .inl (K 0, 24, .inl (fun j => iI (t_1_12_c j)))), ((t_2_q 3), .inl (K 0, 24, .inl (fun j => iI (t_2_3_c j)))), ((t_1_q 13), .inl (K 0, 24, .inl (fun j => iI (t_1_13_c j)))), ((t_8_q 3), .inl (K 0, 24, .inl (fun j => iI ((u17b 1) j))))] := hD
  refine lv_aload_n hx hb dX11_groundedByDraw_20 rfl (lv_at hl 0 rfl) ?_
  refine va_get (D := D) (own := RX11) (ci := 11) (v := .ref (t_q 8)) (C := RX11) (T := TX11) (N := 13) hx hb hts inb_X11 hown hK.1 hP 0 rfl rfl 8 (by decide) (hts _ wd_430) (fun _ h9 => h9) rfl dX11_groundedByDraw_21 ?_
  refine lv_iconst (v := iI 0) hx hb dX11_groundedByDraw_24 rfl ?_
  refine fn_goi (wc := [((t_q 8), .inr (10, oX10 t_8_q (u17a 0) (u17a 1) t_8_x6)), ((t_8_q 4), .inl (K 0, 12, .inl (fun j => iI ((u17b 2) j))))]) (wr := [(t, .inr (11, oX11 t_q)), ((t_q 1), .inr (7, oX7 t_1_q t_1_x0 t_1_x1 t_1_x2 t_1_x3 t_1_x4 t_1_x5 t_1_x6 t_1_x7 t_1_x8)), ((t_8_q 2), .inl (K 0, 12, .inl (fun j => iI ((u17b 0) j)))), ((t_q 2), .inr (5, oX5 t_2_q t_2_x0)), ((t_2_q 1), .inl (K 0, 5, .inl (fun j => iI (t_2_1_c j)))), ((t_2_q 2), .inl (K 0, 150, .inl (fun j => iI (t_2_2_c j)))), ((t_1_q 12), .inl (K 0, 24, .inl (fun j => iI (t_1_12_c j)))), ((t_2_q 3), .inl (K 0, 24, .inl (fun j => iI (t_2_3_c j)))), ((t_1_q 13), .inl (K 0, 24, .inl (fun j => iI (t_1_13_c j)))), ((t_8_q 3), .inl (K 0, 24, .inl (fun j => iI ((u17b 1) j))))]) hK hP hD hS hA [2, 7] [0, 1, 3, 4, 5, 6, 8, 9, 10, 11] rfl rfl (by decide) (fun hp => va_runVN (C := RX10) (As := [.int (iI 0)]) (rest := []) ⟨hx, hb, hml, hown, hts⟩ (k_X10_groundedWithout (l := l) (D := D) (K := K) (t := (t_q 8)) (p1 := 0) (t_q := t_8_q) (t_x0 := (u17a 0)) (t_x1 := (u17a 1)) (t_x6 := t_8_x6) (t_4_c := (u17b 2)) (hp1 := (by omega)) (hi_t := ⟨(by omega), (by omega), hi_t_8.2.2⟩) (hc_t_4 := hu17_2) _) ⟨va_cnB (own := RX11) 1 hts (fn_gin wd_825) rfl rfl rfl (hK.nw 124 rfl) (hts _ wd_6) (by decide +kernel) ⟨Nat.le_of_ble_eq_true rfl, Nat.le_of_ble_eq_true rfl⟩, hts _ wd_824, hts _ wp_42⟩ ⟨fn_blind, va_recv hK.1 hP (ci := 10) (q0 := 2) rfl rfl, hp⟩ rfl rfl hl.1 rfl (lv_room (Nat.le_of_ble_eq_true rfl)) dX11_groundedByDraw_25 ⟨Nat.le_of_ble_eq_true rfl, Nat.le_of_ble_eq_true rfl⟩) (fun r25 u25 H locs hwu25 hP hD hS => ?_)
  obtain ⟨u25a, u25b⟩ := u25
  obtain ⟨kr25, rfl, hkr25, -⟩ := hwu25
  have hP : va_P D vwCl [(t, .inr (11, oX11 t_q)), ((t_q 1), .inr (7, oX7 t_1_q t_1_x0 t_1_x1 t_1_x2 t_1_x3 t_1_x4 t_1_x5 t_1_x6 t_1_x7 t_1_x8)), ((t_8_q 2), .inl (K 0, 12, .inl (fun j => iI ((u17b 0) j)))), ((t_q 2), .inr (5, oX5 t_2_q t_2_x0)), ((t_2_q 1), .inl (K 0, 5, .inl (fun j => iI (t_2_1_c j)))), ((t_2_q 2), .inl (K 0, 150, .inl (fun j => iI (t_2_2_c j)))), ((t_1_q 12), .inl (K 0, 24, .inl (fun j => iI (t_1_12_c j)))), ((t_2_q 3), .inl (K 0, 24, .inl (fun j => iI (t_2_3_c j)))), ((t_1_q 13), .inl (K 0, 24, .inl (fun j => iI (t_1_13_c j)))), ((t_8_q 3), .inl (K 0, 24, .inl (fun j => iI ((u17b 1) j)))), ((t_q 8), .inr (10, oX10 t_8_q (u17a 0) (u17a 1) t_8_x6)), ((t_8_q 4), .inl (K 0, 12, .inl (fun j => iI ((u17b 2) j))))] H := hP
  have hD : va_D A [(t, .inr (11, oX11 t_q)), ((t_q 1), .inr (7, oX7 t_1_q t_1_x0 t_1_x1 t_1_x2 t_1_x3 t_1_x4 t_1_x5 t_1_x6 t_1_x7 t_1_x8)), ((t_8_q 2), .inl (K 0, 12, .inl (fun j => iI ((u17b 0) j)))), ((t_q 2), .inr (5, oX5 t_2_q t_2_x0)), ((t_2_q 1), .inl (K 0, 5, .inl (fun j => iI (t_2_1_c j)))), ((t_2_q 2), .inl (K 0, 150, .inl (fun j => iI (t_2_2_c j)))), ((t_1_q 12), .inl (K 0, 24, .inl (fun j => iI (t_1_12_c j)))), ((t_2_q 3), .inl (K 0, 24, .inl (fun j => iI (t_2_3_c j)))), ((t_1_q 13), .inl (K 0, 24, .inl (fun j => iI (t_1_13_c j)))), ((t_8_q 3), .inl (K 0, 24, .inl (fun j => iI ((u17b 1) j)))), ((t_q 8), .inr (10, oX10 t_8_q (u17a 0) (u17a 1) t_8_x6)), ((t_8_q 4), .inl (K 0, 12, .inl (fun j => iI ((u17b 2) j))))] := hD
  rw [hQ]; exact fn_iret hx hb hr hlocks rfl hP hD hS ((fun k => ([(u17a 0), (u17a 1)] : List Int).getD k 0), (fun k => ([(u17b 0), (u17b 1), (u17b 2)] : List (Nat → Int)).getD k (fun _ => 0))) ⟨kr25, rfl, by omega, (by show 0 ≤ (u17a 0) ∧ (u17a 0) ≤ 12 ∧ 0 ≤ (u17a 1) ∧ (u17a 1) ≤ 4095; omega), (hu17_0), (hu17_1), (hu17_2), trivial⟩ [0, 1, 10, 2, 3, 4, 5, 11, 6, 7, 8, 9] (by decide) rfl dX11_groundedByDraw_28
theorem wd_1172 : Cond.code ⟨"FootNotes", "groundedByDraw", "(J)I"⟩ prog_1_method_72_code 3 (Option.some Jvm.ClassFile.FieldType.int) ∈ fn_big := fn_tb (fn_l5 (List.mem_of_getElem? (i := 212) (by decide +kernel))) (by decide +kernel)
theorem wd_1169 : Cond.methodLink "FootNotes" 437 ⟨"FootNotes", "groundedByDraw", "(J)I"⟩ ∈ fn_big := fn_tb (fn_l5 (List.mem_of_getElem? (i := 209) (by decide +kernel))) (by decide +kernel)
theorem wd_1171 : Cond.instanceMethod ⟨"FootNotes", "groundedByDraw", "(J)I"⟩ ∈ fn_big := fn_tb (fn_l5 (List.mem_of_getElem? (i := 211) (by decide +kernel))) (by decide +kernel)
theorem wp_88 : Cond.selects "FootNotes" ⟨"FootNotes", "groundedByDraw", "(J)I"⟩ ⟨"FootNotes", "groundedByDraw", "(J)I"⟩ ∈ fn_big := fn_sel (q := (⟨"FootNotes", "groundedByDraw", "(J)I"⟩, 13)) 88 (by decide +kernel) (by decide +kernel)
theorem dX11_shaken_0 : decode cX11_shaken 0 = .ok (.aload_n 0, 1) := by decide +kernel
theorem dX11_shaken_1 : decode cX11_shaken 1 = .ok (.iload_n 1, 1) := by decide +kernel
theorem dX11_shaken_2 : decode cX11_shaken 2 = .ok (.invokevirtual 417, 3) := by decide +kernel
theorem dX11_shaken_5 : decode cX11_shaken 5 = .ok (.ifCond .eq 8, 3) := by decide +kernel
theorem dX11_shaken_13 : decode cX11_shaken 13 = .ok (.aload_n 0, 1) := by decide +kernel
theorem dX11_shaken_14 : decode cX11_shaken 14 = .ok (.iload_n 1, 1) := by decide +kernel
theorem dX11_shaken_15 : decode cX11_shaken 15 = .ok (.i2l, 1) := by decide +kernel
theorem dX11_shaken_16 : decode cX11_shaken 16 = .ok (.invokevirtual 437, 3) := by decide +kernel
theorem dX11_shaken_19 : decode cX11_shaken 19 = .ok (.invokestatic 248, 3) := by decide +kernel
theorem dX11_shaken_22 : decode cX11_shaken 22 = .ok (.ireturn, 1) := by decide +kernel
theorem dX11_shaken_8 : decode cX11_shaken 8 = .ok (.bipush (-2), 2) := by decide +kernel
theorem dX11_shaken_10 : decode cX11_shaken 10 = .ok (.goto 12, 3) := by decide +kernel
set_option maxHeartbeats 4000000 in
set_option maxRecDepth 100000 in
theorem k_X11_shaken (l : Launch) (D : va_G) (K : Nat → ClassId) (t : Nat) (t_q t_1_q t_8_q t_2_q : Nat → Nat) (p1 t_1_x0 t_1_x1 t_1_x2 t_1_x3 t_1_x4 t_1_x5 t_1_x6 t_1_x7 t_1_x8 t_8_x0 t_8_x1 t_8_x6 t_2_x0 : Int) (t_8_2_c : Nat → Int) (t_2_1_c : Nat → Int) (t_2_2_c : Nat → Int) (t_8_4_c : Nat → Int) (t_1_12_c : Nat → Int) (t_2_3_c : Nat → Int) (t_1_13_c : Nat → Int) (t_8_3_c : Nat → Int) (hp1 : (-2147483648) ≤ p1 ∧ p1 ≤ 2147483647) (hi_t_1 : bX7 t_1_x0 t_1_x1 t_1_x2 t_1_x3 t_1_x4 t_1_x5 t_1_x6 t_1_x7 t_1_x8) (hi_t_8 : bX10 t_8_x0 t_8_x1 t_8_x6) (hc_t_8_2 : ∀ j : Nat, (-1) ≤ t_8_2_c j ∧ t_8_2_c j ≤ 149) (hi_t_2 : bX5 t_2_x0) (hc_t_2_1 : ∀ j : Nat, (-1000) ≤ t_2_1_c j ∧ t_2_1_c j ≤ 30) (hc_t_2_2 : ∀ j : Nat, (-4) ≤ t_2_2_c j ∧ t_2_2_c j ≤ 11) (hc_t_8_4 : ∀ j : Nat, 0 ≤ t_8_4_c j ∧ t_8_4_c j ≤ 4095) (hc_t_1_12 : ∀ j : Nat, 0 ≤ t_1_12_c j ∧ t_1_12_c j ≤ 11) (hc_t_2_3 : ∀ j : Nat, 0 ≤ t_2_3_c j ∧ t_2_3_c j ≤ 29) (hc_t_1_13 : ∀ j : Nat, 0 ≤ t_1_13_c j ∧ t_1_13_c j ≤ 4) (hc_t_8_3 : ∀ j : Nat, (-1) ≤ t_8_3_c j ∧ t_8_3_c j ≤ 11) : fn_CI (S := (Nat → Int) × (Nat → Nat → Int)) l D K yX11_shaken (fn_ws yX11_shaken cX11_shaken 2 (some .int)) ({ frames := 20, cells := 0, slots := 0, locals := 500 } : Room) [.ref t, .int (iI p1)] [(t, .inr (11, oX11 t_q)), ((t_q 1), .inr (7, oX7 t_1_q t_1_x0 t_1_x1 t_1_x2 t_1_x3 t_1_x4 t_1_x5 t_1_x6 t_1_x7 t_1_x8)), ((t_q 8), .inr (10, oX10 t_8_q t_8_x0 t_8_x1 t_8_x6)), ((t_8_q 2), .inl (K 0, 12, .inl (fun j => iI (t_8_2_c j)))), ((t_q 2), .inr (5, oX5 t_2_q t_2_x0)), ((t_2_q 1), .inl (K 0, 5, .inl (fun j => iI (t_2_1_c j)))), ((t_2_q 2), .inl (K 0, 150, .inl (fun j => iI (t_2_2_c j)))), ((t_8_q 4), .inl (K 0, 12, .inl (fun j => iI (t_8_4_c j)))), ((t_1_q 12), .inl (K 0, 24, .inl (fun j => iI (t_1_12_c j)))), ((t_2_q 3), .inl (K 0, 24, .inl (fun j => iI (t_2_3_c j)))), ((t_1_q 13), .inl (K 0, 24, .inl (fun j => iI (t_1_13_c j)))), ((t_8_q 3), .inl (K 0, 24, .inl (fun j => iI (t_8_3_c j))))] (fun r u => ∃ k : Int, r = iI k ∧ ((-2) ≤ k ∧ k ≤ 63) ∧ (0 ≤ (u.1 0) ∧ (u.1 0) ≤ 12 ∧ 0 ≤ (u.1 1) ∧ (u.1 1) ≤ 4095) ∧ (∀ j : Nat, (-1) ≤ (u.2 0) j ∧ (u.2 0) j ≤ 149) ∧ (∀ j : Nat, (-1) ≤ (u.2 1) j ∧ (u.2 1) j ≤ 11) ∧ (∀ j : Nat, 0 ≤ (u.2 2) j ∧ (u.2 2) j ≤ 4095) ∧ True) (fun u => [(t, .inr (11, oX11 t_q)), ((t_q 1), .inr (7, oX7 t_1_q t_1_x0 t_1_x1 t_1_x2 t_1_x3 t_1_x4 t_1_x5 t_1_x6 t_1_x7 t_1_x8)), ((t_q 8), .inr (10, oX10 t_8_q (u.1 0) (u.1 1) t_8_x6)), ((t_8_q 2), .inl (K 0, 12, .inl (fun j => iI ((u.2 0) j)))), ((t_q 2), .inr (5, oX5 t_2_q t_2_x0)), ((t_2_q 1), .inl (K 0, 5, .inl (fun j => iI (t_2_1_c j)))), ((t_2_q 2), .inl (K 0, 150, .inl (fun j => iI (t_2_2_c j)))), ((t_8_q 4), .inl (K 0, 12, .inl (fun j => iI ((u.2 2) j)))), ((t_1_q 12), .inl (K 0, 24, .inl (fun j => iI (t_1_12_c j)))), ((t_2_q 3), .inl (K 0, 24, .inl (fun j => iI (t_2_3_c j)))), ((t_1_q 13), .inl (K 0, 24, .inl (fun j => iI (t_1_13_c j)))), ((t_8_q 3), .inl (K 0, 24, .inl (fun j => iI ((u.2 1) j))))]) 0 0 := by
  refine g_inI (cc := cX11_shaken) (maxL := 2) (ret := (some .int)) (by decide) rfl (Nat.le_of_ble_eq_true rfl) ?_
  intro p e s m below meth c A ls ag Q B hA hP hD hS hl hQ
  obtain ⟨hx, hb, hr, hml, hts, hown, hlocks, hin, hK⟩ := B
  have hown : s.vm.findClass RX11 = some m.cls := hown
  have hts := fun w h => hts w (List.mem_cons_of_mem _ h)
  have hl : lv_has ls 2 [(0, .ref t), (1, .int (iI p1))] := hl
  refine lv_aload_n hx hb dX11_shaken_0 rfl (lv_at hl 0 rfl) ?_
  refine lv_iload_n hx hb dX11_shaken_1 rfl (lv_at hl 1 rfl) ?_
  refine fn_goi (wc := [(t, .inr (11, oX11 t_q)), ((t_q 1), .inr (7, oX7 t_1_q t_1_x0 t_1_x1 t_1_x2 t_1_x3 t_1_x4 t_1_x5 t_1_x6 t_1_x7 t_1_x8))]) (wr := [((t_q 8), .inr (10, oX10 t_8_q t_8_x0 t_8_x1 t_8_x6)), ((t_8_q 2), .inl (K 0, 12, .inl (fun j => iI (t_8_2_c j)))), ((t_q 2), .inr (5, oX5 t_2_q t_2_x0)), ((t_2_q 1), .inl (K 0, 5, .inl (fun j => iI (t_2_1_c j)))), ((t_2_q 2), .inl (K 0, 150, .inl (fun j => iI (t_2_2_c j)))), ((t_8_q 4), .inl (K 0, 12, .inl (fun j => iI (t_8_4_c j)))), ((t_1_q 12), .inl (K 0, 24, .inl (fun j => iI (t_1_12_c j)))), ((t_2_q 3), .inl (K 0, 24, .inl (fun j => iI (t_2_3_c j)))), ((t_1_q 13), .inl (K 0, 24, .inl (fun j => iI (t_1_13_c j)))), ((t_8_q 3), .inl (K 0, 24, .inl (fun j => iI (t_8_3_c j))))]) hK hP hD hS hA [0, 1] [2, 3, 4, 5, 6, 7, 8, 9, 10, 11] rfl rfl (by decide) (fun hp => va_runV (C := RX11) (As := [.int (iI p1)]) (rest := []) ⟨hx, hb, hml, hown, hts⟩ (k_X11_noSeed (l := l) (D := D) (K := K) (t := t) (p1 := p1) (t_q := t_q) (t_1_q := t_1_q) (t_1_x0 := t_1_x0) (t_1_x1 := t_1_x1) (t_1_x2 := t_1_x2) (t_1_x3 := t_1_x3) (t_1_x4 := t_1_x4) (t_1_x5 := t_1_x5) (t_1_x6 := t_1_x6) (t_1_x7 := t_1_x7) (t_1_x8 := t_1_x8) (hp1 := (by omega)) (hi_t_1 := hi_t_1) _) (cwV 1 hts (fn_ginV (fn_gin wd_1154) wd_1151 wd_1153 wp_86 wd_1) rfl rfl rfl (by decide +kernel) ⟨Nat.le_of_ble_eq_true rfl, Nat.le_of_ble_eq_true rfl⟩) ⟨fn_blind, va_recv hK.1 hP (ci := 11) (q0 := 0) rfl rfl, hp⟩ rfl rfl hl.1 rfl (lv_room (Nat.le_of_ble_eq_true rfl)) dX11_shaken_2 ⟨Nat.le_of_ble_eq_true rfl, Nat.le_of_ble_eq_true rfl⟩) (fun r2 u2 H locs hwu2 hP hD hS => ?_)
  obtain ⟨u2a, u2b⟩ := u2
  obtain ⟨kr2, rfl, hkr2, -⟩ := hwu2
  have hP : va_P D vwCl [((t_q 8), .inr (10, oX10 t_8_q t_8_x0 t_8_x1 t_8_x6)), ((t_8_q 2), .inl (K 0, 12, .inl (fun j => iI (t_8_2_c j)))), ((t_q 2), .inr (5, oX5 t_2_q t_2_x0)), ((t_2_q 1), .inl (K 0, 5, .inl (fun j => iI (t_2_1_c j)))), ((t_2_q 2), .inl (K 0, 150, .inl (fun j => iI (t_2_2_c j)))), ((t_8_q 4), .inl (K 0, 12, .inl (fun j => iI (t_8_4_c j)))), ((t_1_q 12), .inl (K 0, 24, .inl (fun j => iI (t_1_12_c j)))), ((t_2_q 3), .inl (K 0, 24, .inl (fun j => iI (t_2_3_c j)))), ((t_1_q 13), .inl (K 0, 24, .inl (fun j => iI (t_1_13_c j)))), ((t_8_q 3), .inl (K 0, 24, .inl (fun j => iI (t_8_3_c j)))), (t, .inr (11, oX11 t_q)), ((t_q 1), .inr (7, oX7 t_1_q t_1_x0 t_1_x1 t_1_x2 t_1_x3 t_1_x4 t_1_x5 t_1_x6 t_1_x7 t_1_x8))] H := hP
  have hD : va_D A [((t_q 8), .inr (10, oX10 t_8_q t_8_x0 t_8_x1 t_8_x6)), ((t_8_q 2), .inl (K 0, 12, .inl (fun j => iI (t_8_2_c j)))), ((t_q 2), .inr (5, oX5 t_2_q t_2_x0)), ((t_2_q 1), .inl (K 0, 5, .inl (fun j => iI (t_2_1_c j)))), ((t_2_q 2), .inl (K 0, 150, .inl (fun j => iI (t_2_2_c j)))), ((t_8_q 4), .inl (K 0, 12, .inl (fun j => iI (t_8_4_c j)))), ((t_1_q 12), .inl (K 0, 24, .inl (fun j => iI (t_1_12_c j)))), ((t_2_q 3), .inl (K 0, 24, .inl (fun j => iI (t_2_3_c j)))), ((t_1_q 13), .inl (K 0, 24, .inl (fun j => iI (t_1_13_c j)))), ((t_8_q 3), .inl (K 0, 24, .inl (fun j => iI (t_8_3_c j)))), (t, .inr (11, oX11 t_q)), ((t_q 1), .inr (7, oX7 t_1_q t_1_x0 t_1_x1 t_1_x2 t_1_x3 t_1_x4 t_1_x5 t_1_x6 t_1_x7 t_1_x8))] := hD
  refine g_if_eq (tgt := 13) hx hb (by omega) dX11_shaken_5 (by decide) (fun c5 => ?_) (fun c5 => ?_)
  · refine lv_aload_n hx hb dX11_shaken_13 rfl (lv_at hl 0 rfl) ?_
    refine lv_iload_n hx hb dX11_shaken_14 rfl (lv_at hl 1 rfl) ?_
    refine lv_i2l (v := lI p1) hx hb dX11_shaken_15 (iI_2l (by omega)) ?_
    refine fn_goi (wc := [(t, .inr (11, oX11 t_q)), ((t_q 1), .inr (7, oX7 t_1_q t_1_x0 t_1_x1 t_1_x2 t_1_x3 t_1_x4 t_1_x5 t_1_x6 t_1_x7 t_1_x8)), ((t_q 8), .inr (10, oX10 t_8_q t_8_x0 t_8_x1 t_8_x6)), ((t_8_q 2), .inl (K 0, 12, .inl (fun j => iI (t_8_2_c j)))), ((t_q 2), .inr (5, oX5 t_2_q t_2_x0)), ((t_2_q 1), .inl (K 0, 5, .inl (fun j => iI (t_2_1_c j)))), ((t_2_q 2), .inl (K 0, 150, .inl (fun j => iI (t_2_2_c j)))), ((t_8_q 4), .inl (K 0, 12, .inl (fun j => iI (t_8_4_c j)))), ((t_1_q 12), .inl (K 0, 24, .inl (fun j => iI (t_1_12_c j)))), ((t_2_q 3), .inl (K 0, 24, .inl (fun j => iI (t_2_3_c j)))), ((t_1_q 13), .inl (K 0, 24, .inl (fun j => iI (t_1_13_c j)))), ((t_8_q 3), .inl (K 0, 24, .inl (fun j => iI (t_8_3_c j))))]) (wr := []) hK hP hD hS hA [10, 11, 0, 1, 2, 3, 4, 5, 6, 7, 8, 9] [] rfl rfl (by decide) (fun hp => va_runV (C := RX11) (As := [.long (lI p1)]) (rest := []) ⟨hx, hb, hml, hown, hts⟩ (k_X11_groundedByDraw (l := l) (D := D) (K := K) (t := t) (p1 := p1) (t_q := t_q) (t_1_q := t_1_q) (t_1_x0 := t_1_x0) (t_1_x1 := t_1_x1) (t_1_x2 := t_1_x2) (t_1_x3 := t_1_x3) (t_1_x4 := t_1_x4) (t_1_x5 := t_1_x5) (t_1_x6 := t_1_x6) (t_1_x7 := t_1_x7) (t_1_x8 := t_1_x8) (t_8_q := t_8_q) (t_8_x0 := t_8_x0) (t_8_x1 := t_8_x1) (t_8_x6 := t_8_x6) (t_8_2_c := t_8_2_c) (t_2_q := t_2_q) (t_2_x0 := t_2_x0) (t_2_1_c := t_2_1_c) (t_2_2_c := t_2_2_c) (t_8_4_c := t_8_4_c) (t_1_12_c := t_1_12_c) (t_2_3_c := t_2_3_c) (t_1_13_c := t_1_13_c) (t_8_3_c := t_8_3_c) (hp1 := (by omega)) (hi_t_1 := hi_t_1) (hi_t_8 := hi_t_8) (hc_t_8_2 := hc_t_8_2) (hi_t_2 := hi_t_2) (hc_t_2_1 := hc_t_2_1) (hc_t_2_2 := hc_t_2_2) (hc_t_8_4 := hc_t_8_4) (hc_t_1_12 := hc_t_1_12) (hc_t_2_3 := hc_t_2_3) (hc_t_1_13 := hc_t_1_13) (hc_t_8_3 := hc_t_8_3) _) (cwV 1 hts (fn_ginV (fn_gin wd_1172) wd_1169 wd_1171 wp_88 wd_1) rfl rfl rfl (by decide +kernel) ⟨Nat.le_of_ble_eq_true rfl, Nat.le_of_ble_eq_true rfl⟩) ⟨fn_blind, va_recv hK.1 hP (ci := 11) (q0 := 10) rfl rfl, hp⟩ rfl rfl hl.1 rfl (lv_room (Nat.le_of_ble_eq_true rfl)) dX11_shaken_16 ⟨Nat.le_of_ble_eq_true rfl, Nat.le_of_ble_eq_true rfl⟩) (fun r16 u16 H locs hwu16 hP hD hS => ?_)
    obtain ⟨u16a, u16b⟩ := u16
    obtain ⟨kr16, rfl, hkr16, hqu160, hu16_00, hu16_10, hu16_20, -⟩ := hwu16
    have hqu16 : 0 ≤ (u16a 0) ∧ (u16a 0) ≤ 12 ∧ 0 ≤ (u16a 1) ∧ (u16a 1) ≤ 4095 := hqu160
    have hu16_0 : ∀ j : Nat, (-1) ≤ (u16b 0) j ∧ (u16b 0) j ≤ 149 := hu16_00
    have hu16_1 : ∀ j : Nat, (-1) ≤ (u16b 1) j ∧ (u16b 1) j ≤ 11 := hu16_10
    have hu16_2 : ∀ j : Nat, 0 ≤ (u16b 2) j ∧ (u16b 2) j ≤ 4095 := hu16_20
    clear hqu160 hu16_00 hu16_10 hu16_20
    have hP : va_P D vwCl [(t, .inr (11, oX11 t_q)), ((t_q 1), .inr (7, oX7 t_1_q t_1_x0 t_1_x1 t_1_x2 t_1_x3 t_1_x4 t_1_x5 t_1_x6 t_1_x7 t_1_x8)), ((t_q 8), .inr (10, oX10 t_8_q (u16a 0) (u16a 1) t_8_x6)), ((t_8_q 2), .inl (K 0, 12, .inl (fun j => iI ((u16b 0) j)))), ((t_q 2), .inr (5, oX5 t_2_q t_2_x0)), ((t_2_q 1), .inl (K 0, 5, .inl (fun j => iI (t_2_1_c j)))), ((t_2_q 2), .inl (K 0, 150, .inl (fun j => iI (t_2_2_c j)))), ((t_8_q 4), .inl (K 0, 12, .inl (fun j => iI ((u16b 2) j)))), ((t_1_q 12), .inl (K 0, 24, .inl (fun j => iI (t_1_12_c j)))), ((t_2_q 3), .inl (K 0, 24, .inl (fun j => iI (t_2_3_c j)))), ((t_1_q 13), .inl (K 0, 24, .inl (fun j => iI (t_1_13_c j)))), ((t_8_q 3), .inl (K 0, 24, .inl (fun j => iI ((u16b 1) j))))] H := hP
    have hD : va_D A [(t, .inr (11, oX11 t_q)), ((t_q 1), .inr (7, oX7 t_1_q t_1_x0 t_1_x1 t_1_x2 t_1_x3 t_1_x4 t_1_x5 t_1_x6 t_1_x7 t_1_x8)), ((t_q 8), .inr (10, oX10 t_8_q (u16a 0) (u16a 1) t_8_x6)), ((t_8_q 2), .inl (K 0, 12, .inl (fun j => iI ((u16b 0) j)))), ((t_q 2), .inr (5, oX5 t_2_q t_2_x0)), ((t_2_q 1), .inl (K 0, 5, .inl (fun j => iI (t_2_1_c j)))), ((t_2_q 2), .inl (K 0, 150, .inl (fun j => iI (t_2_2_c j)))), ((t_8_q 4), .inl (K 0, 12, .inl (fun j => iI ((u16b 2) j)))), ((t_1_q 12), .inl (K 0, 24, .inl (fun j => iI (t_1_12_c j)))), ((t_2_q 3), .inl (K 0, 24, .inl (fun j => iI (t_2_3_c j)))), ((t_1_q 13), .inl (K 0, 24, .inl (fun j => iI (t_1_13_c j)))), ((t_8_q 3), .inl (K 0, 24, .inl (fun j => iI ((u16b 1) j))))] := hD
    refine fn_goi (wc := []) (wr := [(t, .inr (11, oX11 t_q)), ((t_q 1), .inr (7, oX7 t_1_q t_1_x0 t_1_x1 t_1_x2 t_1_x3 t_1_x4 t_1_x5 t_1_x6 t_1_x7 t_1_x8)), ((t_q 8), .inr (10, oX10 t_8_q (u16a 0) (u16a 1) t_8_x6)), ((t_8_q 2), .inl (K 0, 12, .inl (fun j => iI ((u16b 0) j)))), ((t_q 2), .inr (5, oX5 t_2_q t_2_x0)), ((t_2_q 1), .inl (K 0, 5, .inl (fun j => iI (t_2_1_c j)))), ((t_2_q 2), .inl (K 0, 150, .inl (fun j => iI (t_2_2_c j)))), ((t_8_q 4), .inl (K 0, 12, .inl (fun j => iI ((u16b 2) j)))), ((t_1_q 12), .inl (K 0, 24, .inl (fun j => iI (t_1_12_c j)))), ((t_2_q 3), .inl (K 0, 24, .inl (fun j => iI (t_2_3_c j)))), ((t_1_q 13), .inl (K 0, 24, .inl (fun j => iI (t_1_13_c j)))), ((t_8_q 3), .inl (K 0, 24, .inl (fun j => iI ((u16b 1) j))))]) hK hP hD hS hA [] [0, 1, 2, 3, 4, 5, 6, 7, 8, 9, 10, 11] rfl rfl (by decide) (fun hp => va_runS (As := [.int (iI kr16)]) (rest := []) ⟨hx, hb, hml, hown, hts⟩ (k_J6_bitCount_0f7a4 (l := l) (D := D) (K := K) (p1 := kr16) (hp1 := (by omega)) _) (va_cwS 1 hts (fn_ginS (fn_gin wd_841) wd_862 wd_840 wd_21) rfl rfl rfl (by decide +kernel) ⟨Nat.le_of_ble_eq_true rfl, Nat.le_of_ble_eq_true rfl⟩) ⟨fn_blind, hp⟩ rfl rfl hl.1 rfl (lv_room (Nat.le_of_ble_eq_true rfl)) dX11_shaken_19 ⟨Nat.le_of_ble_eq_true rfl, Nat.le_of_ble_eq_true rfl⟩) (fun r19 u19 H locs hwu19 hP hD hS => ?_)
    obtain ⟨u19a, u19b⟩ := u19
    obtain ⟨kr19, rfl, hkr19, -⟩ := hwu19
    have hP : va_P D vwCl [(t, .inr (11, oX11 t_q)), ((t_q 1), .inr (7, oX7 t_1_q t_1_x0 t_1_x1 t_1_x2 t_1_x3 t_1_x4 t_1_x5 t_1_x6 t_1_x7 t_1_x8)), ((t_q 8), .inr (10, oX10 t_8_q (u16a 0) (u16a 1) t_8_x6)), ((t_8_q 2), .inl (K 0, 12, .inl (fun j => iI ((u16b 0) j)))), ((t_q 2), .inr (5, oX5 t_2_q t_2_x0)), ((t_2_q 1), .inl (K 0, 5, .inl (fun j => iI (t_2_1_c j)))), ((t_2_q 2), .inl (K 0, 150, .inl (fun j => iI (t_2_2_c j)))), ((t_8_q 4), .inl (K 0, 12, .inl (fun j => iI ((u16b 2) j)))), ((t_1_q 12), .inl (K 0, 24, .inl (fun j => iI (t_1_12_c j)))), ((t_2_q 3), .inl (K 0, 24, .inl (fun j => iI (t_2_3_c j)))), ((t_1_q 13), .inl (K 0, 24, .inl (fun j => iI (t_1_13_c j)))), ((t_8_q 3), .inl (K 0, 24, .inl (fun j => iI ((u16b 1) j))))] H := hP
    have hD : va_D A [(t, .inr (11, oX11 t_q)), ((t_q 1), .inr (7, oX7 t_1_q t_1_x0 t_1_x1 t_1_x2 t_1_x3 t_1_x4 t_1_x5 t_1_x6 t_1_x7 t_1_x8)), ((t_q 8), .inr (10, oX10 t_8_q (u16a 0) (u16a 1) t_8_x6)), ((t_8_q 2), .inl (K 0, 12, .inl (fun j => iI ((u16b 0) j)))), ((t_q 2), .inr (5, oX5 t_2_q t_2_x0)), ((t_2_q 1), .inl (K 0, 5, .inl (fun j => iI (t_2_1_c j)))), ((t_2_q 2), .inl (K 0, 150, .inl (fun j => iI (t_2_2_c j)))), ((t_8_q 4), .inl (K 0, 12, .inl (fun j => iI ((u16b 2) j)))), ((t_1_q 12), .inl (K 0, 24, .inl (fun j => iI (t_1_12_c j)))), ((t_2_q 3), .inl (K 0, 24, .inl (fun j => iI (t_2_3_c j)))), ((t_1_q 13), .inl (K 0, 24, .inl (fun j => iI (t_1_13_c j)))), ((t_8_q 3), .inl (K 0, 24, .inl (fun j => iI ((u16b 1) j))))] := hD
    rw [hQ]; exact fn_iret hx hb hr hlocks rfl hP hD hS ((fun k => ([(u16a 0), (u16a 1)] : List Int).getD k 0), (fun k => ([(u16b 0), (u16b 1), (u16b 2)] : List (Nat → Int)).getD k (fun _ => 0))) ⟨kr19, rfl, by omega, (by show 0 ≤ (u16a 0) ∧ (u16a 0) ≤ 12 ∧ 0 ≤ (u16a 1) ∧ (u16a 1) ≤ 4095; omega), (hu16_0), (hu16_1), (hu16_2), trivial⟩ [0, 1, 2, 3, 4, 5, 6, 7, 8, 9, 10, 11] (by decide) rfl dX11_shaken_22
  · refine lv_bipush (v := iI (-2)) hx hb dX11_shaken_8 (by decide) ?_
    refine lv_goto (tgt := 22) hx hb dX11_shaken_10 (by decide) ?_
    have y22_1 : 0 ≤ t_8_x0 ∧ t_8_x0 ≤ 12 := hi_t_8.1
    have y22_2 : 0 ≤ t_8_x1 ∧ t_8_x1 ≤ 4095 := hi_t_8.2.1
    rw [hQ]; exact fn_iret hx hb hr hlocks rfl hP hD hS ((fun k => ([t_8_x0, t_8_x1] : List Int).getD k 0), (fun k => ([t_8_2_c, t_8_3_c, t_8_4_c] : List (Nat → Int)).getD k (fun _ => 0))) ⟨(-2), rfl, by omega, (by show 0 ≤ t_8_x0 ∧ t_8_x0 ≤ 12 ∧ 0 ≤ t_8_x1 ∧ t_8_x1 ≤ 4095; omega), (hc_t_8_2), (hc_t_8_3), (hc_t_8_4), trivial⟩ [10, 11, 0, 1, 2, 3, 4, 5, 6, 7, 8, 9] (by decide) rfl dX11_shaken_22
theorem dX11_years_39 : decode cX11_years 39 = .ok (.iload 5, 2) := by decide +kernel
theorem dX11_years_41 : decode cX11_years 41 = .ok (.iload_n 2, 1) := by decide +kernel
theorem dX11_years_42 : decode cX11_years 42 = .ok (.if_icmp .ge 28, 3) := by decide +kernel
theorem dX11_years_70 : decode cX11_years 70 = .ok (.iload 4, 2) := by decide +kernel
theorem dX11_years_72 : decode cX11_years 72 = .ok (.ireturn, 1) := by decide +kernel
theorem dX11_years_45 : decode cX11_years 45 = .ok (.iload 4, 2) := by decide +kernel
theorem dX11_years_47 : decode cX11_years 47 = .ok (.aload_n 0, 1) := by decide +kernel
theorem dX11_years_48 : decode cX11_years 48 = .ok (.iload_n 1, 1) := by decide +kernel
theorem dX11_years_49 : decode cX11_years 49 = .ok (.i2l, 1) := by decide +kernel
theorem dX11_years_50 : decode cX11_years 50 = .ok (.iload 5, 2) := by decide +kernel
theorem dX11_years_52 : decode cX11_years 52 = .ok (.i2l, 1) := by decide +kernel
theorem dX11_years_53 : decode cX11_years 53 = .ok (.ladd, 1) := by decide +kernel
theorem dX11_years_54 : decode cX11_years 54 = .ok (.invokevirtual 437, 3) := by decide +kernel
theorem dX11_years_57 : decode cX11_years 57 = .ok (.iload_n 3, 1) := by decide +kernel
theorem dX11_years_58 : decode cX11_years 58 = .ok (.ishr, 1) := by decide +kernel
theorem dX11_years_59 : decode cX11_years 59 = .ok (.iconst 1, 1) := by decide +kernel
theorem dX11_years_60 : decode cX11_years 60 = .ok (.iand, 1) := by decide +kernel
theorem dX11_years_61 : decode cX11_years 61 = .ok (.iadd, 1) := by decide +kernel
theorem dX11_years_62 : decode cX11_years 62 = .ok (.istore 4, 2) := by decide +kernel
theorem dX11_years_64 : decode cX11_years 64 = .ok (.iinc 5 1, 3) := by decide +kernel
theorem dX11_years_67 : decode cX11_years 67 = .ok (.goto (-28), 3) := by decide +kernel
theorem dX11_years_0 : decode cX11_years 0 = .ok (.aload_n 0, 1) := by decide +kernel
theorem dX11_years_1 : decode cX11_years 1 = .ok (.iload_n 1, 1) := by decide +kernel
theorem dX11_years_2 : decode cX11_years 2 = .ok (.invokevirtual 417, 3) := by decide +kernel
theorem dX11_years_5 : decode cX11_years 5 = .ok (.ifCond .ne 25, 3) := by decide +kernel
theorem dX11_years_30 : decode cX11_years 30 = .ok (.bipush (-2), 2) := by decide +kernel
theorem dX11_years_32 : decode cX11_years 32 = .ok (.ireturn, 1) := by decide +kernel
theorem dX11_years_8 : decode cX11_years 8 = .ok (.iload_n 2, 1) := by decide +kernel
theorem dX11_years_9 : decode cX11_years 9 = .ok (.iconst 1, 1) := by decide +kernel
theorem dX11_years_10 : decode cX11_years 10 = .ok (.if_icmp .lt 20, 3) := by decide +kernel
theorem dX11_years_13 : decode cX11_years 13 = .ok (.iload_n 2, 1) := by decide +kernel
theorem dX11_years_14 : decode cX11_years 14 = .ok (.bipush 20, 2) := by decide +kernel
theorem dX11_years_16 : decode cX11_years 16 = .ok (.if_icmp .gt 14, 3) := by decide +kernel
theorem dX11_years_19 : decode cX11_years 19 = .ok (.aload_n 0, 1) := by decide +kernel
theorem dX11_years_20 : decode cX11_years 20 = .ok (.getfield 19, 3) := by decide +kernel
theorem dX11_years_23 : decode cX11_years 23 = .ok (.iload_n 3, 1) := by decide +kernel
theorem dX11_years_24 : decode cX11_years 24 = .ok (.invokevirtual 130, 3) := by decide +kernel
theorem dX11_years_27 : decode cX11_years 27 = .ok (.ifCond .ne 6, 3) := by decide +kernel
theorem dX11_years_33 : decode cX11_years 33 = .ok (.iconst 0, 1) := by decide +kernel
theorem dX11_years_34 : decode cX11_years 34 = .ok (.istore 4, 2) := by decide +kernel
theorem dX11_years_36 : decode cX11_years 36 = .ok (.iconst 0, 1) := by decide +kernel
theorem dX11_years_37 : decode cX11_years 37 = .ok (.istore 5, 2) := by decide +kernel
set_option maxHeartbeats 4000000 in
set_option maxRecDepth 100000 in
theorem k_X11_years (l : Launch) (D : va_G) (K : Nat → ClassId) (t : Nat) (t_q t_1_q t_8_q t_2_q : Nat → Nat) (p1 p2 p3 t_1_x0 t_1_x1 t_1_x2 t_1_x3 t_1_x4 t_1_x5 t_1_x6 t_1_x7 t_1_x8 t_8_x0 t_8_x1 t_8_x6 t_2_x0 : Int) (t_8_2_c : Nat → Int) (t_2_1_c : Nat → Int) (t_2_2_c : Nat → Int) (t_8_4_c : Nat → Int) (t_1_12_c : Nat → Int) (t_2_3_c : Nat → Int) (t_1_13_c : Nat → Int) (t_8_3_c : Nat → Int) (hp1 : (-2147483648) ≤ p1 ∧ p1 ≤ 2147483647) (hp2 : (-2147483648) ≤ p2 ∧ p2 ≤ 2147483647) (hp3 : (-2147483648) ≤ p3 ∧ p3 ≤ 2147483647) (hi_t_1 : bX7 t_1_x0 t_1_x1 t_1_x2 t_1_x3 t_1_x4 t_1_x5 t_1_x6 t_1_x7 t_1_x8) (hi_t_8 : bX10 t_8_x0 t_8_x1 t_8_x6) (hc_t_8_2 : ∀ j : Nat, (-1) ≤ t_8_2_c j ∧ t_8_2_c j ≤ 149) (hi_t_2 : bX5 t_2_x0) (hc_t_2_1 : ∀ j : Nat, (-1000) ≤ t_2_1_c j ∧ t_2_1_c j ≤ 30) (hc_t_2_2 : ∀ j : Nat, (-4) ≤ t_2_2_c j ∧ t_2_2_c j ≤ 11) (hc_t_8_4 : ∀ j : Nat, 0 ≤ t_8_4_c j ∧ t_8_4_c j ≤ 4095) (hc_t_1_12 : ∀ j : Nat, 0 ≤ t_1_12_c j ∧ t_1_12_c j ≤ 11) (hc_t_2_3 : ∀ j : Nat, 0 ≤ t_2_3_c j ∧ t_2_3_c j ≤ 29) (hc_t_1_13 : ∀ j : Nat, 0 ≤ t_1_13_c j ∧ t_1_13_c j ≤ 4) (hc_t_8_3 : ∀ j : Nat, (-1) ≤ t_8_3_c j ∧ t_8_3_c j ≤ 11) : fn_CI (S := (Nat → Int) × (Nat → Nat → Int)) l D K yX11_years (fn_ws yX11_years cX11_years 6 (some .int)) ({ frames := 20, cells := 0, slots := 0, locals := 500 } : Room) [.ref t, .int (iI p1), .int (iI p2), .int (iI p3)] [(t, .inr (11, oX11 t_q)), ((t_q 1), .inr (7, oX7 t_1_q t_1_x0 t_1_x1 t_1_x2 t_1_x3 t_1_x4 t_1_x5 t_1_x6 t_1_x7 t_1_x8)), ((t_q 8), .inr (10, oX10 t_8_q t_8_x0 t_8_x1 t_8_x6)), ((t_8_q 2), .inl (K 0, 12, .inl (fun j => iI (t_8_2_c j)))), ((t_q 2), .inr (5, oX5 t_2_q t_2_x0)), ((t_2_q 1), .inl (K 0, 5, .inl (fun j => iI (t_2_1_c j)))), ((t_2_q 2), .inl (K 0, 150, .inl (fun j => iI (t_2_2_c j)))), ((t_8_q 4), .inl (K 0, 12, .inl (fun j => iI (t_8_4_c j)))), ((t_1_q 12), .inl (K 0, 24, .inl (fun j => iI (t_1_12_c j)))), ((t_2_q 3), .inl (K 0, 24, .inl (fun j => iI (t_2_3_c j)))), ((t_1_q 13), .inl (K 0, 24, .inl (fun j => iI (t_1_13_c j)))), ((t_8_q 3), .inl (K 0, 24, .inl (fun j => iI (t_8_3_c j))))] (fun r u => ∃ k : Int, r = iI k ∧ ((-2147483648) ≤ k ∧ k ≤ 2147483647) ∧ (0 ≤ (u.1 0) ∧ (u.1 0) ≤ 12 ∧ 0 ≤ (u.1 1) ∧ (u.1 1) ≤ 4095) ∧ (∀ j : Nat, (-1) ≤ (u.2 0) j ∧ (u.2 0) j ≤ 149) ∧ (∀ j : Nat, (-1) ≤ (u.2 1) j ∧ (u.2 1) j ≤ 11) ∧ (∀ j : Nat, 0 ≤ (u.2 2) j ∧ (u.2 2) j ≤ 4095) ∧ True) (fun u => [(t, .inr (11, oX11 t_q)), ((t_q 1), .inr (7, oX7 t_1_q t_1_x0 t_1_x1 t_1_x2 t_1_x3 t_1_x4 t_1_x5 t_1_x6 t_1_x7 t_1_x8)), ((t_q 8), .inr (10, oX10 t_8_q (u.1 0) (u.1 1) t_8_x6)), ((t_8_q 2), .inl (K 0, 12, .inl (fun j => iI ((u.2 0) j)))), ((t_q 2), .inr (5, oX5 t_2_q t_2_x0)), ((t_2_q 1), .inl (K 0, 5, .inl (fun j => iI (t_2_1_c j)))), ((t_2_q 2), .inl (K 0, 150, .inl (fun j => iI (t_2_2_c j)))), ((t_8_q 4), .inl (K 0, 12, .inl (fun j => iI ((u.2 2) j)))), ((t_1_q 12), .inl (K 0, 24, .inl (fun j => iI (t_1_12_c j)))), ((t_2_q 3), .inl (K 0, 24, .inl (fun j => iI (t_2_3_c j)))), ((t_1_q 13), .inl (K 0, 24, .inl (fun j => iI (t_1_13_c j)))), ((t_8_q 3), .inl (K 0, 24, .inl (fun j => iI ((u.2 1) j))))]) 0 0 := by
  refine g_inI (cc := cX11_years) (maxL := 6) (ret := (some .int)) (by decide) rfl (Nat.le_of_ble_eq_true rfl) ?_
  intro p e s m below meth c A ls ag Q B hA hP hD hS hl hQ
  obtain ⟨hx, hb, hr, hml, hts, hown, hlocks, hin, hK⟩ := B
  have hown : s.vm.findClass RX11 = some m.cls := hown
  have hts := fun w h => hts w (List.mem_cons_of_mem _ h)
  have J39 : ∀ (n : Nat) (x39_4 : Int) (x39_5 : Int) (f39_t_8_0 : Int) (f39_t_8_1 : Int) (c39_t_8_2 : Nat → Int) (c39_t_8_4 : Nat → Int) (c39_t_8_3 : Nat → Int) (H : Heap) (locs : List Loc) (ls : Array Slot), (20 - x39_5).toNat < n → (1 ≤ p2 ∧ p2 ≤ 20 ∧ 0 ≤ p3 ∧ p3 ≤ 11 ∧ (-2147483648) ≤ x39_4 ∧ x39_4 ≤ 2147483647 ∧ 0 ≤ x39_5 ∧ x39_5 ≤ 20 ∧ 0 ≤ f39_t_8_0 ∧ f39_t_8_0 ≤ 12 ∧ 0 ≤ f39_t_8_1 ∧ f39_t_8_1 ≤ 4095) → (∀ j : Nat, (-1) ≤ c39_t_8_2 j ∧ c39_t_8_2 j ≤ 149) → (∀ j : Nat, 0 ≤ c39_t_8_4 j ∧ c39_t_8_4 j ≤ 4095) → (∀ j : Nat, (-1) ≤ c39_t_8_3 j ∧ c39_t_8_3 j ≤ 11) → va_P D vwCl [(t, .inr (11, oX11 t_q)), ((t_q 1), .inr (7, oX7 t_1_q t_1_x0 t_1_x1 t_1_x2 t_1_x3 t_1_x4 t_1_x5 t_1_x6 t_1_x7 t_1_x8)), ((t_q 8), .inr (10, oX10 t_8_q f39_t_8_0 f39_t_8_1 t_8_x6)), ((t_8_q 2), .inl (K 0, 12, .inl (fun j => iI (c39_t_8_2 j)))), ((t_q 2), .inr (5, oX5 t_2_q t_2_x0)), ((t_2_q 1), .inl (K 0, 5, .inl (fun j => iI (t_2_1_c j)))), ((t_2_q 2), .inl (K 0, 150, .inl (fun j => iI (t_2_2_c j)))), ((t_8_q 4), .inl (K 0, 12, .inl (fun j => iI (c39_t_8_4 j)))), ((t_1_q 12), .inl (K 0, 24, .inl (fun j => iI (t_1_12_c j)))), ((t_2_q 3), .inl (K 0, 24, .inl (fun j => iI (t_2_3_c j)))), ((t_1_q 13), .inl (K 0, 24, .inl (fun j => iI (t_1_13_c j)))), ((t_8_q 3), .inl (K 0, 24, .inl (fun j => iI (c39_t_8_3 j))))] H → va_D A [(t, .inr (11, oX11 t_q)), ((t_q 1), .inr (7, oX7 t_1_q t_1_x0 t_1_x1 t_1_x2 t_1_x3 t_1_x4 t_1_x5 t_1_x6 t_1_x7 t_1_x8)), ((t_q 8), .inr (10, oX10 t_8_q f39_t_8_0 f39_t_8_1 t_8_x6)), ((t_8_q 2), .inl (K 0, 12, .inl (fun j => iI (c39_t_8_2 j)))), ((t_q 2), .inr (5, oX5 t_2_q t_2_x0)), ((t_2_q 1), .inl (K 0, 5, .inl (fun j => iI (t_2_1_c j)))), ((t_2_q 2), .inl (K 0, 150, .inl (fun j => iI (t_2_2_c j)))), ((t_8_q 4), .inl (K 0, 12, .inl (fun j => iI (c39_t_8_4 j)))), ((t_1_q 12), .inl (K 0, 24, .inl (fun j => iI (t_1_12_c j)))), ((t_2_q 3), .inl (K 0, 24, .inl (fun j => iI (t_2_3_c j)))), ((t_1_q 13), .inl (K 0, 24, .inl (fun j => iI (t_1_13_c j)))), ((t_8_q 3), .inl (K 0, 24, .inl (fun j => iI (c39_t_8_3 j))))] → va_S A s.heap H locs → lv_has ls 6 [(0, .ref t), (1, .int (iI p1)), (2, .int (iI p2)), (3, .int (iI p3)), (4, .int (iI x39_4)), (5, .int (iI x39_5))] → W p l e ({ frames := 20, cells := 0, slots := 0, locals := 500 } : Room) s m ag below meth c H locs 0 0 Q (F0 m 39 ls []) := by
    intro n
    induction n with
    | zero =>
      intro x39_4 x39_5 f39_t_8_0 f39_t_8_1 c39_t_8_2 c39_t_8_4 c39_t_8_3 H locs ls hm39 hf39 hc39_t_8_2 hc39_t_8_4 hc39_t_8_3 hP hD hS hl
      exact absurd hm39 (Nat.not_lt_zero _)
    | succ n ih39 =>
      intro x39_4 x39_5 f39_t_8_0 f39_t_8_1 c39_t_8_2 c39_t_8_4 c39_t_8_3 H locs ls hm39 hf39 hc39_t_8_2 hc39_t_8_4 hc39_t_8_3 hP hD hS hl
      refine lv_iload hx hb dX11_years_39 (lv_at hl 5 rfl) ?_
      refine lv_iload_n hx hb dX11_years_41 rfl (lv_at hl 2 rfl) ?_
      refine g_icmp_ge (tgt := 70) hx hb (by omega) (by omega) dX11_years_42 (by decide) (fun c42 => ?_) (fun c42 => ?_)
      · refine lv_iload hx hb dX11_years_70 (lv_at hl 4 rfl) ?_
        rw [hQ]; exact fn_iret hx hb hr hlocks rfl hP hD hS ((fun k => ([f39_t_8_0, f39_t_8_1] : List Int).getD k 0), (fun k => ([c39_t_8_2, c39_t_8_3, c39_t_8_4] : List (Nat → Int)).getD k (fun _ => 0))) ⟨x39_4, rfl, by omega, (by show 0 ≤ f39_t_8_0 ∧ f39_t_8_0 ≤ 12 ∧ 0 ≤ f39_t_8_1 ∧ f39_t_8_1 ≤ 4095; omega), (hc39_t_8_2), (hc39_t_8_3), (hc39_t_8_4), trivial⟩ [0, 1, 2, 3, 4, 5, 6, 7, 8, 9, 10, 11] (by decide) rfl dX11_years_72
      · refine lv_iload hx hb dX11_years_45 (lv_at hl 4 rfl) ?_
        refine lv_aload_n hx hb dX11_years_47 rfl (lv_at hl 0 rfl) ?_
        refine lv_iload_n hx hb dX11_years_48 rfl (lv_at hl 1 rfl) ?_
        refine lv_i2l (v := lI p1) hx hb dX11_years_49 (iI_2l (by omega)) ?_
        refine lv_iload hx hb dX11_years_50 (lv_at hl 5 rfl) ?_
        refine lv_i2l (v := lI x39_5) hx hb dX11_years_52 (iI_2l (by omega)) ?_
        refine g_ladd hx hb dX11_years_53 ?_
        refine fn_goi (wc := [(t, .inr (11, oX11 t_q)), ((t_q 1), .inr (7, oX7 t_1_q t_1_x0 t_1_x1 t_1_x2 t_1_x3 t_1_x4 t_1_x5 t_1_x6 t_1_x7 t_1_x8)), ((t_q 8), .inr (10, oX10 t_8_q f39_t_8_0 f39_t_8_1 t_8_x6)), ((t_8_q 2), .inl (K 0, 12, .inl (fun j => iI (c39_t_8_2 j)))), ((t_q 2), .inr (5, oX5 t_2_q t_2_x0)), ((t_2_q 1), .inl (K 0, 5, .inl (fun j => iI (t_2_1_c j)))), ((t_2_q 2), .inl (K 0, 150, .inl (fun j => iI (t_2_2_c j)))), ((t_8_q 4), .inl (K 0, 12, .inl (fun j => iI (c39_t_8_4 j)))), ((t_1_q 12), .inl (K 0, 24, .inl (fun j => iI (t_1_12_c j)))), ((t_2_q 3), .inl (K 0, 24, .inl (fun j => iI (t_2_3_c j)))), ((t_1_q 13), .inl (K 0, 24, .inl (fun j => iI (t_1_13_c j)))), ((t_8_q 3), .inl (K 0, 24, .inl (fun j => iI (c39_t_8_3 j))))]) (wr := []) hK hP hD hS hA [0, 1, 2, 3, 4, 5, 6, 7, 8, 9, 10, 11] [] rfl rfl (by decide) (fun hp => va_runV (C := RX11) (As := [.long (lI (p1 + x39_5))]) (rest := [.int (iI x39_4)]) ⟨hx, hb, hml, hown, hts⟩ (k_X11_groundedByDraw (l := l) (D := D) (K := K) (t := t) (p1 := (p1 + x39_5)) (t_q := t_q) (t_1_q := t_1_q) (t_1_x0 := t_1_x0) (t_1_x1 := t_1_x1) (t_1_x2 := t_1_x2) (t_1_x3 := t_1_x3) (t_1_x4 := t_1_x4) (t_1_x5 := t_1_x5) (t_1_x6 := t_1_x6) (t_1_x7 := t_1_x7) (t_1_x8 := t_1_x8) (t_8_q := t_8_q) (t_8_x0 := f39_t_8_0) (t_8_x1 := f39_t_8_1) (t_8_x6 := t_8_x6) (t_8_2_c := c39_t_8_2) (t_2_q := t_2_q) (t_2_x0 := t_2_x0) (t_2_1_c := t_2_1_c) (t_2_2_c := t_2_2_c) (t_8_4_c := c39_t_8_4) (t_1_12_c := t_1_12_c) (t_2_3_c := t_2_3_c) (t_1_13_c := t_1_13_c) (t_8_3_c := c39_t_8_3) (hp1 := (by omega)) (hi_t_1 := hi_t_1) (hi_t_8 := ⟨(by omega), (by omega), hi_t_8.2.2⟩) (hc_t_8_2 := hc39_t_8_2) (hi_t_2 := hi_t_2) (hc_t_2_1 := hc_t_2_1) (hc_t_2_2 := hc_t_2_2) (hc_t_8_4 := hc39_t_8_4) (hc_t_1_12 := hc_t_1_12) (hc_t_2_3 := hc_t_2_3) (hc_t_1_13 := hc_t_1_13) (hc_t_8_3 := hc39_t_8_3) _) (cwV 1 hts (fn_ginV (fn_gin wd_1172) wd_1169 wd_1171 wp_88 wd_1) rfl rfl rfl (by decide +kernel) ⟨Nat.le_of_ble_eq_true rfl, Nat.le_of_ble_eq_true rfl⟩) ⟨fn_blind, va_recv hK.1 hP (ci := 11) (q0 := 0) rfl rfl, hp⟩ rfl rfl hl.1 rfl (lv_room (Nat.le_of_ble_eq_true rfl)) dX11_years_54 ⟨Nat.le_of_ble_eq_true rfl, Nat.le_of_ble_eq_true rfl⟩) (fun r54 u54 H locs hwu54 hP hD hS => ?_)
        obtain ⟨u54a, u54b⟩ := u54
        obtain ⟨kr54, rfl, hkr54, hqu540, hu54_00, hu54_10, hu54_20, -⟩ := hwu54
        have hqu54 : 0 ≤ (u54a 0) ∧ (u54a 0) ≤ 12 ∧ 0 ≤ (u54a 1) ∧ (u54a 1) ≤ 4095 := hqu540
        have hu54_0 : ∀ j : Nat, (-1) ≤ (u54b 0) j ∧ (u54b 0) j ≤ 149 := hu54_00
        have hu54_1 : ∀ j : Nat, (-1) ≤ (u54b 1) j ∧ (u54b 1) j ≤ 11 := hu54_10
        have hu54_2 : ∀ j : Nat, 0 ≤ (u54b 2) j ∧ (u54b 2) j ≤ 4095 := hu54_20
        clear hqu540 hu54_00 hu54_10 hu54_20
        have hP : va_P D vwCl [(t, .inr (11, oX11 t_q)), ((t_q 1), .inr (7, oX7 t_1_q t_1_x0 t_1_x1 t_1_x2 t_1_x3 t_1_x4 t_1_x5 t_1_x6 t_1_x7 t_1_x8)), ((t_q 8), .inr (10, oX10 t_8_q (u54a 0) (u54a 1) t_8_x6)), ((t_8_q 2), .inl (K 0, 12, .inl (fun j => iI ((u54b 0) j)))), ((t_q 2), .inr (5, oX5 t_2_q t_2_x0)), ((t_2_q 1), .inl (K 0, 5, .inl (fun j => iI (t_2_1_c j)))), ((t_2_q 2), .inl (K 0, 150, .inl (fun j => iI (t_2_2_c j)))), ((t_8_q 4), .inl (K 0, 12, .inl (fun j => iI ((u54b 2) j)))), ((t_1_q 12), .inl (K 0, 24, .inl (fun j => iI (t_1_12_c j)))), ((t_2_q 3), .inl (K 0, 24, .inl (fun j => iI (t_2_3_c j)))), ((t_1_q 13), .inl (K 0, 24, .inl (fun j => iI (t_1_13_c j)))), ((t_8_q 3), .inl (K 0, 24, .inl (fun j => iI ((u54b 1) j))))] H := hP
        have hD : va_D A [(t, .inr (11, oX11 t_q)), ((t_q 1), .inr (7, oX7 t_1_q t_1_x0 t_1_x1 t_1_x2 t_1_x3 t_1_x4 t_1_x5 t_1_x6 t_1_x7 t_1_x8)), ((t_q 8), .inr (10, oX10 t_8_q (u54a 0) (u54a 1) t_8_x6)), ((t_8_q 2), .inl (K 0, 12, .inl (fun j => iI ((u54b 0) j)))), ((t_q 2), .inr (5, oX5 t_2_q t_2_x0)), ((t_2_q 1), .inl (K 0, 5, .inl (fun j => iI (t_2_1_c j)))), ((t_2_q 2), .inl (K 0, 150, .inl (fun j => iI (t_2_2_c j)))), ((t_8_q 4), .inl (K 0, 12, .inl (fun j => iI ((u54b 2) j)))), ((t_1_q 12), .inl (K 0, 24, .inl (fun j => iI (t_1_12_c j)))), ((t_2_q 3), .inl (K 0, 24, .inl (fun j => iI (t_2_3_c j)))), ((t_1_q 13), .inl (K 0, 24, .inl (fun j => iI (t_1_13_c j)))), ((t_8_q 3), .inl (K 0, 24, .inl (fun j => iI ((u54b 1) j))))] := hD
        refine lv_iload_n hx hb dX11_years_57 rfl (lv_at hl 3 rfl) ?_
        refine lv_ishr hx hb dX11_years_58 ?_
        obtain ⟨w58, ew58, hw58⟩ := iI_shr kr54 p3 (by omega) (by omega)
        refine fn_top (iI w58) ew58 ?_
        refine lv_iconst (v := iI 1) hx hb dX11_years_59 rfl ?_
        refine lv_iand hx hb dX11_years_60 ?_
        obtain ⟨w60, ew60, hw60⟩ := iI_and1 w58 (by omega)
        refine fn_top (iI w60) ew60 ?_
        refine g_iadd hx hb dX11_years_61 ?_
        refine g_any (fun w61 hw61 ew61 => ?_)
        refine lv_istore (lv' := [(4, .int (iI w61)), (0, .ref t), (1, .int (iI p1)), (2, .int (iI p2)), (3, .int (iI p3)), (5, .int (iI x39_5))]) hx hb dX11_years_62 hl (by decide) rfl (fun ls hl => ?_)
        refine lv_iinc (v := iI (x39_5 + 1)) (lv' := [(5, .int (iI (x39_5 + 1))), (4, .int (iI w61)), (0, .ref t), (1, .int (iI p1)), (2, .int (iI p2)), (3, .int (iI p3))]) hx hb dX11_years_64 hl (k := 5) rfl (iI_add _ _) (by decide) rfl (fun ls hl => ?_)
        refine lv_goto (tgt := 39) hx hb dX11_years_67 (by decide) ?_
        exact ih39 w61 (x39_5 + 1) (u54a 0) (u54a 1) (u54b 0) (u54b 2) (u54b 1) _ _ ls (by omega) (by omega) hu54_0 hu54_2 hu54_1 (hP.sub [0, 1, 2, 3, 4, 5, 6, 7, 8, 9, 10, 11] rfl) (hD.sub [0, 1, 2, 3, 4, 5, 6, 7, 8, 9, 10, 11] (by decide) rfl) hS (lv_sub hl [2, 3, 4, 5, 1, 0] rfl)
  have hl : lv_has ls 6 [(0, .ref t), (1, .int (iI p1)), (2, .int (iI p2)), (3, .int (iI p3))] := hl
  refine lv_aload_n hx hb dX11_years_0 rfl (lv_at hl 0 rfl) ?_
  refine lv_iload_n hx hb dX11_years_1 rfl (lv_at hl 1 rfl) ?_
  refine fn_goi (wc := [(t, .inr (11, oX11 t_q)), ((t_q 1), .inr (7, oX7 t_1_q t_1_x0 t_1_x1 t_1_x2 t_1_x3 t_1_x4 t_1_x5 t_1_x6 t_1_x7 t_1_x8))]) (wr := [((t_q 8), .inr (10, oX10 t_8_q t_8_x0 t_8_x1 t_8_x6)), ((t_8_q 2), .inl (K 0, 12, .inl (fun j => iI (t_8_2_c j)))), ((t_q 2), .inr (5, oX5 t_2_q t_2_x0)), ((t_2_q 1), .inl (K 0, 5, .inl (fun j => iI (t_2_1_c j)))), ((t_2_q 2), .inl (K 0, 150, .inl (fun j => iI (t_2_2_c j)))), ((t_8_q 4), .inl (K 0, 12, .inl (fun j => iI (t_8_4_c j)))), ((t_1_q 12), .inl (K 0, 24, .inl (fun j => iI (t_1_12_c j)))), ((t_2_q 3), .inl (K 0, 24, .inl (fun j => iI (t_2_3_c j)))), ((t_1_q 13), .inl (K 0, 24, .inl (fun j => iI (t_1_13_c j)))), ((t_8_q 3), .inl (K 0, 24, .inl (fun j => iI (t_8_3_c j))))]) hK hP hD hS hA [0, 1] [2, 3, 4, 5, 6, 7, 8, 9, 10, 11] rfl rfl (by decide) (fun hp => va_runV (C := RX11) (As := [.int (iI p1)]) (rest := []) ⟨hx, hb, hml, hown, hts⟩ (k_X11_noSeed (l := l) (D := D) (K := K) (t := t) (p1 := p1) (t_q := t_q) (t_1_q := t_1_q) (t_1_x0 := t_1_x0) (t_1_x1 := t_1_x1) (t_1_x2 := t_1_x2) (t_1_x3 := t_1_x3) (t_1_x4 := t_1_x4) (t_1_x5 := t_1_x5) (t_1_x6 := t_1_x6) (t_1_x7 := t_1_x7) (t_1_x8 := t_1_x8) (hp1 := (by omega)) (hi_t_1 := hi_t_1) _) (cwV 1 hts (fn_ginV (fn_gin wd_1154) wd_1151 wd_1153 wp_86 wd_1) rfl rfl rfl (by decide +kernel) ⟨Nat.le_of_ble_eq_true rfl, Nat.le_of_ble_eq_true rfl⟩) ⟨fn_blind, va_recv hK.1 hP (ci := 11) (q0 := 0) rfl rfl, hp⟩ rfl rfl hl.1 rfl (lv_room (Nat.le_of_ble_eq_true rfl)) dX11_years_2 ⟨Nat.le_of_ble_eq_true rfl, Nat.le_of_ble_eq_true rfl⟩) (fun r2 u2 H locs hwu2 hP hD hS => ?_)
  obtain ⟨u2a, u2b⟩ := u2
  obtain ⟨kr2, rfl, hkr2, -⟩ := hwu2
  have hP : va_P D vwCl [((t_q 8), .inr (10, oX10 t_8_q t_8_x0 t_8_x1 t_8_x6)), ((t_8_q 2), .inl (K 0, 12, .inl (fun j => iI (t_8_2_c j)))), ((t_q 2), .inr (5, oX5 t_2_q t_2_x0)), ((t_2_q 1), .inl (K 0, 5, .inl (fun j => iI (t_2_1_c j)))), ((t_2_q 2), .inl (K 0, 150, .inl (fun j => iI (t_2_2_c j)))), ((t_8_q 4), .inl (K 0, 12, .inl (fun j => iI (t_8_4_c j)))), ((t_1_q 12), .inl (K 0, 24, .inl (fun j => iI (t_1_12_c j)))), ((t_2_q 3), .inl (K 0, 24, .inl (fun j => iI (t_2_3_c j)))), ((t_1_q 13), .inl (K 0, 24, .inl (fun j => iI (t_1_13_c j)))), ((t_8_q 3), .inl (K 0, 24, .inl (fun j => iI (t_8_3_c j)))), (t, .inr (11, oX11 t_q)), ((t_q 1), .inr (7, oX7 t_1_q t_1_x0 t_1_x1 t_1_x2 t_1_x3 t_1_x4 t_1_x5 t_1_x6 t_1_x7 t_1_x8))] H := hP
  have hD : va_D A [((t_q 8), .inr (10, oX10 t_8_q t_8_x0 t_8_x1 t_8_x6)), ((t_8_q 2), .inl (K 0, 12, .inl (fun j => iI (t_8_2_c j)))), ((t_q 2), .inr (5, oX5 t_2_q t_2_x0)), ((t_2_q 1), .inl (K 0, 5, .inl (fun j => iI (t_2_1_c j)))), ((t_2_q 2), .inl (K 0, 150, .inl (fun j => iI (t_2_2_c j)))), ((t_8_q 4), .inl (K 0, 12, .inl (fun j => iI (t_8_4_c j)))), ((t_1_q 12), .inl (K 0, 24, .inl (fun j => iI (t_1_12_c j)))), ((t_2_q 3), .inl (K 0, 24, .inl (fun j => iI (t_2_3_c j)))), ((t_1_q 13), .inl (K 0, 24, .inl (fun j => iI (t_1_13_c j)))), ((t_8_q 3), .inl (K 0, 24, .inl (fun j => iI (t_8_3_c j)))), (t, .inr (11, oX11 t_q)), ((t_q 1), .inr (7, oX7 t_1_q t_1_x0 t_1_x1 t_1_x2 t_1_x3 t_1_x4 t_1_x5 t_1_x6 t_1_x7 t_1_x8))] := hD
  refine g_if_ne (tgt := 30) hx hb (by omega) dX11_years_5 (by decide) (fun c5 => ?_) (fun c5 => ?_)
  · refine lv_bipush (v := iI (-2)) hx hb dX11_years_30 (by decide) ?_
    have y32_1 : 0 ≤ t_8_x0 ∧ t_8_x0 ≤ 12 := hi_t_8.1
    have y32_2 : 0 ≤ t_8_x1 ∧ t_8_x1 ≤ 4095 := hi_t_8.2.1
    rw [hQ]; exact fn_iret hx hb hr hlocks rfl hP hD hS ((fun k => ([t_8_x0, t_8_x1] : List Int).getD k 0), (fun k => ([t_8_2_c, t_8_3_c, t_8_4_c] : List (Nat → Int)).getD k (fun _ => 0))) ⟨(-2), rfl, by omega, (by show 0 ≤ t_8_x0 ∧ t_8_x0 ≤ 12 ∧ 0 ≤ t_8_x1 ∧ t_8_x1 ≤ 4095; omega), (hc_t_8_2), (hc_t_8_3), (hc_t_8_4), trivial⟩ [10, 11, 0, 1, 2, 3, 4, 5, 6, 7, 8, 9] (by decide) rfl dX11_years_32
  · refine lv_iload_n hx hb dX11_years_8 rfl (lv_at hl 2 rfl) ?_
    refine lv_iconst (v := iI 1) hx hb dX11_years_9 rfl ?_
    refine g_icmp_lt (tgt := 30) hx hb (by omega) (by omega) dX11_years_10 (by decide) (fun c10 => ?_) (fun c10 => ?_)
    · refine lv_bipush (v := iI (-2)) hx hb dX11_years_30 (by decide) ?_
      have y32_1 : 0 ≤ t_8_x0 ∧ t_8_x0 ≤ 12 := hi_t_8.1
      have y32_2 : 0 ≤ t_8_x1 ∧ t_8_x1 ≤ 4095 := hi_t_8.2.1
      rw [hQ]; exact fn_iret hx hb hr hlocks rfl hP hD hS ((fun k => ([t_8_x0, t_8_x1] : List Int).getD k 0), (fun k => ([t_8_2_c, t_8_3_c, t_8_4_c] : List (Nat → Int)).getD k (fun _ => 0))) ⟨(-2), rfl, by omega, (by show 0 ≤ t_8_x0 ∧ t_8_x0 ≤ 12 ∧ 0 ≤ t_8_x1 ∧ t_8_x1 ≤ 4095; omega), (hc_t_8_2), (hc_t_8_3), (hc_t_8_4), trivial⟩ [10, 11, 0, 1, 2, 3, 4, 5, 6, 7, 8, 9] (by decide) rfl dX11_years_32
    · refine lv_iload_n hx hb dX11_years_13 rfl (lv_at hl 2 rfl) ?_
      refine lv_bipush (v := iI 20) hx hb dX11_years_14 (by decide) ?_
      refine g_icmp_gt (tgt := 30) hx hb (by omega) (by omega) dX11_years_16 (by decide) (fun c16 => ?_) (fun c16 => ?_)
      · refine lv_bipush (v := iI (-2)) hx hb dX11_years_30 (by decide) ?_
        have y32_1 : 0 ≤ t_8_x0 ∧ t_8_x0 ≤ 12 := hi_t_8.1
        have y32_2 : 0 ≤ t_8_x1 ∧ t_8_x1 ≤ 4095 := hi_t_8.2.1
        rw [hQ]; exact fn_iret hx hb hr hlocks rfl hP hD hS ((fun k => ([t_8_x0, t_8_x1] : List Int).getD k 0), (fun k => ([t_8_2_c, t_8_3_c, t_8_4_c] : List (Nat → Int)).getD k (fun _ => 0))) ⟨(-2), rfl, by omega, (by show 0 ≤ t_8_x0 ∧ t_8_x0 ≤ 12 ∧ 0 ≤ t_8_x1 ∧ t_8_x1 ≤ 4095; omega), (hc_t_8_2), (hc_t_8_3), (hc_t_8_4), trivial⟩ [10, 11, 0, 1, 2, 3, 4, 5, 6, 7, 8, 9] (by decide) rfl dX11_years_32
      · refine lv_aload_n hx hb dX11_years_19 rfl (lv_at hl 0 rfl) ?_
        refine va_get (D := D) (own := RX11) (ci := 11) (v := .ref (t_q 1)) (C := RX11) (T := TX11) (N := 13) hx hb hts inb_X11 hown hK.1 hP 10 rfl rfl 1 (by decide) (hts _ wd_423) (fun _ h9 => h9) rfl dX11_years_20 ?_
        refine lv_iload_n hx hb dX11_years_23 rfl (lv_at hl 3 rfl) ?_
        refine fn_goi (wc := [((t_q 1), .inr (7, oX7 t_1_q t_1_x0 t_1_x1 t_1_x2 t_1_x3 t_1_x4 t_1_x5 t_1_x6 t_1_x7 t_1_x8))]) (wr := [((t_q 8), .inr (10, oX10 t_8_q t_8_x0 t_8_x1 t_8_x6)), ((t_8_q 2), .inl (K 0, 12, .inl (fun j => iI (t_8_2_c j)))), ((t_q 2), .inr (5, oX5 t_2_q t_2_x0)), ((t_2_q 1), .inl (K 0, 5, .inl (fun j => iI (t_2_1_c j)))), ((t_2_q 2), .inl (K 0, 150, .inl (fun j => iI (t_2_2_c j)))), ((t_8_q 4), .inl (K 0, 12, .inl (fun j => iI (t_8_4_c j)))), ((t_1_q 12), .inl (K 0, 24, .inl (fun j => iI (t_1_12_c j)))), ((t_2_q 3), .inl (K 0, 24, .inl (fun j => iI (t_2_3_c j)))), ((t_1_q 13), .inl (K 0, 24, .inl (fun j => iI (t_1_13_c j)))), ((t_8_q 3), .inl (K 0, 24, .inl (fun j => iI (t_8_3_c j)))), (t, .inr (11, oX11 t_q))]) hK hP hD hS hA [11] [0, 1, 2, 3, 4, 5, 6, 7, 8, 9, 10] rfl rfl (by decide) (fun hp => va_runVN (C := RX7) (As := [.int (iI p3)]) (rest := []) ⟨hx, hb, hml, hown, hts⟩ (k_X7_hasPage (l := l) (D := D) (K := K) (t := (t_q 1)) (p1 := p3) (t_q := t_1_q) (t_x0 := t_1_x0) (t_x1 := t_1_x1) (t_x2 := t_1_x2) (t_x3 := t_1_x3) (t_x4 := t_1_x4) (t_x5 := t_1_x5) (t_x6 := t_1_x6) (t_x7 := t_1_x7) (t_x8 := t_1_x8) (hp1 := (by omega)) (hi_t := hi_t_1) _) ⟨va_cnB (own := RX11) 1 hts (fn_gin wd_662) rfl rfl rfl (hK.nw 108 rfl) (hts _ wd_4) (by decide +kernel) ⟨Nat.le_of_ble_eq_true rfl, Nat.le_of_ble_eq_true rfl⟩, hts _ wd_661, hts _ wp_25⟩ ⟨fn_blind, va_recv hK.1 hP (ci := 7) (q0 := 11) rfl rfl, hp⟩ rfl rfl hl.1 rfl (lv_room (Nat.le_of_ble_eq_true rfl)) dX11_years_24 ⟨Nat.le_of_ble_eq_true rfl, Nat.le_of_ble_eq_true rfl⟩) (fun r24 u24 H locs hwu24 hP hD hS => ?_)
        obtain ⟨u24a, u24b⟩ := u24
        obtain ⟨kr24, rfl, hkr24, hqu240, -⟩ := hwu24
        have hqu24 : (kr24 = 1 → 0 ≤ p3 ∧ p3 < t_1_x4 ∧ p3 ≤ 11) := hqu240
        clear hqu240
        have hP : va_P D vwCl [((t_q 8), .inr (10, oX10 t_8_q t_8_x0 t_8_x1 t_8_x6)), ((t_8_q 2), .inl (K 0, 12, .inl (fun j => iI (t_8_2_c j)))), ((t_q 2), .inr (5, oX5 t_2_q t_2_x0)), ((t_2_q 1), .inl (K 0, 5, .inl (fun j => iI (t_2_1_c j)))), ((t_2_q 2), .inl (K 0, 150, .inl (fun j => iI (t_2_2_c j)))), ((t_8_q 4), .inl (K 0, 12, .inl (fun j => iI (t_8_4_c j)))), ((t_1_q 12), .inl (K 0, 24, .inl (fun j => iI (t_1_12_c j)))), ((t_2_q 3), .inl (K 0, 24, .inl (fun j => iI (t_2_3_c j)))), ((t_1_q 13), .inl (K 0, 24, .inl (fun j => iI (t_1_13_c j)))), ((t_8_q 3), .inl (K 0, 24, .inl (fun j => iI (t_8_3_c j)))), (t, .inr (11, oX11 t_q)), ((t_q 1), .inr (7, oX7 t_1_q t_1_x0 t_1_x1 t_1_x2 t_1_x3 t_1_x4 t_1_x5 t_1_x6 t_1_x7 t_1_x8))] H := hP
        have hD : va_D A [((t_q 8), .inr (10, oX10 t_8_q t_8_x0 t_8_x1 t_8_x6)), ((t_8_q 2), .inl (K 0, 12, .inl (fun j => iI (t_8_2_c j)))), ((t_q 2), .inr (5, oX5 t_2_q t_2_x0)), ((t_2_q 1), .inl (K 0, 5, .inl (fun j => iI (t_2_1_c j)))), ((t_2_q 2), .inl (K 0, 150, .inl (fun j => iI (t_2_2_c j)))), ((t_8_q 4), .inl (K 0, 12, .inl (fun j => iI (t_8_4_c j)))), ((t_1_q 12), .inl (K 0, 24, .inl (fun j => iI (t_1_12_c j)))), ((t_2_q 3), .inl (K 0, 24, .inl (fun j => iI (t_2_3_c j)))), ((t_1_q 13), .inl (K 0, 24, .inl (fun j => iI (t_1_13_c j)))), ((t_8_q 3), .inl (K 0, 24, .inl (fun j => iI (t_8_3_c j)))), (t, .inr (11, oX11 t_q)), ((t_q 1), .inr (7, oX7 t_1_q t_1_x0 t_1_x1 t_1_x2 t_1_x3 t_1_x4 t_1_x5 t_1_x6 t_1_x7 t_1_x8))] := hD
        refine g_if_ne (tgt := 33) hx hb (by omega) dX11_years_27 (by decide) (fun c27 => ?_) (fun c27 => ?_)
        · refine lv_iconst (v := iI 0) hx hb dX11_years_33 rfl ?_
          refine lv_istore (lv' := [(4, .int (iI 0)), (0, .ref t), (1, .int (iI p1)), (2, .int (iI p2)), (3, .int (iI p3))]) hx hb dX11_years_34 hl (by decide) rfl (fun ls hl => ?_)
          refine lv_iconst (v := iI 0) hx hb dX11_years_36 rfl ?_
          refine lv_istore (lv' := [(5, .int (iI 0)), (4, .int (iI 0)), (0, .ref t), (1, .int (iI p1)), (2, .int (iI p2)), (3, .int (iI p3))]) hx hb dX11_years_37 hl (by decide) rfl (fun ls hl => ?_)
          have y39_1 : 0 ≤ t_8_x0 ∧ t_8_x0 ≤ 12 := hi_t_8.1
          have y39_2 : 0 ≤ t_8_x1 ∧ t_8_x1 ≤ 4095 := hi_t_8.2.1
          exact J39 _ 0 0 t_8_x0 t_8_x1 t_8_2_c t_8_4_c t_8_3_c _ _ ls (Nat.lt_succ_self _) (by omega) hc_t_8_2 hc_t_8_4 hc_t_8_3 (hP.sub [10, 11, 0, 1, 2, 3, 4, 5, 6, 7, 8, 9] rfl) (hD.sub [10, 11, 0, 1, 2, 3, 4, 5, 6, 7, 8, 9] (by decide) rfl) hS (lv_sub hl [2, 3, 4, 5, 1, 0] rfl)
        · refine lv_bipush (v := iI (-2)) hx hb dX11_years_30 (by decide) ?_
          have y32_1 : 0 ≤ t_8_x0 ∧ t_8_x0 ≤ 12 := hi_t_8.1
          have y32_2 : 0 ≤ t_8_x1 ∧ t_8_x1 ≤ 4095 := hi_t_8.2.1
          rw [hQ]; exact fn_iret hx hb hr hlocks rfl hP hD hS ((fun k => ([t_8_x0, t_8_x1] : List Int).getD k 0), (fun k => ([t_8_2_c, t_8_3_c, t_8_4_c] : List (Nat → Int)).getD k (fun _ => 0))) ⟨(-2), rfl, by omega, (by show 0 ≤ t_8_x0 ∧ t_8_x0 ≤ 12 ∧ 0 ≤ t_8_x1 ∧ t_8_x1 ≤ 4095; omega), (hc_t_8_2), (hc_t_8_3), (hc_t_8_4), trivial⟩ [10, 11, 0, 1, 2, 3, 4, 5, 6, 7, 8, 9] (by decide) rfl dX11_years_32
theorem dX11_rowsPresent_0 : decode cX11_rowsPresent 0 = .ok (.iconst 0, 1) := by decide +kernel
theorem dX11_rowsPresent_1 : decode cX11_rowsPresent 1 = .ok (.istore_n 1, 1) := by decide +kernel
theorem dX11_rowsPresent_2 : decode cX11_rowsPresent 2 = .ok (.iconst 0, 1) := by decide +kernel
theorem dX11_rowsPresent_3 : decode cX11_rowsPresent 3 = .ok (.istore_n 2, 1) := by decide +kernel
theorem dX11_rowsPresent_4 : decode cX11_rowsPresent 4 = .ok (.iload_n 2, 1) := by decide +kernel
theorem dX11_rowsPresent_5 : decode cX11_rowsPresent 5 = .ok (.iconst 4, 1) := by decide +kernel
theorem dX11_rowsPresent_6 : decode cX11_rowsPresent 6 = .ok (.if_icmp .ge 24, 3) := by decide +kernel
theorem dX11_rowsPresent_9 : decode cX11_rowsPresent 9 = .ok (.iload_n 1, 1) := by decide +kernel
theorem dX11_rowsPresent_10 : decode cX11_rowsPresent 10 = .ok (.aload_n 0, 1) := by decide +kernel
theorem dX11_rowsPresent_11 : decode cX11_rowsPresent 11 = .ok (.getfield 44, 3) := by decide +kernel
theorem dX11_rowsPresent_14 : decode cX11_rowsPresent 14 = .ok (.iload_n 2, 1) := by decide +kernel
theorem dX11_rowsPresent_15 : decode cX11_rowsPresent 15 = .ok (.aaload, 1) := by decide +kernel
theorem dX11_rowsPresent_16 : decode cX11_rowsPresent 16 = .ok (.getfield 340, 3) := by decide +kernel
theorem dX11_rowsPresent_19 : decode cX11_rowsPresent 19 = .ok (.invokestatic 195, 3) := by decide +kernel
theorem dX11_rowsPresent_22 : decode cX11_rowsPresent 22 = .ok (.iadd, 1) := by decide +kernel
theorem dX11_rowsPresent_23 : decode cX11_rowsPresent 23 = .ok (.istore_n 1, 1) := by decide +kernel
theorem dX11_rowsPresent_24 : decode cX11_rowsPresent 24 = .ok (.iinc 2 1, 3) := by decide +kernel
theorem dX11_rowsPresent_27 : decode cX11_rowsPresent 27 = .ok (.goto (-23), 3) := by decide +kernel
theorem dX11_rowsPresent_30 : decode cX11_rowsPresent 30 = .ok (.iload_n 1, 1) := by decide +kernel
theorem dX11_rowsPresent_31 : decode cX11_rowsPresent 31 = .ok (.ireturn, 1) := by decide +kernel
set_option maxHeartbeats 4000000 in
set_option maxRecDepth 100000 in
theorem k_X11_rowsPresent (l : Launch) (D : va_G) (K : Nat → ClassId) (t : Nat) (t_q t_6_r t_6_0_q t_6_1_q t_6_2_q t_6_3_q : Nat → Nat) (t_6_0_x0 t_6_0_x1 t_6_0_x2 t_6_1_x0 t_6_1_x1 t_6_1_x2 t_6_2_x0 t_6_2_x1 t_6_2_x2 t_6_3_x0 t_6_3_x1 t_6_3_x2 : Int) (t_6_c : Nat → Option Nat) (hr_t_6 : ∀ j : Nat, j < 4 → t_6_c j = some (t_6_r j)) (hi_t_6_0 : bX4 t_6_0_x0 t_6_0_x1 t_6_0_x2) (hi_t_6_1 : bX4 t_6_1_x0 t_6_1_x1 t_6_1_x2) (hi_t_6_2 : bX4 t_6_2_x0 t_6_2_x1 t_6_2_x2) (hi_t_6_3 : bX4 t_6_3_x0 t_6_3_x1 t_6_3_x2) : fn_CI (S := (Nat → Int) × (Nat → Nat → Int)) l D K yX11_rowsPresent (fn_ws yX11_rowsPresent cX11_rowsPresent 3 (some .int)) ({ frames := 8, cells := 0, slots := 0, locals := 200 } : Room) [.ref t] [(t, .inr (11, oX11 t_q)), ((t_q 6), .inl (K 6, 4, .inr (.inr (.inr (.inr t_6_c))))), ((t_6_r 0), .inr (4, oX4 t_6_0_q t_6_0_x0 t_6_0_x1 t_6_0_x2)), ((t_6_r 1), .inr (4, oX4 t_6_1_q t_6_1_x0 t_6_1_x1 t_6_1_x2)), ((t_6_r 2), .inr (4, oX4 t_6_2_q t_6_2_x0 t_6_2_x1 t_6_2_x2)), ((t_6_r 3), .inr (4, oX4 t_6_3_q t_6_3_x0 t_6_3_x1 t_6_3_x2))] (fun r u => ∃ k : Int, r = iI k ∧ (0 ≤ k ∧ k ≤ 4) ∧ True) (fun u => [(t, .inr (11, oX11 t_q)), ((t_q 6), .inl (K 6, 4, .inr (.inr (.inr (.inr t_6_c))))), ((t_6_r 0), .inr (4, oX4 t_6_0_q t_6_0_x0 t_6_0_x1 t_6_0_x2)), ((t_6_r 1), .inr (4, oX4 t_6_1_q t_6_1_x0 t_6_1_x1 t_6_1_x2)), ((t_6_r 2), .inr (4, oX4 t_6_2_q t_6_2_x0 t_6_2_x1 t_6_2_x2)), ((t_6_r 3), .inr (4, oX4 t_6_3_q t_6_3_x0 t_6_3_x1 t_6_3_x2))]) 0 0 := by
  refine g_inI (cc := cX11_rowsPresent) (maxL := 3) (ret := (some .int)) (by decide) rfl (Nat.le_of_ble_eq_true rfl) ?_
  intro p e s m below meth c A ls ag Q B hA hP hD hS hl hQ
  obtain ⟨hx, hb, hr, hml, hts, hown, hlocks, hin, hK⟩ := B
  have hown : s.vm.findClass RX11 = some m.cls := hown
  have hts := fun w h => hts w (List.mem_cons_of_mem _ h)
  have hl : lv_has ls 3 [(0, .ref t)] := hl
  refine lv_iconst (v := iI 0) hx hb dX11_rowsPresent_0 rfl ?_
  refine lv_istore_n (lv' := [(1, .int (iI 0)), (0, .ref t)]) hx hb dX11_rowsPresent_1 rfl hl (by decide) rfl (fun ls hl => ?_)
  refine lv_iconst (v := iI 0) hx hb dX11_rowsPresent_2 rfl ?_
  refine lv_istore_n (lv' := [(2, .int (iI 0)), (1, .int (iI 0)), (0, .ref t)]) hx hb dX11_rowsPresent_3 rfl hl (by decide) rfl (fun ls hl => ?_)
  refine lv_iload_n hx hb dX11_rowsPresent_4 rfl (lv_at hl 0 rfl) ?_
  refine lv_iconst (v := iI 4) hx hb dX11_rowsPresent_5 rfl ?_
  refine g_icmp_ge (tgt := 30) hx hb (by omega) (by omega) dX11_rowsPresent_6 (by decide) (fun c6 => ?_) (fun c6 => ?_)
  · exfalso; omega
  · refine lv_iload_n hx hb dX11_rowsPresent_9 rfl (lv_at hl 1 rfl) ?_
    refine lv_aload_n hx hb dX11_rowsPresent_10 rfl (lv_at hl 2 rfl) ?_
    refine va_get (D := D) (own := RX11) (ci := 11) (v := .ref (t_q 6)) (C := RX11) (T := TX11) (N := 13) hx hb hts inb_X11 hown hK.1 hP 0 rfl rfl 6 (by decide) (hts _ wd_428) (fun _ h9 => h9) rfl dX11_rowsPresent_11 ?_
    refine lv_iload_n hx hb dX11_rowsPresent_14 rfl (lv_at hl 0 rfl) ?_
    refine va_aldq hx hb hK.1 hP 1 6 rfl rfl (iI_in (by decide) (by decide) (by decide)) dX11_rowsPresent_15 ?_
    refine fn_topv (.ref (t_6_r 0)) (by rw [iI_cl (by decide)]; exact congrArg va_rf (hr_t_6 0 (by decide))) ?_
    refine va_getN (D := D) (own := RX11) (ci := 4) (v := .int (iI t_6_0_x0)) (C := RX4) (T := TX4) (N := 4) hx hb hts inb_X4 hown hK.1 hP 2 rfl rfl 0 (by decide) (hK.nf 89 rfl) (fun _ h9 => h9) rfl dX11_rowsPresent_16 ?_
    have y16_1 : 0 ≤ t_6_0_x0 ∧ t_6_0_x0 ≤ 1 := hi_t_6_0.1
    refine fn_goi (wc := []) (wr := [(t, .inr (11, oX11 t_q)), ((t_q 6), .inl (K 6, 4, .inr (.inr (.inr (.inr t_6_c))))), ((t_6_r 0), .inr (4, oX4 t_6_0_q t_6_0_x0 t_6_0_x1 t_6_0_x2)), ((t_6_r 1), .inr (4, oX4 t_6_1_q t_6_1_x0 t_6_1_x1 t_6_1_x2)), ((t_6_r 2), .inr (4, oX4 t_6_2_q t_6_2_x0 t_6_2_x1 t_6_2_x2)), ((t_6_r 3), .inr (4, oX4 t_6_3_q t_6_3_x0 t_6_3_x1 t_6_3_x2))]) hK hP hD hS hA [] [0, 1, 2, 3, 4, 5] rfl rfl (by decide) (fun hp => va_runS (As := [.int (iI t_6_0_x0)]) (rest := [.int (iI 0)]) ⟨hx, hb, hml, hown, hts⟩ (k_X11_bit (l := l) (D := D) (K := K) (p1 := t_6_0_x0) (hp1 := (by omega)) _) (va_cwS 1 hts (fn_ginS (fn_gin wd_605) wd_710 wd_604 wd_1) rfl rfl rfl (by decide +kernel) ⟨Nat.le_of_ble_eq_true rfl, Nat.le_of_ble_eq_true rfl⟩) ⟨fn_blind, hp⟩ rfl rfl hl.1 rfl (lv_room (Nat.le_of_ble_eq_true rfl)) dX11_rowsPresent_19 ⟨Nat.le_of_ble_eq_true rfl, Nat.le_of_ble_eq_true rfl⟩) (fun r19 u19 H locs hwu19 hP hD hS => ?_)
    obtain ⟨u19a, u19b⟩ := u19
    obtain ⟨kr19, rfl, hkr19, -⟩ := hwu19
    have hP : va_P D vwCl [(t, .inr (11, oX11 t_q)), ((t_q 6), .inl (K 6, 4, .inr (.inr (.inr (.inr t_6_c))))), ((t_6_r 0), .inr (4, oX4 t_6_0_q t_6_0_x0 t_6_0_x1 t_6_0_x2)), ((t_6_r 1), .inr (4, oX4 t_6_1_q t_6_1_x0 t_6_1_x1 t_6_1_x2)), ((t_6_r 2), .inr (4, oX4 t_6_2_q t_6_2_x0 t_6_2_x1 t_6_2_x2)), ((t_6_r 3), .inr (4, oX4 t_6_3_q t_6_3_x0 t_6_3_x1 t_6_3_x2))] H := hP
    have hD : va_D A [(t, .inr (11, oX11 t_q)), ((t_q 6), .inl (K 6, 4, .inr (.inr (.inr (.inr t_6_c))))), ((t_6_r 0), .inr (4, oX4 t_6_0_q t_6_0_x0 t_6_0_x1 t_6_0_x2)), ((t_6_r 1), .inr (4, oX4 t_6_1_q t_6_1_x0 t_6_1_x1 t_6_1_x2)), ((t_6_r 2), .inr (4, oX4 t_6_2_q t_6_2_x0 t_6_2_x1 t_6_2_x2)), ((t_6_r 3), .inr (4, oX4 t_6_3_q t_6_3_x0 t_6_3_x1 t_6_3_x2))] := hD
    refine g_iadd hx hb dX11_rowsPresent_22 ?_
    refine lv_istore_n (lv' := [(1, .int (iI (0 + kr19))), (2, .int (iI 0)), (0, .ref t)]) hx hb dX11_rowsPresent_23 rfl hl (by decide) rfl (fun ls hl => ?_)
    refine lv_iinc (v := iI 1) (lv' := [(2, .int (iI 1)), (1, .int (iI (0 + kr19))), (0, .ref t)]) hx hb dX11_rowsPresent_24 hl (k := 1) rfl (by decide) (by decide) rfl (fun ls hl => ?_)
    refine lv_goto (tgt := 4) hx hb dX11_rowsPresent_27 (by decide) ?_
    refine lv_iload_n hx hb dX11_rowsPresent_4 rfl (lv_at hl 0 rfl) ?_
    refine lv_iconst (v := iI 4) hx hb dX11_rowsPresent_5 rfl ?_
    refine g_icmp_ge (tgt := 30) hx hb (by omega) (by omega) dX11_rowsPresent_6 (by decide) (fun c6_1 => ?_) (fun c6_1 => ?_)
    · exfalso; omega
    · refine lv_iload_n hx hb dX11_rowsPresent_9 rfl (lv_at hl 1 rfl) ?_
      refine lv_aload_n hx hb dX11_rowsPresent_10 rfl (lv_at hl 2 rfl) ?_
      refine va_get (D := D) (own := RX11) (ci := 11) (v := .ref (t_q 6)) (C := RX11) (T := TX11) (N := 13) hx hb hts inb_X11 hown hK.1 hP 0 rfl rfl 6 (by decide) (hts _ wd_428) (fun _ h9 => h9) rfl dX11_rowsPresent_11 ?_
      refine lv_iload_n hx hb dX11_rowsPresent_14 rfl (lv_at hl 0 rfl) ?_
      refine va_aldq hx hb hK.1 hP 1 6 rfl rfl (iI_in (by decide) (by decide) (by decide)) dX11_rowsPresent_15 ?_
      refine fn_topv (.ref (t_6_r 1)) (by rw [iI_cl (by decide)]; exact congrArg va_rf (hr_t_6 1 (by decide))) ?_
      refine va_getN (D := D) (own := RX11) (ci := 4) (v := .int (iI t_6_1_x0)) (C := RX4) (T := TX4) (N := 4) hx hb hts inb_X4 hown hK.1 hP 3 rfl rfl 0 (by decide) (hK.nf 89 rfl) (fun _ h9 => h9) rfl dX11_rowsPresent_16 ?_
      have y16_1_2 : 0 ≤ t_6_1_x0 ∧ t_6_1_x0 ≤ 1 := hi_t_6_1.1
      refine fn_goi (wc := []) (wr := [(t, .inr (11, oX11 t_q)), ((t_q 6), .inl (K 6, 4, .inr (.inr (.inr (.inr t_6_c))))), ((t_6_r 0), .inr (4, oX4 t_6_0_q t_6_0_x0 t_6_0_x1 t_6_0_x2)), ((t_6_r 1), .inr (4, oX4 t_6_1_q t_6_1_x0 t_6_1_x1 t_6_1_x2)), ((t_6_r 2), .inr (4, oX4 t_6_2_q t_6_2_x0 t_6_2_x1 t_6_2_x2)), ((t_6_r 3), .inr (4, oX4 t_6_3_q t_6_3_x0 t_6_3_x1 t_6_3_x2))]) hK hP hD hS hA [] [0, 1, 2, 3, 4, 5] rfl rfl (by decide) (fun hp => va_runS (As := [.int (iI t_6_1_x0)]) (rest := [.int (iI (0 + kr19))]) ⟨hx, hb, hml, hown, hts⟩ (k_X11_bit (l := l) (D := D) (K := K) (p1 := t_6_1_x0) (hp1 := (by omega)) _) (va_cwS 1 hts (fn_ginS (fn_gin wd_605) wd_710 wd_604 wd_1) rfl rfl rfl (by decide +kernel) ⟨Nat.le_of_ble_eq_true rfl, Nat.le_of_ble_eq_true rfl⟩) ⟨fn_blind, hp⟩ rfl rfl hl.1 rfl (lv_room (Nat.le_of_ble_eq_true rfl)) dX11_rowsPresent_19 ⟨Nat.le_of_ble_eq_true rfl, Nat.le_of_ble_eq_true rfl⟩) (fun r19_1 u19_1 H locs hwu19_1 hP hD hS => ?_)
      obtain ⟨u19_1a, u19_1b⟩ := u19_1
      obtain ⟨kr19_1, rfl, hkr19_1, -⟩ := hwu19_1
      have hP : va_P D vwCl [(t, .inr (11, oX11 t_q)), ((t_q 6), .inl (K 6, 4, .inr (.inr (.inr (.inr t_6_c))))), ((t_6_r 0), .inr (4, oX4 t_6_0_q t_6_0_x0 t_6_0_x1 t_6_0_x2)), ((t_6_r 1), .inr (4, oX4 t_6_1_q t_6_1_x0 t_6_1_x1 t_6_1_x2)), ((t_6_r 2), .inr (4, oX4 t_6_2_q t_6_2_x0 t_6_2_x1 t_6_2_x2)), ((t_6_r 3), .inr (4, oX4 t_6_3_q t_6_3_x0 t_6_3_x1 t_6_3_x2))] H := hP
      have hD : va_D A [(t, .inr (11, oX11 t_q)), ((t_q 6), .inl (K 6, 4, .inr (.inr (.inr (.inr t_6_c))))), ((t_6_r 0), .inr (4, oX4 t_6_0_q t_6_0_x0 t_6_0_x1 t_6_0_x2)), ((t_6_r 1), .inr (4, oX4 t_6_1_q t_6_1_x0 t_6_1_x1 t_6_1_x2)), ((t_6_r 2), .inr (4, oX4 t_6_2_q t_6_2_x0 t_6_2_x1 t_6_2_x2)), ((t_6_r 3), .inr (4, oX4 t_6_3_q t_6_3_x0 t_6_3_x1 t_6_3_x2))] := hD
      refine g_iadd hx hb dX11_rowsPresent_22 ?_
      refine lv_istore_n (lv' := [(1, .int (iI (0 + kr19 + kr19_1))), (2, .int (iI 1)), (0, .ref t)]) hx hb dX11_rowsPresent_23 rfl hl (by decide) rfl (fun ls hl => ?_)
      refine lv_iinc (v := iI 2) (lv' := [(2, .int (iI 2)), (1, .int (iI (0 + kr19 + kr19_1))), (0, .ref t)]) hx hb dX11_rowsPresent_24 hl (k := 1) rfl (by decide) (by decide) rfl (fun ls hl => ?_)
      refine lv_goto (tgt := 4) hx hb dX11_rowsPresent_27 (by decide) ?_
      refine lv_iload_n hx hb dX11_rowsPresent_4 rfl (lv_at hl 0 rfl) ?_
      refine lv_iconst (v := iI 4) hx hb dX11_rowsPresent_5 rfl ?_
      refine g_icmp_ge (tgt := 30) hx hb (by omega) (by omega) dX11_rowsPresent_6 (by decide) (fun c6_2 => ?_) (fun c6_2 => ?_)
      · exfalso; omega
      · refine lv_iload_n hx hb dX11_rowsPresent_9 rfl (lv_at hl 1 rfl) ?_
        refine lv_aload_n hx hb dX11_rowsPresent_10 rfl (lv_at hl 2 rfl) ?_
        refine va_get (D := D) (own := RX11) (ci := 11) (v := .ref (t_q 6)) (C := RX11) (T := TX11) (N := 13) hx hb hts inb_X11 hown hK.1 hP 0 rfl rfl 6 (by decide) (hts _ wd_428) (fun _ h9 => h9) rfl dX11_rowsPresent_11 ?_
        refine lv_iload_n hx hb dX11_rowsPresent_14 rfl (lv_at hl 0 rfl) ?_
        refine va_aldq hx hb hK.1 hP 1 6 rfl rfl (iI_in (by decide) (by decide) (by decide)) dX11_rowsPresent_15 ?_
        refine fn_topv (.ref (t_6_r 2)) (by rw [iI_cl (by decide)]; exact congrArg va_rf (hr_t_6 2 (by decide))) ?_
        refine va_getN (D := D) (own := RX11) (ci := 4) (v := .int (iI t_6_2_x0)) (C := RX4) (T := TX4) (N := 4) hx hb hts inb_X4 hown hK.1 hP 4 rfl rfl 0 (by decide) (hK.nf 89 rfl) (fun _ h9 => h9) rfl dX11_rowsPresent_16 ?_
        have y16_2_3 : 0 ≤ t_6_2_x0 ∧ t_6_2_x0 ≤ 1 := hi_t_6_2.1
        refine fn_goi (wc := []) (wr := [(t, .inr (11, oX11 t_q)), ((t_q 6), .inl (K 6, 4, .inr (.inr (.inr (.inr t_6_c))))), ((t_6_r 0), .inr (4, oX4 t_6_0_q t_6_0_x0 t_6_0_x1 t_6_0_x2)), ((t_6_r 1), .inr (4, oX4 t_6_1_q t_6_1_x0 t_6_1_x1 t_6_1_x2)), ((t_6_r 2), .inr (4, oX4 t_6_2_q t_6_2_x0 t_6_2_x1 t_6_2_x2)), ((t_6_r 3), .inr (4, oX4 t_6_3_q t_6_3_x0 t_6_3_x1 t_6_3_x2))]) hK hP hD hS hA [] [0, 1, 2, 3, 4, 5] rfl rfl (by decide) (fun hp => va_runS (As := [.int (iI t_6_2_x0)]) (rest := [.int (iI (0 + kr19 + kr19_1))]) ⟨hx, hb, hml, hown, hts⟩ (k_X11_bit (l := l) (D := D) (K := K) (p1 := t_6_2_x0) (hp1 := (by omega)) _) (va_cwS 1 hts (fn_ginS (fn_gin wd_605) wd_710 wd_604 wd_1) rfl rfl rfl (by decide +kernel) ⟨Nat.le_of_ble_eq_true rfl, Nat.le_of_ble_eq_true rfl⟩) ⟨fn_blind, hp⟩ rfl rfl hl.1 rfl (lv_room (Nat.le_of_ble_eq_true rfl)) dX11_rowsPresent_19 ⟨Nat.le_of_ble_eq_true rfl, Nat.le_of_ble_eq_true rfl⟩) (fun r19_2 u19_2 H locs hwu19_2 hP hD hS => ?_)
        obtain ⟨u19_2a, u19_2b⟩ := u19_2
        obtain ⟨kr19_2, rfl, hkr19_2, -⟩ := hwu19_2
        have hP : va_P D vwCl [(t, .inr (11, oX11 t_q)), ((t_q 6), .inl (K 6, 4, .inr (.inr (.inr (.inr t_6_c))))), ((t_6_r 0), .inr (4, oX4 t_6_0_q t_6_0_x0 t_6_0_x1 t_6_0_x2)), ((t_6_r 1), .inr (4, oX4 t_6_1_q t_6_1_x0 t_6_1_x1 t_6_1_x2)), ((t_6_r 2), .inr (4, oX4 t_6_2_q t_6_2_x0 t_6_2_x1 t_6_2_x2)), ((t_6_r 3), .inr (4, oX4 t_6_3_q t_6_3_x0 t_6_3_x1 t_6_3_x2))] H := hP
        have hD : va_D A [(t, .inr (11, oX11 t_q)), ((t_q 6), .inl (K 6, 4, .inr (.inr (.inr (.inr t_6_c))))), ((t_6_r 0), .inr (4, oX4 t_6_0_q t_6_0_x0 t_6_0_x1 t_6_0_x2)), ((t_6_r 1), .inr (4, oX4 t_6_1_q t_6_1_x0 t_6_1_x1 t_6_1_x2)), ((t_6_r 2), .inr (4, oX4 t_6_2_q t_6_2_x0 t_6_2_x1 t_6_2_x2)), ((t_6_r 3), .inr (4, oX4 t_6_3_q t_6_3_x0 t_6_3_x1 t_6_3_x2))] := hD
        refine g_iadd hx hb dX11_rowsPresent_22 ?_
        refine lv_istore_n (lv' := [(1, .int (iI (0 + kr19 + kr19_1 + kr19_2))), (2, .int (iI 2)), (0, .ref t)]) hx hb dX11_rowsPresent_23 rfl hl (by decide) rfl (fun ls hl => ?_)
        refine lv_iinc (v := iI 3) (lv' := [(2, .int (iI 3)), (1, .int (iI (0 + kr19 + kr19_1 + kr19_2))), (0, .ref t)]) hx hb dX11_rowsPresent_24 hl (k := 1) rfl (by decide) (by decide) rfl (fun ls hl => ?_)
        refine lv_goto (tgt := 4) hx hb dX11_rowsPresent_27 (by decide) ?_
        refine lv_iload_n hx hb dX11_rowsPresent_4 rfl (lv_at hl 0 rfl) ?_
        refine lv_iconst (v := iI 4) hx hb dX11_rowsPresent_5 rfl ?_
        refine g_icmp_ge (tgt := 30) hx hb (by omega) (by omega) dX11_rowsPresent_6 (by decide) (fun c6_3 => ?_) (fun c6_3 => ?_)
        · exfalso; omega
        · refine lv_iload_n hx hb dX11_rowsPresent_9 rfl (lv_at hl 1 rfl) ?_
          refine lv_aload_n hx hb dX11_rowsPresent_10 rfl (lv_at hl 2 rfl) ?_
          refine va_get (D := D) (own := RX11) (ci := 11) (v := .ref (t_q 6)) (C := RX11) (T := TX11) (N := 13) hx hb hts inb_X11 hown hK.1 hP 0 rfl rfl 6 (by decide) (hts _ wd_428) (fun _ h9 => h9) rfl dX11_rowsPresent_11 ?_
          refine lv_iload_n hx hb dX11_rowsPresent_14 rfl (lv_at hl 0 rfl) ?_
          refine va_aldq hx hb hK.1 hP 1 6 rfl rfl (iI_in (by decide) (by decide) (by decide)) dX11_rowsPresent_15 ?_
          refine fn_topv (.ref (t_6_r 3)) (by rw [iI_cl (by decide)]; exact congrArg va_rf (hr_t_6 3 (by decide))) ?_
          refine va_getN (D := D) (own := RX11) (ci := 4) (v := .int (iI t_6_3_x0)) (C := RX4) (T := TX4) (N := 4) hx hb hts inb_X4 hown hK.1 hP 5 rfl rfl 0 (by decide) (hK.nf 89 rfl) (fun _ h9 => h9) rfl dX11_rowsPresent_16 ?_
          have y16_3_4 : 0 ≤ t_6_3_x0 ∧ t_6_3_x0 ≤ 1 := hi_t_6_3.1
          refine fn_goi (wc := []) (wr := [(t, .inr (11, oX11 t_q)), ((t_q 6), .inl (K 6, 4, .inr (.inr (.inr (.inr t_6_c))))), ((t_6_r 0), .inr (4, oX4 t_6_0_q t_6_0_x0 t_6_0_x1 t_6_0_x2)), ((t_6_r 1), .inr (4, oX4 t_6_1_q t_6_1_x0 t_6_1_x1 t_6_1_x2)), ((t_6_r 2), .inr (4, oX4 t_6_2_q t_6_2_x0 t_6_2_x1 t_6_2_x2)), ((t_6_r 3), .inr (4, oX4 t_6_3_q t_6_3_x0 t_6_3_x1 t_6_3_x2))]) hK hP hD hS hA [] [0, 1, 2, 3, 4, 5] rfl rfl (by decide) (fun hp => va_runS (As := [.int (iI t_6_3_x0)]) (rest := [.int (iI (0 + kr19 + kr19_1 + kr19_2))]) ⟨hx, hb, hml, hown, hts⟩ (k_X11_bit (l := l) (D := D) (K := K) (p1 := t_6_3_x0) (hp1 := (by omega)) _) (va_cwS 1 hts (fn_ginS (fn_gin wd_605) wd_710 wd_604 wd_1) rfl rfl rfl (by decide +kernel) ⟨Nat.le_of_ble_eq_true rfl, Nat.le_of_ble_eq_true rfl⟩) ⟨fn_blind, hp⟩ rfl rfl hl.1 rfl (lv_room (Nat.le_of_ble_eq_true rfl)) dX11_rowsPresent_19 ⟨Nat.le_of_ble_eq_true rfl, Nat.le_of_ble_eq_true rfl⟩) (fun r19_3 u19_3 H locs hwu19_3 hP hD hS => ?_)
          obtain ⟨u19_3a, u19_3b⟩ := u19_3
          obtain ⟨kr19_3, rfl, hkr19_3, -⟩ := hwu19_3
          have hP : va_P D vwCl [(t, .inr (11, oX11 t_q)), ((t_q 6), .inl (K 6, 4, .inr (.inr (.inr (.inr t_6_c))))), ((t_6_r 0), .inr (4, oX4 t_6_0_q t_6_0_x0 t_6_0_x1 t_6_0_x2)), ((t_6_r 1), .inr (4, oX4 t_6_1_q t_6_1_x0 t_6_1_x1 t_6_1_x2)), ((t_6_r 2), .inr (4, oX4 t_6_2_q t_6_2_x0 t_6_2_x1 t_6_2_x2)), ((t_6_r 3), .inr (4, oX4 t_6_3_q t_6_3_x0 t_6_3_x1 t_6_3_x2))] H := hP
          have hD : va_D A [(t, .inr (11, oX11 t_q)), ((t_q 6), .inl (K 6, 4, .inr (.inr (.inr (.inr t_6_c))))), ((t_6_r 0), .inr (4, oX4 t_6_0_q t_6_0_x0 t_6_0_x1 t_6_0_x2)), ((t_6_r 1), .inr (4, oX4 t_6_1_q t_6_1_x0 t_6_1_x1 t_6_1_x2)), ((t_6_r 2), .inr (4, oX4 t_6_2_q t_6_2_x0 t_6_2_x1 t_6_2_x2)), ((t_6_r 3), .inr (4, oX4 t_6_3_q t_6_3_x0 t_6_3_x1 t_6_3_x2))] := hD
          refine g_iadd hx hb dX11_rowsPresent_22 ?_
          refine lv_istore_n (lv' := [(1, .int (iI (0 + kr19 + kr19_1 + kr19_2 + kr19_3))), (2, .int (iI 3)), (0, .ref t)]) hx hb dX11_rowsPresent_23 rfl hl (by decide) rfl (fun ls hl => ?_)
          refine lv_iinc (v := iI 4) (lv' := [(2, .int (iI 4)), (1, .int (iI (0 + kr19 + kr19_1 + kr19_2 + kr19_3))), (0, .ref t)]) hx hb dX11_rowsPresent_24 hl (k := 1) rfl (by decide) (by decide) rfl (fun ls hl => ?_)
          refine lv_goto (tgt := 4) hx hb dX11_rowsPresent_27 (by decide) ?_
          refine lv_iload_n hx hb dX11_rowsPresent_4 rfl (lv_at hl 0 rfl) ?_
          refine lv_iconst (v := iI 4) hx hb dX11_rowsPresent_5 rfl ?_
          refine g_icmp_ge (tgt := 30) hx hb (by omega) (by omega) dX11_rowsPresent_6 (by decide) (fun c6_4 => ?_) (fun c6_4 => ?_)
          · refine lv_iload_n hx hb dX11_rowsPresent_30 rfl (lv_at hl 1 rfl) ?_
            rw [hQ]; exact fn_iret hx hb hr hlocks rfl hP hD hS ((fun _ => 0), (fun _ _ => 0)) ⟨0 + kr19 + kr19_1 + kr19_2 + kr19_3, rfl, by omega, trivial⟩ [0, 1, 2, 3, 4, 5] (by decide) rfl dX11_rowsPresent_31
          · exfalso; omega
theorem wd_1184 : Cond.code ⟨"FootNotes", "rowsPresent", "()I"⟩ prog_1_method_76_code 3 (Option.some Jvm.ClassFile.FieldType.int) ∈ fn_big := fn_tb (fn_l5 (List.mem_of_getElem? (i := 224) (by decide +kernel))) (by decide +kernel)
theorem wd_1181 : Cond.methodLink "FootNotes" 443 ⟨"FootNotes", "rowsPresent", "()I"⟩ ∈ fn_big := fn_tb (fn_l5 (List.mem_of_getElem? (i := 221) (by decide +kernel))) (by decide +kernel)
theorem wd_1183 : Cond.instanceMethod ⟨"FootNotes", "rowsPresent", "()I"⟩ ∈ fn_big := fn_tb (fn_l5 (List.mem_of_getElem? (i := 223) (by decide +kernel))) (by decide +kernel)
theorem wp_89 : Cond.selects "FootNotes" ⟨"FootNotes", "rowsPresent", "()I"⟩ ⟨"FootNotes", "rowsPresent", "()I"⟩ ∈ fn_big := fn_sel (q := (⟨"FootNotes", "rowsPresent", "()I"⟩, 13)) 89 (by decide +kernel) (by decide +kernel)
theorem dX11_count_0 : decode cX11_count 0 = .ok (.iload_n 1, 1) := by decide +kernel
theorem dX11_count_1 : decode cX11_count 1 = .ok (.tableswitch 138 0 9 #[55, 63, 71, 79, 90, 98, 106, 114, 122, 133], 55) := by decide +kernel
theorem dX11_count_139 : decode cX11_count 139 = .ok (.iconst (-1), 1) := by decide +kernel
theorem dX11_count_140 : decode cX11_count 140 = .ok (.ireturn, 1) := by decide +kernel
theorem dX11_count_56 : decode cX11_count 56 = .ok (.aload_n 0, 1) := by decide +kernel
theorem dX11_count_57 : decode cX11_count 57 = .ok (.getfield 19, 3) := by decide +kernel
theorem dX11_count_60 : decode cX11_count 60 = .ok (.getfield 364, 3) := by decide +kernel
theorem dX11_count_63 : decode cX11_count 63 = .ok (.ireturn, 1) := by decide +kernel
theorem dX11_count_64 : decode cX11_count 64 = .ok (.aload_n 0, 1) := by decide +kernel
theorem dX11_count_65 : decode cX11_count 65 = .ok (.getfield 19, 3) := by decide +kernel
theorem dX11_count_68 : decode cX11_count 68 = .ok (.getfield 218, 3) := by decide +kernel
theorem dX11_count_71 : decode cX11_count 71 = .ok (.ireturn, 1) := by decide +kernel
theorem dX11_count_72 : decode cX11_count 72 = .ok (.aload_n 0, 1) := by decide +kernel
theorem dX11_count_73 : decode cX11_count 73 = .ok (.getfield 19, 3) := by decide +kernel
theorem dX11_count_76 : decode cX11_count 76 = .ok (.getfield 192, 3) := by decide +kernel
theorem dX11_count_79 : decode cX11_count 79 = .ok (.ireturn, 1) := by decide +kernel
theorem dX11_count_80 : decode cX11_count 80 = .ok (.aload_n 0, 1) := by decide +kernel
theorem dX11_count_81 : decode cX11_count 81 = .ok (.getfield 19, 3) := by decide +kernel
theorem dX11_count_84 : decode cX11_count 84 = .ok (.getfield 145, 3) := by decide +kernel
theorem dX11_count_87 : decode cX11_count 87 = .ok (.invokestatic 248, 3) := by decide +kernel
theorem dX11_count_90 : decode cX11_count 90 = .ok (.ireturn, 1) := by decide +kernel
theorem dX11_count_91 : decode cX11_count 91 = .ok (.aload_n 0, 1) := by decide +kernel
theorem dX11_count_92 : decode cX11_count 92 = .ok (.getfield 19, 3) := by decide +kernel
theorem dX11_count_95 : decode cX11_count 95 = .ok (.getfield 440, 3) := by decide +kernel
theorem dX11_count_98 : decode cX11_count 98 = .ok (.ireturn, 1) := by decide +kernel
theorem dX11_count_99 : decode cX11_count 99 = .ok (.aload_n 0, 1) := by decide +kernel
theorem dX11_count_100 : decode cX11_count 100 = .ok (.getfield 19, 3) := by decide +kernel
theorem dX11_count_103 : decode cX11_count 103 = .ok (.getfield 434, 3) := by decide +kernel
theorem dX11_count_106 : decode cX11_count 106 = .ok (.ireturn, 1) := by decide +kernel
theorem dX11_count_107 : decode cX11_count 107 = .ok (.aload_n 0, 1) := by decide +kernel
theorem dX11_count_108 : decode cX11_count 108 = .ok (.getfield 26, 3) := by decide +kernel
theorem dX11_count_111 : decode cX11_count 111 = .ok (.getfield 199, 3) := by decide +kernel
theorem dX11_count_114 : decode cX11_count 114 = .ok (.ireturn, 1) := by decide +kernel
theorem dX11_count_115 : decode cX11_count 115 = .ok (.aload_n 0, 1) := by decide +kernel
theorem dX11_count_116 : decode cX11_count 116 = .ok (.getfield 19, 3) := by decide +kernel
theorem dX11_count_119 : decode cX11_count 119 = .ok (.getfield 120, 3) := by decide +kernel
theorem dX11_count_122 : decode cX11_count 122 = .ok (.ireturn, 1) := by decide +kernel
theorem dX11_count_123 : decode cX11_count 123 = .ok (.aload_n 0, 1) := by decide +kernel
theorem dX11_count_124 : decode cX11_count 124 = .ok (.getfield 10, 3) := by decide +kernel
theorem dX11_count_127 : decode cX11_count 127 = .ok (.getfield 87, 3) := by decide +kernel
theorem dX11_count_130 : decode cX11_count 130 = .ok (.getfield 91, 3) := by decide +kernel
theorem dX11_count_133 : decode cX11_count 133 = .ok (.ireturn, 1) := by decide +kernel
theorem dX11_count_134 : decode cX11_count 134 = .ok (.aload_n 0, 1) := by decide +kernel
theorem dX11_count_135 : decode cX11_count 135 = .ok (.invokevirtual 443, 3) := by decide +kernel
theorem dX11_count_138 : decode cX11_count 138 = .ok (.ireturn, 1) := by decide +kernel
set_option maxHeartbeats 4000000 in
set_option maxRecDepth 100000 in
theorem k_X11_count (l : Launch) (D : va_G) (K : Nat → ClassId) (t : Nat) (t_q t_1_q t_2_q t_0_q t_0_0_q t_6_r t_6_0_q t_6_1_q t_6_2_q t_6_3_q : Nat → Nat) (p1 t_1_x0 t_1_x1 t_1_x2 t_1_x3 t_1_x4 t_1_x5 t_1_x6 t_1_x7 t_1_x8 t_2_x0 t_0_x2 t_0_x3 t_0_0_x0 t_0_0_x2 t_0_0_x3 t_0_0_x4 t_6_0_x0 t_6_0_x1 t_6_0_x2 t_6_1_x0 t_6_1_x1 t_6_1_x2 t_6_2_x0 t_6_2_x1 t_6_2_x2 t_6_3_x0 t_6_3_x1 t_6_3_x2 : Int) (t_6_c : Nat → Option Nat) (hp1 : (-2147483648) ≤ p1 ∧ p1 ≤ 2147483647) (hi_t_1 : bX7 t_1_x0 t_1_x1 t_1_x2 t_1_x3 t_1_x4 t_1_x5 t_1_x6 t_1_x7 t_1_x8) (hi_t_2 : bX5 t_2_x0) (hi_t_0 : bX3 t_0_x2 t_0_x3) (hi_t_0_0 : bX6 t_0_0_x0 t_0_0_x2 t_0_0_x3 t_0_0_x4) (hr_t_6 : ∀ j : Nat, j < 4 → t_6_c j = some (t_6_r j)) (hi_t_6_0 : bX4 t_6_0_x0 t_6_0_x1 t_6_0_x2) (hi_t_6_1 : bX4 t_6_1_x0 t_6_1_x1 t_6_1_x2) (hi_t_6_2 : bX4 t_6_2_x0 t_6_2_x1 t_6_2_x2) (hi_t_6_3 : bX4 t_6_3_x0 t_6_3_x1 t_6_3_x2) : fn_CI (S := (Nat → Int) × (Nat → Nat → Int)) l D K yX11_count (fn_ws yX11_count cX11_count 2 (some .int)) ({ frames := 12, cells := 0, slots := 0, locals := 300 } : Room) [.ref t, .int (iI p1)] [(t, .inr (11, oX11 t_q)), ((t_q 1), .inr (7, oX7 t_1_q t_1_x0 t_1_x1 t_1_x2 t_1_x3 t_1_x4 t_1_x5 t_1_x6 t_1_x7 t_1_x8)), ((t_q 2), .inr (5, oX5 t_2_q t_2_x0)), ((t_q 0), .inr (3, oX3 t_0_q t_0_x2 t_0_x3)), ((t_0_q 0), .inr (6, oX6 t_0_0_q t_0_0_x0 t_0_0_x2 t_0_0_x3 t_0_0_x4)), ((t_q 6), .inl (K 6, 4, .inr (.inr (.inr (.inr t_6_c))))), ((t_6_r 0), .inr (4, oX4 t_6_0_q t_6_0_x0 t_6_0_x1 t_6_0_x2)), ((t_6_r 1), .inr (4, oX4 t_6_1_q t_6_1_x0 t_6_1_x1 t_6_1_x2)), ((t_6_r 2), .inr (4, oX4 t_6_2_q t_6_2_x0 t_6_2_x1 t_6_2_x2)), ((t_6_r 3), .inr (4, oX4 t_6_3_q t_6_3_x0 t_6_3_x1 t_6_3_x2))] (fun r u => ∃ k : Int, r = iI k ∧ ((-1) ≤ k ∧ k ≤ 1400) ∧ True) (fun u => [(t, .inr (11, oX11 t_q)), ((t_q 1), .inr (7, oX7 t_1_q t_1_x0 t_1_x1 t_1_x2 t_1_x3 t_1_x4 t_1_x5 t_1_x6 t_1_x7 t_1_x8)), ((t_q 2), .inr (5, oX5 t_2_q t_2_x0)), ((t_q 0), .inr (3, oX3 t_0_q t_0_x2 t_0_x3)), ((t_0_q 0), .inr (6, oX6 t_0_0_q t_0_0_x0 t_0_0_x2 t_0_0_x3 t_0_0_x4)), ((t_q 6), .inl (K 6, 4, .inr (.inr (.inr (.inr t_6_c))))), ((t_6_r 0), .inr (4, oX4 t_6_0_q t_6_0_x0 t_6_0_x1 t_6_0_x2)), ((t_6_r 1), .inr (4, oX4 t_6_1_q t_6_1_x0 t_6_1_x1 t_6_1_x2)), ((t_6_r 2), .inr (4, oX4 t_6_2_q t_6_2_x0 t_6_2_x1 t_6_2_x2)), ((t_6_r 3), .inr (4, oX4 t_6_3_q t_6_3_x0 t_6_3_x1 t_6_3_x2))]) 0 0 := by
  refine g_inI (cc := cX11_count) (maxL := 2) (ret := (some .int)) (by decide) rfl (Nat.le_of_ble_eq_true rfl) ?_
  intro p e s m below meth c A ls ag Q B hA hP hD hS hl hQ
  obtain ⟨hx, hb, hr, hml, hts, hown, hlocks, hin, hK⟩ := B
  have hown : s.vm.findClass RX11 = some m.cls := hown
  have hts := fun w h => hts w (List.mem_cons_of_mem _ h)
  have hl : lv_has ls 2 [(0, .ref t), (1, .int (iI p1))] := hl
  refine lv_iload_n hx hb dX11_count_0 rfl (lv_at hl 1 rfl) ?_
  rcases (show (p1 < 0 ∨ 9 < p1) ∨ p1 = 0 ∨ p1 = 1 ∨ p1 = 2 ∨ p1 = 3 ∨ p1 = 4 ∨ p1 = 5 ∨ p1 = 6 ∨ p1 = 7 ∨ p1 = 8 ∨ p1 = 9 by omega) with c1 | c1 | c1 | c1 | c1 | c1 | c1 | c1 | c1 | c1 | c1
  · refine lv_tableOut (tgt := 139) hx hb dX11_count_1 (by rw [iI_toInt (by omega)]; exact c1) (by decide) ?_
    refine lv_iconst (v := iI (-1)) hx hb dX11_count_139 rfl ?_
    rw [hQ]; exact fn_iret hx hb hr hlocks rfl hP hD hS ((fun _ => 0), (fun _ _ => 0)) ⟨(-1), rfl, by omega, trivial⟩ [0, 1, 2, 3, 4, 5, 6, 7, 8, 9] (by decide) rfl dX11_count_140
  · refine lv_tableIn (tgt := 56) (off := 55) hx hb dX11_count_1 (by rw [iI_toInt (by omega)]; omega) (by rw [iI_toInt (by omega)]; omega) (by rw [iI_toInt (by omega), c1]; decide) (by decide) ?_
    refine lv_aload_n hx hb dX11_count_56 rfl (lv_at hl 0 rfl) ?_
    refine va_get (D := D) (own := RX11) (ci := 11) (v := .ref (t_q 1)) (C := RX11) (T := TX11) (N := 13) hx hb hts inb_X11 hown hK.1 hP 0 rfl rfl 1 (by decide) (hts _ wd_423) (fun _ h9 => h9) rfl dX11_count_57 ?_
    refine va_getN (D := D) (own := RX11) (ci := 7) (v := .int (iI t_1_x3)) (C := RX7) (T := TX7) (N := 15) hx hb hts inb_X7 hown hK.1 hP 1 rfl rfl 3 (by decide) (hK.nf 18 rfl) (fun _ h9 => h9) rfl dX11_count_60 ?_
    have y60_1 : 0 ≤ t_1_x3 ∧ t_1_x3 ≤ 5 := hi_t_1.2.2.2.1
    rw [hQ]; exact fn_iret hx hb hr hlocks rfl hP hD hS ((fun _ => 0), (fun _ _ => 0)) ⟨t_1_x3, rfl, by omega, trivial⟩ [0, 1, 2, 3, 4, 5, 6, 7, 8, 9] (by decide) rfl dX11_count_63
  · refine lv_tableIn (tgt := 64) (off := 63) hx hb dX11_count_1 (by rw [iI_toInt (by omega)]; omega) (by rw [iI_toInt (by omega)]; omega) (by rw [iI_toInt (by omega), c1]; decide) (by decide) ?_
    refine lv_aload_n hx hb dX11_count_64 rfl (lv_at hl 0 rfl) ?_
    refine va_get (D := D) (own := RX11) (ci := 11) (v := .ref (t_q 1)) (C := RX11) (T := TX11) (N := 13) hx hb hts inb_X11 hown hK.1 hP 0 rfl rfl 1 (by decide) (hts _ wd_423) (fun _ h9 => h9) rfl dX11_count_65 ?_
    refine va_getN (D := D) (own := RX11) (ci := 7) (v := .int (iI t_1_x4)) (C := RX7) (T := TX7) (N := 15) hx hb hts inb_X7 hown hK.1 hP 1 rfl rfl 4 (by decide) (hK.nf 23 rfl) (fun _ h9 => h9) rfl dX11_count_68 ?_
    have y68_1 : 0 ≤ t_1_x4 ∧ t_1_x4 ≤ 12 := hi_t_1.2.2.2.2.1
    rw [hQ]; exact fn_iret hx hb hr hlocks rfl hP hD hS ((fun _ => 0), (fun _ _ => 0)) ⟨t_1_x4, rfl, by omega, trivial⟩ [0, 1, 2, 3, 4, 5, 6, 7, 8, 9] (by decide) rfl dX11_count_71
  · refine lv_tableIn (tgt := 72) (off := 71) hx hb dX11_count_1 (by rw [iI_toInt (by omega)]; omega) (by rw [iI_toInt (by omega)]; omega) (by rw [iI_toInt (by omega), c1]; decide) (by decide) ?_
    refine lv_aload_n hx hb dX11_count_72 rfl (lv_at hl 0 rfl) ?_
    refine va_get (D := D) (own := RX11) (ci := 11) (v := .ref (t_q 1)) (C := RX11) (T := TX11) (N := 13) hx hb hts inb_X11 hown hK.1 hP 0 rfl rfl 1 (by decide) (hts _ wd_423) (fun _ h9 => h9) rfl dX11_count_73 ?_
    refine va_getN (D := D) (own := RX11) (ci := 7) (v := .int (iI t_1_x5)) (C := RX7) (T := TX7) (N := 15) hx hb hts inb_X7 hown hK.1 hP 1 rfl rfl 5 (by decide) (hK.nf 29 rfl) (fun _ h9 => h9) rfl dX11_count_76 ?_
    have y76_1 : 0 ≤ t_1_x5 ∧ t_1_x5 ≤ 24 := hi_t_1.2.2.2.2.2.1
    rw [hQ]; exact fn_iret hx hb hr hlocks rfl hP hD hS ((fun _ => 0), (fun _ _ => 0)) ⟨t_1_x5, rfl, by omega, trivial⟩ [0, 1, 2, 3, 4, 5, 6, 7, 8, 9] (by decide) rfl dX11_count_79
  · refine lv_tableIn (tgt := 80) (off := 79) hx hb dX11_count_1 (by rw [iI_toInt (by omega)]; omega) (by rw [iI_toInt (by omega)]; omega) (by rw [iI_toInt (by omega), c1]; decide) (by decide) ?_
    refine lv_aload_n hx hb dX11_count_80 rfl (lv_at hl 0 rfl) ?_
    refine va_get (D := D) (own := RX11) (ci := 11) (v := .ref (t_q 1)) (C := RX11) (T := TX11) (N := 13) hx hb hts inb_X11 hown hK.1 hP 0 rfl rfl 1 (by decide) (hts _ wd_423) (fun _ h9 => h9) rfl dX11_count_81 ?_
    refine va_getN (D := D) (own := RX11) (ci := 7) (v := .int (iI t_1_x6)) (C := RX7) (T := TX7) (N := 15) hx hb hts inb_X7 hown hK.1 hP 1 rfl rfl 6 (by decide) (hK.nf 33 rfl) (fun _ h9 => h9) rfl dX11_count_84 ?_
    have y84_1 : 0 ≤ t_1_x6 ∧ t_1_x6 ≤ 4095 := hi_t_1.2.2.2.2.2.2.1
    refine fn_goi (wc := []) (wr := [(t, .inr (11, oX11 t_q)), ((t_q 1), .inr (7, oX7 t_1_q t_1_x0 t_1_x1 t_1_x2 t_1_x3 t_1_x4 t_1_x5 t_1_x6 t_1_x7 t_1_x8)), ((t_q 2), .inr (5, oX5 t_2_q t_2_x0)), ((t_q 0), .inr (3, oX3 t_0_q t_0_x2 t_0_x3)), ((t_0_q 0), .inr (6, oX6 t_0_0_q t_0_0_x0 t_0_0_x2 t_0_0_x3 t_0_0_x4)), ((t_q 6), .inl (K 6, 4, .inr (.inr (.inr (.inr t_6_c))))), ((t_6_r 0), .inr (4, oX4 t_6_0_q t_6_0_x0 t_6_0_x1 t_6_0_x2)), ((t_6_r 1), .inr (4, oX4 t_6_1_q t_6_1_x0 t_6_1_x1 t_6_1_x2)), ((t_6_r 2), .inr (4, oX4 t_6_2_q t_6_2_x0 t_6_2_x1 t_6_2_x2)), ((t_6_r 3), .inr (4, oX4 t_6_3_q t_6_3_x0 t_6_3_x1 t_6_3_x2))]) hK hP hD hS hA [] [0, 1, 2, 3, 4, 5, 6, 7, 8, 9] rfl rfl (by decide) (fun hp => va_runS (As := [.int (iI t_1_x6)]) (rest := []) ⟨hx, hb, hml, hown, hts⟩ (k_J6_bitCount_0f7a4 (l := l) (D := D) (K := K) (p1 := t_1_x6) (hp1 := (by omega)) _) (va_cwS 1 hts (fn_ginS (fn_gin wd_841) wd_862 wd_840 wd_21) rfl rfl rfl (by decide +kernel) ⟨Nat.le_of_ble_eq_true rfl, Nat.le_of_ble_eq_true rfl⟩) ⟨fn_blind, hp⟩ rfl rfl hl.1 rfl (lv_room (Nat.le_of_ble_eq_true rfl)) dX11_count_87 ⟨Nat.le_of_ble_eq_true rfl, Nat.le_of_ble_eq_true rfl⟩) (fun r87 u87 H locs hwu87 hP hD hS => ?_)
    obtain ⟨u87a, u87b⟩ := u87
    obtain ⟨kr87, rfl, hkr87, -⟩ := hwu87
    have hP : va_P D vwCl [(t, .inr (11, oX11 t_q)), ((t_q 1), .inr (7, oX7 t_1_q t_1_x0 t_1_x1 t_1_x2 t_1_x3 t_1_x4 t_1_x5 t_1_x6 t_1_x7 t_1_x8)), ((t_q 2), .inr (5, oX5 t_2_q t_2_x0)), ((t_q 0), .inr (3, oX3 t_0_q t_0_x2 t_0_x3)), ((t_0_q 0), .inr (6, oX6 t_0_0_q t_0_0_x0 t_0_0_x2 t_0_0_x3 t_0_0_x4)), ((t_q 6), .inl (K 6, 4, .inr (.inr (.inr (.inr t_6_c))))), ((t_6_r 0), .inr (4, oX4 t_6_0_q t_6_0_x0 t_6_0_x1 t_6_0_x2)), ((t_6_r 1), .inr (4, oX4 t_6_1_q t_6_1_x0 t_6_1_x1 t_6_1_x2)), ((t_6_r 2), .inr (4, oX4 t_6_2_q t_6_2_x0 t_6_2_x1 t_6_2_x2)), ((t_6_r 3), .inr (4, oX4 t_6_3_q t_6_3_x0 t_6_3_x1 t_6_3_x2))] H := hP
    have hD : va_D A [(t, .inr (11, oX11 t_q)), ((t_q 1), .inr (7, oX7 t_1_q t_1_x0 t_1_x1 t_1_x2 t_1_x3 t_1_x4 t_1_x5 t_1_x6 t_1_x7 t_1_x8)), ((t_q 2), .inr (5, oX5 t_2_q t_2_x0)), ((t_q 0), .inr (3, oX3 t_0_q t_0_x2 t_0_x3)), ((t_0_q 0), .inr (6, oX6 t_0_0_q t_0_0_x0 t_0_0_x2 t_0_0_x3 t_0_0_x4)), ((t_q 6), .inl (K 6, 4, .inr (.inr (.inr (.inr t_6_c))))), ((t_6_r 0), .inr (4, oX4 t_6_0_q t_6_0_x0 t_6_0_x1 t_6_0_x2)), ((t_6_r 1), .inr (4, oX4 t_6_1_q t_6_1_x0 t_6_1_x1 t_6_1_x2)), ((t_6_r 2), .inr (4, oX4 t_6_2_q t_6_2_x0 t_6_2_x1 t_6_2_x2)), ((t_6_r 3), .inr (4, oX4 t_6_3_q t_6_3_x0 t_6_3_x1 t_6_3_x2))] := hD
    rw [hQ]; exact fn_iret hx hb hr hlocks rfl hP hD hS ((fun _ => 0), (fun _ _ => 0)) ⟨kr87, rfl, by omega, trivial⟩ [0, 1, 2, 3, 4, 5, 6, 7, 8, 9] (by decide) rfl dX11_count_90
  · refine lv_tableIn (tgt := 91) (off := 90) hx hb dX11_count_1 (by rw [iI_toInt (by omega)]; omega) (by rw [iI_toInt (by omega)]; omega) (by rw [iI_toInt (by omega), c1]; decide) (by decide) ?_
    refine lv_aload_n hx hb dX11_count_91 rfl (lv_at hl 0 rfl) ?_
    refine va_get (D := D) (own := RX11) (ci := 11) (v := .ref (t_q 1)) (C := RX11) (T := TX11) (N := 13) hx hb hts inb_X11 hown hK.1 hP 0 rfl rfl 1 (by decide) (hts _ wd_423) (fun _ h9 => h9) rfl dX11_count_92 ?_
    refine va_getN (D := D) (own := RX11) (ci := 7) (v := .int (iI t_1_x1)) (C := RX7) (T := TX7) (N := 15) hx hb hts inb_X7 hown hK.1 hP 1 rfl rfl 1 (by decide) (hK.nf 10 rfl) (fun _ h9 => h9) rfl dX11_count_95 ?_
    have y95_1 : 0 ≤ t_1_x1 ∧ t_1_x1 ≤ 20 := hi_t_1.2.1
    rw [hQ]; exact fn_iret hx hb hr hlocks rfl hP hD hS ((fun _ => 0), (fun _ _ => 0)) ⟨t_1_x1, rfl, by omega, trivial⟩ [0, 1, 2, 3, 4, 5, 6, 7, 8, 9] (by decide) rfl dX11_count_98
  · refine lv_tableIn (tgt := 99) (off := 98) hx hb dX11_count_1 (by rw [iI_toInt (by omega)]; omega) (by rw [iI_toInt (by omega)]; omega) (by rw [iI_toInt (by omega), c1]; decide) (by decide) ?_
    refine lv_aload_n hx hb dX11_count_99 rfl (lv_at hl 0 rfl) ?_
    refine va_get (D := D) (own := RX11) (ci := 11) (v := .ref (t_q 1)) (C := RX11) (T := TX11) (N := 13) hx hb hts inb_X11 hown hK.1 hP 0 rfl rfl 1 (by decide) (hts _ wd_423) (fun _ h9 => h9) rfl dX11_count_100 ?_
    refine va_getN (D := D) (own := RX11) (ci := 7) (v := .int (iI t_1_x2)) (C := RX7) (T := TX7) (N := 15) hx hb hts inb_X7 hown hK.1 hP 1 rfl rfl 2 (by decide) (hK.nf 12 rfl) (fun _ h9 => h9) rfl dX11_count_103 ?_
    have y103_1 : 0 ≤ t_1_x2 ∧ t_1_x2 ≤ 100 := hi_t_1.2.2.1
    rw [hQ]; exact fn_iret hx hb hr hlocks rfl hP hD hS ((fun _ => 0), (fun _ _ => 0)) ⟨t_1_x2, rfl, by omega, trivial⟩ [0, 1, 2, 3, 4, 5, 6, 7, 8, 9] (by decide) rfl dX11_count_106
  · refine lv_tableIn (tgt := 107) (off := 106) hx hb dX11_count_1 (by rw [iI_toInt (by omega)]; omega) (by rw [iI_toInt (by omega)]; omega) (by rw [iI_toInt (by omega), c1]; decide) (by decide) ?_
    refine lv_aload_n hx hb dX11_count_107 rfl (lv_at hl 0 rfl) ?_
    refine va_get (D := D) (own := RX11) (ci := 11) (v := .ref (t_q 2)) (C := RX11) (T := TX11) (N := 13) hx hb hts inb_X11 hown hK.1 hP 0 rfl rfl 2 (by decide) (hts _ wd_424) (fun _ h9 => h9) rfl dX11_count_108 ?_
    refine va_getN (D := D) (own := RX11) (ci := 5) (v := .int (iI t_2_x0)) (C := RX5) (T := TX5) (N := 8) hx hb hts inb_X5 hown hK.1 hP 2 rfl rfl 0 (by decide) (hK.nf 56 rfl) (fun _ h9 => h9) rfl dX11_count_111 ?_
    have y111_1 : 0 ≤ t_2_x0 ∧ t_2_x0 ≤ 40 := hi_t_2
    rw [hQ]; exact fn_iret hx hb hr hlocks rfl hP hD hS ((fun _ => 0), (fun _ _ => 0)) ⟨t_2_x0, rfl, by omega, trivial⟩ [0, 1, 2, 3, 4, 5, 6, 7, 8, 9] (by decide) rfl dX11_count_114
  · refine lv_tableIn (tgt := 115) (off := 114) hx hb dX11_count_1 (by rw [iI_toInt (by omega)]; omega) (by rw [iI_toInt (by omega)]; omega) (by rw [iI_toInt (by omega), c1]; decide) (by decide) ?_
    refine lv_aload_n hx hb dX11_count_115 rfl (lv_at hl 0 rfl) ?_
    refine va_get (D := D) (own := RX11) (ci := 11) (v := .ref (t_q 1)) (C := RX11) (T := TX11) (N := 13) hx hb hts inb_X11 hown hK.1 hP 0 rfl rfl 1 (by decide) (hts _ wd_423) (fun _ h9 => h9) rfl dX11_count_116 ?_
    refine va_getN (D := D) (own := RX11) (ci := 7) (v := .int (iI t_1_x0)) (C := RX7) (T := TX7) (N := 15) hx hb hts inb_X7 hown hK.1 hP 1 rfl rfl 0 (by decide) (hK.nf 7 rfl) (fun _ h9 => h9) rfl dX11_count_119 ?_
    have y119_1 : 0 ≤ t_1_x0 ∧ t_1_x0 ≤ 1400 := hi_t_1.1
    rw [hQ]; exact fn_iret hx hb hr hlocks rfl hP hD hS ((fun _ => 0), (fun _ _ => 0)) ⟨t_1_x0, rfl, by omega, trivial⟩ [0, 1, 2, 3, 4, 5, 6, 7, 8, 9] (by decide) rfl dX11_count_122
  · refine lv_tableIn (tgt := 123) (off := 122) hx hb dX11_count_1 (by rw [iI_toInt (by omega)]; omega) (by rw [iI_toInt (by omega)]; omega) (by rw [iI_toInt (by omega), c1]; decide) (by decide) ?_
    refine lv_aload_n hx hb dX11_count_123 rfl (lv_at hl 0 rfl) ?_
    refine va_get (D := D) (own := RX11) (ci := 11) (v := .ref (t_q 0)) (C := RX11) (T := TX11) (N := 13) hx hb hts inb_X11 hown hK.1 hP 0 rfl rfl 0 (by decide) (hts _ wd_422) (fun _ h9 => h9) rfl dX11_count_124 ?_
    refine va_getN (D := D) (own := RX11) (ci := 3) (v := .ref (t_0_q 0)) (C := RX3) (T := TX3) (N := 4) hx hb hts inb_X3 hown hK.1 hP 3 rfl rfl 0 (by decide) (hK.nf 50 rfl) (fun _ h9 => h9) rfl dX11_count_127 ?_
    refine va_getN (D := D) (own := RX11) (ci := 6) (v := .int (iI t_0_0_x0)) (C := RX6) (T := TX6) (N := 5) hx hb hts inb_X6 hown hK.1 hP 4 rfl rfl 0 (by decide) (hK.nf 2 rfl) (fun _ h9 => h9) rfl dX11_count_130 ?_
    have y130_1 : 0 ≤ t_0_0_x0 ∧ t_0_0_x0 ≤ 1400 := hi_t_0_0.1
    rw [hQ]; exact fn_iret hx hb hr hlocks rfl hP hD hS ((fun _ => 0), (fun _ _ => 0)) ⟨t_0_0_x0, rfl, by omega, trivial⟩ [0, 1, 2, 3, 4, 5, 6, 7, 8, 9] (by decide) rfl dX11_count_133
  · refine lv_tableIn (tgt := 134) (off := 133) hx hb dX11_count_1 (by rw [iI_toInt (by omega)]; omega) (by rw [iI_toInt (by omega)]; omega) (by rw [iI_toInt (by omega), c1]; decide) (by decide) ?_
    refine lv_aload_n hx hb dX11_count_134 rfl (lv_at hl 0 rfl) ?_
    refine fn_goi (wc := [(t, .inr (11, oX11 t_q)), ((t_q 6), .inl (K 6, 4, .inr (.inr (.inr (.inr t_6_c))))), ((t_6_r 0), .inr (4, oX4 t_6_0_q t_6_0_x0 t_6_0_x1 t_6_0_x2)), ((t_6_r 1), .inr (4, oX4 t_6_1_q t_6_1_x0 t_6_1_x1 t_6_1_x2)), ((t_6_r 2), .inr (4, oX4 t_6_2_q t_6_2_x0 t_6_2_x1 t_6_2_x2)), ((t_6_r 3), .inr (4, oX4 t_6_3_q t_6_3_x0 t_6_3_x1 t_6_3_x2))]) (wr := [((t_q 1), .inr (7, oX7 t_1_q t_1_x0 t_1_x1 t_1_x2 t_1_x3 t_1_x4 t_1_x5 t_1_x6 t_1_x7 t_1_x8)), ((t_q 2), .inr (5, oX5 t_2_q t_2_x0)), ((t_q 0), .inr (3, oX3 t_0_q t_0_x2 t_0_x3)), ((t_0_q 0), .inr (6, oX6 t_0_0_q t_0_0_x0 t_0_0_x2 t_0_0_x3 t_0_0_x4))]) hK hP hD hS hA [0, 5, 6, 7, 8, 9] [1, 2, 3, 4] rfl rfl (by decide) (fun hp => va_runV (C := RX11) (As := []) (rest := []) ⟨hx, hb, hml, hown, hts⟩ (k_X11_rowsPresent (l := l) (D := D) (K := K) (t := t) (t_q := t_q) (t_6_c := t_6_c) (t_6_r := t_6_r) (t_6_0_q := t_6_0_q) (t_6_0_x0 := t_6_0_x0) (t_6_0_x1 := t_6_0_x1) (t_6_0_x2 := t_6_0_x2) (t_6_1_q := t_6_1_q) (t_6_1_x0 := t_6_1_x0) (t_6_1_x1 := t_6_1_x1) (t_6_1_x2 := t_6_1_x2) (t_6_2_q := t_6_2_q) (t_6_2_x0 := t_6_2_x0) (t_6_2_x1 := t_6_2_x1) (t_6_2_x2 := t_6_2_x2) (t_6_3_q := t_6_3_q) (t_6_3_x0 := t_6_3_x0) (t_6_3_x1 := t_6_3_x1) (t_6_3_x2 := t_6_3_x2) (hr_t_6 := hr_t_6) (hi_t_6_0 := hi_t_6_0) (hi_t_6_1 := hi_t_6_1) (hi_t_6_2 := hi_t_6_2) (hi_t_6_3 := hi_t_6_3) _) (cwV 0 hts (fn_ginV (fn_gin wd_1184) wd_1181 wd_1183 wp_89 wd_1) rfl rfl rfl (by decide +kernel) ⟨Nat.le_of_ble_eq_true rfl, Nat.le_of_ble_eq_true rfl⟩) ⟨fn_blind, va_recv hK.1 hP (ci := 11) (q0 := 0) rfl rfl, hp⟩ rfl rfl hl.1 rfl (lv_room (Nat.le_of_ble_eq_true rfl)) dX11_count_135 ⟨Nat.le_of_ble_eq_true rfl, Nat.le_of_ble_eq_true rfl⟩) (fun r135 u135 H locs hwu135 hP hD hS => ?_)
    obtain ⟨u135a, u135b⟩ := u135
    obtain ⟨kr135, rfl, hkr135, -⟩ := hwu135
    have hP : va_P D vwCl [((t_q 1), .inr (7, oX7 t_1_q t_1_x0 t_1_x1 t_1_x2 t_1_x3 t_1_x4 t_1_x5 t_1_x6 t_1_x7 t_1_x8)), ((t_q 2), .inr (5, oX5 t_2_q t_2_x0)), ((t_q 0), .inr (3, oX3 t_0_q t_0_x2 t_0_x3)), ((t_0_q 0), .inr (6, oX6 t_0_0_q t_0_0_x0 t_0_0_x2 t_0_0_x3 t_0_0_x4)), (t, .inr (11, oX11 t_q)), ((t_q 6), .inl (K 6, 4, .inr (.inr (.inr (.inr t_6_c))))), ((t_6_r 0), .inr (4, oX4 t_6_0_q t_6_0_x0 t_6_0_x1 t_6_0_x2)), ((t_6_r 1), .inr (4, oX4 t_6_1_q t_6_1_x0 t_6_1_x1 t_6_1_x2)), ((t_6_r 2), .inr (4, oX4 t_6_2_q t_6_2_x0 t_6_2_x1 t_6_2_x2)), ((t_6_r 3), .inr (4, oX4 t_6_3_q t_6_3_x0 t_6_3_x1 t_6_3_x2))] H := hP
    have hD : va_D A [((t_q 1), .inr (7, oX7 t_1_q t_1_x0 t_1_x1 t_1_x2 t_1_x3 t_1_x4 t_1_x5 t_1_x6 t_1_x7 t_1_x8)), ((t_q 2), .inr (5, oX5 t_2_q t_2_x0)), ((t_q 0), .inr (3, oX3 t_0_q t_0_x2 t_0_x3)), ((t_0_q 0), .inr (6, oX6 t_0_0_q t_0_0_x0 t_0_0_x2 t_0_0_x3 t_0_0_x4)), (t, .inr (11, oX11 t_q)), ((t_q 6), .inl (K 6, 4, .inr (.inr (.inr (.inr t_6_c))))), ((t_6_r 0), .inr (4, oX4 t_6_0_q t_6_0_x0 t_6_0_x1 t_6_0_x2)), ((t_6_r 1), .inr (4, oX4 t_6_1_q t_6_1_x0 t_6_1_x1 t_6_1_x2)), ((t_6_r 2), .inr (4, oX4 t_6_2_q t_6_2_x0 t_6_2_x1 t_6_2_x2)), ((t_6_r 3), .inr (4, oX4 t_6_3_q t_6_3_x0 t_6_3_x1 t_6_3_x2))] := hD
    rw [hQ]; exact fn_iret hx hb hr hlocks rfl hP hD hS ((fun _ => 0), (fun _ _ => 0)) ⟨kr135, rfl, by omega, trivial⟩ [4, 0, 1, 2, 3, 5, 6, 7, 8, 9] (by decide) rfl dX11_count_138
theorem dX11_noImage_0 : decode cX11_noImage 0 = .ok (.iload_n 0, 1) := by decide +kernel
theorem dX11_noImage_1 : decode cX11_noImage 1 = .ok (.ifCond .lt 8, 3) := by decide +kernel
theorem dX11_noImage_9 : decode cX11_noImage 9 = .ok (.iconst 1, 1) := by decide +kernel
theorem dX11_noImage_10 : decode cX11_noImage 10 = .ok (.goto 4, 3) := by decide +kernel
theorem dX11_noImage_14 : decode cX11_noImage 14 = .ok (.ireturn, 1) := by decide +kernel
theorem dX11_noImage_4 : decode cX11_noImage 4 = .ok (.iload_n 0, 1) := by decide +kernel
theorem dX11_noImage_5 : decode cX11_noImage 5 = .ok (.iconst 3, 1) := by decide +kernel
theorem dX11_noImage_6 : decode cX11_noImage 6 = .ok (.if_icmp .lt 7, 3) := by decide +kernel
theorem dX11_noImage_13 : decode cX11_noImage 13 = .ok (.iconst 0, 1) := by decide +kernel
set_option maxHeartbeats 4000000 in
set_option maxRecDepth 100000 in
theorem k_X11_noImage (l : Launch) (D : va_G) (K : Nat → ClassId) (p1 : Int) (hp1 : (-2147483648) ≤ p1 ∧ p1 ≤ 2147483647) : fn_CI (S := (Nat → Int) × (Nat → Nat → Int)) l D K yX11_noImage (fn_ws yX11_noImage cX11_noImage 1 (some .boolean)) ({ frames := 4, cells := 0, slots := 0, locals := 100 } : Room) [.int (iI p1)] [] (fun r u => ∃ k : Int, r = iI k ∧ (0 ≤ k ∧ k ≤ 1) ∧ ((k = 0 → 0 ≤ p1 ∧ p1 ≤ 2) ∧ (k = 1 → p1 < 0 ∨ 2 < p1)) ∧ True) (fun u => []) 0 0 := by
  refine g_inI (cc := cX11_noImage) (maxL := 1) (ret := (some .boolean)) (by decide) rfl (Nat.le_of_ble_eq_true rfl) ?_
  intro p e s m below meth c A ls ag Q B hA hP hD hS hl hQ
  obtain ⟨hx, hb, hr, hml, hts, hown, hlocks, hin, hK⟩ := B
  have hown : s.vm.findClass RX11 = some m.cls := hown
  have hts := fun w h => hts w (List.mem_cons_of_mem _ h)
  have hl : lv_has ls 1 [(0, .int (iI p1))] := hl
  refine lv_iload_n hx hb dX11_noImage_0 rfl (lv_at hl 0 rfl) ?_
  refine g_if_lt (tgt := 9) hx hb (by omega) dX11_noImage_1 (by decide) (fun c1 => ?_) (fun c1 => ?_)
  · refine lv_iconst (v := iI 1) hx hb dX11_noImage_9 rfl ?_
    refine lv_goto (tgt := 14) hx hb dX11_noImage_10 (by decide) ?_
    rw [hQ]; exact fn_iret hx hb hr hlocks (iI_nz (by omega)) hP hD hS ((fun _ => 0), (fun _ _ => 0)) ⟨1, rfl, by omega, (by show ((1 : Int) = 0 → 0 ≤ p1 ∧ p1 ≤ 2) ∧ ((1 : Int) = 1 → p1 < 0 ∨ 2 < p1); omega), trivial⟩ [] (by decide) rfl dX11_noImage_14
  · refine lv_iload_n hx hb dX11_noImage_4 rfl (lv_at hl 0 rfl) ?_
    refine lv_iconst (v := iI 3) hx hb dX11_noImage_5 rfl ?_
    refine g_icmp_lt (tgt := 13) hx hb (by omega) (by omega) dX11_noImage_6 (by decide) (fun c6 => ?_) (fun c6 => ?_)
    · refine lv_iconst (v := iI 0) hx hb dX11_noImage_13 rfl ?_
      rw [hQ]; exact fn_iret hx hb hr hlocks (iI_nz (by omega)) hP hD hS ((fun _ => 0), (fun _ _ => 0)) ⟨0, rfl, by omega, (by show ((0 : Int) = 0 → 0 ≤ p1 ∧ p1 ≤ 2) ∧ ((0 : Int) = 1 → p1 < 0 ∨ 2 < p1); omega), trivial⟩ [] (by decide) rfl dX11_noImage_14
    · refine lv_iconst (v := iI 1) hx hb dX11_noImage_9 rfl ?_
      refine lv_goto (tgt := 14) hx hb dX11_noImage_10 (by decide) ?_
      rw [hQ]; exact fn_iret hx hb hr hlocks (iI_nz (by omega)) hP hD hS ((fun _ => 0), (fun _ _ => 0)) ⟨1, rfl, by omega, (by show ((1 : Int) = 0 → 0 ≤ p1 ∧ p1 ≤ 2) ∧ ((1 : Int) = 1 → p1 < 0 ∨ 2 < p1); omega), trivial⟩ [] (by decide) rfl dX11_noImage_14
theorem wd_1191 : Cond.code ⟨"FootNotes", "noImage", "(I)Z"⟩ prog_1_method_77_code 1 (Option.some Jvm.ClassFile.FieldType.boolean) ∈ fn_big := fn_tb (fn_l5 (List.mem_of_getElem? (i := 231) (by decide +kernel))) (by decide +kernel)
theorem wd_1189 : Cond.methodLink "FootNotes" 446 ⟨"FootNotes", "noImage", "(I)Z"⟩ ∈ fn_big := fn_tb (fn_l5 (List.mem_of_getElem? (i := 229) (by decide +kernel))) (by decide +kernel)
theorem wd_1190 : Cond.static ⟨"FootNotes", "noImage", "(I)Z"⟩ ∈ fn_big := fn_tb (fn_l5 (List.mem_of_getElem? (i := 230) (by decide +kernel))) (by decide +kernel)
theorem dX11_image_0 : decode cX11_image 0 = .ok (.iload_n 1, 1) := by decide +kernel
theorem dX11_image_1 : decode cX11_image 1 = .ok (.invokestatic 446, 3) := by decide +kernel
theorem dX11_image_4 : decode cX11_image 4 = .ok (.ifCond .eq 6, 3) := by decide +kernel
theorem dX11_image_7 : decode cX11_image 7 = .ok (.bipush (-2), 2) := by decide +kernel
theorem dX11_image_9 : decode cX11_image 9 = .ok (.ireturn, 1) := by decide +kernel
set_option maxHeartbeats 4000000 in
set_option maxRecDepth 100000 in
theorem k_X11_image_o (l : Launch) (D : va_G) (K : Nat → ClassId) (t : Nat) (p1 : Int) (hp1 : (-2147483648) ≤ p1 ∧ p1 ≤ 2147483647) (po : p1 < 0 ∨ 2 < p1) : fn_CI (S := (Nat → Int) × (Nat → Nat → Int)) l D K yX11_image (fn_ws yX11_image cX11_image 2 (some .int)) ({ frames := 12, cells := 0, slots := 0, locals := 300 } : Room) [.ref t, .int (iI p1)] [] (fun r u => ∃ k : Int, r = iI k ∧ ((-2) ≤ k ∧ k ≤ (-2)) ∧ True) (fun u => []) 0 0 := by
  refine g_inI (cc := cX11_image) (maxL := 2) (ret := (some .int)) (by decide) rfl (Nat.le_of_ble_eq_true rfl) ?_
  intro p e s m below meth c A ls ag Q B hA hP hD hS hl hQ
  obtain ⟨hx, hb, hr, hml, hts, hown, hlocks, hin, hK⟩ := B
  have hown : s.vm.findClass RX11 = some m.cls := hown
  have hts := fun w h => hts w (List.mem_cons_of_mem _ h)
  have hl : lv_has ls 2 [(0, .ref t), (1, .int (iI p1))] := hl
  refine lv_iload_n hx hb dX11_image_0 rfl (lv_at hl 1 rfl) ?_
  refine fn_goi (wc := []) (wr := []) hK hP hD hS hA [] [] rfl rfl (by decide) (fun hp => va_runS (As := [.int (iI p1)]) (rest := []) ⟨hx, hb, hml, hown, hts⟩ (k_X11_noImage (l := l) (D := D) (K := K) (p1 := p1) (hp1 := (by omega)) _) (va_cwS 1 hts (fn_ginS (fn_gin wd_1191) wd_1189 wd_1190 wd_1) rfl rfl rfl (by decide +kernel) ⟨Nat.le_of_ble_eq_true rfl, Nat.le_of_ble_eq_true rfl⟩) ⟨fn_blind, hp⟩ rfl rfl hl.1 rfl (lv_room (Nat.le_of_ble_eq_true rfl)) dX11_image_1 ⟨Nat.le_of_ble_eq_true rfl, Nat.le_of_ble_eq_true rfl⟩) (fun r1 u1 H locs hwu1 hP hD hS => ?_)
  obtain ⟨u1a, u1b⟩ := u1
  obtain ⟨kr1, rfl, hkr1, hqu10, -⟩ := hwu1
  have hqu1 : (kr1 = 0 → 0 ≤ p1 ∧ p1 ≤ 2) ∧ (kr1 = 1 → p1 < 0 ∨ 2 < p1) := hqu10
  clear hqu10
  have hP : va_P D vwCl [] H := hP
  have hD : va_D A [] := hD
  refine g_if_eq (tgt := 10) hx hb (by omega) dX11_image_4 (by decide) (fun c4 => ?_) (fun c4 => ?_)
  · exfalso; omega
  · refine lv_bipush (v := iI (-2)) hx hb dX11_image_7 (by decide) ?_
    rw [hQ]; exact fn_iret hx hb hr hlocks rfl hP hD hS ((fun _ => 0), (fun _ _ => 0)) ⟨(-2), rfl, by omega, trivial⟩ [] (by decide) rfl dX11_image_9
theorem dX11_back_0 : decode cX11_back 0 = .ok (.iload_n 1, 1) := by decide +kernel
theorem dX11_back_1 : decode cX11_back 1 = .ok (.invokestatic 446, 3) := by decide +kernel
theorem dX11_back_4 : decode cX11_back 4 = .ok (.ifCond .eq 6, 3) := by decide +kernel
theorem dX11_back_7 : decode cX11_back 7 = .ok (.bipush (-2), 2) := by decide +kernel
theorem dX11_back_9 : decode cX11_back 9 = .ok (.ireturn, 1) := by decide +kernel
set_option maxHeartbeats 4000000 in
set_option maxRecDepth 100000 in
theorem k_X11_back_o (l : Launch) (D : va_G) (K : Nat → ClassId) (t : Nat) (p1 : Int) (hp1 : (-2147483648) ≤ p1 ∧ p1 ≤ 2147483647) (po : p1 < 0 ∨ 2 < p1) : fn_CI (S := (Nat → Int) × (Nat → Nat → Int)) l D K yX11_back (fn_ws yX11_back cX11_back 2 (some .int)) ({ frames := 20, cells := 0, slots := 0, locals := 500 } : Room) [.ref t, .int (iI p1)] [] (fun r u => ∃ k : Int, r = iI k ∧ ((-2) ≤ k ∧ k ≤ (-2)) ∧ True) (fun u => []) 0 0 := by
  refine g_inI (cc := cX11_back) (maxL := 2) (ret := (some .int)) (by decide) rfl (Nat.le_of_ble_eq_true rfl) ?_
  intro p e s m below meth c A ls ag Q B hA hP hD hS hl hQ
  obtain ⟨hx, hb, hr, hml, hts, hown, hlocks, hin, hK⟩ := B
  have hown : s.vm.findClass RX11 = some m.cls := hown
  have hts := fun w h => hts w (List.mem_cons_of_mem _ h)
  have hl : lv_has ls 2 [(0, .ref t), (1, .int (iI p1))] := hl
  refine lv_iload_n hx hb dX11_back_0 rfl (lv_at hl 1 rfl) ?_
  refine fn_goi (wc := []) (wr := []) hK hP hD hS hA [] [] rfl rfl (by decide) (fun hp => va_runS (As := [.int (iI p1)]) (rest := []) ⟨hx, hb, hml, hown, hts⟩ (k_X11_noImage (l := l) (D := D) (K := K) (p1 := p1) (hp1 := (by omega)) _) (va_cwS 1 hts (fn_ginS (fn_gin wd_1191) wd_1189 wd_1190 wd_1) rfl rfl rfl (by decide +kernel) ⟨Nat.le_of_ble_eq_true rfl, Nat.le_of_ble_eq_true rfl⟩) ⟨fn_blind, hp⟩ rfl rfl hl.1 rfl (lv_room (Nat.le_of_ble_eq_true rfl)) dX11_back_1 ⟨Nat.le_of_ble_eq_true rfl, Nat.le_of_ble_eq_true rfl⟩) (fun r1 u1 H locs hwu1 hP hD hS => ?_)
  obtain ⟨u1a, u1b⟩ := u1
  obtain ⟨kr1, rfl, hkr1, hqu10, -⟩ := hwu1
  have hqu1 : (kr1 = 0 → 0 ≤ p1 ∧ p1 ≤ 2) ∧ (kr1 = 1 → p1 < 0 ∨ 2 < p1) := hqu10
  clear hqu10
  have hP : va_P D vwCl [] H := hP
  have hD : va_D A [] := hD
  refine g_if_eq (tgt := 10) hx hb (by omega) dX11_back_4 (by decide) (fun c4 => ?_) (fun c4 => ?_)
  · exfalso; omega
  · refine lv_bipush (v := iI (-2)) hx hb dX11_back_7 (by decide) ?_
    rw [hQ]; exact fn_iret hx hb hr hlocks rfl hP hD hS ((fun _ => 0), (fun _ _ => 0)) ⟨(-2), rfl, by omega, trivial⟩ [] (by decide) rfl dX11_back_9
theorem dX11_row_0 : decode cX11_row 0 = .ok (.iload_n 1, 1) := by decide +kernel
theorem dX11_row_1 : decode cX11_row 1 = .ok (.invokestatic 337, 3) := by decide +kernel
theorem dX11_row_4 : decode cX11_row 4 = .ok (.ifCond .ne 18, 3) := by decide +kernel
theorem dX11_row_22 : decode cX11_row 22 = .ok (.bipush (-2), 2) := by decide +kernel
theorem dX11_row_24 : decode cX11_row 24 = .ok (.ireturn, 1) := by decide +kernel
set_option maxHeartbeats 4000000 in
set_option maxRecDepth 100000 in
theorem k_X11_row_o (l : Launch) (D : va_G) (K : Nat → ClassId) (t : Nat) (p1 p2 p3 : Int) (hp1 : (-2147483648) ≤ p1 ∧ p1 ≤ 2147483647) (hp2 : (-2147483648) ≤ p2 ∧ p2 ≤ 2147483647) (hp3 : (-2147483648) ≤ p3 ∧ p3 ≤ 2147483647) (po : p1 < 0 ∨ 3 < p1) : fn_CI (S := (Nat → Int) × (Nat → Nat → Int)) l D K yX11_row (fn_ws yX11_row cX11_row 4 (some .int)) ({ frames := 8, cells := 0, slots := 0, locals := 200 } : Room) [.ref t, .int (iI p1), .int (iI p2), .int (iI p3)] [] (fun r u => ∃ k : Int, r = iI k ∧ ((-2) ≤ k ∧ k ≤ (-2)) ∧ True) (fun u => []) 0 0 := by
  refine g_inI (cc := cX11_row) (maxL := 4) (ret := (some .int)) (by decide) rfl (Nat.le_of_ble_eq_true rfl) ?_
  intro p e s m below meth c A ls ag Q B hA hP hD hS hl hQ
  obtain ⟨hx, hb, hr, hml, hts, hown, hlocks, hin, hK⟩ := B
  have hown : s.vm.findClass RX11 = some m.cls := hown
  have hts := fun w h => hts w (List.mem_cons_of_mem _ h)
  have hl : lv_has ls 4 [(0, .ref t), (1, .int (iI p1)), (2, .int (iI p2)), (3, .int (iI p3))] := hl
  refine lv_iload_n hx hb dX11_row_0 rfl (lv_at hl 1 rfl) ?_
  refine fn_goi (wc := []) (wr := []) hK hP hD hS hA [] [] rfl rfl (by decide) (fun hp => va_runS (As := [.int (iI p1)]) (rest := []) ⟨hx, hb, hml, hown, hts⟩ (k_X11_noSlot (l := l) (D := D) (K := K) (p1 := p1) (hp1 := (by omega)) _) (va_cwS 1 hts (fn_ginS (fn_gin wd_963) wd_961 wd_962 wd_1) rfl rfl rfl (by decide +kernel) ⟨Nat.le_of_ble_eq_true rfl, Nat.le_of_ble_eq_true rfl⟩) ⟨fn_blind, hp⟩ rfl rfl hl.1 rfl (lv_room (Nat.le_of_ble_eq_true rfl)) dX11_row_1 ⟨Nat.le_of_ble_eq_true rfl, Nat.le_of_ble_eq_true rfl⟩) (fun r1 u1 H locs hwu1 hP hD hS => ?_)
  obtain ⟨u1a, u1b⟩ := u1
  obtain ⟨kr1, rfl, hkr1, hqu10, -⟩ := hwu1
  have hqu1 : (kr1 = 0 → 0 ≤ p1 ∧ p1 ≤ 3) ∧ (kr1 = 1 → p1 < 0 ∨ 3 < p1) := hqu10
  clear hqu10
  have hP : va_P D vwCl [] H := hP
  have hD : va_D A [] := hD
  refine g_if_ne (tgt := 22) hx hb (by omega) dX11_row_4 (by decide) (fun c4 => ?_) (fun c4 => ?_)
  · refine lv_bipush (v := iI (-2)) hx hb dX11_row_22 (by decide) ?_
    rw [hQ]; exact fn_iret hx hb hr hlocks rfl hP hD hS ((fun _ => 0), (fun _ _ => 0)) ⟨(-2), rfl, by omega, trivial⟩ [] (by decide) rfl dX11_row_24
  · exfalso; omega
theorem dX11_write_0 : decode cX11_write 0 = .ok (.iload_n 1, 1) := by decide +kernel
theorem dX11_write_1 : decode cX11_write 1 = .ok (.invokestatic 337, 3) := by decide +kernel
theorem dX11_write_4 : decode cX11_write 4 = .ok (.ifCond .eq 6, 3) := by decide +kernel
theorem dX11_write_7 : decode cX11_write 7 = .ok (.bipush (-2), 2) := by decide +kernel
theorem dX11_write_9 : decode cX11_write 9 = .ok (.ireturn, 1) := by decide +kernel
set_option maxHeartbeats 4000000 in
set_option maxRecDepth 100000 in
theorem k_X11_write_o (l : Launch) (D : va_G) (K : Nat → ClassId) (t : Nat) (p1 p2 p3 : Int) (hp1 : (-2147483648) ≤ p1 ∧ p1 ≤ 2147483647) (hp2 : (-2147483648) ≤ p2 ∧ p2 ≤ 2147483647) (hp3 : (-9223372036854775808) ≤ p3 ∧ p3 ≤ 9223372036854775807) (po : p1 < 0 ∨ 3 < p1) : fn_CI (S := (Nat → Int) × (Nat → Nat → Int)) l D K yX11_write (fn_ws yX11_write cX11_write 6 (some .int)) ({ frames := 8, cells := 0, slots := 0, locals := 200 } : Room) [.ref t, .int (iI p1), .int (iI p2), .long (lI p3)] [] (fun r u => ∃ k : Int, r = iI k ∧ ((-2) ≤ k ∧ k ≤ (-2)) ∧ True) (fun u => []) 0 0 := by
  refine g_inI (cc := cX11_write) (maxL := 6) (ret := (some .int)) (by decide) rfl (Nat.le_of_ble_eq_true rfl) ?_
  intro p e s m below meth c A ls ag Q B hA hP hD hS hl hQ
  obtain ⟨hx, hb, hr, hml, hts, hown, hlocks, hin, hK⟩ := B
  have hown : s.vm.findClass RX11 = some m.cls := hown
  have hts := fun w h => hts w (List.mem_cons_of_mem _ h)
  have hl : lv_has ls 6 [(0, .ref t), (1, .int (iI p1)), (2, .int (iI p2)), (3, .long (lI p3))] := hl
  refine lv_iload_n hx hb dX11_write_0 rfl (lv_at hl 1 rfl) ?_
  refine fn_goi (wc := []) (wr := []) hK hP hD hS hA [] [] rfl rfl (by decide) (fun hp => va_runS (As := [.int (iI p1)]) (rest := []) ⟨hx, hb, hml, hown, hts⟩ (k_X11_noSlot (l := l) (D := D) (K := K) (p1 := p1) (hp1 := (by omega)) _) (va_cwS 1 hts (fn_ginS (fn_gin wd_963) wd_961 wd_962 wd_1) rfl rfl rfl (by decide +kernel) ⟨Nat.le_of_ble_eq_true rfl, Nat.le_of_ble_eq_true rfl⟩) ⟨fn_blind, hp⟩ rfl rfl hl.1 rfl (lv_room (Nat.le_of_ble_eq_true rfl)) dX11_write_1 ⟨Nat.le_of_ble_eq_true rfl, Nat.le_of_ble_eq_true rfl⟩) (fun r1 u1 H locs hwu1 hP hD hS => ?_)
  obtain ⟨u1a, u1b⟩ := u1
  obtain ⟨kr1, rfl, hkr1, hqu10, -⟩ := hwu1
  have hqu1 : (kr1 = 0 → 0 ≤ p1 ∧ p1 ≤ 3) ∧ (kr1 = 1 → p1 < 0 ∨ 3 < p1) := hqu10
  clear hqu10
  have hP : va_P D vwCl [] H := hP
  have hD : va_D A [] := hD
  refine g_if_eq (tgt := 10) hx hb (by omega) dX11_write_4 (by decide) (fun c4 => ?_) (fun c4 => ?_)
  · exfalso; omega
  · refine lv_bipush (v := iI (-2)) hx hb dX11_write_7 (by decide) ?_
    rw [hQ]; exact fn_iret hx hb hr hlocks rfl hP hD hS ((fun _ => 0), (fun _ _ => 0)) ⟨(-2), rfl, by omega, trivial⟩ [] (by decide) rfl dX11_write_9
theorem dX11_paste_0 : decode cX11_paste 0 = .ok (.iload_n 1, 1) := by decide +kernel
theorem dX11_paste_1 : decode cX11_paste 1 = .ok (.invokestatic 337, 3) := by decide +kernel
theorem dX11_paste_4 : decode cX11_paste 4 = .ok (.ifCond .ne 10, 3) := by decide +kernel
theorem dX11_paste_14 : decode cX11_paste 14 = .ok (.bipush (-2), 2) := by decide +kernel
theorem dX11_paste_16 : decode cX11_paste 16 = .ok (.ireturn, 1) := by decide +kernel
theorem dX11_paste_7 : decode cX11_paste 7 = .ok (.iload_n 3, 1) := by decide +kernel
theorem dX11_paste_8 : decode cX11_paste 8 = .ok (.invokestatic 337, 3) := by decide +kernel
theorem dX11_paste_11 : decode cX11_paste 11 = .ok (.ifCond .eq 6, 3) := by decide +kernel
set_option maxHeartbeats 4000000 in
set_option maxRecDepth 100000 in
theorem k_X11_paste_o (l : Launch) (D : va_G) (K : Nat → ClassId) (t : Nat) (p1 p2 p3 p4 p5 : Int) (hp1 : (-2147483648) ≤ p1 ∧ p1 ≤ 2147483647) (hp2 : (-2147483648) ≤ p2 ∧ p2 ≤ 2147483647) (hp3 : (-2147483648) ≤ p3 ∧ p3 ≤ 2147483647) (hp4 : (-2147483648) ≤ p4 ∧ p4 ≤ 2147483647) (hp5 : (-2147483648) ≤ p5 ∧ p5 ≤ 2147483647) (po : (p1 < 0 ∨ 3 < p1) ∨ p3 < 0 ∨ 3 < p3) : fn_CI (S := (Nat → Int) × (Nat → Nat → Int)) l D K yX11_paste (fn_ws yX11_paste cX11_paste 8 (some .int)) ({ frames := 8, cells := 0, slots := 0, locals := 200 } : Room) [.ref t, .int (iI p1), .int (iI p2), .int (iI p3), .int (iI p4), .int (iI p5)] [] (fun r u => ∃ k : Int, r = iI k ∧ ((-2) ≤ k ∧ k ≤ (-2)) ∧ True) (fun u => []) 0 0 := by
  refine g_inI (cc := cX11_paste) (maxL := 8) (ret := (some .int)) (by decide) rfl (Nat.le_of_ble_eq_true rfl) ?_
  intro p e s m below meth c A ls ag Q B hA hP hD hS hl hQ
  obtain ⟨hx, hb, hr, hml, hts, hown, hlocks, hin, hK⟩ := B
  have hown : s.vm.findClass RX11 = some m.cls := hown
  have hts := fun w h => hts w (List.mem_cons_of_mem _ h)
  have hl : lv_has ls 8 [(0, .ref t), (1, .int (iI p1)), (2, .int (iI p2)), (3, .int (iI p3)), (4, .int (iI p4)), (5, .int (iI p5))] := hl
  refine lv_iload_n hx hb dX11_paste_0 rfl (lv_at hl 1 rfl) ?_
  refine fn_goi (wc := []) (wr := []) hK hP hD hS hA [] [] rfl rfl (by decide) (fun hp => va_runS (As := [.int (iI p1)]) (rest := []) ⟨hx, hb, hml, hown, hts⟩ (k_X11_noSlot (l := l) (D := D) (K := K) (p1 := p1) (hp1 := (by omega)) _) (va_cwS 1 hts (fn_ginS (fn_gin wd_963) wd_961 wd_962 wd_1) rfl rfl rfl (by decide +kernel) ⟨Nat.le_of_ble_eq_true rfl, Nat.le_of_ble_eq_true rfl⟩) ⟨fn_blind, hp⟩ rfl rfl hl.1 rfl (lv_room (Nat.le_of_ble_eq_true rfl)) dX11_paste_1 ⟨Nat.le_of_ble_eq_true rfl, Nat.le_of_ble_eq_true rfl⟩) (fun r1 u1 H locs hwu1 hP hD hS => ?_)
  obtain ⟨u1a, u1b⟩ := u1
  obtain ⟨kr1, rfl, hkr1, hqu10, -⟩ := hwu1
  have hqu1 : (kr1 = 0 → 0 ≤ p1 ∧ p1 ≤ 3) ∧ (kr1 = 1 → p1 < 0 ∨ 3 < p1) := hqu10
  clear hqu10
  have hP : va_P D vwCl [] H := hP
  have hD : va_D A [] := hD
  refine g_if_ne (tgt := 14) hx hb (by omega) dX11_paste_4 (by decide) (fun c4 => ?_) (fun c4 => ?_)
  · refine lv_bipush (v := iI (-2)) hx hb dX11_paste_14 (by decide) ?_
    rw [hQ]; exact fn_iret hx hb hr hlocks rfl hP hD hS ((fun _ => 0), (fun _ _ => 0)) ⟨(-2), rfl, by omega, trivial⟩ [] (by decide) rfl dX11_paste_16
  · refine lv_iload_n hx hb dX11_paste_7 rfl (lv_at hl 3 rfl) ?_
    refine fn_goi (wc := []) (wr := []) hK hP hD hS hA [] [] rfl rfl (by decide) (fun hp => va_runS (As := [.int (iI p3)]) (rest := []) ⟨hx, hb, hml, hown, hts⟩ (k_X11_noSlot (l := l) (D := D) (K := K) (p1 := p3) (hp1 := (by omega)) _) (va_cwS 1 hts (fn_ginS (fn_gin wd_963) wd_961 wd_962 wd_1) rfl rfl rfl (by decide +kernel) ⟨Nat.le_of_ble_eq_true rfl, Nat.le_of_ble_eq_true rfl⟩) ⟨fn_blind, hp⟩ rfl rfl hl.1 rfl (lv_room (Nat.le_of_ble_eq_true rfl)) dX11_paste_8 ⟨Nat.le_of_ble_eq_true rfl, Nat.le_of_ble_eq_true rfl⟩) (fun r8 u8 H locs hwu8 hP hD hS => ?_)
    obtain ⟨u8a, u8b⟩ := u8
    obtain ⟨kr8, rfl, hkr8, hqu80, -⟩ := hwu8
    have hqu8 : (kr8 = 0 → 0 ≤ p3 ∧ p3 ≤ 3) ∧ (kr8 = 1 → p3 < 0 ∨ 3 < p3) := hqu80
    clear hqu80
    have hP : va_P D vwCl [] H := hP
    have hD : va_D A [] := hD
    refine g_if_eq (tgt := 17) hx hb (by omega) dX11_paste_11 (by decide) (fun c11 => ?_) (fun c11 => ?_)
    · exfalso; omega
    · refine lv_bipush (v := iI (-2)) hx hb dX11_paste_14 (by decide) ?_
      rw [hQ]; exact fn_iret hx hb hr hlocks rfl hP hD hS ((fun _ => 0), (fun _ _ => 0)) ⟨(-2), rfl, by omega, trivial⟩ [] (by decide) rfl dX11_paste_16
