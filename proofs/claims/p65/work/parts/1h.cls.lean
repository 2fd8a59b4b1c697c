theorem wd_700 : Cond.code ⟨"FootNotes$Text", "targetAtFirst", "(I)I"⟩ prog_9_method_12_code 3 (Option.some Jvm.ClassFile.FieldType.int) ∈ fn_big := fn_tb (fn_l3 (List.mem_of_getElem? (i := 220) (by decide +kernel))) (by decide +kernel)
theorem wd_699 : Cond.instanceMethod ⟨"FootNotes$Text", "targetAtFirst", "(I)I"⟩ ∈ fn_big := fn_tb (fn_l3 (List.mem_of_getElem? (i := 219) (by decide +kernel))) (by decide +kernel)
theorem wp_29 : Cond.selects "FootNotes$Text" ⟨"FootNotes$Text", "targetAtFirst", "(I)I"⟩ ⟨"FootNotes$Text", "targetAtFirst", "(I)I"⟩ ∈ fn_big := fn_sel (q := (⟨"FootNotes$Text", "targetAtFirst", "(I)I"⟩, 15)) 29 (by decide +kernel) (by decide +kernel)
theorem dX11_meant_0 : decode cX11_meant 0 = .ok (.aload_n 0, 1) := by decide +kernel
theorem dX11_meant_1 : decode cX11_meant 1 = .ok (.getfield 19, 3) := by decide +kernel
theorem dX11_meant_4 : decode cX11_meant 4 = .ok (.iload_n 1, 1) := by decide +kernel
theorem dX11_meant_5 : decode cX11_meant 5 = .ok (.invokevirtual 167, 3) := by decide +kernel
theorem dX11_meant_8 : decode cX11_meant 8 = .ok (.ifCond .eq 14, 3) := by decide +kernel
theorem dX11_meant_22 : decode cX11_meant 22 = .ok (.bipush (-2), 2) := by decide +kernel
theorem dX11_meant_24 : decode cX11_meant 24 = .ok (.ireturn, 1) := by decide +kernel
theorem dX11_meant_11 : decode cX11_meant 11 = .ok (.aload_n 0, 1) := by decide +kernel
theorem dX11_meant_12 : decode cX11_meant 12 = .ok (.getfield 19, 3) := by decide +kernel
theorem dX11_meant_15 : decode cX11_meant 15 = .ok (.iload_n 1, 1) := by decide +kernel
theorem dX11_meant_16 : decode cX11_meant 16 = .ok (.invokevirtual 185, 3) := by decide +kernel
theorem dX11_meant_19 : decode cX11_meant 19 = .ok (.goto 5, 3) := by decide +kernel
set_option maxHeartbeats 4000000 in
set_option maxRecDepth 100000 in
theorem k_X11_meant (l : Launch) (D : va_G) (K : Nat → ClassId) (t : Nat) (t_q t_1_q : Nat → Nat) (p1 t_1_x0 t_1_x1 t_1_x2 t_1_x3 t_1_x4 t_1_x5 t_1_x6 t_1_x7 t_1_x8 : Int) (t_1_13_c : Nat → Int) (t_1_14_c : Nat → Int) (t_1_10_c : Nat → Int) (hp1 : (-2147483648) ≤ p1 ∧ p1 ≤ 2147483647) (hi_t_1 : bX7 t_1_x0 t_1_x1 t_1_x2 t_1_x3 t_1_x4 t_1_x5 t_1_x6 t_1_x7 t_1_x8) (hc_t_1_13 : ∀ j : Nat, 0 ≤ t_1_13_c j ∧ t_1_13_c j ≤ 4) (hc_t_1_14 : ∀ j : Nat, 0 ≤ t_1_14_c j ∧ t_1_14_c j ≤ 29) (hc_t_1_10 : ∀ j : Nat, 0 ≤ t_1_10_c j ∧ t_1_10_c j ≤ 12) : fn_CI (S := (Nat → Int) × (Nat → Nat → Int)) l D K yX11_meant (fn_ws yX11_meant cX11_meant 2 (some .int)) ({ frames := 12, cells := 0, slots := 0, locals := 300 } : Room) [.ref t, .int (iI p1)] [(t, .inr (11, oX11 t_q)), ((t_q 1), .inr (7, oX7 t_1_q t_1_x0 t_1_x1 t_1_x2 t_1_x3 t_1_x4 t_1_x5 t_1_x6 t_1_x7 t_1_x8)), ((t_1_q 13), .inl (K 0, 24, .inl (fun j => iI (t_1_13_c j)))), ((t_1_q 14), .inl (K 0, 24, .inl (fun j => iI (t_1_14_c j)))), ((t_1_q 10), .inl (K 0, 6, .inl (fun j => iI (t_1_10_c j))))] (fun r u => ∃ k : Int, r = iI k ∧ ((-2) ≤ k ∧ k ≤ 23) ∧ True) (fun u => [(t, .inr (11, oX11 t_q)), ((t_q 1), .inr (7, oX7 t_1_q t_1_x0 t_1_x1 t_1_x2 t_1_x3 t_1_x4 t_1_x5 t_1_x6 t_1_x7 t_1_x8)), ((t_1_q 13), .inl (K 0, 24, .inl (fun j => iI (t_1_13_c j)))), ((t_1_q 14), .inl (K 0, 24, .inl (fun j => iI (t_1_14_c j)))), ((t_1_q 10), .inl (K 0, 6, .inl (fun j => iI (t_1_10_c j))))]) 0 0 := by
  refine g_inI (cc := cX11_meant) (maxL := 2) (ret := (some .int)) (by decide) rfl (Nat.le_of_ble_eq_true rfl) ?_
  intro p e s m below meth c A ls ag Q B hA hP hD hS hl hQ
  obtain ⟨hx, hb, hr, hml, hts, hown, hlocks, hin, hK⟩ := B
  have hown : s.vm.findClass RX11 = some m.cls := hown
  have hts := fun w h => hts w (List.mem_cons_of_mem _ h)
  have hl : lv_has ls 2 [(0, .ref t), (1, .int (iI p1))] := hl
  refine lv_aload_n hx hb dX11_meant_0 rfl (lv_at hl 0 rfl) ?_
  refine va_get (D := D) (own := RX11) (ci := 11) (v := .ref (t_q 1)) (C := RX11) (T := TX11) (N := 13) hx hb hts inb_X11 hown hK.1 hP 0 rfl rfl 1 (by decide) (hts _ wd_423) (fun _ h9 => h9) rfl dX11_meant_1 ?_
  refine lv_iload_n hx hb dX11_meant_4 rfl (lv_at hl 1 rfl) ?_
  refine fn_goi (wc := [((t_q 1), .inr (7, oX7 t_1_q t_1_x0 t_1_x1 t_1_x2 t_1_x3 t_1_x4 t_1_x5 t_1_x6 t_1_x7 t_1_x8))]) (wr := [(t, .inr (11, oX11 t_q)), ((t_1_q 13), .inl (K 0, 24, .inl (fun j => iI (t_1_13_c j)))), ((t_1_q 14), .inl (K 0, 24, .inl (fun j => iI (t_1_14_c j)))), ((t_1_q 10), .inl (K 0, 6, .inl (fun j => iI (t_1_10_c j))))]) hK hP hD hS hA [1] [0, 2, 3, 4] rfl rfl (by decide) (fun hp => va_runVN (C := RX7) (As := [.int (iI p1)]) (rest := []) ⟨hx, hb, hml, hown, hts⟩ (k_X7_hasNote (l := l) (D := D) (K := K) (t := (t_q 1)) (p1 := p1) (t_q := t_1_q) (t_x0 := t_1_x0) (t_x1 := t_1_x1) (t_x2 := t_1_x2) (t_x3 := t_1_x3) (t_x4 := t_1_x4) (t_x5 := t_1_x5) (t_x6 := t_1_x6) (t_x7 := t_1_x7) (t_x8 := t_1_x8) (hp1 := (by omega)) (hi_t := hi_t_1) _) ⟨va_cnB (own := RX11) 1 hts (fn_gin wd_688) rfl rfl rfl (hK.nw 113 rfl) (hts _ wd_4) (by decide +kernel) ⟨Nat.le_of_ble_eq_true rfl, Nat.le_of_ble_eq_true rfl⟩, hts _ wd_687, hts _ wp_28⟩ ⟨fn_blind, va_recv hK.1 hP (ci := 7) (q0 := 1) rfl rfl, hp⟩ rfl rfl hl.1 rfl (lv_room (Nat.le_of_ble_eq_true rfl)) dX11_meant_5 ⟨Nat.le_of_ble_eq_true rfl, Nat.le_of_ble_eq_true rfl⟩) (fun r5 u5 H locs hwu5 hP hD hS => ?_)
  obtain ⟨u5a, u5b⟩ := u5
  obtain ⟨kr5, rfl, hkr5, hqu50, -⟩ := hwu5
  have hqu5 : (kr5 = 1 → 0 ≤ p1 ∧ p1 < t_1_x5 ∧ p1 ≤ 23) := hqu50
  clear hqu50
  have hP : va_P D vwCl [(t, .inr (11, oX11 t_q)), ((t_1_q 13), .inl (K 0, 24, .inl (fun j => iI (t_1_13_c j)))), ((t_1_q 14), .inl (K 0, 24, .inl (fun j => iI (t_1_14_c j)))), ((t_1_q 10), .inl (K 0, 6, .inl (fun j => iI (t_1_10_c j)))), ((t_q 1), .inr (7, oX7 t_1_q t_1_x0 t_1_x1 t_1_x2 t_1_x3 t_1_x4 t_1_x5 t_1_x6 t_1_x7 t_1_x8))] H := hP
  have hD : va_D A [(t, .inr (11, oX11 t_q)), ((t_1_q 13), .inl (K 0, 24, .inl (fun j => iI (t_1_13_c j)))), ((t_1_q 14), .inl (K 0, 24, .inl (fun j => iI (t_1_14_c j)))), ((t_1_q 10), .inl (K 0, 6, .inl (fun j => iI (t_1_10_c j)))), ((t_q 1), .inr (7, oX7 t_1_q t_1_x0 t_1_x1 t_1_x2 t_1_x3 t_1_x4 t_1_x5 t_1_x6 t_1_x7 t_1_x8))] := hD
  refine g_if_eq (tgt := 22) hx hb (by omega) dX11_meant_8 (by decide) (fun c8 => ?_) (fun c8 => ?_)
  · refine lv_bipush (v := iI (-2)) hx hb dX11_meant_22 (by decide) ?_
    rw [hQ]; exact fn_iret hx hb hr hlocks rfl hP hD hS ((fun _ => 0), (fun _ _ => 0)) ⟨(-2), rfl, by omega, trivial⟩ [0, 4, 1, 2, 3] (by decide) rfl dX11_meant_24
  · refine lv_aload_n hx hb dX11_meant_11 rfl (lv_at hl 0 rfl) ?_
    refine va_get (D := D) (own := RX11) (ci := 11) (v := .ref (t_q 1)) (C := RX11) (T := TX11) (N := 13) hx hb hts inb_X11 hown hK.1 hP 0 rfl rfl 1 (by decide) (hts _ wd_423) (fun _ h9 => h9) rfl dX11_meant_12 ?_
    refine lv_iload_n hx hb dX11_meant_15 rfl (lv_at hl 1 rfl) ?_
    refine fn_goi (wc := [((t_q 1), .inr (7, oX7 t_1_q t_1_x0 t_1_x1 t_1_x2 t_1_x3 t_1_x4 t_1_x5 t_1_x6 t_1_x7 t_1_x8)), ((t_1_q 13), .inl (K 0, 24, .inl (fun j => iI (t_1_13_c j)))), ((t_1_q 14), .inl (K 0, 24, .inl (fun j => iI (t_1_14_c j)))), ((t_1_q 10), .inl (K 0, 6, .inl (fun j => iI (t_1_10_c j))))]) (wr := [(t, .inr (11, oX11 t_q))]) hK hP hD hS hA [4, 1, 2, 3] [0] rfl rfl (by decide) (fun hp => va_runVN (C := RX7) (As := [.int (iI p1)]) (rest := []) ⟨hx, hb, hml, hown, hts⟩ (k_X7_targetAtFirst (l := l) (D := D) (K := K) (t := (t_q 1)) (p1 := p1) (t_q := t_1_q) (t_x0 := t_1_x0) (t_x1 := t_1_x1) (t_x2 := t_1_x2) (t_x3 := t_1_x3) (t_x4 := t_1_x4) (t_x5 := t_1_x5) (t_x6 := t_1_x6) (t_x7 := t_1_x7) (t_x8 := t_1_x8) (t_13_c := t_1_13_c) (t_14_c := t_1_14_c) (t_10_c := t_1_10_c) (hp1 := (by omega)) (hi_t := hi_t_1) (hc_t_13 := hc_t_1_13) (hc_t_14 := hc_t_1_14) (hc_t_10 := hc_t_1_10) _) ⟨va_cnB (own := RX11) 1 hts (fn_gin wd_700) rfl rfl rfl (hK.nw 114 rfl) (hts _ wd_4) (by decide +kernel) ⟨Nat.le_of_ble_eq_true rfl, Nat.le_of_ble_eq_true rfl⟩, hts _ wd_699, hts _ wp_29⟩ ⟨fn_blind, va_recv hK.1 hP (ci := 7) (q0 := 4) rfl rfl, hp⟩ rfl rfl hl.1 rfl (lv_room (Nat.le_of_ble_eq_true rfl)) dX11_meant_16 ⟨Nat.le_of_ble_eq_true rfl, Nat.le_of_ble_eq_true rfl⟩) (fun r16 u16 H locs hwu16 hP hD hS => ?_)
    obtain ⟨u16a, u16b⟩ := u16
    obtain ⟨kr16, rfl, hkr16, -⟩ := hwu16
    have hP : va_P D vwCl [(t, .inr (11, oX11 t_q)), ((t_q 1), .inr (7, oX7 t_1_q t_1_x0 t_1_x1 t_1_x2 t_1_x3 t_1_x4 t_1_x5 t_1_x6 t_1_x7 t_1_x8)), ((t_1_q 13), .inl (K 0, 24, .inl (fun j => iI (t_1_13_c j)))), ((t_1_q 14), .inl (K 0, 24, .inl (fun j => iI (t_1_14_c j)))), ((t_1_q 10), .inl (K 0, 6, .inl (fun j => iI (t_1_10_c j))))] H := hP
    have hD : va_D A [(t, .inr (11, oX11 t_q)), ((t_q 1), .inr (7, oX7 t_1_q t_1_x0 t_1_x1 t_1_x2 t_1_x3 t_1_x4 t_1_x5 t_1_x6 t_1_x7 t_1_x8)), ((t_1_q 13), .inl (K 0, 24, .inl (fun j => iI (t_1_13_c j)))), ((t_1_q 14), .inl (K 0, 24, .inl (fun j => iI (t_1_14_c j)))), ((t_1_q 10), .inl (K 0, 6, .inl (fun j => iI (t_1_10_c j))))] := hD
    refine lv_goto (tgt := 24) hx hb dX11_meant_19 (by decide) ?_
    rw [hQ]; exact fn_iret hx hb hr hlocks rfl hP hD hS ((fun _ => 0), (fun _ _ => 0)) ⟨kr16, rfl, by omega, trivial⟩ [0, 1, 2, 3, 4] (by decide) rfl dX11_meant_24
theorem wd_710 : Cond.methodLink "FootNotes" 195 ⟨"FootNotes", "bit", "(Z)I"⟩ ∈ fn_big := fn_tb (fn_l3 (List.mem_of_getElem? (i := 230) (by decide +kernel))) (by decide +kernel)
theorem wd_709 : Cond.code ⟨"FootNotes", "noTown", "()Z"⟩ prog_1_method_7_code 1 (Option.some Jvm.ClassFile.FieldType.boolean) ∈ fn_big := fn_tb (fn_l3 (List.mem_of_getElem? (i := 229) (by decide +kernel))) (by decide +kernel)
theorem wd_706 : Cond.methodLink "FootNotes" 188 ⟨"FootNotes", "noTown", "()Z"⟩ ∈ fn_big := fn_tb (fn_l3 (List.mem_of_getElem? (i := 226) (by decide +kernel))) (by decide +kernel)
theorem wd_708 : Cond.instanceMethod ⟨"FootNotes", "noTown", "()Z"⟩ ∈ fn_big := fn_tb (fn_l3 (List.mem_of_getElem? (i := 228) (by decide +kernel))) (by decide +kernel)
theorem wp_30 : Cond.selects "FootNotes" ⟨"FootNotes", "noTown", "()Z"⟩ ⟨"FootNotes", "noTown", "()Z"⟩ ∈ fn_big := fn_sel (q := (⟨"FootNotes", "noTown", "()Z"⟩, 13)) 30 (by decide +kernel) (by decide +kernel)
theorem dX11_astray_51 : decode cX11_astray 51 = .ok (.invokestatic 195, 3) := by decide +kernel
theorem dX11_astray_54 : decode cX11_astray 54 = .ok (.iload_n 2, 1) := by decide +kernel
theorem dX11_astray_55 : decode cX11_astray 55 = .ok (.ishl, 1) := by decide +kernel
theorem dX11_astray_56 : decode cX11_astray 56 = .ok (.ior, 1) := by decide +kernel
theorem dX11_astray_57 : decode cX11_astray 57 = .ok (.istore_n 1, 1) := by decide +kernel
theorem dX11_astray_58 : decode cX11_astray 58 = .ok (.iinc 2 1, 3) := by decide +kernel
theorem dX11_astray_61 : decode cX11_astray 61 = .ok (.goto (-47), 3) := by decide +kernel
theorem dX11_astray_14 : decode cX11_astray 14 = .ok (.iload_n 2, 1) := by decide +kernel
theorem dX11_astray_15 : decode cX11_astray 15 = .ok (.aload_n 0, 1) := by decide +kernel
theorem dX11_astray_16 : decode cX11_astray 16 = .ok (.getfield 19, 3) := by decide +kernel
theorem dX11_astray_19 : decode cX11_astray 19 = .ok (.getfield 192, 3) := by decide +kernel
theorem dX11_astray_22 : decode cX11_astray 22 = .ok (.if_icmp .ge 42, 3) := by decide +kernel
theorem dX11_astray_64 : decode cX11_astray 64 = .ok (.iload_n 1, 1) := by decide +kernel
theorem dX11_astray_65 : decode cX11_astray 65 = .ok (.ireturn, 1) := by decide +kernel
theorem dX11_astray_25 : decode cX11_astray 25 = .ok (.iload_n 1, 1) := by decide +kernel
theorem dX11_astray_26 : decode cX11_astray 26 = .ok (.aload_n 0, 1) := by decide +kernel
theorem dX11_astray_27 : decode cX11_astray 27 = .ok (.getfield 51, 3) := by decide +kernel
theorem dX11_astray_30 : decode cX11_astray 30 = .ok (.getfield 182, 3) := by decide +kernel
theorem dX11_astray_33 : decode cX11_astray 33 = .ok (.iload_n 2, 1) := by decide +kernel
theorem dX11_astray_34 : decode cX11_astray 34 = .ok (.iaload, 1) := by decide +kernel
theorem dX11_astray_35 : decode cX11_astray 35 = .ok (.aload_n 0, 1) := by decide +kernel
theorem dX11_astray_36 : decode cX11_astray 36 = .ok (.getfield 19, 3) := by decide +kernel
theorem dX11_astray_39 : decode cX11_astray 39 = .ok (.iload_n 2, 1) := by decide +kernel
theorem dX11_astray_40 : decode cX11_astray 40 = .ok (.invokevirtual 185, 3) := by decide +kernel
theorem dX11_astray_43 : decode cX11_astray 43 = .ok (.if_icmp .eq 7, 3) := by decide +kernel
theorem dX11_astray_50 : decode cX11_astray 50 = .ok (.iconst 0, 1) := by decide +kernel
theorem dX11_astray_46 : decode cX11_astray 46 = .ok (.iconst 1, 1) := by decide +kernel
theorem dX11_astray_47 : decode cX11_astray 47 = .ok (.goto 4, 3) := by decide +kernel
theorem dX11_astray_0 : decode cX11_astray 0 = .ok (.aload_n 0, 1) := by decide +kernel
theorem dX11_astray_1 : decode cX11_astray 1 = .ok (.invokevirtual 188, 3) := by decide +kernel
theorem dX11_astray_4 : decode cX11_astray 4 = .ok (.ifCond .eq 6, 3) := by decide +kernel
theorem dX11_astray_10 : decode cX11_astray 10 = .ok (.iconst 0, 1) := by decide +kernel
theorem dX11_astray_11 : decode cX11_astray 11 = .ok (.istore_n 1, 1) := by decide +kernel
theorem dX11_astray_12 : decode cX11_astray 12 = .ok (.iconst 0, 1) := by decide +kernel
theorem dX11_astray_13 : decode cX11_astray 13 = .ok (.istore_n 2, 1) := by decide +kernel
theorem dX11_astray_7 : decode cX11_astray 7 = .ok (.bipush (-2), 2) := by decide +kernel
theorem dX11_astray_9 : decode cX11_astray 9 = .ok (.ireturn, 1) := by decide +kernel
set_option maxHeartbeats 4000000 in
set_option maxRecDepth 100000 in
theorem k_X11_astray (l : Launch) (D : va_G) (K : Nat → ClassId) (t : Nat) (t_q t_1_q t_7_q : Nat → Nat) (t_1_x0 t_1_x1 t_1_x2 t_1_x3 t_1_x4 t_1_x5 t_1_x6 t_1_x7 t_1_x8 t_7_x0 t_7_x1 t_7_x6 : Int) (t_7_3_c : Nat → Int) (t_1_13_c : Nat → Int) (t_1_14_c : Nat → Int) (t_1_10_c : Nat → Int) (hi_t_1 : bX7 t_1_x0 t_1_x1 t_1_x2 t_1_x3 t_1_x4 t_1_x5 t_1_x6 t_1_x7 t_1_x8) (hi_t_7 : bX10 t_7_x0 t_7_x1 t_7_x6) (hc_t_7_3 : ∀ j : Nat, (-1) ≤ t_7_3_c j ∧ t_7_3_c j ≤ 11) (hc_t_1_13 : ∀ j : Nat, 0 ≤ t_1_13_c j ∧ t_1_13_c j ≤ 4) (hc_t_1_14 : ∀ j : Nat, 0 ≤ t_1_14_c j ∧ t_1_14_c j ≤ 29) (hc_t_1_10 : ∀ j : Nat, 0 ≤ t_1_10_c j ∧ t_1_10_c j ≤ 12) : fn_CI (S := (Nat → Int) × (Nat → Nat → Int)) l D K yX11_astray (fn_ws yX11_astray cX11_astray 3 (some .int)) ({ frames := 12, cells := 0, slots := 0, locals := 300 } : Room) [.ref t] [(t, .inr (11, oX11 t_q)), ((t_q 1), .inr (7, oX7 t_1_q t_1_x0 t_1_x1 t_1_x2 t_1_x3 t_1_x4 t_1_x5 t_1_x6 t_1_x7 t_1_x8)), ((t_q 7), .inr (10, oX10 t_7_q t_7_x0 t_7_x1 t_7_x6)), ((t_7_q 3), .inl (K 0, 24, .inl (fun j => iI (t_7_3_c j)))), ((t_1_q 13), .inl (K 0, 24, .inl (fun j => iI (t_1_13_c j)))), ((t_1_q 14), .inl (K 0, 24, .inl (fun j => iI (t_1_14_c j)))), ((t_1_q 10), .inl (K 0, 6, .inl (fun j => iI (t_1_10_c j))))] (fun r u => ∃ k : Int, r = iI k ∧ ((-2147483648) ≤ k ∧ k ≤ 2147483647) ∧ True) (fun u => [(t, .inr (11, oX11 t_q)), ((t_q 1), .inr (7, oX7 t_1_q t_1_x0 t_1_x1 t_1_x2 t_1_x3 t_1_x4 t_1_x5 t_1_x6 t_1_x7 t_1_x8)), ((t_q 7), .inr (10, oX10 t_7_q t_7_x0 t_7_x1 t_7_x6)), ((t_7_q 3), .inl (K 0, 24, .inl (fun j => iI (t_7_3_c j)))), ((t_1_q 13), .inl (K 0, 24, .inl (fun j => iI (t_1_13_c j)))), ((t_1_q 14), .inl (K 0, 24, .inl (fun j => iI (t_1_14_c j)))), ((t_1_q 10), .inl (K 0, 6, .inl (fun j => iI (t_1_10_c j))))]) 0 0 := by
  refine g_inI (cc := cX11_astray) (maxL := 3) (ret := (some .int)) (by decide) rfl (Nat.le_of_ble_eq_true rfl) ?_
  intro p e s m below meth c A ls ag Q B hA hP hD hS hl hQ
  obtain ⟨hx, hb, hr, hml, hts, hown, hlocks, hin, hK⟩ := B
  have hown : s.vm.findClass RX11 = some m.cls := hown
  have hts := fun w h => hts w (List.mem_cons_of_mem _ h)
  have J14 : ∀ (n : Nat) (x14_1 : Int) (x14_2 : Int) (H : Heap) (locs : List Loc) (ls : Array Slot), (24 - x14_2).toNat < n → ((-2147483648) ≤ x14_1 ∧ x14_1 ≤ 2147483647 ∧ 0 ≤ x14_2 ∧ x14_2 ≤ 24) → va_P D vwCl [(t, .inr (11, oX11 t_q)), ((t_q 1), .inr (7, oX7 t_1_q t_1_x0 t_1_x1 t_1_x2 t_1_x3 t_1_x4 t_1_x5 t_1_x6 t_1_x7 t_1_x8)), ((t_q 7), .inr (10, oX10 t_7_q t_7_x0 t_7_x1 t_7_x6)), ((t_7_q 3), .inl (K 0, 24, .inl (fun j => iI (t_7_3_c j)))), ((t_1_q 13), .inl (K 0, 24, .inl (fun j => iI (t_1_13_c j)))), ((t_1_q 14), .inl (K 0, 24, .inl (fun j => iI (t_1_14_c j)))), ((t_1_q 10), .inl (K 0, 6, .inl (fun j => iI (t_1_10_c j))))] H → va_D A [(t, .inr (11, oX11 t_q)), ((t_q 1), .inr (7, oX7 t_1_q t_1_x0 t_1_x1 t_1_x2 t_1_x3 t_1_x4 t_1_x5 t_1_x6 t_1_x7 t_1_x8)), ((t_q 7), .inr (10, oX10 t_7_q t_7_x0 t_7_x1 t_7_x6)), ((t_7_q 3), .inl (K 0, 24, .inl (fun j => iI (t_7_3_c j)))), ((t_1_q 13), .inl (K 0, 24, .inl (fun j => iI (t_1_13_c j)))), ((t_1_q 14), .inl (K 0, 24, .inl (fun j => iI (t_1_14_c j)))), ((t_1_q 10), .inl (K 0, 6, .inl (fun j => iI (t_1_10_c j))))] → va_S A s.heap H locs → lv_has ls 3 [(0, .ref t), (1, .int (iI x14_1)), (2, .int (iI x14_2))] → W p l e ({ frames := 12, cells := 0, slots := 0, locals := 300 } : Room) s m ag below meth c H locs 0 0 Q (F0 m 14 ls []) := by
    intro n
    induction n with
    | zero =>
      intro x14_1 x14_2 H locs ls hm14 hf14 hP hD hS hl
      exact absurd hm14 (Nat.not_lt_zero _)
    | succ n ih14 =>
      intro x14_1 x14_2 H locs ls hm14 hf14 hP hD hS hl
      have J51 : ∀ (z51_1 : Int) (H : Heap) (locs : List Loc) (ls : Array Slot), (0 ≤ x14_2 ∧ x14_2 ≤ 23 ∧ 0 ≤ z51_1 ∧ z51_1 ≤ 1 ∧ 1 ≤ t_1_x5 ∧ t_1_x5 ≤ 24) → va_P D vwCl [(t, .inr (11, oX11 t_q)), ((t_q 1), .inr (7, oX7 t_1_q t_1_x0 t_1_x1 t_1_x2 t_1_x3 t_1_x4 t_1_x5 t_1_x6 t_1_x7 t_1_x8)), ((t_q 7), .inr (10, oX10 t_7_q t_7_x0 t_7_x1 t_7_x6)), ((t_7_q 3), .inl (K 0, 24, .inl (fun j => iI (t_7_3_c j)))), ((t_1_q 13), .inl (K 0, 24, .inl (fun j => iI (t_1_13_c j)))), ((t_1_q 14), .inl (K 0, 24, .inl (fun j => iI (t_1_14_c j)))), ((t_1_q 10), .inl (K 0, 6, .inl (fun j => iI (t_1_10_c j))))] H → va_D A [(t, .inr (11, oX11 t_q)), ((t_q 1), .inr (7, oX7 t_1_q t_1_x0 t_1_x1 t_1_x2 t_1_x3 t_1_x4 t_1_x5 t_1_x6 t_1_x7 t_1_x8)), ((t_q 7), .inr (10, oX10 t_7_q t_7_x0 t_7_x1 t_7_x6)), ((t_7_q 3), .inl (K 0, 24, .inl (fun j => iI (t_7_3_c j)))), ((t_1_q 13), .inl (K 0, 24, .inl (fun j => iI (t_1_13_c j)))), ((t_1_q 14), .inl (K 0, 24, .inl (fun j => iI (t_1_14_c j)))), ((t_1_q 10), .inl (K 0, 6, .inl (fun j => iI (t_1_10_c j))))] → va_S A s.heap H locs → lv_has ls 3 [(0, .ref t), (1, .int (iI x14_1)), (2, .int (iI x14_2))] → W p l e ({ frames := 12, cells := 0, slots := 0, locals := 300 } : Room) s m ag below meth c H locs 0 0 Q (F0 m 51 ls [.int (iI z51_1), .int (iI x14_1)]) := by
        intro z51_1 H locs ls hf51 hP hD hS hl
        refine fn_goi (wc := []) (wr := [(t, .inr (11, oX11 t_q)), ((t_q 1), .inr (7, oX7 t_1_q t_1_x0 t_1_x1 t_1_x2 t_1_x3 t_1_x4 t_1_x5 t_1_x6 t_1_x7 t_1_x8)), ((t_q 7), .inr (10, oX10 t_7_q t_7_x0 t_7_x1 t_7_x6)), ((t_7_q 3), .inl (K 0, 24, .inl (fun j => iI (t_7_3_c j)))), ((t_1_q 13), .inl (K 0, 24, .inl (fun j => iI (t_1_13_c j)))), ((t_1_q 14), .inl (K 0, 24, .inl (fun j => iI (t_1_14_c j)))), ((t_1_q 10), .inl (K 0, 6, .inl (fun j => iI (t_1_10_c j))))]) hK hP hD hS hA [] [0, 1, 2, 3, 4, 5, 6] rfl rfl (by decide) (fun hp => va_runS (As := [.int (iI z51_1)]) (rest := [.int (iI x14_1)]) ⟨hx, hb, hml, hown, hts⟩ (k_X11_bit (l := l) (D := D) (K := K) (p1 := z51_1) (hp1 := (by omega)) _) (va_cwS 1 hts (fn_ginS (fn_gin wd_605) wd_710 wd_604 wd_1) rfl rfl rfl (by decide +kernel) ⟨Nat.le_of_ble_eq_true rfl, Nat.le_of_ble_eq_true rfl⟩) ⟨fn_blind, hp⟩ rfl rfl hl.1 rfl (lv_room (Nat.le_of_ble_eq_true rfl)) dX11_astray_51 ⟨Nat.le_of_ble_eq_true rfl, Nat.le_of_ble_eq_true rfl⟩) (fun r51 u51 H locs hwu51 hP hD hS => ?_)
        obtain ⟨u51a, u51b⟩ := u51
        obtain ⟨kr51, rfl, hkr51, -⟩ := hwu51
        have hP : va_P D vwCl [(t, .inr (11, oX11 t_q)), ((t_q 1), .inr (7, oX7 t_1_q t_1_x0 t_1_x1 t_1_x2 t_1_x3 t_1_x4 t_1_x5 t_1_x6 t_1_x7 t_1_x8)), ((t_q 7), .inr (10, oX10 t_7_q t_7_x0 t_7_x1 t_7_x6)), ((t_7_q 3), .inl (K 0, 24, .inl (fun j => iI (t_7_3_c j)))), ((t_1_q 13), .inl (K 0, 24, .inl (fun j => iI (t_1_13_c j)))), ((t_1_q 14), .inl (K 0, 24, .inl (fun j => iI (t_1_14_c j)))), ((t_1_q 10), .inl (K 0, 6, .inl (fun j => iI (t_1_10_c j))))] H := hP
        have hD : va_D A [(t, .inr (11, oX11 t_q)), ((t_q 1), .inr (7, oX7 t_1_q t_1_x0 t_1_x1 t_1_x2 t_1_x3 t_1_x4 t_1_x5 t_1_x6 t_1_x7 t_1_x8)), ((t_q 7), .inr (10, oX10 t_7_q t_7_x0 t_7_x1 t_7_x6)), ((t_7_q 3), .inl (K 0, 24, .inl (fun j => iI (t_7_3_c j)))), ((t_1_q 13), .inl (K 0, 24, .inl (fun j => iI (t_1_13_c j)))), ((t_1_q 14), .inl (K 0, 24, .inl (fun j => iI (t_1_14_c j)))), ((t_1_q 10), .inl (K 0, 6, .inl (fun j => iI (t_1_10_c j))))] := hD
        refine lv_iload_n hx hb dX11_astray_54 rfl (lv_at hl 2 rfl) ?_
        refine lv_ishl hx hb dX11_astray_55 ?_
        refine g_any (fun w55 hw55 ew55 => ?_)
        refine lv_ior hx hb dX11_astray_56 ?_
        refine g_any (fun w56 hw56 ew56 => ?_)
        refine lv_istore_n (lv' := [(1, .int (iI w56)), (0, .ref t), (2, .int (iI x14_2))]) hx hb dX11_astray_57 rfl hl (by decide) rfl (fun ls hl => ?_)
        refine lv_iinc (v := iI (x14_2 + 1)) (lv' := [(2, .int (iI (x14_2 + 1))), (1, .int (iI w56)), (0, .ref t)]) hx hb dX11_astray_58 hl (k := 2) rfl (iI_add _ _) (by decide) rfl (fun ls hl => ?_)
        refine lv_goto (tgt := 14) hx hb dX11_astray_61 (by decide) ?_
        exact ih14 w56 (x14_2 + 1) _ _ ls (by omega) (by omega) (hP.sub [0, 1, 2, 3, 4, 5, 6] rfl) (hD.sub [0, 1, 2, 3, 4, 5, 6] (by decide) rfl) hS (lv_sub hl [2, 1, 0] rfl)
      refine lv_iload_n hx hb dX11_astray_14 rfl (lv_at hl 2 rfl) ?_
      refine lv_aload_n hx hb dX11_astray_15 rfl (lv_at hl 0 rfl) ?_
      refine va_get (D := D) (own := RX11) (ci := 11) (v := .ref (t_q 1)) (C := RX11) (T := TX11) (N := 13) hx hb hts inb_X11 hown hK.1 hP 0 rfl rfl 1 (by decide) (hts _ wd_423) (fun _ h9 => h9) rfl dX11_astray_16 ?_
      refine va_getN (D := D) (own := RX11) (ci := 7) (v := .int (iI t_1_x5)) (C := RX7) (T := TX7) (N := 15) hx hb hts inb_X7 hown hK.1 hP 1 rfl rfl 5 (by decide) (hK.nf 29 rfl) (fun _ h9 => h9) rfl dX11_astray_19 ?_
      have y19_1 : 0 ≤ t_1_x5 ∧ t_1_x5 ≤ 24 := hi_t_1.2.2.2.2.2.1
      refine g_icmp_ge (tgt := 64) hx hb (by omega) (by omega) dX11_astray_22 (by decide) (fun c22 => ?_) (fun c22 => ?_)
      · refine lv_iload_n hx hb dX11_astray_64 rfl (lv_at hl 1 rfl) ?_
        rw [hQ]; exact fn_iret hx hb hr hlocks rfl hP hD hS ((fun _ => 0), (fun _ _ => 0)) ⟨x14_1, rfl, by omega, trivial⟩ [0, 1, 2, 3, 4, 5, 6] (by decide) rfl dX11_astray_65
      · refine lv_iload_n hx hb dX11_astray_25 rfl (lv_at hl 1 rfl) ?_
        refine lv_aload_n hx hb dX11_astray_26 rfl (lv_at hl 0 rfl) ?_
        refine va_get (D := D) (own := RX11) (ci := 11) (v := .ref (t_q 7)) (C := RX11) (T := TX11) (N := 13) hx hb hts inb_X11 hown hK.1 hP 0 rfl rfl 7 (by decide) (hts _ wd_429) (fun _ h9 => h9) rfl dX11_astray_27 ?_
        refine va_getN (D := D) (own := RX11) (ci := 10) (v := .ref (t_7_q 3)) (C := RX10) (T := TX10) (N := 7) hx hb hts inb_X10 hown hK.1 hP 2 rfl rfl 3 (by decide) (hK.nf 69 rfl) (fun _ h9 => h9) rfl dX11_astray_30 ?_
        refine lv_iload_n hx hb dX11_astray_33 rfl (lv_at hl 2 rfl) ?_
        refine g_iald hx hb hK.1 hP 3 0 rfl rfl (by omega) (by omega) (by decide) dX11_astray_34 ?_
        have y34 : (-1) ≤ (t_7_3_c x14_2.toNat) ∧ (t_7_3_c x14_2.toNat) ≤ 11 := hc_t_7_3 x14_2.toNat
        refine lv_aload_n hx hb dX11_astray_35 rfl (lv_at hl 0 rfl) ?_
        refine va_get (D := D) (own := RX11) (ci := 11) (v := .ref (t_q 1)) (C := RX11) (T := TX11) (N := 13) hx hb hts inb_X11 hown hK.1 hP 0 rfl rfl 1 (by decide) (hts _ wd_423) (fun _ h9 => h9) rfl dX11_astray_36 ?_
        refine lv_iload_n hx hb dX11_astray_39 rfl (lv_at hl 2 rfl) ?_
        refine fn_goi (wc := [((t_q 1), .inr (7, oX7 t_1_q t_1_x0 t_1_x1 t_1_x2 t_1_x3 t_1_x4 t_1_x5 t_1_x6 t_1_x7 t_1_x8)), ((t_1_q 13), .inl (K 0, 24, .inl (fun j => iI (t_1_13_c j)))), ((t_1_q 14), .inl (K 0, 24, .inl (fun j => iI (t_1_14_c j)))), ((t_1_q 10), .inl (K 0, 6, .inl (fun j => iI (t_1_10_c j))))]) (wr := [(t, .inr (11, oX11 t_q)), ((t_q 7), .inr (10, oX10 t_7_q t_7_x0 t_7_x1 t_7_x6)), ((t_7_q 3), .inl (K 0, 24, .inl (fun j => iI (t_7_3_c j))))]) hK hP hD hS hA [1, 4, 5, 6] [0, 2, 3] rfl rfl (by decide) (fun hp => va_runVN (C := RX7) (As := [.int (iI x14_2)]) (rest := [.int (iI (t_7_3_c x14_2.toNat)), .int (iI x14_1)]) ⟨hx, hb, hml, hown, hts⟩ (k_X7_targetAtFirst (l := l) (D := D) (K := K) (t := (t_q 1)) (p1 := x14_2) (t_q := t_1_q) (t_x0 := t_1_x0) (t_x1 := t_1_x1) (t_x2 := t_1_x2) (t_x3 := t_1_x3) (t_x4 := t_1_x4) (t_x5 := t_1_x5) (t_x6 := t_1_x6) (t_x7 := t_1_x7) (t_x8 := t_1_x8) (t_13_c := t_1_13_c) (t_14_c := t_1_14_c) (t_10_c := t_1_10_c) (hp1 := (by omega)) (hi_t := hi_t_1) (hc_t_13 := hc_t_1_13) (hc_t_14 := hc_t_1_14) (hc_t_10 := hc_t_1_10) _) ⟨va_cnB (own := RX11) 1 hts (fn_gin wd_700) rfl rfl rfl (hK.nw 114 rfl) (hts _ wd_4) (by decide +kernel) ⟨Nat.le_of_ble_eq_true rfl, Nat.le_of_ble_eq_true rfl⟩, hts _ wd_699, hts _ wp_29⟩ ⟨fn_blind, va_recv hK.1 hP (ci := 7) (q0 := 1) rfl rfl, hp⟩ rfl rfl hl.1 rfl (lv_room (Nat.le_of_ble_eq_true rfl)) dX11_astray_40 ⟨Nat.le_of_ble_eq_true rfl, Nat.le_of_ble_eq_true rfl⟩) (fun r40 u40 H locs hwu40 hP hD hS => ?_)
        obtain ⟨u40a, u40b⟩ := u40
        obtain ⟨kr40, rfl, hkr40, -⟩ := hwu40
        have hP : va_P D vwCl [(t, .inr (11, oX11 t_q)), ((t_q 7), .inr (10, oX10 t_7_q t_7_x0 t_7_x1 t_7_x6)), ((t_7_q 3), .inl (K 0, 24, .inl (fun j => iI (t_7_3_c j)))), ((t_q 1), .inr (7, oX7 t_1_q t_1_x0 t_1_x1 t_1_x2 t_1_x3 t_1_x4 t_1_x5 t_1_x6 t_1_x7 t_1_x8)), ((t_1_q 13), .inl (K 0, 24, .inl (fun j => iI (t_1_13_c j)))), ((t_1_q 14), .inl (K 0, 24, .inl (fun j => iI (t_1_14_c j)))), ((t_1_q 10), .inl (K 0, 6, .inl (fun j => iI (t_1_10_c j))))] H := hP
        have hD : va_D A [(t, .inr (11, oX11 t_q)), ((t_q 7), .inr (10, oX10 t_7_q t_7_x0 t_7_x1 t_7_x6)), ((t_7_q 3), .inl (K 0, 24, .inl (fun j => iI (t_7_3_c j)))), ((t_q 1), .inr (7, oX7 t_1_q t_1_x0 t_1_x1 t_1_x2 t_1_x3 t_1_x4 t_1_x5 t_1_x6 t_1_x7 t_1_x8)), ((t_1_q 13), .inl (K 0, 24, .inl (fun j => iI (t_1_13_c j)))), ((t_1_q 14), .inl (K 0, 24, .inl (fun j => iI (t_1_14_c j)))), ((t_1_q 10), .inl (K 0, 6, .inl (fun j => iI (t_1_10_c j))))] := hD
        refine g_icmp_eq (tgt := 50) hx hb (by omega) (by omega) dX11_astray_43 (by decide) (fun c43 => ?_) (fun c43 => ?_)
        · refine lv_iconst (v := iI 0) hx hb dX11_astray_50 rfl ?_
          exact J51 0 _ _ ls (by omega) (hP.sub [0, 3, 1, 2, 4, 5, 6] rfl) (hD.sub [0, 3, 1, 2, 4, 5, 6] (by decide) rfl) hS (lv_sub hl [0, 1, 2] rfl)
        · refine lv_iconst (v := iI 1) hx hb dX11_astray_46 rfl ?_
          refine lv_goto (tgt := 51) hx hb dX11_astray_47 (by decide) ?_
          exact J51 1 _ _ ls (by omega) (hP.sub [0, 3, 1, 2, 4, 5, 6] rfl) (hD.sub [0, 3, 1, 2, 4, 5, 6] (by decide) rfl) hS (lv_sub hl [0, 1, 2] rfl)
  have hl : lv_has ls 3 [(0, .ref t)] := hl
  refine lv_aload_n hx hb dX11_astray_0 rfl (lv_at hl 0 rfl) ?_
  refine fn_goi (wc := [(t, .inr (11, oX11 t_q)), ((t_q 1), .inr (7, oX7 t_1_q t_1_x0 t_1_x1 t_1_x2 t_1_x3 t_1_x4 t_1_x5 t_1_x6 t_1_x7 t_1_x8))]) (wr := [((t_q 7), .inr (10, oX10 t_7_q t_7_x0 t_7_x1 t_7_x6)), ((t_7_q 3), .inl (K 0, 24, .inl (fun j => iI (t_7_3_c j)))), ((t_1_q 13), .inl (K 0, 24, .inl (fun j => iI (t_1_13_c j)))), ((t_1_q 14), .inl (K 0, 24, .inl (fun j => iI (t_1_14_c j)))), ((t_1_q 10), .inl (K 0, 6, .inl (fun j => iI (t_1_10_c j))))]) hK hP hD hS hA [0, 1] [2, 3, 4, 5, 6] rfl rfl (by decide) (fun hp => va_runV (C := RX11) (As := []) (rest := []) ⟨hx, hb, hml, hown, hts⟩ (k_X11_noTown (l := l) (D := D) (K := K) (t := t) (t_q := t_q) (t_1_q := t_1_q) (t_1_x0 := t_1_x0) (t_1_x1 := t_1_x1) (t_1_x2 := t_1_x2) (t_1_x3 := t_1_x3) (t_1_x4 := t_1_x4) (t_1_x5 := t_1_x5) (t_1_x6 := t_1_x6) (t_1_x7 := t_1_x7) (t_1_x8 := t_1_x8) (hi_t_1 := hi_t_1) _) (cwV 0 hts (fn_ginV (fn_gin wd_709) wd_706 wd_708 wp_30 wd_1) rfl rfl rfl (by decide +kernel) ⟨Nat.le_of_ble_eq_true rfl, Nat.le_of_ble_eq_true rfl⟩) ⟨fn_blind, va_recv hK.1 hP (ci := 11) (q0 := 0) rfl rfl, hp⟩ rfl rfl hl.1 rfl (lv_room (Nat.le_of_ble_eq_true rfl)) dX11_astray_1 ⟨Nat.le_of_ble_eq_true rfl, Nat.le_of_ble_eq_true rfl⟩) (fun r1 u1 H locs hwu1 hP hD hS => ?_)
  obtain ⟨u1a, u1b⟩ := u1
  obtain ⟨kr1, rfl, hkr1, -⟩ := hwu1
  have hP : va_P D vwCl [((t_q 7), .inr (10, oX10 t_7_q t_7_x0 t_7_x1 t_7_x6)), ((t_7_q 3), .inl (K 0, 24, .inl (fun j => iI (t_7_3_c j)))), ((t_1_q 13), .inl (K 0, 24, .inl (fun j => iI (t_1_13_c j)))), ((t_1_q 14), .inl (K 0, 24, .inl (fun j => iI (t_1_14_c j)))), ((t_1_q 10), .inl (K 0, 6, .inl (fun j => iI (t_1_10_c j)))), (t, .inr (11, oX11 t_q)), ((t_q 1), .inr (7, oX7 t_1_q t_1_x0 t_1_x1 t_1_x2 t_1_x3 t_1_x4 t_1_x5 t_1_x6 t_1_x7 t_1_x8))] H := hP
  have hD : va_D A [((t_q 7), .inr (10, oX10 t_7_q t_7_x0 t_7_x1 t_7_x6)), ((t_7_q 3), .inl (K 0, 24, .inl (fun j => iI (t_7_3_c j)))), ((t_1_q 13), .inl (K 0, 24, .inl (fun j => iI (t_1_13_c j)))), ((t_1_q 14), .inl (K 0, 24, .inl (fun j => iI (t_1_14_c j)))), ((t_1_q 10), .inl (K 0, 6, .inl (fun j => iI (t_1_10_c j)))), (t, .inr (11, oX11 t_q)), ((t_q 1), .inr (7, oX7 t_1_q t_1_x0 t_1_x1 t_1_x2 t_1_x3 t_1_x4 t_1_x5 t_1_x6 t_1_x7 t_1_x8))] := hD
  refine g_if_eq (tgt := 10) hx hb (by omega) dX11_astray_4 (by decide) (fun c4 => ?_) (fun c4 => ?_)
  · refine lv_iconst (v := iI 0) hx hb dX11_astray_10 rfl ?_
    refine lv_istore_n (lv' := [(1, .int (iI 0)), (0, .ref t)]) hx hb dX11_astray_11 rfl hl (by decide) rfl (fun ls hl => ?_)
    refine lv_iconst (v := iI 0) hx hb dX11_astray_12 rfl ?_
    refine lv_istore_n (lv' := [(2, .int (iI 0)), (1, .int (iI 0)), (0, .ref t)]) hx hb dX11_astray_13 rfl hl (by decide) rfl (fun ls hl => ?_)
    exact J14 _ 0 0 _ _ ls (Nat.lt_succ_self _) (by omega) (hP.sub [5, 6, 0, 1, 2, 3, 4] rfl) (hD.sub [5, 6, 0, 1, 2, 3, 4] (by decide) rfl) hS (lv_sub hl [2, 1, 0] rfl)
  · refine lv_bipush (v := iI (-2)) hx hb dX11_astray_7 (by decide) ?_
    rw [hQ]; exact fn_iret hx hb hr hlocks rfl hP hD hS ((fun _ => 0), (fun _ _ => 0)) ⟨(-2), rfl, by omega, trivial⟩ [5, 6, 0, 1, 2, 3, 4] (by decide) rfl dX11_astray_9
theorem wd_718 : Cond.code ⟨"FootNotes$Shelf", "putBlank", "(II)V"⟩ prog_7_method_5_code 5 (Option.none : Option Jvm.ClassFile.FieldType) ∈ fn_big := fn_tb (fn_l3 (List.mem_of_getElem? (i := 238) (by decide +kernel))) (by decide +kernel)
theorem wd_717 : Cond.instanceMethod ⟨"FootNotes$Shelf", "putBlank", "(II)V"⟩ ∈ fn_big := fn_tb (fn_l3 (List.mem_of_getElem? (i := 237) (by decide +kernel))) (by decide +kernel)
theorem wp_31 : Cond.selects "FootNotes$Shelf" ⟨"FootNotes$Shelf", "putBlank", "(II)V"⟩ ⟨"FootNotes$Shelf", "putBlank", "(II)V"⟩ ∈ fn_big := fn_sel (q := (⟨"FootNotes$Shelf", "putBlank", "(II)V"⟩, 8)) 31 (by decide +kernel) (by decide +kernel)
theorem dX11_edition_0 : decode cX11_edition 0 = .ok (.aload_n 0, 1) := by decide +kernel
theorem dX11_edition_1 : decode cX11_edition 1 = .ok (.getfield 19, 3) := by decide +kernel
theorem dX11_edition_4 : decode cX11_edition 4 = .ok (.iload_n 1, 1) := by decide +kernel
theorem dX11_edition_5 : decode cX11_edition 5 = .ok (.invokevirtual 148, 3) := by decide +kernel
theorem dX11_edition_8 : decode cX11_edition 8 = .ok (.ifCond .eq 20, 3) := by decide +kernel
theorem dX11_edition_28 : decode cX11_edition 28 = .ok (.bipush (-2), 2) := by decide +kernel
theorem dX11_edition_30 : decode cX11_edition 30 = .ok (.ireturn, 1) := by decide +kernel
theorem dX11_edition_11 : decode cX11_edition 11 = .ok (.iload_n 2, 1) := by decide +kernel
theorem dX11_edition_12 : decode cX11_edition 12 = .ok (.ifCond .lt 16, 3) := by decide +kernel
theorem dX11_edition_15 : decode cX11_edition 15 = .ok (.iload_n 2, 1) := by decide +kernel
theorem dX11_edition_16 : decode cX11_edition 16 = .ok (.aload_n 0, 1) := by decide +kernel
theorem dX11_edition_17 : decode cX11_edition 17 = .ok (.getfield 26, 3) := by decide +kernel
theorem dX11_edition_20 : decode cX11_edition 20 = .ok (.getfield 154, 3) := by decide +kernel
theorem dX11_edition_23 : decode cX11_edition 23 = .ok (.iload_n 1, 1) := by decide +kernel
theorem dX11_edition_24 : decode cX11_edition 24 = .ok (.iaload, 1) := by decide +kernel
theorem dX11_edition_25 : decode cX11_edition 25 = .ok (.if_icmp .le 6, 3) := by decide +kernel
theorem dX11_edition_31 : decode cX11_edition 31 = .ok (.aload_n 0, 1) := by decide +kernel
theorem dX11_edition_32 : decode cX11_edition 32 = .ok (.getfield 26, 3) := by decide +kernel
theorem dX11_edition_35 : decode cX11_edition 35 = .ok (.getfield 199, 3) := by decide +kernel
theorem dX11_edition_38 : decode cX11_edition 38 = .ok (.bipush 40, 2) := by decide +kernel
theorem dX11_edition_40 : decode cX11_edition 40 = .ok (.if_icmp .ge 17, 3) := by decide +kernel
theorem dX11_edition_57 : decode cX11_edition 57 = .ok (.bipush (-5), 2) := by decide +kernel
theorem dX11_edition_59 : decode cX11_edition 59 = .ok (.ireturn, 1) := by decide +kernel
theorem dX11_edition_43 : decode cX11_edition 43 = .ok (.aload_n 0, 1) := by decide +kernel
theorem dX11_edition_44 : decode cX11_edition 44 = .ok (.getfield 26, 3) := by decide +kernel
theorem dX11_edition_47 : decode cX11_edition 47 = .ok (.getfield 154, 3) := by decide +kernel
theorem dX11_edition_50 : decode cX11_edition 50 = .ok (.iload_n 1, 1) := by decide +kernel
theorem dX11_edition_51 : decode cX11_edition 51 = .ok (.iaload, 1) := by decide +kernel
theorem dX11_edition_52 : decode cX11_edition 52 = .ok (.bipush 30, 2) := by decide +kernel
theorem dX11_edition_54 : decode cX11_edition 54 = .ok (.if_icmp .lt 6, 3) := by decide +kernel
theorem dX11_edition_60 : decode cX11_edition 60 = .ok (.aload_n 0, 1) := by decide +kernel
theorem dX11_edition_61 : decode cX11_edition 61 = .ok (.getfield 26, 3) := by decide +kernel
theorem dX11_edition_64 : decode cX11_edition 64 = .ok (.iload_n 1, 1) := by decide +kernel
theorem dX11_edition_65 : decode cX11_edition 65 = .ok (.iload_n 2, 1) := by decide +kernel
theorem dX11_edition_66 : decode cX11_edition 66 = .ok (.invokevirtual 202, 3) := by decide +kernel
theorem dX11_edition_69 : decode cX11_edition 69 = .ok (.aload_n 0, 1) := by decide +kernel
theorem dX11_edition_70 : decode cX11_edition 70 = .ok (.invokevirtual 117, 3) := by decide +kernel
theorem dX11_edition_73 : decode cX11_edition 73 = .ok (.aload_n 0, 1) := by decide +kernel
theorem dX11_edition_74 : decode cX11_edition 74 = .ok (.getfield 26, 3) := by decide +kernel
theorem dX11_edition_77 : decode cX11_edition 77 = .ok (.getfield 154, 3) := by decide +kernel
theorem dX11_edition_80 : decode cX11_edition 80 = .ok (.iload_n 1, 1) := by decide +kernel
theorem dX11_edition_81 : decode cX11_edition 81 = .ok (.iaload, 1) := by decide +kernel
theorem dX11_edition_82 : decode cX11_edition 82 = .ok (.ireturn, 1) := by decide +kernel
set_option maxHeartbeats 4000000 in
set_option maxRecDepth 100000 in
theorem k_X11_edition (l : Launch) (D : va_G) (K : Nat → ClassId) (t : Nat) (t_q t_1_q t_2_q t_7_q : Nat → Nat) (p1 p2 t_1_x0 t_1_x1 t_1_x2 t_1_x3 t_1_x4 t_1_x5 t_1_x6 t_1_x7 t_1_x8 t_2_x0 t_7_x0 t_7_x1 t_7_x6 : Int) (t_2_1_c : Nat → Int) (t_2_4_c : Nat → Int) (t_2_5_c : Nat → Int) (t_2_6_c : Nat → Int) (t_2_7_c : Nat → Int) (t_2_2_c : Nat → Int) (t_7_2_c : Nat → Int) (t_7_4_c : Nat → Int) (t_1_12_c : Nat → Int) (t_2_3_c : Nat → Int) (t_1_13_c : Nat → Int) (t_7_3_c : Nat → Int) (hp1 : (-2147483648) ≤ p1 ∧ p1 ≤ 2147483647) (hp2 : (-2147483648) ≤ p2 ∧ p2 ≤ 2147483647) (hi_t_1 : bX7 t_1_x0 t_1_x1 t_1_x2 t_1_x3 t_1_x4 t_1_x5 t_1_x6 t_1_x7 t_1_x8) (hi_t_2 : bX5 t_2_x0) (hc_t_2_1 : ∀ j : Nat, (-1000) ≤ t_2_1_c j ∧ t_2_1_c j ≤ 30) (hc_t_2_4 : ∀ j : Nat, 0 ≤ t_2_4_c j ∧ t_2_4_c j ≤ 2) (hc_t_2_5 : ∀ j : Nat, 0 ≤ t_2_5_c j ∧ t_2_5_c j ≤ 23) (hc_t_2_6 : ∀ j : Nat, 0 ≤ t_2_6_c j ∧ t_2_6_c j ≤ 29) (hc_t_2_7 : ∀ j : Nat, (-4) ≤ t_2_7_c j ∧ t_2_7_c j ≤ 29) (hc_t_2_2 : ∀ j : Nat, (-4) ≤ t_2_2_c j ∧ t_2_2_c j ≤ 11) (hi_t_7 : bX10 t_7_x0 t_7_x1 t_7_x6) (hc_t_7_2 : ∀ j : Nat, (-1) ≤ t_7_2_c j ∧ t_7_2_c j ≤ 149) (hc_t_7_4 : ∀ j : Nat, 0 ≤ t_7_4_c j ∧ t_7_4_c j ≤ 4095) (hc_t_1_12 : ∀ j : Nat, 0 ≤ t_1_12_c j ∧ t_1_12_c j ≤ 11) (hc_t_2_3 : ∀ j : Nat, 0 ≤ t_2_3_c j ∧ t_2_3_c j ≤ 29) (hc_t_1_13 : ∀ j : Nat, 0 ≤ t_1_13_c j ∧ t_1_13_c j ≤ 4) (hc_t_7_3 : ∀ j : Nat, (-1) ≤ t_7_3_c j ∧ t_7_3_c j ≤ 11) (ar : AR t_2_4_c t_2_5_c t_2_7_c) : fn_CI (S := (Nat → Int) × (Nat → Nat → Int)) l D K yX11_edition (fn_ws yX11_edition cX11_edition 3 (some .int)) ({ frames := 20, cells := 0, slots := 0, locals := 500 } : Room) [.ref t, .int (iI p1), .int (iI p2)] [(t, .inr (11, oX11 t_q)), ((t_q 1), .inr (7, oX7 t_1_q t_1_x0 t_1_x1 t_1_x2 t_1_x3 t_1_x4 t_1_x5 t_1_x6 t_1_x7 t_1_x8)), ((t_q 2), .inr (5, oX5 t_2_q t_2_x0)), ((t_2_q 1), .inl (K 0, 5, .inl (fun j => iI (t_2_1_c j)))), ((t_2_q 4), .inl (K 0, 40, .inl (fun j => iI (t_2_4_c j)))), ((t_2_q 5), .inl (K 0, 40, .inl (fun j => iI (t_2_5_c j)))), ((t_2_q 6), .inl (K 0, 40, .inl (fun j => iI (t_2_6_c j)))), ((t_2_q 7), .inl (K 0, 40, .inl (fun j => iI (t_2_7_c j)))), ((t_2_q 2), .inl (K 0, 150, .inl (fun j => iI (t_2_2_c j)))), ((t_q 7), .inr (10, oX10 t_7_q t_7_x0 t_7_x1 t_7_x6)), ((t_7_q 2), .inl (K 0, 12, .inl (fun j => iI (t_7_2_c j)))), ((t_7_q 4), .inl (K 0, 12, .inl (fun j => iI (t_7_4_c j)))), ((t_1_q 12), .inl (K 0, 24, .inl (fun j => iI (t_1_12_c j)))), ((t_2_q 3), .inl (K 0, 24, .inl (fun j => iI (t_2_3_c j)))), ((t_1_q 13), .inl (K 0, 24, .inl (fun j => iI (t_1_13_c j)))), ((t_7_q 3), .inl (K 0, 24, .inl (fun j => iI (t_7_3_c j))))] (fun r u => ∃ k : Int, r = iI k ∧ ((-1000) ≤ k ∧ k ≤ 30) ∧ (0 ≤ (u.1 0) ∧ (u.1 0) ≤ 40 ∧ 0 ≤ (u.1 1) ∧ (u.1 1) ≤ 12 ∧ 0 ≤ (u.1 2) ∧ (u.1 2) ≤ 4095) ∧ (AR (u.2 2) (u.2 3) (u.2 5)) ∧ (∀ j : Nat, t_2_1_c j ≤ (u.2 0) j) ∧ (∀ j : Nat, (-1000) ≤ (u.2 0) j ∧ (u.2 0) j ≤ 30) ∧ (∀ j : Nat, (-4) ≤ (u.2 1) j ∧ (u.2 1) j ≤ 11) ∧ (∀ j : Nat, 0 ≤ (u.2 2) j ∧ (u.2 2) j ≤ 2) ∧ (∀ j : Nat, 0 ≤ (u.2 3) j ∧ (u.2 3) j ≤ 23) ∧ (∀ j : Nat, 0 ≤ (u.2 4) j ∧ (u.2 4) j ≤ 29) ∧ (∀ j : Nat, (-4) ≤ (u.2 5) j ∧ (u.2 5) j ≤ 29) ∧ (∀ j : Nat, (-1) ≤ (u.2 6) j ∧ (u.2 6) j ≤ 149) ∧ (∀ j : Nat, (-1) ≤ (u.2 7) j ∧ (u.2 7) j ≤ 11) ∧ (∀ j : Nat, 0 ≤ (u.2 8) j ∧ (u.2 8) j ≤ 4095) ∧ True) (fun u => [(t, .inr (11, oX11 t_q)), ((t_q 1), .inr (7, oX7 t_1_q t_1_x0 t_1_x1 t_1_x2 t_1_x3 t_1_x4 t_1_x5 t_1_x6 t_1_x7 t_1_x8)), ((t_q 2), .inr (5, oX5 t_2_q (u.1 0))), ((t_2_q 1), .inl (K 0, 5, .inl (fun j => iI ((u.2 0) j)))), ((t_2_q 4), .inl (K 0, 40, .inl (fun j => iI ((u.2 2) j)))), ((t_2_q 5), .inl (K 0, 40, .inl (fun j => iI ((u.2 3) j)))), ((t_2_q 6), .inl (K 0, 40, .inl (fun j => iI ((u.2 4) j)))), ((t_2_q 7), .inl (K 0, 40, .inl (fun j => iI ((u.2 5) j)))), ((t_2_q 2), .inl (K 0, 150, .inl (fun j => iI ((u.2 1) j)))), ((t_q 7), .inr (10, oX10 t_7_q (u.1 1) (u.1 2) t_7_x6)), ((t_7_q 2), .inl (K 0, 12, .inl (fun j => iI ((u.2 6) j)))), ((t_7_q 4), .inl (K 0, 12, .inl (fun j => iI ((u.2 8) j)))), ((t_1_q 12), .inl (K 0, 24, .inl (fun j => iI (t_1_12_c j)))), ((t_2_q 3), .inl (K 0, 24, .inl (fun j => iI (t_2_3_c j)))), ((t_1_q 13), .inl (K 0, 24, .inl (fun j => iI (t_1_13_c j)))), ((t_7_q 3), .inl (K 0, 24, .inl (fun j => iI ((u.2 7) j))))]) 0 0 := by
  refine g_inI (cc := cX11_edition) (maxL := 3) (ret := (some .int)) (by decide) rfl (Nat.le_of_ble_eq_true rfl) ?_
  intro p e s m below meth c A ls ag Q B hA hP hD hS hl hQ
  obtain ⟨hx, hb, hr, hml, hts, hown, hlocks, hin, hK⟩ := B
  have hown : s.vm.findClass RX11 = some m.cls := hown
  have hts := fun w h => hts w (List.mem_cons_of_mem _ h)
  have hl : lv_has ls 3 [(0, .ref t), (1, .int (iI p1)), (2, .int (iI p2))] := hl
  refine lv_aload_n hx hb dX11_edition_0 rfl (lv_at hl 0 rfl) ?_
  refine va_get (D := D) (own := RX11) (ci := 11) (v := .ref (t_q 1)) (C := RX11) (T := TX11) (N := 13) hx hb hts inb_X11 hown hK.1 hP 0 rfl rfl 1 (by decide) (hts _ wd_423) (fun _ h9 => h9) rfl dX11_edition_1 ?_
  refine lv_iload_n hx hb dX11_edition_4 rfl (lv_at hl 1 rfl) ?_
  refine fn_goi (wc := [((t_q 1), .inr (7, oX7 t_1_q t_1_x0 t_1_x1 t_1_x2 t_1_x3 t_1_x4 t_1_x5 t_1_x6 t_1_x7 t_1_x8))]) (wr := [(t, .inr (11, oX11 t_q)), ((t_q 2), .inr (5, oX5 t_2_q t_2_x0)), ((t_2_q 1), .inl (K 0, 5, .inl (fun j => iI (t_2_1_c j)))), ((t_2_q 4), .inl (K 0, 40, .inl (fun j => iI (t_2_4_c j)))), ((t_2_q 5), .inl (K 0, 40, .inl (fun j => iI (t_2_5_c j)))), ((t_2_q 6), .inl (K 0, 40, .inl (fun j => iI (t_2_6_c j)))), ((t_2_q 7), .inl (K 0, 40, .inl (fun j => iI (t_2_7_c j)))), ((t_2_q 2), .inl (K 0, 150, .inl (fun j => iI (t_2_2_c j)))), ((t_q 7), .inr (10, oX10 t_7_q t_7_x0 t_7_x1 t_7_x6)), ((t_7_q 2), .inl (K 0, 12, .inl (fun j => iI (t_7_2_c j)))), ((t_7_q 4), .inl (K 0, 12, .inl (fun j => iI (t_7_4_c j)))), ((t_1_q 12), .inl (K 0, 24, .inl (fun j => iI (t_1_12_c j)))), ((t_2_q 3), .inl (K 0, 24, .inl (fun j => iI (t_2_3_c j)))), ((t_1_q 13), .inl (K 0, 24, .inl (fun j => iI (t_1_13_c j)))), ((t_7_q 3), .inl (K 0, 24, .inl (fun j => iI (t_7_3_c j))))]) hK hP hD hS hA [1] [0, 2, 3, 4, 5, 6, 7, 8, 9, 10, 11, 12, 13, 14, 15] rfl rfl (by decide) (fun hp => va_runVN (C := RX7) (As := [.int (iI p1)]) (rest := []) ⟨hx, hb, hml, hown, hts⟩ (k_X7_hasBook (l := l) (D := D) (K := K) (t := (t_q 1)) (p1 := p1) (t_q := t_1_q) (t_x0 := t_1_x0) (t_x1 := t_1_x1) (t_x2 := t_1_x2) (t_x3 := t_1_x3) (t_x4 := t_1_x4) (t_x5 := t_1_x5) (t_x6 := t_1_x6) (t_x7 := t_1_x7) (t_x8 := t_1_x8) (hp1 := (by omega)) (hi_t := hi_t_1) _) ⟨va_cnB (own := RX11) 1 hts (fn_gin wd_674) rfl rfl rfl (hK.nw 110 rfl) (hts _ wd_4) (by decide +kernel) ⟨Nat.le_of_ble_eq_true rfl, Nat.le_of_ble_eq_true rfl⟩, hts _ wd_673, hts _ wp_27⟩ ⟨fn_blind, va_recv hK.1 hP (ci := 7) (q0 := 1) rfl rfl, hp⟩ rfl rfl hl.1 rfl (lv_room (Nat.le_of_ble_eq_true rfl)) dX11_edition_5 ⟨Nat.le_of_ble_eq_true rfl, Nat.le_of_ble_eq_true rfl⟩) (fun r5 u5 H locs hwu5 hP hD hS => ?_)
  obtain ⟨u5a, u5b⟩ := u5
  obtain ⟨kr5, rfl, hkr5, hqu50, -⟩ := hwu5
  have hqu5 : (kr5 = 1 → 0 ≤ p1 ∧ p1 < t_1_x3 ∧ p1 ≤ 4) := hqu50
  clear hqu50
  have hP : va_P D vwCl [(t, .inr (11, oX11 t_q)), ((t_q 2), .inr (5, oX5 t_2_q t_2_x0)), ((t_2_q 1), .inl (K 0, 5, .inl (fun j => iI (t_2_1_c j)))), ((t_2_q 4), .inl (K 0, 40, .inl (fun j => iI (t_2_4_c j)))), ((t_2_q 5), .inl (K 0, 40, .inl (fun j => iI (t_2_5_c j)))), ((t_2_q 6), .inl (K 0, 40, .inl (fun j => iI (t_2_6_c j)))), ((t_2_q 7), .inl (K 0, 40, .inl (fun j => iI (t_2_7_c j)))), ((t_2_q 2), .inl (K 0, 150, .inl (fun j => iI (t_2_2_c j)))), ((t_q 7), .inr (10, oX10 t_7_q t_7_x0 t_7_x1 t_7_x6)), ((t_7_q 2), .inl (K 0, 12, .inl (fun j => iI (t_7_2_c j)))), ((t_7_q 4), .inl (K 0, 12, .inl (fun j => iI (t_7_4_c j)))), ((t_1_q 12), .inl (K 0, 24, .inl (fun j => iI (t_1_12_c j)))), ((t_2_q 3), .inl (K 0, 24, .inl (fun j => iI (t_2_3_c j)))), ((t_1_q 13), .inl (K 0, 24, .inl (fun j => iI (t_1_13_c j)))), ((t_7_q 3), .inl (K 0, 24, .inl (fun j => iI (t_7_3_c j)))), ((t_q 1), .inr (7, oX7 t_1_q t_1_x0 t_1_x1 t_1_x2 t_1_x3 t_1_x4 t_1_x5 t_1_x6 t_1_x7 t_1_x8))] H := hP
  have hD : va_D A [(t, .inr (11, oX11 t_q)), ((t_q 2), .inr (5, oX5 t_2_q t_2_x0)), ((t_2_q 1), .inl (K 0, 5, .inl (fun j => iI (t_2_1_c j)))), ((t_2_q 4), .inl (K 0, 40, .inl (fun j => iI (t_2_4_c j)))), ((t_2_q 5), .inl (K 0, 40, .inl (fun j => iI (t_2_5_c j)))), ((t_2_q 6), .inl (K 0, 40, .inl (fun j => iI (t_2_6_c j)))), ((t_2_q 7), .inl (K 0, 40, .inl (fun j => iI (t_2_7_c j)))), ((t_2_q 2), .inl (K 0, 150, .inl (fun j => iI (t_2_2_c j)))), ((t_q 7), .inr (10, oX10 t_7_q t_7_x0 t_7_x1 t_7_x6)), ((t_7_q 2), .inl (K 0, 12, .inl (fun j => iI (t_7_2_c j)))), ((t_7_q 4), .inl (K 0, 12, .inl (fun j => iI (t_7_4_c j)))), ((t_1_q 12), .inl (K 0, 24, .inl (fun j => iI (t_1_12_c j)))), ((t_2_q 3), .inl (K 0, 24, .inl (fun j => iI (t_2_3_c j)))), ((t_1_q 13), .inl (K 0, 24, .inl (fun j => iI (t_1_13_c j)))), ((t_7_q 3), .inl (K 0, 24, .inl (fun j => iI (t_7_3_c j)))), ((t_q 1), .inr (7, oX7 t_1_q t_1_x0 t_1_x1 t_1_x2 t_1_x3 t_1_x4 t_1_x5 t_1_x6 t_1_x7 t_1_x8))] := hD
  refine g_if_eq (tgt := 28) hx hb (by omega) dX11_edition_8 (by decide) (fun c8 => ?_) (fun c8 => ?_)
  · refine lv_bipush (v := iI (-2)) hx hb dX11_edition_28 (by decide) ?_
    have y30_1 : 0 ≤ t_2_x0 ∧ t_2_x0 ≤ 40 := hi_t_2
    have y30_2 : 0 ≤ t_7_x0 ∧ t_7_x0 ≤ 12 := hi_t_7.1
    have y30_3 : 0 ≤ t_7_x1 ∧ t_7_x1 ≤ 4095 := hi_t_7.2.1
    rw [hQ]; exact fn_iret hx hb hr hlocks rfl hP hD hS ((fun k => ([t_2_x0, t_7_x0, t_7_x1] : List Int).getD k 0), (fun k => ([t_2_1_c, t_2_2_c, t_2_4_c, t_2_5_c, t_2_6_c, t_2_7_c, t_7_2_c, t_7_3_c, t_7_4_c] : List (Nat → Int)).getD k (fun _ => 0))) ⟨(-2), rfl, by omega, (by show 0 ≤ t_2_x0 ∧ t_2_x0 ≤ 40 ∧ 0 ≤ t_7_x0 ∧ t_7_x0 ≤ 12 ∧ 0 ≤ t_7_x1 ∧ t_7_x1 ≤ 4095; omega), (show AR t_2_4_c t_2_5_c t_2_7_c from by assumption), (show ∀ j : Nat, t_2_1_c j ≤ t_2_1_c j from by first | assumption | exact fun j => Int.le_refl _), (hc_t_2_1), (hc_t_2_2), (hc_t_2_4), (hc_t_2_5), (hc_t_2_6), (hc_t_2_7), (hc_t_7_2), (hc_t_7_3), (hc_t_7_4), trivial⟩ [0, 15, 1, 2, 3, 4, 5, 6, 7, 8, 9, 10, 11, 12, 13, 14] (by decide) rfl dX11_edition_30
  · refine lv_iload_n hx hb dX11_edition_11 rfl (lv_at hl 2 rfl) ?_
    refine g_if_lt (tgt := 28) hx hb (by omega) dX11_edition_12 (by decide) (fun c12 => ?_) (fun c12 => ?_)
    · refine lv_bipush (v := iI (-2)) hx hb dX11_edition_28 (by decide) ?_
      have y30_1 : 0 ≤ t_2_x0 ∧ t_2_x0 ≤ 40 := hi_t_2
      have y30_2 : 0 ≤ t_7_x0 ∧ t_7_x0 ≤ 12 := hi_t_7.1
      have y30_3 : 0 ≤ t_7_x1 ∧ t_7_x1 ≤ 4095 := hi_t_7.2.1
      rw [hQ]; exact fn_iret hx hb hr hlocks rfl hP hD hS ((fun k => ([t_2_x0, t_7_x0, t_7_x1] : List Int).getD k 0), (fun k => ([t_2_1_c, t_2_2_c, t_2_4_c, t_2_5_c, t_2_6_c, t_2_7_c, t_7_2_c, t_7_3_c, t_7_4_c] : List (Nat → Int)).getD k (fun _ => 0))) ⟨(-2), rfl, by omega, (by show 0 ≤ t_2_x0 ∧ t_2_x0 ≤ 40 ∧ 0 ≤ t_7_x0 ∧ t_7_x0 ≤ 12 ∧ 0 ≤ t_7_x1 ∧ t_7_x1 ≤ 4095; omega), (show AR t_2_4_c t_2_5_c t_2_7_c from by assumption), (show ∀ j : Nat, t_2_1_c j ≤ t_2_1_c j from by first | assumption | exact fun j => Int.le_refl _), (hc_t_2_1), (hc_t_2_2), (hc_t_2_4), (hc_t_2_5), (hc_t_2_6), (hc_t_2_7), (hc_t_7_2), (hc_t_7_3), (hc_t_7_4), trivial⟩ [0, 15, 1, 2, 3, 4, 5, 6, 7, 8, 9, 10, 11, 12, 13, 14] (by decide) rfl dX11_edition_30
    · refine lv_iload_n hx hb dX11_edition_15 rfl (lv_at hl 2 rfl) ?_
      refine lv_aload_n hx hb dX11_edition_16 rfl (lv_at hl 0 rfl) ?_
      refine va_get (D := D) (own := RX11) (ci := 11) (v := .ref (t_q 2)) (C := RX11) (T := TX11) (N := 13) hx hb hts inb_X11 hown hK.1 hP 0 rfl rfl 2 (by decide) (hts _ wd_424) (fun _ h9 => h9) rfl dX11_edition_17 ?_
      refine va_getN (D := D) (own := RX11) (ci := 5) (v := .ref (t_2_q 1)) (C := RX5) (T := TX5) (N := 8) hx hb hts inb_X5 hown hK.1 hP 1 rfl rfl 1 (by decide) (hK.nf 59 rfl) (fun _ h9 => h9) rfl dX11_edition_20 ?_
      refine lv_iload_n hx hb dX11_edition_23 rfl (lv_at hl 1 rfl) ?_
      refine g_iald hx hb hK.1 hP 2 0 rfl rfl (by omega) (by omega) (by decide) dX11_edition_24 ?_
      have y24 : (-1000) ≤ (t_2_1_c p1.toNat) ∧ (t_2_1_c p1.toNat) ≤ 30 := hc_t_2_1 p1.toNat
      refine g_icmp_le (tgt := 31) hx hb (by omega) (by omega) dX11_edition_25 (by decide) (fun c25 => ?_) (fun c25 => ?_)
      · refine lv_aload_n hx hb dX11_edition_31 rfl (lv_at hl 0 rfl) ?_
        refine va_get (D := D) (own := RX11) (ci := 11) (v := .ref (t_q 2)) (C := RX11) (T := TX11) (N := 13) hx hb hts inb_X11 hown hK.1 hP 0 rfl rfl 2 (by decide) (hts _ wd_424) (fun _ h9 => h9) rfl dX11_edition_32 ?_
        refine va_getN (D := D) (own := RX11) (ci := 5) (v := .int (iI t_2_x0)) (C := RX5) (T := TX5) (N := 8) hx hb hts inb_X5 hown hK.1 hP 1 rfl rfl 0 (by decide) (hK.nf 56 rfl) (fun _ h9 => h9) rfl dX11_edition_35 ?_
        have y35_1 : 0 ≤ t_2_x0 ∧ t_2_x0 ≤ 40 := hi_t_2
        refine lv_bipush (v := iI 40) hx hb dX11_edition_38 (by decide) ?_
        refine g_icmp_ge (tgt := 57) hx hb (by omega) (by omega) dX11_edition_40 (by decide) (fun c40 => ?_) (fun c40 => ?_)
        · refine fn_at 57 rfl ?_
          refine lv_bipush (v := iI (-5)) hx hb dX11_edition_57 (by decide) ?_
          have y59_2 : 0 ≤ t_7_x0 ∧ t_7_x0 ≤ 12 := hi_t_7.1
          have y59_3 : 0 ≤ t_7_x1 ∧ t_7_x1 ≤ 4095 := hi_t_7.2.1
          rw [hQ]; exact fn_iret hx hb hr hlocks rfl hP hD hS ((fun k => ([t_2_x0, t_7_x0, t_7_x1] : List Int).getD k 0), (fun k => ([t_2_1_c, t_2_2_c, t_2_4_c, t_2_5_c, t_2_6_c, t_2_7_c, t_7_2_c, t_7_3_c, t_7_4_c] : List (Nat → Int)).getD k (fun _ => 0))) ⟨(-5), rfl, by omega, (by show 0 ≤ t_2_x0 ∧ t_2_x0 ≤ 40 ∧ 0 ≤ t_7_x0 ∧ t_7_x0 ≤ 12 ∧ 0 ≤ t_7_x1 ∧ t_7_x1 ≤ 4095; omega), (show AR t_2_4_c t_2_5_c t_2_7_c from by assumption), (show ∀ j : Nat, t_2_1_c j ≤ t_2_1_c j from by first | assumption | exact fun j => Int.le_refl _), (hc_t_2_1), (hc_t_2_2), (hc_t_2_4), (hc_t_2_5), (hc_t_2_6), (hc_t_2_7), (hc_t_7_2), (hc_t_7_3), (hc_t_7_4), trivial⟩ [0, 15, 1, 2, 3, 4, 5, 6, 7, 8, 9, 10, 11, 12, 13, 14] (by decide) rfl dX11_edition_59
        · refine fn_at 43 rfl ?_
          refine lv_aload_n hx hb dX11_edition_43 rfl (lv_at hl 0 rfl) ?_
          refine va_get (D := D) (own := RX11) (ci := 11) (v := .ref (t_q 2)) (C := RX11) (T := TX11) (N := 13) hx hb hts inb_X11 hown hK.1 hP 0 rfl rfl 2 (by decide) (hts _ wd_424) (fun _ h9 => h9) rfl dX11_edition_44 ?_
          refine va_getN (D := D) (own := RX11) (ci := 5) (v := .ref (t_2_q 1)) (C := RX5) (T := TX5) (N := 8) hx hb hts inb_X5 hown hK.1 hP 1 rfl rfl 1 (by decide) (hK.nf 59 rfl) (fun _ h9 => h9) rfl dX11_edition_47 ?_
          refine lv_iload_n hx hb dX11_edition_50 rfl (lv_at hl 1 rfl) ?_
          refine g_iald hx hb hK.1 hP 2 0 rfl rfl (by omega) (by omega) (by decide) dX11_edition_51 ?_
          refine lv_bipush (v := iI 30) hx hb dX11_edition_52 (by decide) ?_
          refine g_icmp_lt (tgt := 60) hx hb (by omega) (by omega) dX11_edition_54 (by decide) (fun c54 => ?_) (fun c54 => ?_)
          · refine lv_aload_n hx hb dX11_edition_60 rfl (lv_at hl 0 rfl) ?_
            refine va_get (D := D) (own := RX11) (ci := 11) (v := .ref (t_q 2)) (C := RX11) (T := TX11) (N := 13) hx hb hts inb_X11 hown hK.1 hP 0 rfl rfl 2 (by decide) (hts _ wd_424) (fun _ h9 => h9) rfl dX11_edition_61 ?_
            refine lv_iload_n hx hb dX11_edition_64 rfl (lv_at hl 1 rfl) ?_
            refine lv_iload_n hx hb dX11_edition_65 rfl (lv_at hl 2 rfl) ?_
            refine fn_gov (wc := [((t_q 2), .inr (5, oX5 t_2_q t_2_x0)), ((t_2_q 4), .inl (K 0, 40, .inl (fun j => iI (t_2_4_c j)))), ((t_2_q 5), .inl (K 0, 40, .inl (fun j => iI (t_2_5_c j)))), ((t_2_q 6), .inl (K 0, 40, .inl (fun j => iI (t_2_6_c j)))), ((t_2_q 7), .inl (K 0, 40, .inl (fun j => iI (t_2_7_c j)))), ((t_2_q 1), .inl (K 0, 5, .inl (fun j => iI (t_2_1_c j)))), ((t_2_q 2), .inl (K 0, 150, .inl (fun j => iI (t_2_2_c j))))]) (wr := [(t, .inr (11, oX11 t_q)), ((t_q 7), .inr (10, oX10 t_7_q t_7_x0 t_7_x1 t_7_x6)), ((t_7_q 2), .inl (K 0, 12, .inl (fun j => iI (t_7_2_c j)))), ((t_7_q 4), .inl (K 0, 12, .inl (fun j => iI (t_7_4_c j)))), ((t_1_q 12), .inl (K 0, 24, .inl (fun j => iI (t_1_12_c j)))), ((t_2_q 3), .inl (K 0, 24, .inl (fun j => iI (t_2_3_c j)))), ((t_1_q 13), .inl (K 0, 24, .inl (fun j => iI (t_1_13_c j)))), ((t_7_q 3), .inl (K 0, 24, .inl (fun j => iI (t_7_3_c j)))), ((t_q 1), .inr (7, oX7 t_1_q t_1_x0 t_1_x1 t_1_x2 t_1_x3 t_1_x4 t_1_x5 t_1_x6 t_1_x7 t_1_x8))]) hK hP hD hS hA [1, 3, 4, 5, 6, 2, 7] [0, 8, 9, 10, 11, 12, 13, 14, 15] rfl rfl (by decide) (fun hp => va_runVN (C := RX5) (As := [.int (iI p1), .int (iI p2)]) (rest := []) ⟨hx, hb, hml, hown, hts⟩ (k_X5_putBlank (l := l) (D := D) (K := K) (t := (t_q 2)) (p1 := p1) (p2 := p2) (t_q := t_2_q) (t_x0 := t_2_x0) (t_4_c := t_2_4_c) (t_5_c := t_2_5_c) (t_6_c := t_2_6_c) (t_7_c := t_2_7_c) (t_1_c := t_2_1_c) (t_2_c := t_2_2_c) (hp1 := (by omega)) (hp2 := (by omega)) (hi_t := hi_t_2) (hc_t_4 := hc_t_2_4) (hc_t_5 := hc_t_2_5) (hc_t_6 := hc_t_2_6) (hc_t_7 := hc_t_2_7) (hc_t_1 := hc_t_2_1) (hc_t_2 := hc_t_2_2) (ar := (show AR t_2_4_c t_2_5_c t_2_7_c from by assumption)) (lc := (show t_2_1_c (Int.toNat p1) ≤ 29 from by omega)) _) ⟨va_cnB (own := RX11) 2 hts (fn_gin wd_718) rfl rfl rfl (hK.nw 115 rfl) (hts _ wd_5) (by decide +kernel) ⟨Nat.le_of_ble_eq_true rfl, Nat.le_of_ble_eq_true rfl⟩, hts _ wd_717, hts _ wp_31⟩ ⟨fn_blind, va_recv hK.1 hP (ci := 5) (q0 := 1) rfl rfl, hp⟩ rfl rfl hl.1 rfl (lv_room (Nat.le_of_ble_eq_true rfl)) dX11_edition_66 ⟨Nat.le_of_ble_eq_true rfl, Nat.le_of_ble_eq_true rfl⟩) (fun u66 H locs hwu66 hP hD hS => ?_)
            obtain ⟨u66a, u66b⟩ := u66
            obtain ⟨hqu660, hqu66_ar0, hqu66_lb0, hu66_00, hu66_10, hu66_20, hu66_30, hu66_40, hu66_50, -⟩ := hwu66
            have hqu66 : 0 ≤ (u66a 0) ∧ (u66a 0) ≤ 40 := hqu660
            have hqu66_ar : AR (u66b 2) (u66b 3) (u66b 5) := hqu66_ar0
            have hqu66_lb : ∀ j : Nat, t_2_1_c j ≤ (u66b 0) j := hqu66_lb0
            have hu66_0 : ∀ j : Nat, (-1000) ≤ (u66b 0) j ∧ (u66b 0) j ≤ 30 := hu66_00
            have hu66_1 : ∀ j : Nat, (-4) ≤ (u66b 1) j ∧ (u66b 1) j ≤ 11 := hu66_10
            have hu66_2 : ∀ j : Nat, 0 ≤ (u66b 2) j ∧ (u66b 2) j ≤ 2 := hu66_20
            have hu66_3 : ∀ j : Nat, 0 ≤ (u66b 3) j ∧ (u66b 3) j ≤ 23 := hu66_30
            have hu66_4 : ∀ j : Nat, 0 ≤ (u66b 4) j ∧ (u66b 4) j ≤ 29 := hu66_40
            have hu66_5 : ∀ j : Nat, (-4) ≤ (u66b 5) j ∧ (u66b 5) j ≤ 29 := hu66_50
            clear hqu660 hqu66_ar0 hqu66_lb0 hu66_00 hu66_10 hu66_20 hu66_30 hu66_40 hu66_50
            have hP : va_P D vwCl [(t, .inr (11, oX11 t_q)), ((t_q 7), .inr (10, oX10 t_7_q t_7_x0 t_7_x1 t_7_x6)), ((t_7_q 2), .inl (K 0, 12, .inl (fun j => iI (t_7_2_c j)))), ((t_7_q 4), .inl (K 0, 12, .inl (fun j => iI (t_7_4_c j)))), ((t_1_q 12), .inl (K 0, 24, .inl (fun j => iI (t_1_12_c j)))), ((t_2_q 3), .inl (K 0, 24, .inl (fun j => iI (t_2_3_c j)))), ((t_1_q 13), .inl (K 0, 24, .inl (fun j => iI (t_1_13_c j)))), ((t_7_q 3), .inl (K 0, 24, .inl (fun j => iI (t_7_3_c j)))), ((t_q 1), .inr (7, oX7 t_1_q t_1_x0 t_1_x1 t_1_x2 t_1_x3 t_1_x4 t_1_x5 t_1_x6 t_1_x7 t_1_x8)), ((t_q 2), .inr (5, oX5 t_2_q (u66a 0))), ((t_2_q 4), .inl (K 0, 40, .inl (fun j => iI ((u66b 2) j)))), ((t_2_q 5), .inl (K 0, 40, .inl (fun j => iI ((u66b 3) j)))), ((t_2_q 6), .inl (K 0, 40, .inl (fun j => iI ((u66b 4) j)))), ((t_2_q 7), .inl (K 0, 40, .inl (fun j => iI ((u66b 5) j)))), ((t_2_q 1), .inl (K 0, 5, .inl (fun j => iI ((u66b 0) j)))), ((t_2_q 2), .inl (K 0, 150, .inl (fun j => iI ((u66b 1) j))))] H := hP
            have hD : va_D A [(t, .inr (11, oX11 t_q)), ((t_q 7), .inr (10, oX10 t_7_q t_7_x0 t_7_x1 t_7_x6)), ((t_7_q 2), .inl (K 0, 12, .inl (fun j => iI (t_7_2_c j)))), ((t_7_q 4), .inl (K 0, 12, .inl (fun j => iI (t_7_4_c j)))), ((t_1_q 12), .inl (K 0, 24, .inl (fun j => iI (t_1_12_c j)))), ((t_2_q 3), .inl (K 0, 24, .inl (fun j => iI (t_2_3_c j)))), ((t_1_q 13), .inl (K 0, 24, .inl (fun j => iI (t_1_13_c j)))), ((t_7_q 3), .inl (K 0, 24, .inl (fun j => iI (t_7_3_c j)))), ((t_q 1), .inr (7, oX7 t_1_q t_1_x0 t_1_x1 t_1_x2 t_1_x3 t_1_x4 t_1_x5 t_1_x6 t_1_x7 t_1_x8)), ((t_q 2), .inr (5, oX5 t_2_q (u66a 0))), ((t_2_q 4), .inl (K 0, 40, .inl (fun j => iI ((u66b 2) j)))), ((t_2_q 5), .inl (K 0, 40, .inl (fun j => iI ((u66b 3) j)))), ((t_2_q 6), .inl (K 0, 40, .inl (fun j => iI ((u66b 4) j)))), ((t_2_q 7), .inl (K 0, 40, .inl (fun j => iI ((u66b 5) j)))), ((t_2_q 1), .inl (K 0, 5, .inl (fun j => iI ((u66b 0) j)))), ((t_2_q 2), .inl (K 0, 150, .inl (fun j => iI ((u66b 1) j))))] := hD
            refine lv_aload_n hx hb dX11_edition_69 rfl (lv_at hl 0 rfl) ?_
            refine fn_gov (wc := [(t, .inr (11, oX11 t_q)), ((t_q 7), .inr (10, oX10 t_7_q t_7_x0 t_7_x1 t_7_x6)), ((t_q 1), .inr (7, oX7 t_1_q t_1_x0 t_1_x1 t_1_x2 t_1_x3 t_1_x4 t_1_x5 t_1_x6 t_1_x7 t_1_x8)), ((t_7_q 2), .inl (K 0, 12, .inl (fun j => iI (t_7_2_c j)))), ((t_q 2), .inr (5, oX5 t_2_q (u66a 0))), ((t_2_q 1), .inl (K 0, 5, .inl (fun j => iI ((u66b 0) j)))), ((t_2_q 2), .inl (K 0, 150, .inl (fun j => iI ((u66b 1) j)))), ((t_7_q 4), .inl (K 0, 12, .inl (fun j => iI (t_7_4_c j)))), ((t_1_q 12), .inl (K 0, 24, .inl (fun j => iI (t_1_12_c j)))), ((t_2_q 3), .inl (K 0, 24, .inl (fun j => iI (t_2_3_c j)))), ((t_1_q 13), .inl (K 0, 24, .inl (fun j => iI (t_1_13_c j)))), ((t_7_q 3), .inl (K 0, 24, .inl (fun j => iI (t_7_3_c j))))]) (wr := [((t_2_q 4), .inl (K 0, 40, .inl (fun j => iI ((u66b 2) j)))), ((t_2_q 5), .inl (K 0, 40, .inl (fun j => iI ((u66b 3) j)))), ((t_2_q 6), .inl (K 0, 40, .inl (fun j => iI ((u66b 4) j)))), ((t_2_q 7), .inl (K 0, 40, .inl (fun j => iI ((u66b 5) j))))]) hK hP hD hS hA [0, 1, 8, 2, 9, 14, 15, 3, 4, 5, 6, 7] [10, 11, 12, 13] rfl rfl (by decide) (fun hp => va_runV (C := RX11) (As := []) (rest := []) ⟨hx, hb, hml, hown, hts⟩ (k_X11_settle (l := l) (D := D) (K := K) (t := t) (t_q := t_q) (t_7_q := t_7_q) (t_7_x0 := t_7_x0) (t_7_x1 := t_7_x1) (t_7_x6 := t_7_x6) (t_1_q := t_1_q) (t_1_x0 := t_1_x0) (t_1_x1 := t_1_x1) (t_1_x2 := t_1_x2) (t_1_x3 := t_1_x3) (t_1_x4 := t_1_x4) (t_1_x5 := t_1_x5) (t_1_x6 := t_1_x6) (t_1_x7 := t_1_x7) (t_1_x8 := t_1_x8) (t_7_2_c := t_7_2_c) (t_2_q := t_2_q) (t_2_x0 := (u66a 0)) (t_2_1_c := (u66b 0)) (t_2_2_c := (u66b 1)) (t_7_4_c := t_7_4_c) (t_1_12_c := t_1_12_c) (t_2_3_c := t_2_3_c) (t_1_13_c := t_1_13_c) (t_7_3_c := t_7_3_c) (hi_t_7 := hi_t_7) (hi_t_1 := hi_t_1) (hc_t_7_2 := hc_t_7_2) (hi_t_2 := (show 0 ≤ (u66a 0) ∧ (u66a 0) ≤ 40 from by omega)) (hc_t_2_1 := hu66_0) (hc_t_2_2 := hu66_1) (hc_t_7_4 := hc_t_7_4) (hc_t_1_12 := hc_t_1_12) (hc_t_2_3 := hc_t_2_3) (hc_t_1_13 := hc_t_1_13) (hc_t_7_3 := hc_t_7_3) _) (cwV 0 hts (fn_ginV (fn_gin wd_635) wd_632 wd_634 wp_21 wd_1) rfl rfl rfl (by decide +kernel) ⟨Nat.le_of_ble_eq_true rfl, Nat.le_of_ble_eq_true rfl⟩) ⟨fn_blind, va_recv hK.1 hP (ci := 11) (q0 := 0) rfl rfl, hp⟩ rfl rfl hl.1 rfl (lv_room (Nat.le_of_ble_eq_true rfl)) dX11_edition_70 ⟨Nat.le_of_ble_eq_true rfl, Nat.le_of_ble_eq_true rfl⟩) (fun u70 H locs hwu70 hP hD hS => ?_)
            obtain ⟨u70a, u70b⟩ := u70
            obtain ⟨hqu700, hu70_00, hu70_10, hu70_20, -⟩ := hwu70
            have hqu70 : 0 ≤ (u70a 0) ∧ (u70a 0) ≤ 12 ∧ 0 ≤ (u70a 1) ∧ (u70a 1) ≤ 4095 := hqu700
            have hu70_0 : ∀ j : Nat, (-1) ≤ (u70b 0) j ∧ (u70b 0) j ≤ 149 := hu70_00
            have hu70_1 : ∀ j : Nat, (-1) ≤ (u70b 1) j ∧ (u70b 1) j ≤ 11 := hu70_10
            have hu70_2 : ∀ j : Nat, 0 ≤ (u70b 2) j ∧ (u70b 2) j ≤ 4095 := hu70_20
            clear hqu700 hu70_00 hu70_10 hu70_20
            have hP : va_P D vwCl [((t_2_q 4), .inl (K 0, 40, .inl (fun j => iI ((u66b 2) j)))), ((t_2_q 5), .inl (K 0, 40, .inl (fun j => iI ((u66b 3) j)))), ((t_2_q 6), .inl (K 0, 40, .inl (fun j => iI ((u66b 4) j)))), ((t_2_q 7), .inl (K 0, 40, .inl (fun j => iI ((u66b 5) j)))), (t, .inr (11, oX11 t_q)), ((t_q 7), .inr (10, oX10 t_7_q (u70a 0) (u70a 1) t_7_x6)), ((t_q 1), .inr (7, oX7 t_1_q t_1_x0 t_1_x1 t_1_x2 t_1_x3 t_1_x4 t_1_x5 t_1_x6 t_1_x7 t_1_x8)), ((t_7_q 2), .inl (K 0, 12, .inl (fun j => iI ((u70b 0) j)))), ((t_q 2), .inr (5, oX5 t_2_q (u66a 0))), ((t_2_q 1), .inl (K 0, 5, .inl (fun j => iI ((u66b 0) j)))), ((t_2_q 2), .inl (K 0, 150, .inl (fun j => iI ((u66b 1) j)))), ((t_7_q 4), .inl (K 0, 12, .inl (fun j => iI ((u70b 2) j)))), ((t_1_q 12), .inl (K 0, 24, .inl (fun j => iI (t_1_12_c j)))), ((t_2_q 3), .inl (K 0, 24, .inl (fun j => iI (t_2_3_c j)))), ((t_1_q 13), .inl (K 0, 24, .inl (fun j => iI (t_1_13_c j)))), ((t_7_q 3), .inl (K 0, 24, .inl (fun j => iI ((u70b 1) j))))] H := hP
            have hD : va_D A [((t_2_q 4), .inl (K 0, 40, .inl (fun j => iI ((u66b 2) j)))), ((t_2_q 5), .inl (K 0, 40, .inl (fun j => iI ((u66b 3) j)))), ((t_2_q 6), .inl (K 0, 40, .inl (fun j => iI ((u66b 4) j)))), ((t_2_q 7), .inl (K 0, 40, .inl (fun j => iI ((u66b 5) j)))), (t, .inr (11, oX11 t_q)), ((t_q 7), .inr (10, oX10 t_7_q (u70a 0) (u70a 1) t_7_x6)), ((t_q 1), .inr (7, oX7 t_1_q t_1_x0 t_1_x1 t_1_x2 t_1_x3 t_1_x4 t_1_x5 t_1_x6 t_1_x7 t_1_x8)), ((t_7_q 2), .inl (K 0, 12, .inl (fun j => iI ((u70b 0) j)))), ((t_q 2), .inr (5, oX5 t_2_q (u66a 0))), ((t_2_q 1), .inl (K 0, 5, .inl (fun j => iI ((u66b 0) j)))), ((t_2_q 2), .inl (K 0, 150, .inl (fun j => iI ((u66b 1) j)))), ((t_7_q 4), .inl (K 0, 12, .inl (fun j => iI ((u70b 2) j)))), ((t_1_q 12), .inl (K 0, 24, .inl (fun j => iI (t_1_12_c j)))), ((t_2_q 3), .inl (K 0, 24, .inl (fun j => iI (t_2_3_c j)))), ((t_1_q 13), .inl (K 0, 24, .inl (fun j => iI (t_1_13_c j)))), ((t_7_q 3), .inl (K 0, 24, .inl (fun j => iI ((u70b 1) j))))] := hD
            refine lv_aload_n hx hb dX11_edition_73 rfl (lv_at hl 0 rfl) ?_
            refine va_get (D := D) (own := RX11) (ci := 11) (v := .ref (t_q 2)) (C := RX11) (T := TX11) (N := 13) hx hb hts inb_X11 hown hK.1 hP 4 rfl rfl 2 (by decide) (hts _ wd_424) (fun _ h9 => h9) rfl dX11_edition_74 ?_
            refine va_getN (D := D) (own := RX11) (ci := 5) (v := .ref (t_2_q 1)) (C := RX5) (T := TX5) (N := 8) hx hb hts inb_X5 hown hK.1 hP 8 rfl rfl 1 (by decide) (hK.nf 59 rfl) (fun _ h9 => h9) rfl dX11_edition_77 ?_
            refine lv_iload_n hx hb dX11_edition_80 rfl (lv_at hl 1 rfl) ?_
            refine g_iald hx hb hK.1 hP 9 0 rfl rfl (by omega) (by omega) (by decide) dX11_edition_81 ?_
            have y81 : (-1000) ≤ ((u66b 0) p1.toNat) ∧ ((u66b 0) p1.toNat) ≤ 30 := hu66_0 p1.toNat
            rw [hQ]; exact fn_iret hx hb hr hlocks rfl hP hD hS ((fun k => ([(u66a 0), (u70a 0), (u70a 1)] : List Int).getD k 0), (fun k => ([(u66b 0), (u66b 1), (u66b 2), (u66b 3), (u66b 4), (u66b 5), (u70b 0), (u70b 1), (u70b 2)] : List (Nat → Int)).getD k (fun _ => 0))) ⟨(u66b 0) p1.toNat, rfl, by omega, (by show 0 ≤ (u66a 0) ∧ (u66a 0) ≤ 40 ∧ 0 ≤ (u70a 0) ∧ (u70a 0) ≤ 12 ∧ 0 ≤ (u70a 1) ∧ (u70a 1) ≤ 4095; omega), (show AR (u66b 2) (u66b 3) (u66b 5) from by assumption), (show ∀ j : Nat, t_2_1_c j ≤ (u66b 0) j from by first | assumption | exact fun j => Int.le_refl _), (hu66_0), (hu66_1), (hu66_2), (hu66_3), (hu66_4), (hu66_5), (hu70_0), (hu70_1), (hu70_2), trivial⟩ [4, 6, 8, 9, 0, 1, 2, 3, 10, 5, 7, 11, 12, 13, 14, 15] (by decide) rfl dX11_edition_82
          · refine lv_bipush (v := iI (-5)) hx hb dX11_edition_57 (by decide) ?_
            have y59_2 : 0 ≤ t_7_x0 ∧ t_7_x0 ≤ 12 := hi_t_7.1
            have y59_3 : 0 ≤ t_7_x1 ∧ t_7_x1 ≤ 4095 := hi_t_7.2.1
            rw [hQ]; exact fn_iret hx hb hr hlocks rfl hP hD hS ((fun k => ([t_2_x0, t_7_x0, t_7_x1] : List Int).getD k 0), (fun k => ([t_2_1_c, t_2_2_c, t_2_4_c, t_2_5_c, t_2_6_c, t_2_7_c, t_7_2_c, t_7_3_c, t_7_4_c] : List (Nat → Int)).getD k (fun _ => 0))) ⟨(-5), rfl, by omega, (by show 0 ≤ t_2_x0 ∧ t_2_x0 ≤ 40 ∧ 0 ≤ t_7_x0 ∧ t_7_x0 ≤ 12 ∧ 0 ≤ t_7_x1 ∧ t_7_x1 ≤ 4095; omega), (show AR t_2_4_c t_2_5_c t_2_7_c from by assumption), (show ∀ j : Nat, t_2_1_c j ≤ t_2_1_c j from by first | assumption | exact fun j => Int.le_refl _), (hc_t_2_1), (hc_t_2_2), (hc_t_2_4), (hc_t_2_5), (hc_t_2_6), (hc_t_2_7), (hc_t_7_2), (hc_t_7_3), (hc_t_7_4), trivial⟩ [0, 15, 1, 2, 3, 4, 5, 6, 7, 8, 9, 10, 11, 12, 13, 14] (by decide) rfl dX11_edition_59
      · refine lv_bipush (v := iI (-2)) hx hb dX11_edition_28 (by decide) ?_
        have y30_1 : 0 ≤ t_2_x0 ∧ t_2_x0 ≤ 40 := hi_t_2
        have y30_2 : 0 ≤ t_7_x0 ∧ t_7_x0 ≤ 12 := hi_t_7.1
        have y30_3 : 0 ≤ t_7_x1 ∧ t_7_x1 ≤ 4095 := hi_t_7.2.1
        rw [hQ]; exact fn_iret hx hb hr hlocks rfl hP hD hS ((fun k => ([t_2_x0, t_7_x0, t_7_x1] : List Int).getD k 0), (fun k => ([t_2_1_c, t_2_2_c, t_2_4_c, t_2_5_c, t_2_6_c, t_2_7_c, t_7_2_c, t_7_3_c, t_7_4_c] : List (Nat → Int)).getD k (fun _ => 0))) ⟨(-2), rfl, by omega, (by show 0 ≤ t_2_x0 ∧ t_2_x0 ≤ 40 ∧ 0 ≤ t_7_x0 ∧ t_7_x0 ≤ 12 ∧ 0 ≤ t_7_x1 ∧ t_7_x1 ≤ 4095; omega), (show AR t_2_4_c t_2_5_c t_2_7_c from by assumption), (show ∀ j : Nat, t_2_1_c j ≤ t_2_1_c j from by first | assumption | exact fun j => Int.le_refl _), (hc_t_2_1), (hc_t_2_2), (hc_t_2_4), (hc_t_2_5), (hc_t_2_6), (hc_t_2_7), (hc_t_7_2), (hc_t_7_3), (hc_t_7_4), trivial⟩ [0, 15, 1, 2, 3, 4, 5, 6, 7, 8, 9, 10, 11, 12, 13, 14] (by decide) rfl dX11_edition_30
theorem wd_730 : Cond.code ⟨"FootNotes$Shelf", "tearOut", "(II)V"⟩ prog_7_method_6_code 3 (Option.none : Option Jvm.ClassFile.FieldType) ∈ fn_big := fn_tb (fn_l4 (List.mem_of_getElem? (i := 10) (by decide +kernel))) (by decide +kernel)
theorem wd_729 : Cond.instanceMethod ⟨"FootNotes$Shelf", "tearOut", "(II)V"⟩ ∈ fn_big := fn_tb (fn_l4 (List.mem_of_getElem? (i := 9) (by decide +kernel))) (by decide +kernel)
theorem wp_33 : Cond.selects "FootNotes$Shelf" ⟨"FootNotes$Shelf", "tearOut", "(II)V"⟩ ⟨"FootNotes$Shelf", "tearOut", "(II)V"⟩ ∈ fn_big := fn_sel (q := (⟨"FootNotes$Shelf", "tearOut", "(II)V"⟩, 8)) 33 (by decide +kernel) (by decide +kernel)
theorem dX11_tear_0 : decode cX11_tear 0 = .ok (.aload_n 0, 1) := by decide +kernel
theorem dX11_tear_1 : decode cX11_tear 1 = .ok (.getfield 19, 3) := by decide +kernel
theorem dX11_tear_4 : decode cX11_tear 4 = .ok (.iload_n 1, 1) := by decide +kernel
theorem dX11_tear_5 : decode cX11_tear 5 = .ok (.invokevirtual 148, 3) := by decide +kernel
theorem dX11_tear_8 : decode cX11_tear 8 = .ok (.ifCond .eq 20, 3) := by decide +kernel
theorem dX11_tear_28 : decode cX11_tear 28 = .ok (.bipush (-2), 2) := by decide +kernel
theorem dX11_tear_30 : decode cX11_tear 30 = .ok (.ireturn, 1) := by decide +kernel
theorem dX11_tear_11 : decode cX11_tear 11 = .ok (.iload_n 2, 1) := by decide +kernel
theorem dX11_tear_12 : decode cX11_tear 12 = .ok (.ifCond .lt 16, 3) := by decide +kernel
theorem dX11_tear_15 : decode cX11_tear 15 = .ok (.iload_n 2, 1) := by decide +kernel
theorem dX11_tear_16 : decode cX11_tear 16 = .ok (.aload_n 0, 1) := by decide +kernel
theorem dX11_tear_17 : decode cX11_tear 17 = .ok (.getfield 26, 3) := by decide +kernel
theorem dX11_tear_20 : decode cX11_tear 20 = .ok (.getfield 154, 3) := by decide +kernel
theorem dX11_tear_23 : decode cX11_tear 23 = .ok (.iload_n 1, 1) := by decide +kernel
theorem dX11_tear_24 : decode cX11_tear 24 = .ok (.iaload, 1) := by decide +kernel
theorem dX11_tear_25 : decode cX11_tear 25 = .ok (.if_icmp .lt 6, 3) := by decide +kernel
theorem dX11_tear_31 : decode cX11_tear 31 = .ok (.aload_n 0, 1) := by decide +kernel
theorem dX11_tear_32 : decode cX11_tear 32 = .ok (.getfield 26, 3) := by decide +kernel
theorem dX11_tear_35 : decode cX11_tear 35 = .ok (.iload_n 1, 1) := by decide +kernel
theorem dX11_tear_36 : decode cX11_tear 36 = .ok (.iload_n 2, 1) := by decide +kernel
theorem dX11_tear_37 : decode cX11_tear 37 = .ok (.invokevirtual 163, 3) := by decide +kernel
theorem dX11_tear_40 : decode cX11_tear 40 = .ok (.istore_n 3, 1) := by decide +kernel
theorem dX11_tear_41 : decode cX11_tear 41 = .ok (.aload_n 0, 1) := by decide +kernel
theorem dX11_tear_42 : decode cX11_tear 42 = .ok (.getfield 26, 3) := by decide +kernel
theorem dX11_tear_45 : decode cX11_tear 45 = .ok (.getfield 199, 3) := by decide +kernel
theorem dX11_tear_48 : decode cX11_tear 48 = .ok (.bipush 40, 2) := by decide +kernel
theorem dX11_tear_50 : decode cX11_tear 50 = .ok (.if_icmp .ge 9, 3) := by decide +kernel
theorem dX11_tear_59 : decode cX11_tear 59 = .ok (.bipush (-5), 2) := by decide +kernel
theorem dX11_tear_61 : decode cX11_tear 61 = .ok (.ireturn, 1) := by decide +kernel
theorem dX11_tear_53 : decode cX11_tear 53 = .ok (.iload_n 3, 1) := by decide +kernel
theorem dX11_tear_54 : decode cX11_tear 54 = .ok (.bipush (-4), 2) := by decide +kernel
theorem dX11_tear_56 : decode cX11_tear 56 = .ok (.if_icmp .ne 6, 3) := by decide +kernel
theorem dX11_tear_62 : decode cX11_tear 62 = .ok (.aload_n 0, 1) := by decide +kernel
theorem dX11_tear_63 : decode cX11_tear 63 = .ok (.getfield 26, 3) := by decide +kernel
theorem dX11_tear_66 : decode cX11_tear 66 = .ok (.iload_n 1, 1) := by decide +kernel
theorem dX11_tear_67 : decode cX11_tear 67 = .ok (.iload_n 2, 1) := by decide +kernel
theorem dX11_tear_68 : decode cX11_tear 68 = .ok (.invokevirtual 206, 3) := by decide +kernel
theorem dX11_tear_71 : decode cX11_tear 71 = .ok (.aload_n 0, 1) := by decide +kernel
theorem dX11_tear_72 : decode cX11_tear 72 = .ok (.invokevirtual 117, 3) := by decide +kernel
theorem dX11_tear_75 : decode cX11_tear 75 = .ok (.iload_n 3, 1) := by decide +kernel
theorem dX11_tear_76 : decode cX11_tear 76 = .ok (.ireturn, 1) := by decide +kernel
set_option maxHeartbeats 4000000 in
set_option maxRecDepth 100000 in
theorem k_X11_tear (l : Launch) (D : va_G) (K : Nat → ClassId) (t : Nat) (t_q t_1_q t_2_q t_7_q : Nat → Nat) (p1 p2 t_1_x0 t_1_x1 t_1_x2 t_1_x3 t_1_x4 t_1_x5 t_1_x6 t_1_x7 t_1_x8 t_2_x0 t_7_x0 t_7_x1 t_7_x6 : Int) (t_2_1_c : Nat → Int) (t_2_2_c : Nat → Int) (t_2_4_c : Nat → Int) (t_2_5_c : Nat → Int) (t_2_6_c : Nat → Int) (t_2_7_c : Nat → Int) (t_7_2_c : Nat → Int) (t_7_4_c : Nat → Int) (t_1_12_c : Nat → Int) (t_2_3_c : Nat → Int) (t_1_13_c : Nat → Int) (t_7_3_c : Nat → Int) (hp1 : (-2147483648) ≤ p1 ∧ p1 ≤ 2147483647) (hp2 : (-2147483648) ≤ p2 ∧ p2 ≤ 2147483647) (hi_t_1 : bX7 t_1_x0 t_1_x1 t_1_x2 t_1_x3 t_1_x4 t_1_x5 t_1_x6 t_1_x7 t_1_x8) (hi_t_2 : bX5 t_2_x0) (hc_t_2_1 : ∀ j : Nat, (-1000) ≤ t_2_1_c j ∧ t_2_1_c j ≤ 30) (hc_t_2_2 : ∀ j : Nat, (-4) ≤ t_2_2_c j ∧ t_2_2_c j ≤ 11) (hc_t_2_4 : ∀ j : Nat, 0 ≤ t_2_4_c j ∧ t_2_4_c j ≤ 2) (hc_t_2_5 : ∀ j : Nat, 0 ≤ t_2_5_c j ∧ t_2_5_c j ≤ 23) (hc_t_2_6 : ∀ j : Nat, 0 ≤ t_2_6_c j ∧ t_2_6_c j ≤ 29) (hc_t_2_7 : ∀ j : Nat, (-4) ≤ t_2_7_c j ∧ t_2_7_c j ≤ 29) (hi_t_7 : bX10 t_7_x0 t_7_x1 t_7_x6) (hc_t_7_2 : ∀ j : Nat, (-1) ≤ t_7_2_c j ∧ t_7_2_c j ≤ 149) (hc_t_7_4 : ∀ j : Nat, 0 ≤ t_7_4_c j ∧ t_7_4_c j ≤ 4095) (hc_t_1_12 : ∀ j : Nat, 0 ≤ t_1_12_c j ∧ t_1_12_c j ≤ 11) (hc_t_2_3 : ∀ j : Nat, 0 ≤ t_2_3_c j ∧ t_2_3_c j ≤ 29) (hc_t_1_13 : ∀ j : Nat, 0 ≤ t_1_13_c j ∧ t_1_13_c j ≤ 4) (hc_t_7_3 : ∀ j : Nat, (-1) ≤ t_7_3_c j ∧ t_7_3_c j ≤ 11) (ar : AR t_2_4_c t_2_5_c t_2_7_c) : fn_CI (S := (Nat → Int) × (Nat → Nat → Int)) l D K yX11_tear (fn_ws yX11_tear cX11_tear 4 (some .int)) ({ frames := 20, cells := 0, slots := 0, locals := 500 } : Room) [.ref t, .int (iI p1), .int (iI p2)] [(t, .inr (11, oX11 t_q)), ((t_q 1), .inr (7, oX7 t_1_q t_1_x0 t_1_x1 t_1_x2 t_1_x3 t_1_x4 t_1_x5 t_1_x6 t_1_x7 t_1_x8)), ((t_q 2), .inr (5, oX5 t_2_q t_2_x0)), ((t_2_q 1), .inl (K 0, 5, .inl (fun j => iI (t_2_1_c j)))), ((t_2_q 2), .inl (K 0, 150, .inl (fun j => iI (t_2_2_c j)))), ((t_2_q 4), .inl (K 0, 40, .inl (fun j => iI (t_2_4_c j)))), ((t_2_q 5), .inl (K 0, 40, .inl (fun j => iI (t_2_5_c j)))), ((t_2_q 6), .inl (K 0, 40, .inl (fun j => iI (t_2_6_c j)))), ((t_2_q 7), .inl (K 0, 40, .inl (fun j => iI (t_2_7_c j)))), ((t_q 7), .inr (10, oX10 t_7_q t_7_x0 t_7_x1 t_7_x6)), ((t_7_q 2), .inl (K 0, 12, .inl (fun j => iI (t_7_2_c j)))), ((t_7_q 4), .inl (K 0, 12, .inl (fun j => iI (t_7_4_c j)))), ((t_1_q 12), .inl (K 0, 24, .inl (fun j => iI (t_1_12_c j)))), ((t_2_q 3), .inl (K 0, 24, .inl (fun j => iI (t_2_3_c j)))), ((t_1_q 13), .inl (K 0, 24, .inl (fun j => iI (t_1_13_c j)))), ((t_7_q 3), .inl (K 0, 24, .inl (fun j => iI (t_7_3_c j))))] (fun r u => ∃ k : Int, r = iI k ∧ ((-5) ≤ k ∧ k ≤ 11) ∧ (0 ≤ (u.1 0) ∧ (u.1 0) ≤ 40 ∧ 0 ≤ (u.1 1) ∧ (u.1 1) ≤ 12 ∧ 0 ≤ (u.1 2) ∧ (u.1 2) ≤ 4095) ∧ (AR (u.2 1) (u.2 2) (u.2 4)) ∧ (∀ j : Nat, (-4) ≤ (u.2 0) j ∧ (u.2 0) j ≤ 11) ∧ (∀ j : Nat, 0 ≤ (u.2 1) j ∧ (u.2 1) j ≤ 2) ∧ (∀ j : Nat, 0 ≤ (u.2 2) j ∧ (u.2 2) j ≤ 23) ∧ (∀ j : Nat, 0 ≤ (u.2 3) j ∧ (u.2 3) j ≤ 29) ∧ (∀ j : Nat, (-4) ≤ (u.2 4) j ∧ (u.2 4) j ≤ 29) ∧ (∀ j : Nat, (-1) ≤ (u.2 5) j ∧ (u.2 5) j ≤ 149) ∧ (∀ j : Nat, (-1) ≤ (u.2 6) j ∧ (u.2 6) j ≤ 11) ∧ (∀ j : Nat, 0 ≤ (u.2 7) j ∧ (u.2 7) j ≤ 4095) ∧ True) (fun u => [(t, .inr (11, oX11 t_q)), ((t_q 1), .inr (7, oX7 t_1_q t_1_x0 t_1_x1 t_1_x2 t_1_x3 t_1_x4 t_1_x5 t_1_x6 t_1_x7 t_1_x8)), ((t_q 2), .inr (5, oX5 t_2_q (u.1 0))), ((t_2_q 1), .inl (K 0, 5, .inl (fun j => iI (t_2_1_c j)))), ((t_2_q 2), .inl (K 0, 150, .inl (fun j => iI ((u.2 0) j)))), ((t_2_q 4), .inl (K 0, 40, .inl (fun j => iI ((u.2 1) j)))), ((t_2_q 5), .inl (K 0, 40, .inl (fun j => iI ((u.2 2) j)))), ((t_2_q 6), .inl (K 0, 40, .inl (fun j => iI ((u.2 3) j)))), ((t_2_q 7), .inl (K 0, 40, .inl (fun j => iI ((u.2 4) j)))), ((t_q 7), .inr (10, oX10 t_7_q (u.1 1) (u.1 2) t_7_x6)), ((t_7_q 2), .inl (K 0, 12, .inl (fun j => iI ((u.2 5) j)))), ((t_7_q 4), .inl (K 0, 12, .inl (fun j => iI ((u.2 7) j)))), ((t_1_q 12), .inl (K 0, 24, .inl (fun j => iI (t_1_12_c j)))), ((t_2_q 3), .inl (K 0, 24, .inl (fun j => iI (t_2_3_c j)))), ((t_1_q 13), .inl (K 0, 24, .inl (fun j => iI (t_1_13_c j)))), ((t_7_q 3), .inl (K 0, 24, .inl (fun j => iI ((u.2 6) j))))]) 0 0 := by
  refine g_inI (cc := cX11_tear) (maxL := 4) (ret := (some .int)) (by decide) rfl (Nat.le_of_ble_eq_true rfl) ?_
  intro p e s m below meth c A ls ag Q B hA hP hD hS hl hQ
  obtain ⟨hx, hb, hr, hml, hts, hown, hlocks, hin, hK⟩ := B
  have hown : s.vm.findClass RX11 = some m.cls := hown
  have hts := fun w h => hts w (List.mem_cons_of_mem _ h)
  have hl : lv_has ls 4 [(0, .ref t), (1, .int (iI p1)), (2, .int (iI p2))] := hl
  refine lv_aload_n hx hb dX11_tear_0 rfl (lv_at hl 0 rfl) ?_
  refine va_get (D := D) (own := RX11) (ci := 11) (v := .ref (t_q 1)) (C := RX11) (T := TX11) (N := 13) hx hb hts inb_X11 hown hK.1 hP 0 rfl rfl 1 (by decide) (hts _ wd_423) (fun _ h9 => h9) rfl dX11_tear_1 ?_
  refine lv_iload_n hx hb dX11_tear_4 rfl (lv_at hl 1 rfl) ?_
  refine fn_goi (wc := [((t_q 1), .inr (7, oX7 t_1_q t_1_x0 t_1_x1 t_1_x2 t_1_x3 t_1_x4 t_1_x5 t_1_x6 t_1_x7 t_1_x8))]) (wr := [(t, .inr (11, oX11 t_q)), ((t_q 2), .inr (5, oX5 t_2_q t_2_x0)), ((t_2_q 1), .inl (K 0, 5, .inl (fun j => iI (t_2_1_c j)))), ((t_2_q 2), .inl (K 0, 150, .inl (fun j => iI (t_2_2_c j)))), ((t_2_q 4), .inl (K 0, 40, .inl (fun j => iI (t_2_4_c j)))), ((t_2_q 5), .inl (K 0, 40, .inl (fun j => iI (t_2_5_c j)))), ((t_2_q 6), .inl (K 0, 40, .inl (fun j => iI (t_2_6_c j)))), ((t_2_q 7), .inl (K 0, 40, .inl (fun j => iI (t_2_7_c j)))), ((t_q 7), .inr (10, oX10 t_7_q t_7_x0 t_7_x1 t_7_x6)), ((t_7_q 2), .inl (K 0, 12, .inl (fun j => iI (t_7_2_c j)))), ((t_7_q 4), .inl (K 0, 12, .inl (fun j => iI (t_7_4_c j)))), ((t_1_q 12), .inl (K 0, 24, .inl (fun j => iI (t_1_12_c j)))), ((t_2_q 3), .inl (K 0, 24, .inl (fun j => iI (t_2_3_c j)))), ((t_1_q 13), .inl (K 0, 24, .inl (fun j => iI (t_1_13_c j)))), ((t_7_q 3), .inl (K 0, 24, .inl (fun j => iI (t_7_3_c j))))]) hK hP hD hS hA [1] [0, 2, 3, 4, 5, 6, 7, 8, 9, 10, 11, 12, 13, 14, 15] rfl rfl (by decide) (fun hp => va_runVN (C := RX7) (As := [.int (iI p1)]) (rest := []) ⟨hx, hb, hml, hown, hts⟩ (k_X7_hasBook (l := l) (D := D) (K := K) (t := (t_q 1)) (p1 := p1) (t_q := t_1_q) (t_x0 := t_1_x0) (t_x1 := t_1_x1) (t_x2 := t_1_x2) (t_x3 := t_1_x3) (t_x4 := t_1_x4) (t_x5 := t_1_x5) (t_x6 := t_1_x6) (t_x7 := t_1_x7) (t_x8 := t_1_x8) (hp1 := (by omega)) (hi_t := hi_t_1) _) ⟨va_cnB (own := RX11) 1 hts (fn_gin wd_674) rfl rfl rfl (hK.nw 110 rfl) (hts _ wd_4) (by decide +kernel) ⟨Nat.le_of_ble_eq_true rfl, Nat.le_of_ble_eq_true rfl⟩, hts _ wd_673, hts _ wp_27⟩ ⟨fn_blind, va_recv hK.1 hP (ci := 7) (q0 := 1) rfl rfl, hp⟩ rfl rfl hl.1 rfl (lv_room (Nat.le_of_ble_eq_true rfl)) dX11_tear_5 ⟨Nat.le_of_ble_eq_true rfl, Nat.le_of_ble_eq_true rfl⟩) (fun r5 u5 H locs hwu5 hP hD hS => ?_)
  obtain ⟨u5a, u5b⟩ := u5
  obtain ⟨kr5, rfl, hkr5, hqu50, -⟩ := hwu5
  have hqu5 : (kr5 = 1 → 0 ≤ p1 ∧ p1 < t_1_x3 ∧ p1 ≤ 4) := hqu50
  clear hqu50
  have hP : va_P D vwCl [(t, .inr (11, oX11 t_q)), ((t_q 2), .inr (5, oX5 t_2_q t_2_x0)), ((t_2_q 1), .inl (K 0, 5, .inl (fun j => iI (t_2_1_c j)))), ((t_2_q 2), .inl (K 0, 150, .inl (fun j => iI (t_2_2_c j)))), ((t_2_q 4), .inl (K 0, 40, .inl (fun j => iI (t_2_4_c j)))), ((t_2_q 5), .inl (K 0, 40, .inl (fun j => iI (t_2_5_c j)))), ((t_2_q 6), .inl (K 0, 40, .inl (fun j => iI (t_2_6_c j)))), ((t_2_q 7), .inl (K 0, 40, .inl (fun j => iI (t_2_7_c j)))), ((t_q 7), .inr (10, oX10 t_7_q t_7_x0 t_7_x1 t_7_x6)), ((t_7_q 2), .inl (K 0, 12, .inl (fun j => iI (t_7_2_c j)))), ((t_7_q 4), .inl (K 0, 12, .inl (fun j => iI (t_7_4_c j)))), ((t_1_q 12), .inl (K 0, 24, .inl (fun j => iI (t_1_12_c j)))), ((t_2_q 3), .inl (K 0, 24, .inl (fun j => iI (t_2_3_c j)))), ((t_1_q 13), .inl (K 0, 24, .inl (fun j => iI (t_1_13_c j)))), ((t_7_q 3), .inl (K 0, 24, .inl (fun j => iI (t_7_3_c j)))), ((t_q 1), .inr (7, oX7 t_1_q t_1_x0 t_1_x1 t_1_x2 t_1_x3 t_1_x4 t_1_x5 t_1_x6 t_1_x7 t_1_x8))] H := hP
  have hD : va_D A [(t, .inr (11, oX11 t_q)), ((t_q 2), .inr (5, oX5 t_2_q t_2_x0)), ((t_2_q 1), .inl (K 0, 5, .inl (fun j => iI (t_2_1_c j)))), ((t_2_q 2), .inl (K 0, 150, .inl (fun j => iI (t_2_2_c j)))), ((t_2_q 4), .inl (K 0, 40, .inl (fun j => iI (t_2_4_c j)))), ((t_2_q 5), .inl (K 0, 40, .inl (fun j => iI (t_2_5_c j)))), ((t_2_q 6), .inl (K 0, 40, .inl (fun j => iI (t_2_6_c j)))), ((t_2_q 7), .inl (K 0, 40, .inl (fun j => iI (t_2_7_c j)))), ((t_q 7), .inr (10, oX10 t_7_q t_7_x0 t_7_x1 t_7_x6)), ((t_7_q 2), .inl (K 0, 12, .inl (fun j => iI (t_7_2_c j)))), ((t_7_q 4), .inl (K 0, 12, .inl (fun j => iI (t_7_4_c j)))), ((t_1_q 12), .inl (K 0, 24, .inl (fun j => iI (t_1_12_c j)))), ((t_2_q 3), .inl (K 0, 24, .inl (fun j => iI (t_2_3_c j)))), ((t_1_q 13), .inl (K 0, 24, .inl (fun j => iI (t_1_13_c j)))), ((t_7_q 3), .inl (K 0, 24, .inl (fun j => iI (t_7_3_c j)))), ((t_q 1), .inr (7, oX7 t_1_q t_1_x0 t_1_x1 t_1_x2 t_1_x3 t_1_x4 t_1_x5 t_1_x6 t_1_x7 t_1_x8))] := hD
  refine g_if_eq (tgt := 28) hx hb (by omega) dX11_tear_8 (by decide) (fun c8 => ?_) (fun c8 => ?_)
  · refine lv_bipush (v := iI (-2)) hx hb dX11_tear_28 (by decide) ?_
    have y30_1 : 0 ≤ t_2_x0 ∧ t_2_x0 ≤ 40 := hi_t_2
    have y30_2 : 0 ≤ t_7_x0 ∧ t_7_x0 ≤ 12 := hi_t_7.1
    have y30_3 : 0 ≤ t_7_x1 ∧ t_7_x1 ≤ 4095 := hi_t_7.2.1
    rw [hQ]; exact fn_iret hx hb hr hlocks rfl hP hD hS ((fun k => ([t_2_x0, t_7_x0, t_7_x1] : List Int).getD k 0), (fun k => ([t_2_2_c, t_2_4_c, t_2_5_c, t_2_6_c, t_2_7_c, t_7_2_c, t_7_3_c, t_7_4_c] : List (Nat → Int)).getD k (fun _ => 0))) ⟨(-2), rfl, by omega, (by show 0 ≤ t_2_x0 ∧ t_2_x0 ≤ 40 ∧ 0 ≤ t_7_x0 ∧ t_7_x0 ≤ 12 ∧ 0 ≤ t_7_x1 ∧ t_7_x1 ≤ 4095; omega), (show AR t_2_4_c t_2_5_c t_2_7_c from by assumption), (hc_t_2_2), (hc_t_2_4), (hc_t_2_5), (hc_t_2_6), (hc_t_2_7), (hc_t_7_2), (hc_t_7_3), (hc_t_7_4), trivial⟩ [0, 15, 1, 2, 3, 4, 5, 6, 7, 8, 9, 10, 11, 12, 13, 14] (by decide) rfl dX11_tear_30
  · refine lv_iload_n hx hb dX11_tear_11 rfl (lv_at hl 2 rfl) ?_
    refine g_if_lt (tgt := 28) hx hb (by omega) dX11_tear_12 (by decide) (fun c12 => ?_) (fun c12 => ?_)
    · refine lv_bipush (v := iI (-2)) hx hb dX11_tear_28 (by decide) ?_
      have y30_1 : 0 ≤ t_2_x0 ∧ t_2_x0 ≤ 40 := hi_t_2
      have y30_2 : 0 ≤ t_7_x0 ∧ t_7_x0 ≤ 12 := hi_t_7.1
      have y30_3 : 0 ≤ t_7_x1 ∧ t_7_x1 ≤ 4095 := hi_t_7.2.1
      rw [hQ]; exact fn_iret hx hb hr hlocks rfl hP hD hS ((fun k => ([t_2_x0, t_7_x0, t_7_x1] : List Int).getD k 0), (fun k => ([t_2_2_c, t_2_4_c, t_2_5_c, t_2_6_c, t_2_7_c, t_7_2_c, t_7_3_c, t_7_4_c] : List (Nat → Int)).getD k (fun _ => 0))) ⟨(-2), rfl, by omega, (by show 0 ≤ t_2_x0 ∧ t_2_x0 ≤ 40 ∧ 0 ≤ t_7_x0 ∧ t_7_x0 ≤ 12 ∧ 0 ≤ t_7_x1 ∧ t_7_x1 ≤ 4095; omega), (show AR t_2_4_c t_2_5_c t_2_7_c from by assumption), (hc_t_2_2), (hc_t_2_4), (hc_t_2_5), (hc_t_2_6), (hc_t_2_7), (hc_t_7_2), (hc_t_7_3), (hc_t_7_4), trivial⟩ [0, 15, 1, 2, 3, 4, 5, 6, 7, 8, 9, 10, 11, 12, 13, 14] (by decide) rfl dX11_tear_30
    · refine lv_iload_n hx hb dX11_tear_15 rfl (lv_at hl 2 rfl) ?_
      refine lv_aload_n hx hb dX11_tear_16 rfl (lv_at hl 0 rfl) ?_
      refine va_get (D := D) (own := RX11) (ci := 11) (v := .ref (t_q 2)) (C := RX11) (T := TX11) (N := 13) hx hb hts inb_X11 hown hK.1 hP 0 rfl rfl 2 (by decide) (hts _ wd_424) (fun _ h9 => h9) rfl dX11_tear_17 ?_
      refine va_getN (D := D) (own := RX11) (ci := 5) (v := .ref (t_2_q 1)) (C := RX5) (T := TX5) (N := 8) hx hb hts inb_X5 hown hK.1 hP 1 rfl rfl 1 (by decide) (hK.nf 59 rfl) (fun _ h9 => h9) rfl dX11_tear_20 ?_
      refine lv_iload_n hx hb dX11_tear_23 rfl (lv_at hl 1 rfl) ?_
      refine g_iald hx hb hK.1 hP 2 0 rfl rfl (by omega) (by omega) (by decide) dX11_tear_24 ?_
      have y24 : (-1000) ≤ (t_2_1_c p1.toNat) ∧ (t_2_1_c p1.toNat) ≤ 30 := hc_t_2_1 p1.toNat
      refine g_icmp_lt (tgt := 31) hx hb (by omega) (by omega) dX11_tear_25 (by decide) (fun c25 => ?_) (fun c25 => ?_)
      · refine lv_aload_n hx hb dX11_tear_31 rfl (lv_at hl 0 rfl) ?_
        refine va_get (D := D) (own := RX11) (ci := 11) (v := .ref (t_q 2)) (C := RX11) (T := TX11) (N := 13) hx hb hts inb_X11 hown hK.1 hP 0 rfl rfl 2 (by decide) (hts _ wd_424) (fun _ h9 => h9) rfl dX11_tear_32 ?_
        refine lv_iload_n hx hb dX11_tear_35 rfl (lv_at hl 1 rfl) ?_
        refine lv_iload_n hx hb dX11_tear_36 rfl (lv_at hl 2 rfl) ?_
        refine fn_goi (wc := [((t_q 2), .inr (5, oX5 t_2_q t_2_x0)), ((t_2_q 1), .inl (K 0, 5, .inl (fun j => iI (t_2_1_c j)))), ((t_2_q 2), .inl (K 0, 150, .inl (fun j => iI (t_2_2_c j))))]) (wr := [(t, .inr (11, oX11 t_q)), ((t_2_q 4), .inl (K 0, 40, .inl (fun j => iI (t_2_4_c j)))), ((t_2_q 5), .inl (K 0, 40, .inl (fun j => iI (t_2_5_c j)))), ((t_2_q 6), .inl (K 0, 40, .inl (fun j => iI (t_2_6_c j)))), ((t_2_q 7), .inl (K 0, 40, .inl (fun j => iI (t_2_7_c j)))), ((t_q 7), .inr (10, oX10 t_7_q t_7_x0 t_7_x1 t_7_x6)), ((t_7_q 2), .inl (K 0, 12, .inl (fun j => iI (t_7_2_c j)))), ((t_7_q 4), .inl (K 0, 12, .inl (fun j => iI (t_7_4_c j)))), ((t_1_q 12), .inl (K 0, 24, .inl (fun j => iI (t_1_12_c j)))), ((t_2_q 3), .inl (K 0, 24, .inl (fun j => iI (t_2_3_c j)))), ((t_1_q 13), .inl (K 0, 24, .inl (fun j => iI (t_1_13_c j)))), ((t_7_q 3), .inl (K 0, 24, .inl (fun j => iI (t_7_3_c j)))), ((t_q 1), .inr (7, oX7 t_1_q t_1_x0 t_1_x1 t_1_x2 t_1_x3 t_1_x4 t_1_x5 t_1_x6 t_1_x7 t_1_x8))]) hK hP hD hS hA [1, 2, 3] [0, 4, 5, 6, 7, 8, 9, 10, 11, 12, 13, 14, 15] rfl rfl (by decide) (fun hp => va_runVN (C := RX5) (As := [.int (iI p1), .int (iI p2)]) (rest := []) ⟨hx, hb, hml, hown, hts⟩ (k_X5_onLeaf (l := l) (D := D) (K := K) (t := (t_q 2)) (p1 := p1) (p2 := p2) (t_q := t_2_q) (t_x0 := t_2_x0) (t_1_c := t_2_1_c) (t_2_c := t_2_2_c) (hp1 := (by omega)) (hp2 := (by omega)) (hi_t := hi_t_2) (hc_t_1 := hc_t_2_1) (hc_t_2 := hc_t_2_2) _) ⟨va_cnB (own := RX11) 2 hts (fn_gin wd_650) rfl rfl rfl (hK.nw 112 rfl) (hts _ wd_5) (by decide +kernel) ⟨Nat.le_of_ble_eq_true rfl, Nat.le_of_ble_eq_true rfl⟩, hts _ wd_649, hts _ wp_24⟩ ⟨fn_blind, va_recv hK.1 hP (ci := 5) (q0 := 1) rfl rfl, hp⟩ rfl rfl hl.1 rfl (lv_room (Nat.le_of_ble_eq_true rfl)) dX11_tear_37 ⟨Nat.le_of_ble_eq_true rfl, Nat.le_of_ble_eq_true rfl⟩) (fun r37 u37 H locs hwu37 hP hD hS => ?_)
        obtain ⟨u37a, u37b⟩ := u37
        obtain ⟨kr37, rfl, hkr37, -⟩ := hwu37
        have hP : va_P D vwCl [(t, .inr (11, oX11 t_q)), ((t_2_q 4), .inl (K 0, 40, .inl (fun j => iI (t_2_4_c j)))), ((t_2_q 5), .inl (K 0, 40, .inl (fun j => iI (t_2_5_c j)))), ((t_2_q 6), .inl (K 0, 40, .inl (fun j => iI (t_2_6_c j)))), ((t_2_q 7), .inl (K 0, 40, .inl (fun j => iI (t_2_7_c j)))), ((t_q 7), .inr (10, oX10 t_7_q t_7_x0 t_7_x1 t_7_x6)), ((t_7_q 2), .inl (K 0, 12, .inl (fun j => iI (t_7_2_c j)))), ((t_7_q 4), .inl (K 0, 12, .inl (fun j => iI (t_7_4_c j)))), ((t_1_q 12), .inl (K 0, 24, .inl (fun j => iI (t_1_12_c j)))), ((t_2_q 3), .inl (K 0, 24, .inl (fun j => iI (t_2_3_c j)))), ((t_1_q 13), .inl (K 0, 24, .inl (fun j => iI (t_1_13_c j)))), ((t_7_q 3), .inl (K 0, 24, .inl (fun j => iI (t_7_3_c j)))), ((t_q 1), .inr (7, oX7 t_1_q t_1_x0 t_1_x1 t_1_x2 t_1_x3 t_1_x4 t_1_x5 t_1_x6 t_1_x7 t_1_x8)), ((t_q 2), .inr (5, oX5 t_2_q t_2_x0)), ((t_2_q 1), .inl (K 0, 5, .inl (fun j => iI (t_2_1_c j)))), ((t_2_q 2), .inl (K 0, 150, .inl (fun j => iI (t_2_2_c j))))] H := hP
        have hD : va_D A [(t, .inr (11, oX11 t_q)), ((t_2_q 4), .inl (K 0, 40, .inl (fun j => iI (t_2_4_c j)))), ((t_2_q 5), .inl (K 0, 40, .inl (fun j => iI (t_2_5_c j)))), ((t_2_q 6), .inl (K 0, 40, .inl (fun j => iI (t_2_6_c j)))), ((t_2_q 7), .inl (K 0, 40, .inl (fun j => iI (t_2_7_c j)))), ((t_q 7), .inr (10, oX10 t_7_q t_7_x0 t_7_x1 t_7_x6)), ((t_7_q 2), .inl (K 0, 12, .inl (fun j => iI (t_7_2_c j)))), ((t_7_q 4), .inl (K 0, 12, .inl (fun j => iI (t_7_4_c j)))), ((t_1_q 12), .inl (K 0, 24, .inl (fun j => iI (t_1_12_c j)))), ((t_2_q 3), .inl (K 0, 24, .inl (fun j => iI (t_2_3_c j)))), ((t_1_q 13), .inl (K 0, 24, .inl (fun j => iI (t_1_13_c j)))), ((t_7_q 3), .inl (K 0, 24, .inl (fun j => iI (t_7_3_c j)))), ((t_q 1), .inr (7, oX7 t_1_q t_1_x0 t_1_x1 t_1_x2 t_1_x3 t_1_x4 t_1_x5 t_1_x6 t_1_x7 t_1_x8)), ((t_q 2), .inr (5, oX5 t_2_q t_2_x0)), ((t_2_q 1), .inl (K 0, 5, .inl (fun j => iI (t_2_1_c j)))), ((t_2_q 2), .inl (K 0, 150, .inl (fun j => iI (t_2_2_c j))))] := hD
        refine fn_at 40 rfl ?_
        refine lv_istore_n (lv' := [(3, .int (iI kr37)), (0, .ref t), (1, .int (iI p1)), (2, .int (iI p2))]) hx hb dX11_tear_40 rfl hl (by decide) rfl (fun ls hl => ?_)
        refine lv_aload_n hx hb dX11_tear_41 rfl (lv_at hl 1 rfl) ?_
        refine va_get (D := D) (own := RX11) (ci := 11) (v := .ref (t_q 2)) (C := RX11) (T := TX11) (N := 13) hx hb hts inb_X11 hown hK.1 hP 0 rfl rfl 2 (by decide) (hts _ wd_424) (fun _ h9 => h9) rfl dX11_tear_42 ?_
        refine va_getN (D := D) (own := RX11) (ci := 5) (v := .int (iI t_2_x0)) (C := RX5) (T := TX5) (N := 8) hx hb hts inb_X5 hown hK.1 hP 13 rfl rfl 0 (by decide) (hK.nf 56 rfl) (fun _ h9 => h9) rfl dX11_tear_45 ?_
        have y45_1 : 0 ≤ t_2_x0 ∧ t_2_x0 ≤ 40 := hi_t_2
        refine lv_bipush (v := iI 40) hx hb dX11_tear_48 (by decide) ?_
        refine g_icmp_ge (tgt := 59) hx hb (by omega) (by omega) dX11_tear_50 (by decide) (fun c50 => ?_) (fun c50 => ?_)
        · refine lv_bipush (v := iI (-5)) hx hb dX11_tear_59 (by decide) ?_
          have y61_2 : 0 ≤ t_7_x0 ∧ t_7_x0 ≤ 12 := hi_t_7.1
          have y61_3 : 0 ≤ t_7_x1 ∧ t_7_x1 ≤ 4095 := hi_t_7.2.1
          rw [hQ]; exact fn_iret hx hb hr hlocks rfl hP hD hS ((fun k => ([t_2_x0, t_7_x0, t_7_x1] : List Int).getD k 0), (fun k => ([t_2_2_c, t_2_4_c, t_2_5_c, t_2_6_c, t_2_7_c, t_7_2_c, t_7_3_c, t_7_4_c] : List (Nat → Int)).getD k (fun _ => 0))) ⟨(-5), rfl, by omega, (by show 0 ≤ t_2_x0 ∧ t_2_x0 ≤ 40 ∧ 0 ≤ t_7_x0 ∧ t_7_x0 ≤ 12 ∧ 0 ≤ t_7_x1 ∧ t_7_x1 ≤ 4095; omega), (show AR t_2_4_c t_2_5_c t_2_7_c from by assumption), (hc_t_2_2), (hc_t_2_4), (hc_t_2_5), (hc_t_2_6), (hc_t_2_7), (hc_t_7_2), (hc_t_7_3), (hc_t_7_4), trivial⟩ [0, 12, 13, 14, 15, 1, 2, 3, 4, 5, 6, 7, 8, 9, 10, 11] (by decide) rfl dX11_tear_61
        · refine lv_iload_n hx hb dX11_tear_53 rfl (lv_at hl 0 rfl) ?_
          refine lv_bipush (v := iI (-4)) hx hb dX11_tear_54 (by decide) ?_
          refine g_icmp_ne (tgt := 62) hx hb (by omega) (by omega) dX11_tear_56 (by decide) (fun c56 => ?_) (fun c56 => ?_)
          · refine lv_aload_n hx hb dX11_tear_62 rfl (lv_at hl 1 rfl) ?_
            refine va_get (D := D) (own := RX11) (ci := 11) (v := .ref (t_q 2)) (C := RX11) (T := TX11) (N := 13) hx hb hts inb_X11 hown hK.1 hP 0 rfl rfl 2 (by decide) (hts _ wd_424) (fun _ h9 => h9) rfl dX11_tear_63 ?_
            refine lv_iload_n hx hb dX11_tear_66 rfl (lv_at hl 2 rfl) ?_
            refine lv_iload_n hx hb dX11_tear_67 rfl (lv_at hl 3 rfl) ?_
            refine fn_gov (wc := [((t_q 2), .inr (5, oX5 t_2_q t_2_x0)), ((t_2_q 1), .inl (K 0, 5, .inl (fun j => iI (t_2_1_c j)))), ((t_2_q 2), .inl (K 0, 150, .inl (fun j => iI (t_2_2_c j)))), ((t_2_q 4), .inl (K 0, 40, .inl (fun j => iI (t_2_4_c j)))), ((t_2_q 5), .inl (K 0, 40, .inl (fun j => iI (t_2_5_c j)))), ((t_2_q 6), .inl (K 0, 40, .inl (fun j => iI (t_2_6_c j)))), ((t_2_q 7), .inl (K 0, 40, .inl (fun j => iI (t_2_7_c j))))]) (wr := [(t, .inr (11, oX11 t_q)), ((t_q 7), .inr (10, oX10 t_7_q t_7_x0 t_7_x1 t_7_x6)), ((t_7_q 2), .inl (K 0, 12, .inl (fun j => iI (t_7_2_c j)))), ((t_7_q 4), .inl (K 0, 12, .inl (fun j => iI (t_7_4_c j)))), ((t_1_q 12), .inl (K 0, 24, .inl (fun j => iI (t_1_12_c j)))), ((t_2_q 3), .inl (K 0, 24, .inl (fun j => iI (t_2_3_c j)))), ((t_1_q 13), .inl (K 0, 24, .inl (fun j => iI (t_1_13_c j)))), ((t_7_q 3), .inl (K 0, 24, .inl (fun j => iI (t_7_3_c j)))), ((t_q 1), .inr (7, oX7 t_1_q t_1_x0 t_1_x1 t_1_x2 t_1_x3 t_1_x4 t_1_x5 t_1_x6 t_1_x7 t_1_x8))]) hK hP hD hS hA [13, 14, 15, 1, 2, 3, 4] [0, 5, 6, 7, 8, 9, 10, 11, 12] rfl rfl (by decide) (fun hp => va_runVN (C := RX5) (As := [.int (iI p1), .int (iI p2)]) (rest := []) ⟨hx, hb, hml, hown, hts⟩ (k_X5_tearOut (l := l) (D := D) (K := K) (t := (t_q 2)) (p1 := p1) (p2 := p2) (t_q := t_2_q) (t_x0 := t_2_x0) (t_1_c := t_2_1_c) (t_2_c := t_2_2_c) (t_4_c := t_2_4_c) (t_5_c := t_2_5_c) (t_6_c := t_2_6_c) (t_7_c := t_2_7_c) (hp1 := (by omega)) (hp2 := (by omega)) (hi_t := hi_t_2) (hc_t_1 := hc_t_2_1) (hc_t_2 := hc_t_2_2) (hc_t_4 := hc_t_2_4) (hc_t_5 := hc_t_2_5) (hc_t_6 := hc_t_2_6) (hc_t_7 := hc_t_2_7) (ar := (show AR t_2_4_c t_2_5_c t_2_7_c from by assumption)) _) ⟨va_cnB (own := RX11) 2 hts (fn_gin wd_730) rfl rfl rfl (hK.nw 116 rfl) (hts _ wd_5) (by decide +kernel) ⟨Nat.le_of_ble_eq_true rfl, Nat.le_of_ble_eq_true rfl⟩, hts _ wd_729, hts _ wp_33⟩ ⟨fn_blind, va_recv hK.1 hP (ci := 5) (q0 := 13) rfl rfl, hp⟩ rfl rfl hl.1 rfl (lv_room (Nat.le_of_ble_eq_true rfl)) dX11_tear_68 ⟨Nat.le_of_ble_eq_true rfl, Nat.le_of_ble_eq_true rfl⟩) (fun u68 H locs hwu68 hP hD hS => ?_)
            obtain ⟨u68a, u68b⟩ := u68
            obtain ⟨hqu680, hqu68_ar0, hu68_00, hu68_10, hu68_20, hu68_30, hu68_40, -⟩ := hwu68
            have hqu68 : 0 ≤ (u68a 0) ∧ (u68a 0) ≤ 40 := hqu680
            have hqu68_ar : AR (u68b 1) (u68b 2) (u68b 4) := hqu68_ar0
            have hu68_0 : ∀ j : Nat, (-4) ≤ (u68b 0) j ∧ (u68b 0) j ≤ 11 := hu68_00
            have hu68_1 : ∀ j : Nat, 0 ≤ (u68b 1) j ∧ (u68b 1) j ≤ 2 := hu68_10
            have hu68_2 : ∀ j : Nat, 0 ≤ (u68b 2) j ∧ (u68b 2) j ≤ 23 := hu68_20
            have hu68_3 : ∀ j : Nat, 0 ≤ (u68b 3) j ∧ (u68b 3) j ≤ 29 := hu68_30
            have hu68_4 : ∀ j : Nat, (-4) ≤ (u68b 4) j ∧ (u68b 4) j ≤ 29 := hu68_40
            clear hqu680 hqu68_ar0 hu68_00 hu68_10 hu68_20 hu68_30 hu68_40
            have hP : va_P D vwCl [(t, .inr (11, oX11 t_q)), ((t_q 7), .inr (10, oX10 t_7_q t_7_x0 t_7_x1 t_7_x6)), ((t_7_q 2), .inl (K 0, 12, .inl (fun j => iI (t_7_2_c j)))), ((t_7_q 4), .inl (K 0, 12, .inl (fun j => iI (t_7_4_c j)))), ((t_1_q 12), .inl (K 0, 24, .inl (fun j => iI (t_1_12_c j)))), ((t_2_q 3), .inl (K 0, 24, .inl (fun j => iI (t_2_3_c j)))), ((t_1_q 13), .inl (K 0, 24, .inl (fun j => iI (t_1_13_c j)))), ((t_7_q 3), .inl (K 0, 24, .inl (fun j => iI (t_7_3_c j)))), ((t_q 1), .inr (7, oX7 t_1_q t_1_x0 t_1_x1 t_1_x2 t_1_x3 t_1_x4 t_1_x5 t_1_x6 t_1_x7 t_1_x8)), ((t_q 2), .inr (5, oX5 t_2_q (u68a 0))), ((t_2_q 1), .inl (K 0, 5, .inl (fun j => iI (t_2_1_c j)))), ((t_2_q 2), .inl (K 0, 150, .inl (fun j => iI ((u68b 0) j)))), ((t_2_q 4), .inl (K 0, 40, .inl (fun j => iI ((u68b 1) j)))), ((t_2_q 5), .inl (K 0, 40, .inl (fun j => iI ((u68b 2) j)))), ((t_2_q 6), .inl (K 0, 40, .inl (fun j => iI ((u68b 3) j)))), ((t_2_q 7), .inl (K 0, 40, .inl (fun j => iI ((u68b 4) j))))] H := hP
            have hD : va_D A [(t, .inr (11, oX11 t_q)), ((t_q 7), .inr (10, oX10 t_7_q t_7_x0 t_7_x1 t_7_x6)), ((t_7_q 2), .inl (K 0, 12, .inl (fun j => iI (t_7_2_c j)))), ((t_7_q 4), .inl (K 0, 12, .inl (fun j => iI (t_7_4_c j)))), ((t_1_q 12), .inl (K 0, 24, .inl (fun j => iI (t_1_12_c j)))), ((t_2_q 3), .inl (K 0, 24, .inl (fun j => iI (t_2_3_c j)))), ((t_1_q 13), .inl (K 0, 24, .inl (fun j => iI (t_1_13_c j)))), ((t_7_q 3), .inl (K 0, 24, .inl (fun j => iI (t_7_3_c j)))), ((t_q 1), .inr (7, oX7 t_1_q t_1_x0 t_1_x1 t_1_x2 t_1_x3 t_1_x4 t_1_x5 t_1_x6 t_1_x7 t_1_x8)), ((t_q 2), .inr (5, oX5 t_2_q (u68a 0))), ((t_2_q 1), .inl (K 0, 5, .inl (fun j => iI (t_2_1_c j)))), ((t_2_q 2), .inl (K 0, 150, .inl (fun j => iI ((u68b 0) j)))), ((t_2_q 4), .inl (K 0, 40, .inl (fun j => iI ((u68b 1) j)))), ((t_2_q 5), .inl (K 0, 40, .inl (fun j => iI ((u68b 2) j)))), ((t_2_q 6), .inl (K 0, 40, .inl (fun j => iI ((u68b 3) j)))), ((t_2_q 7), .inl (K 0, 40, .inl (fun j => iI ((u68b 4) j))))] := hD
            refine lv_aload_n hx hb dX11_tear_71 rfl (lv_at hl 1 rfl) ?_
            refine fn_gov (wc := [(t, .inr (11, oX11 t_q)), ((t_q 7), .inr (10, oX10 t_7_q t_7_x0 t_7_x1 t_7_x6)), ((t_q 1), .inr (7, oX7 t_1_q t_1_x0 t_1_x1 t_1_x2 t_1_x3 t_1_x4 t_1_x5 t_1_x6 t_1_x7 t_1_x8)), ((t_7_q 2), .inl (K 0, 12, .inl (fun j => iI (t_7_2_c j)))), ((t_q 2), .inr (5, oX5 t_2_q (u68a 0))), ((t_2_q 1), .inl (K 0, 5, .inl (fun j => iI (t_2_1_c j)))), ((t_2_q 2), .inl (K 0, 150, .inl (fun j => iI ((u68b 0) j)))), ((t_7_q 4), .inl (K 0, 12, .inl (fun j => iI (t_7_4_c j)))), ((t_1_q 12), .inl (K 0, 24, .inl (fun j => iI (t_1_12_c j)))), ((t_2_q 3), .inl (K 0, 24, .inl (fun j => iI (t_2_3_c j)))), ((t_1_q 13), .inl (K 0, 24, .inl (fun j => iI (t_1_13_c j)))), ((t_7_q 3), .inl (K 0, 24, .inl (fun j => iI (t_7_3_c j))))]) (wr := [((t_2_q 4), .inl (K 0, 40, .inl (fun j => iI ((u68b 1) j)))), ((t_2_q 5), .inl (K 0, 40, .inl (fun j => iI ((u68b 2) j)))), ((t_2_q 6), .inl (K 0, 40, .inl (fun j => iI ((u68b 3) j)))), ((t_2_q 7), .inl (K 0, 40, .inl (fun j => iI ((u68b 4) j))))]) hK hP hD hS hA [0, 1, 8, 2, 9, 10, 11, 3, 4, 5, 6, 7] [12, 13, 14, 15] rfl rfl (by decide) (fun hp => va_runV (C := RX11) (As := []) (rest := []) ⟨hx, hb, hml, hown, hts⟩ (k_X11_settle (l := l) (D := D) (K := K) (t := t) (t_q := t_q) (t_7_q := t_7_q) (t_7_x0 := t_7_x0) (t_7_x1 := t_7_x1) (t_7_x6 := t_7_x6) (t_1_q := t_1_q) (t_1_x0 := t_1_x0) (t_1_x1 := t_1_x1) (t_1_x2 := t_1_x2) (t_1_x3 := t_1_x3) (t_1_x4 := t_1_x4) (t_1_x5 := t_1_x5) (t_1_x6 := t_1_x6) (t_1_x7 := t_1_x7) (t_1_x8 := t_1_x8) (t_7_2_c := t_7_2_c) (t_2_q := t_2_q) (t_2_x0 := (u68a 0)) (t_2_1_c := t_2_1_c) (t_2_2_c := (u68b 0)) (t_7_4_c := t_7_4_c) (t_1_12_c := t_1_12_c) (t_2_3_c := t_2_3_c) (t_1_13_c := t_1_13_c) (t_7_3_c := t_7_3_c) (hi_t_7 := hi_t_7) (hi_t_1 := hi_t_1) (hc_t_7_2 := hc_t_7_2) (hi_t_2 := (show 0 ≤ (u68a 0) ∧ (u68a 0) ≤ 40 from by omega)) (hc_t_2_1 := hc_t_2_1) (hc_t_2_2 := hu68_0) (hc_t_7_4 := hc_t_7_4) (hc_t_1_12 := hc_t_1_12) (hc_t_2_3 := hc_t_2_3) (hc_t_1_13 := hc_t_1_13) (hc_t_7_3 := hc_t_7_3) _) (cwV 0 hts (fn_ginV (fn_gin wd_635) wd_632 wd_634 wp_21 wd_1) rfl rfl rfl (by decide +kernel) ⟨Nat.le_of_ble_eq_true rfl, Nat.le_of_ble_eq_true rfl⟩) ⟨fn_blind, va_recv hK.1 hP (ci := 11) (q0 := 0) rfl rfl, hp⟩ rfl rfl hl.1 rfl (lv_room (Nat.le_of_ble_eq_true rfl)) dX11_tear_72 ⟨Nat.le_of_ble_eq_true rfl, Nat.le_of_ble_eq_true rfl⟩) (fun u72 H locs hwu72 hP hD hS => ?_)
            obtain ⟨u72a, u72b⟩ := u72
            obtain ⟨hqu720, hu72_00, hu72_10, hu72_20, -⟩ := hwu72
            have hqu72 : 0 ≤ (u72a 0) ∧ (u72a 0) ≤ 12 ∧ 0 ≤ (u72a 1) ∧ (u72a 1) ≤ 4095 := hqu720
            have hu72_0 : ∀ j : Nat, (-1) ≤ (u72b 0) j ∧ (u72b 0) j ≤ 149 := hu72_00
            have hu72_1 : ∀ j : Nat, (-1) ≤ (u72b 1) j ∧ (u72b 1) j ≤ 11 := hu72_10
            have hu72_2 : ∀ j : Nat, 0 ≤ (u72b 2) j ∧ (u72b 2) j ≤ 4095 := hu72_20
            clear hqu720 hu72_00 hu72_10 hu72_20
            have hP : va_P D vwCl [((t_2_q 4), .inl (K 0, 40, .inl (fun j => iI ((u68b 1) j)))), ((t_2_q 5), .inl (K 0, 40, .inl (fun j => iI ((u68b 2) j)))), ((t_2_q 6), .inl (K 0, 40, .inl (fun j => iI ((u68b 3) j)))), ((t_2_q 7), .inl (K 0, 40, .inl (fun j => iI ((u68b 4) j)))), (t, .inr (11, oX11 t_q)), ((t_q 7), .inr (10, oX10 t_7_q (u72a 0) (u72a 1) t_7_x6)), ((t_q 1), .inr (7, oX7 t_1_q t_1_x0 t_1_x1 t_1_x2 t_1_x3 t_1_x4 t_1_x5 t_1_x6 t_1_x7 t_1_x8)), ((t_7_q 2), .inl (K 0, 12, .inl (fun j => iI ((u72b 0) j)))), ((t_q 2), .inr (5, oX5 t_2_q (u68a 0))), ((t_2_q 1), .inl (K 0, 5, .inl (fun j => iI (t_2_1_c j)))), ((t_2_q 2), .inl (K 0, 150, .inl (fun j => iI ((u68b 0) j)))), ((t_7_q 4), .inl (K 0, 12, .inl (fun j => iI ((u72b 2) j)))), ((t_1_q 12), .inl (K 0, 24, .inl (fun j => iI (t_1_12_c j)))), ((t_2_q 3), .inl (K 0, 24, .inl (fun j => iI (t_2_3_c j)))), ((t_1_q 13), .inl (K 0, 24, .inl (fun j => iI (t_1_13_c j)))), ((t_7_q 3), .inl (K 0, 24, .inl (fun j => iI ((u72b 1) j))))] H := hP
            have hD : va_D A [((t_2_q 4), .inl (K 0, 40, .inl (fun j => iI ((u68b 1) j)))), ((t_2_q 5), .inl (K 0, 40, .inl (fun j => iI ((u68b 2) j)))), ((t_2_q 6), .inl (K 0, 40, .inl (fun j => iI ((u68b 3) j)))), ((t_2_q 7), .inl (K 0, 40, .inl (fun j => iI ((u68b 4) j)))), (t, .inr (11, oX11 t_q)), ((t_q 7), .inr (10, oX10 t_7_q (u72a 0) (u72a 1) t_7_x6)), ((t_q 1), .inr (7, oX7 t_1_q t_1_x0 t_1_x1 t_1_x2 t_1_x3 t_1_x4 t_1_x5 t_1_x6 t_1_x7 t_1_x8)), ((t_7_q 2), .inl (K 0, 12, .inl (fun j => iI ((u72b 0) j)))), ((t_q 2), .inr (5, oX5 t_2_q (u68a 0))), ((t_2_q 1), .inl (K 0, 5, .inl (fun j => iI (t_2_1_c j)))), ((t_2_q 2), .inl (K 0, 150, .inl (fun j => iI ((u68b 0) j)))), ((t_7_q 4), .inl (K 0, 12, .inl (fun j => iI ((u72b 2) j)))), ((t_1_q 12), .inl (K 0, 24, .inl (fun j => iI (t_1_12_c j)))), ((t_2_q 3), .inl (K 0, 24, .inl (fun j => iI (t_2_3_c j)))), ((t_1_q 13), .inl (K 0, 24, .inl (fun j => iI (t_1_13_c j)))), ((t_7_q 3), .inl (K 0, 24, .inl (fun j => iI ((u72b 1) j))))] := hD
            refine lv_iload_n hx hb dX11_tear_75 rfl (lv_at hl 0 rfl) ?_
            rw [hQ]; exact fn_iret hx hb hr hlocks rfl hP hD hS ((fun k => ([(u68a 0), (u72a 0), (u72a 1)] : List Int).getD k 0), (fun k => ([(u68b 0), (u68b 1), (u68b 2), (u68b 3), (u68b 4), (u72b 0), (u72b 1), (u72b 2)] : List (Nat → Int)).getD k (fun _ => 0))) ⟨kr37, rfl, by omega, (by show 0 ≤ (u68a 0) ∧ (u68a 0) ≤ 40 ∧ 0 ≤ (u72a 0) ∧ (u72a 0) ≤ 12 ∧ 0 ≤ (u72a 1) ∧ (u72a 1) ≤ 4095; omega), (show AR (u68b 1) (u68b 2) (u68b 4) from by assumption), (hu68_0), (hu68_1), (hu68_2), (hu68_3), (hu68_4), (hu72_0), (hu72_1), (hu72_2), trivial⟩ [4, 6, 8, 9, 10, 0, 1, 2, 3, 5, 7, 11, 12, 13, 14, 15] (by decide) rfl dX11_tear_76
          · refine lv_bipush (v := iI (-5)) hx hb dX11_tear_59 (by decide) ?_
            have y61_2 : 0 ≤ t_7_x0 ∧ t_7_x0 ≤ 12 := hi_t_7.1
            have y61_3 : 0 ≤ t_7_x1 ∧ t_7_x1 ≤ 4095 := hi_t_7.2.1
            rw [hQ]; exact fn_iret hx hb hr hlocks rfl hP hD hS ((fun k => ([t_2_x0, t_7_x0, t_7_x1] : List Int).getD k 0), (fun k => ([t_2_2_c, t_2_4_c, t_2_5_c, t_2_6_c, t_2_7_c, t_7_2_c, t_7_3_c, t_7_4_c] : List (Nat → Int)).getD k (fun _ => 0))) ⟨(-5), rfl, by omega, (by show 0 ≤ t_2_x0 ∧ t_2_x0 ≤ 40 ∧ 0 ≤ t_7_x0 ∧ t_7_x0 ≤ 12 ∧ 0 ≤ t_7_x1 ∧ t_7_x1 ≤ 4095; omega), (show AR t_2_4_c t_2_5_c t_2_7_c from by assumption), (hc_t_2_2), (hc_t_2_4), (hc_t_2_5), (hc_t_2_6), (hc_t_2_7), (hc_t_7_2), (hc_t_7_3), (hc_t_7_4), trivial⟩ [0, 12, 13, 14, 15, 1, 2, 3, 4, 5, 6, 7, 8, 9, 10, 11] (by decide) rfl dX11_tear_61
      · refine lv_bipush (v := iI (-2)) hx hb dX11_tear_28 (by decide) ?_
        have y30_1 : 0 ≤ t_2_x0 ∧ t_2_x0 ≤ 40 := hi_t_2
        have y30_2 : 0 ≤ t_7_x0 ∧ t_7_x0 ≤ 12 := hi_t_7.1
        have y30_3 : 0 ≤ t_7_x1 ∧ t_7_x1 ≤ 4095 := hi_t_7.2.1
        rw [hQ]; exact fn_iret hx hb hr hlocks rfl hP hD hS ((fun k => ([t_2_x0, t_7_x0, t_7_x1] : List Int).getD k 0), (fun k => ([t_2_2_c, t_2_4_c, t_2_5_c, t_2_6_c, t_2_7_c, t_7_2_c, t_7_3_c, t_7_4_c] : List (Nat → Int)).getD k (fun _ => 0))) ⟨(-2), rfl, by omega, (by show 0 ≤ t_2_x0 ∧ t_2_x0 ≤ 40 ∧ 0 ≤ t_7_x0 ∧ t_7_x0 ≤ 12 ∧ 0 ≤ t_7_x1 ∧ t_7_x1 ≤ 4095; omega), (show AR t_2_4_c t_2_5_c t_2_7_c from by assumption), (hc_t_2_2), (hc_t_2_4), (hc_t_2_5), (hc_t_2_6), (hc_t_2_7), (hc_t_7_2), (hc_t_7_3), (hc_t_7_4), trivial⟩ [0, 15, 1, 2, 3, 4, 5, 6, 7, 8, 9, 10, 11, 12, 13, 14] (by decide) rfl dX11_tear_30
theorem wd_739 : Cond.code ⟨"FootNotes$Shelf", "reprint", "(II)V"⟩ prog_7_method_7_code 3 (Option.none : Option Jvm.ClassFile.FieldType) ∈ fn_big := fn_tb (fn_l4 (List.mem_of_getElem? (i := 19) (by decide +kernel))) (by decide +kernel)
theorem wd_738 : Cond.instanceMethod ⟨"FootNotes$Shelf", "reprint", "(II)V"⟩ ∈ fn_big := fn_tb (fn_l4 (List.mem_of_getElem? (i := 18) (by decide +kernel))) (by decide +kernel)
theorem wp_34 : Cond.selects "FootNotes$Shelf" ⟨"FootNotes$Shelf", "reprint", "(II)V"⟩ ⟨"FootNotes$Shelf", "reprint", "(II)V"⟩ ∈ fn_big := fn_sel (q := (⟨"FootNotes$Shelf", "reprint", "(II)V"⟩, 8)) 34 (by decide +kernel) (by decide +kernel)
theorem dX11_misprint_0 : decode cX11_misprint 0 = .ok (.aload_n 0, 1) := by decide +kernel
theorem dX11_misprint_1 : decode cX11_misprint 1 = .ok (.getfield 19, 3) := by decide +kernel
theorem dX11_misprint_4 : decode cX11_misprint 4 = .ok (.iload_n 1, 1) := by decide +kernel
theorem dX11_misprint_5 : decode cX11_misprint 5 = .ok (.invokevirtual 167, 3) := by decide +kernel
theorem dX11_misprint_8 : decode cX11_misprint 8 = .ok (.ifCond .eq 13, 3) := by decide +kernel
theorem dX11_misprint_21 : decode cX11_misprint 21 = .ok (.bipush (-2), 2) := by decide +kernel
theorem dX11_misprint_23 : decode cX11_misprint 23 = .ok (.ireturn, 1) := by decide +kernel
theorem dX11_misprint_11 : decode cX11_misprint 11 = .ok (.iload_n 2, 1) := by decide +kernel
theorem dX11_misprint_12 : decode cX11_misprint 12 = .ok (.ifCond .lt 9, 3) := by decide +kernel
theorem dX11_misprint_15 : decode cX11_misprint 15 = .ok (.iload_n 2, 1) := by decide +kernel
theorem dX11_misprint_16 : decode cX11_misprint 16 = .ok (.bipush 30, 2) := by decide +kernel
theorem dX11_misprint_18 : decode cX11_misprint 18 = .ok (.if_icmp .lt 6, 3) := by decide +kernel
theorem dX11_misprint_24 : decode cX11_misprint 24 = .ok (.aload_n 0, 1) := by decide +kernel
theorem dX11_misprint_25 : decode cX11_misprint 25 = .ok (.getfield 26, 3) := by decide +kernel
theorem dX11_misprint_28 : decode cX11_misprint 28 = .ok (.getfield 199, 3) := by decide +kernel
theorem dX11_misprint_31 : decode cX11_misprint 31 = .ok (.bipush 40, 2) := by decide +kernel
theorem dX11_misprint_33 : decode cX11_misprint 33 = .ok (.if_icmp .lt 6, 3) := by decide +kernel
theorem dX11_misprint_39 : decode cX11_misprint 39 = .ok (.aload_n 0, 1) := by decide +kernel
theorem dX11_misprint_40 : decode cX11_misprint 40 = .ok (.getfield 26, 3) := by decide +kernel
theorem dX11_misprint_43 : decode cX11_misprint 43 = .ok (.getfield 176, 3) := by decide +kernel
theorem dX11_misprint_46 : decode cX11_misprint 46 = .ok (.iload_n 1, 1) := by decide +kernel
theorem dX11_misprint_47 : decode cX11_misprint 47 = .ok (.iaload, 1) := by decide +kernel
theorem dX11_misprint_48 : decode cX11_misprint 48 = .ok (.istore_n 3, 1) := by decide +kernel
theorem dX11_misprint_49 : decode cX11_misprint 49 = .ok (.aload_n 0, 1) := by decide +kernel
theorem dX11_misprint_50 : decode cX11_misprint 50 = .ok (.getfield 26, 3) := by decide +kernel
theorem dX11_misprint_53 : decode cX11_misprint 53 = .ok (.iload_n 1, 1) := by decide +kernel
theorem dX11_misprint_54 : decode cX11_misprint 54 = .ok (.iload_n 2, 1) := by decide +kernel
theorem dX11_misprint_55 : decode cX11_misprint 55 = .ok (.invokevirtual 209, 3) := by decide +kernel
theorem dX11_misprint_58 : decode cX11_misprint 58 = .ok (.aload_n 0, 1) := by decide +kernel
theorem dX11_misprint_59 : decode cX11_misprint 59 = .ok (.invokevirtual 117, 3) := by decide +kernel
theorem dX11_misprint_62 : decode cX11_misprint 62 = .ok (.iload_n 3, 1) := by decide +kernel
theorem dX11_misprint_63 : decode cX11_misprint 63 = .ok (.ireturn, 1) := by decide +kernel
theorem dX11_misprint_36 : decode cX11_misprint 36 = .ok (.bipush (-5), 2) := by decide +kernel
theorem dX11_misprint_38 : decode cX11_misprint 38 = .ok (.ireturn, 1) := by decide +kernel
set_option maxHeartbeats 4000000 in
set_option maxRecDepth 100000 in
theorem k_X11_misprint (l : Launch) (D : va_G) (K : Nat → ClassId) (t : Nat) (t_q t_1_q t_2_q t_7_q : Nat → Nat) (p1 p2 t_1_x0 t_1_x1 t_1_x2 t_1_x3 t_1_x4 t_1_x5 t_1_x6 t_1_x7 t_1_x8 t_2_x0 t_7_x0 t_7_x1 t_7_x6 : Int) (t_2_3_c : Nat → Int) (t_2_4_c : Nat → Int) (t_2_5_c : Nat → Int) (t_2_6_c : Nat → Int) (t_2_7_c : Nat → Int) (t_7_2_c : Nat → Int) (t_2_1_c : Nat → Int) (t_2_2_c : Nat → Int) (t_7_4_c : Nat → Int) (t_1_12_c : Nat → Int) (t_1_13_c : Nat → Int) (t_7_3_c : Nat → Int) (hp1 : (-2147483648) ≤ p1 ∧ p1 ≤ 2147483647) (hp2 : (-2147483648) ≤ p2 ∧ p2 ≤ 2147483647) (hi_t_1 : bX7 t_1_x0 t_1_x1 t_1_x2 t_1_x3 t_1_x4 t_1_x5 t_1_x6 t_1_x7 t_1_x8) (hi_t_2 : bX5 t_2_x0) (hc_t_2_3 : ∀ j : Nat, 0 ≤ t_2_3_c j ∧ t_2_3_c j ≤ 29) (hc_t_2_4 : ∀ j : Nat, 0 ≤ t_2_4_c j ∧ t_2_4_c j ≤ 2) (hc_t_2_5 : ∀ j : Nat, 0 ≤ t_2_5_c j ∧ t_2_5_c j ≤ 23) (hc_t_2_6 : ∀ j : Nat, 0 ≤ t_2_6_c j ∧ t_2_6_c j ≤ 29) (hc_t_2_7 : ∀ j : Nat, (-4) ≤ t_2_7_c j ∧ t_2_7_c j ≤ 29) (hi_t_7 : bX10 t_7_x0 t_7_x1 t_7_x6) (hc_t_7_2 : ∀ j : Nat, (-1) ≤ t_7_2_c j ∧ t_7_2_c j ≤ 149) (hc_t_2_1 : ∀ j : Nat, (-1000) ≤ t_2_1_c j ∧ t_2_1_c j ≤ 30) (hc_t_2_2 : ∀ j : Nat, (-4) ≤ t_2_2_c j ∧ t_2_2_c j ≤ 11) (hc_t_7_4 : ∀ j : Nat, 0 ≤ t_7_4_c j ∧ t_7_4_c j ≤ 4095) (hc_t_1_12 : ∀ j : Nat, 0 ≤ t_1_12_c j ∧ t_1_12_c j ≤ 11) (hc_t_1_13 : ∀ j : Nat, 0 ≤ t_1_13_c j ∧ t_1_13_c j ≤ 4) (hc_t_7_3 : ∀ j : Nat, (-1) ≤ t_7_3_c j ∧ t_7_3_c j ≤ 11) (ar : AR t_2_4_c t_2_5_c t_2_7_c) : fn_CI (S := (Nat → Int) × (Nat → Nat → Int)) l D K yX11_misprint (fn_ws yX11_misprint cX11_misprint 4 (some .int)) ({ frames := 20, cells := 0, slots := 0, locals := 500 } : Room) [.ref t, .int (iI p1), .int (iI p2)] [(t, .inr (11, oX11 t_q)), ((t_q 1), .inr (7, oX7 t_1_q t_1_x0 t_1_x1 t_1_x2 t_1_x3 t_1_x4 t_1_x5 t_1_x6 t_1_x7 t_1_x8)), ((t_q 2), .inr (5, oX5 t_2_q t_2_x0)), ((t_2_q 3), .inl (K 0, 24, .inl (fun j => iI (t_2_3_c j)))), ((t_2_q 4), .inl (K 0, 40, .inl (fun j => iI (t_2_4_c j)))), ((t_2_q 5), .inl (K 0, 40, .inl (fun j => iI (t_2_5_c j)))), ((t_2_q 6), .inl (K 0, 40, .inl (fun j => iI (t_2_6_c j)))), ((t_2_q 7), .inl (K 0, 40, .inl (fun j => iI (t_2_7_c j)))), ((t_q 7), .inr (10, oX10 t_7_q t_7_x0 t_7_x1 t_7_x6)), ((t_7_q 2), .inl (K 0, 12, .inl (fun j => iI (t_7_2_c j)))), ((t_2_q 1), .inl (K 0, 5, .inl (fun j => iI (t_2_1_c j)))), ((t_2_q 2), .inl (K 0, 150, .inl (fun j => iI (t_2_2_c j)))), ((t_7_q 4), .inl (K 0, 12, .inl (fun j => iI (t_7_4_c j)))), ((t_1_q 12), .inl (K 0, 24, .inl (fun j => iI (t_1_12_c j)))), ((t_1_q 13), .inl (K 0, 24, .inl (fun j => iI (t_1_13_c j)))), ((t_7_q 3), .inl (K 0, 24, .inl (fun j => iI (t_7_3_c j))))] (fun r u => ∃ k : Int, r = iI k ∧ ((-5) ≤ k ∧ k ≤ 29) ∧ (0 ≤ (u.1 0) ∧ (u.1 0) ≤ 40 ∧ 0 ≤ (u.1 1) ∧ (u.1 1) ≤ 12 ∧ 0 ≤ (u.1 2) ∧ (u.1 2) ≤ 4095) ∧ (AR (u.2 1) (u.2 2) (u.2 4)) ∧ (∀ j : Nat, 0 ≤ (u.2 0) j ∧ (u.2 0) j ≤ 29) ∧ (∀ j : Nat, 0 ≤ (u.2 1) j ∧ (u.2 1) j ≤ 2) ∧ (∀ j : Nat, 0 ≤ (u.2 2) j ∧ (u.2 2) j ≤ 23) ∧ (∀ j : Nat, 0 ≤ (u.2 3) j ∧ (u.2 3) j ≤ 29) ∧ (∀ j : Nat, (-4) ≤ (u.2 4) j ∧ (u.2 4) j ≤ 29) ∧ (∀ j : Nat, (-1) ≤ (u.2 5) j ∧ (u.2 5) j ≤ 149) ∧ (∀ j : Nat, (-1) ≤ (u.2 6) j ∧ (u.2 6) j ≤ 11) ∧ (∀ j : Nat, 0 ≤ (u.2 7) j ∧ (u.2 7) j ≤ 4095) ∧ True) (fun u => [(t, .inr (11, oX11 t_q)), ((t_q 1), .inr (7, oX7 t_1_q t_1_x0 t_1_x1 t_1_x2 t_1_x3 t_1_x4 t_1_x5 t_1_x6 t_1_x7 t_1_x8)), ((t_q 2), .inr (5, oX5 t_2_q (u.1 0))), ((t_2_q 3), .inl (K 0, 24, .inl (fun j => iI ((u.2 0) j)))), ((t_2_q 4), .inl (K 0, 40, .inl (fun j => iI ((u.2 1) j)))), ((t_2_q 5), .inl (K 0, 40, .inl (fun j => iI ((u.2 2) j)))), ((t_2_q 6), .inl (K 0, 40, .inl (fun j => iI ((u.2 3) j)))), ((t_2_q 7), .inl (K 0, 40, .inl (fun j => iI ((u.2 4) j)))), ((t_q 7), .inr (10, oX10 t_7_q (u.1 1) (u.1 2) t_7_x6)), ((t_7_q 2), .inl (K 0, 12, .inl (fun j => iI ((u.2 5) j)))), ((t_2_q 1), .inl (K 0, 5, .inl (fun j => iI (t_2_1_c j)))), ((t_2_q 2), .inl (K 0, 150, .inl (fun j => iI (t_2_2_c j)))), ((t_7_q 4), .inl (K 0, 12, .inl (fun j => iI ((u.2 7) j)))), ((t_1_q 12), .inl (K 0, 24, .inl (fun j => iI (t_1_12_c j)))), ((t_1_q 13), .inl (K 0, 24, .inl (fun j => iI (t_1_13_c j)))), ((t_7_q 3), .inl (K 0, 24, .inl (fun j => iI ((u.2 6) j))))]) 0 0 := by
  refine g_inI (cc := cX11_misprint) (maxL := 4) (ret := (some .int)) (by decide) rfl (Nat.le_of_ble_eq_true rfl) ?_
  intro p e s m below meth c A ls ag Q B hA hP hD hS hl hQ
  obtain ⟨hx, hb, hr, hml, hts, hown, hlocks, hin, hK⟩ := B
  have hown : s.vm.findClass RX11 = some m.cls := hown
  have hts := fun w h => hts w (List.mem_cons_of_mem _ h)
  have hl : lv_has ls 4 [(0, .ref t), (1, .int (iI p1)), (2, .int (iI p2))] := hl
  refine lv_aload_n hx hb dX11_misprint_0 rfl (lv_at hl 0 rfl) ?_
  refine va_get (D := D) (own := RX11) (ci := 11) (v := .ref (t_q 1)) (C := RX11) (T := TX11) (N := 13) hx hb hts inb_X11 hown hK.1 hP 0 rfl rfl 1 (by decide) (hts _ wd_423) (fun _ h9 => h9) rfl dX11_misprint_1 ?_
  refine lv_iload_n hx hb dX11_misprint_4 rfl (lv_at hl 1 rfl) ?_
  refine fn_goi (wc := [((t_q 1), .inr (7, oX7 t_1_q t_1_x0 t_1_x1 t_1_x2 t_1_x3 t_1_x4 t_1_x5 t_1_x6 t_1_x7 t_1_x8))]) (wr := [(t, .inr (11, oX11 t_q)), ((t_q 2), .inr (5, oX5 t_2_q t_2_x0)), ((t_2_q 3), .inl (K 0, 24, .inl (fun j => iI (t_2_3_c j)))), ((t_2_q 4), .inl (K 0, 40, .inl (fun j => iI (t_2_4_c j)))), ((t_2_q 5), .inl (K 0, 40, .inl (fun j => iI (t_2_5_c j)))), ((t_2_q 6), .inl (K 0, 40, .inl (fun j => iI (t_2_6_c j)))), ((t_2_q 7), .inl (K 0, 40, .inl (fun j => iI (t_2_7_c j)))), ((t_q 7), .inr (10, oX10 t_7_q t_7_x0 t_7_x1 t_7_x6)), ((t_7_q 2), .inl (K 0, 12, .inl (fun j => iI (t_7_2_c j)))), ((t_2_q 1), .inl (K 0, 5, .inl (fun j => iI (t_2_1_c j)))), ((t_2_q 2), .inl (K 0, 150, .inl (fun j => iI (t_2_2_c j)))), ((t_7_q 4), .inl (K 0, 12, .inl (fun j => iI (t_7_4_c j)))), ((t_1_q 12), .inl (K 0, 24, .inl (fun j => iI (t_1_12_c j)))), ((t_1_q 13), .inl (K 0, 24, .inl (fun j => iI (t_1_13_c j)))), ((t_7_q 3), .inl (K 0, 24, .inl (fun j => iI (t_7_3_c j))))]) hK hP hD hS hA [1] [0, 2, 3, 4, 5, 6, 7, 8, 9, 10, 11, 12, 13, 14, 15] rfl rfl (by decide) (fun hp => va_runVN (C := RX7) (As := [.int (iI p1)]) (rest := []) ⟨hx, hb, hml, hown, hts⟩ (k_X7_hasNote (l := l) (D := D) (K := K) (t := (t_q 1)) (p1 := p1) (t_q := t_1_q) (t_x0 := t_1_x0) (t_x1 := t_1_x1) (t_x2 := t_1_x2) (t_x3 := t_1_x3) (t_x4 := t_1_x4) (t_x5 := t_1_x5) (t_x6 := t_1_x6) (t_x7 := t_1_x7) (t_x8 := t_1_x8) (hp1 := (by omega)) (hi_t := hi_t_1) _) ⟨va_cnB (own := RX11) 1 hts (fn_gin wd_688) rfl rfl rfl (hK.nw 113 rfl) (hts _ wd_4) (by decide +kernel) ⟨Nat.le_of_ble_eq_true rfl, Nat.le_of_ble_eq_true rfl⟩, hts _ wd_687, hts _ wp_28⟩ ⟨fn_blind, va_recv hK.1 hP (ci := 7) (q0 := 1) rfl rfl, hp⟩ rfl rfl hl.1 rfl (lv_room (Nat.le_of_ble_eq_true rfl)) dX11_misprint_5 ⟨Nat.le_of_ble_eq_true rfl, Nat.le_of_ble_eq_true rfl⟩) (fun r5 u5 H locs hwu5 hP hD hS => ?_)
  obtain ⟨u5a, u5b⟩ := u5
  obtain ⟨kr5, rfl, hkr5, hqu50, -⟩ := hwu5
  have hqu5 : (kr5 = 1 → 0 ≤ p1 ∧ p1 < t_1_x5 ∧ p1 ≤ 23) := hqu50
  clear hqu50
  have hP : va_P D vwCl [(t, .inr (11, oX11 t_q)), ((t_q 2), .inr (5, oX5 t_2_q t_2_x0)), ((t_2_q 3), .inl (K 0, 24, .inl (fun j => iI (t_2_3_c j)))), ((t_2_q 4), .inl (K 0, 40, .inl (fun j => iI (t_2_4_c j)))), ((t_2_q 5), .inl (K 0, 40, .inl (fun j => iI (t_2_5_c j)))), ((t_2_q 6), .inl (K 0, 40, .inl (fun j => iI (t_2_6_c j)))), ((t_2_q 7), .inl (K 0, 40, .inl (fun j => iI (t_2_7_c j)))), ((t_q 7), .inr (10, oX10 t_7_q t_7_x0 t_7_x1 t_7_x6)), ((t_7_q 2), .inl (K 0, 12, .inl (fun j => iI (t_7_2_c j)))), ((t_2_q 1), .inl (K 0, 5, .inl (fun j => iI (t_2_1_c j)))), ((t_2_q 2), .inl (K 0, 150, .inl (fun j => iI (t_2_2_c j)))), ((t_7_q 4), .inl (K 0, 12, .inl (fun j => iI (t_7_4_c j)))), ((t_1_q 12), .inl (K 0, 24, .inl (fun j => iI (t_1_12_c j)))), ((t_1_q 13), .inl (K 0, 24, .inl (fun j => iI (t_1_13_c j)))), ((t_7_q 3), .inl (K 0, 24, .inl (fun j => iI (t_7_3_c j)))), ((t_q 1), .inr (7, oX7 t_1_q t_1_x0 t_1_x1 t_1_x2 t_1_x3 t_1_x4 t_1_x5 t_1_x6 t_1_x7 t_1_x8))] H := hP
  have hD : va_D A [(t, .inr (11, oX11 t_q)), ((t_q 2), .inr (5, oX5 t_2_q t_2_x0)), ((t_2_q 3), .inl (K 0, 24, .inl (fun j => iI (t_2_3_c j)))), ((t_2_q 4), .inl (K 0, 40, .inl (fun j => iI (t_2_4_c j)))), ((t_2_q 5), .inl (K 0, 40, .inl (fun j => iI (t_2_5_c j)))), ((t_2_q 6), .inl (K 0, 40, .inl (fun j => iI (t_2_6_c j)))), ((t_2_q 7), .inl (K 0, 40, .inl (fun j => iI (t_2_7_c j)))), ((t_q 7), .inr (10, oX10 t_7_q t_7_x0 t_7_x1 t_7_x6)), ((t_7_q 2), .inl (K 0, 12, .inl (fun j => iI (t_7_2_c j)))), ((t_2_q 1), .inl (K 0, 5, .inl (fun j => iI (t_2_1_c j)))), ((t_2_q 2), .inl (K 0, 150, .inl (fun j => iI (t_2_2_c j)))), ((t_7_q 4), .inl (K 0, 12, .inl (fun j => iI (t_7_4_c j)))), ((t_1_q 12), .inl (K 0, 24, .inl (fun j => iI (t_1_12_c j)))), ((t_1_q 13), .inl (K 0, 24, .inl (fun j => iI (t_1_13_c j)))), ((t_7_q 3), .inl (K 0, 24, .inl (fun j => iI (t_7_3_c j)))), ((t_q 1), .inr (7, oX7 t_1_q t_1_x0 t_1_x1 t_1_x2 t_1_x3 t_1_x4 t_1_x5 t_1_x6 t_1_x7 t_1_x8))] := hD
  refine g_if_eq (tgt := 21) hx hb (by omega) dX11_misprint_8 (by decide) (fun c8 => ?_) (fun c8 => ?_)
  · refine lv_bipush (v := iI (-2)) hx hb dX11_misprint_21 (by decide) ?_
    have y23_1 : 0 ≤ t_2_x0 ∧ t_2_x0 ≤ 40 := hi_t_2
    have y23_2 : 0 ≤ t_7_x0 ∧ t_7_x0 ≤ 12 := hi_t_7.1
    have y23_3 : 0 ≤ t_7_x1 ∧ t_7_x1 ≤ 4095 := hi_t_7.2.1
    rw [hQ]; exact fn_iret hx hb hr hlocks rfl hP hD hS ((fun k => ([t_2_x0, t_7_x0, t_7_x1] : List Int).getD k 0), (fun k => ([t_2_3_c, t_2_4_c, t_2_5_c, t_2_6_c, t_2_7_c, t_7_2_c, t_7_3_c, t_7_4_c] : List (Nat → Int)).getD k (fun _ => 0))) ⟨(-2), rfl, by omega, (by show 0 ≤ t_2_x0 ∧ t_2_x0 ≤ 40 ∧ 0 ≤ t_7_x0 ∧ t_7_x0 ≤ 12 ∧ 0 ≤ t_7_x1 ∧ t_7_x1 ≤ 4095; omega), (show AR t_2_4_c t_2_5_c t_2_7_c from by assumption), (hc_t_2_3), (hc_t_2_4), (hc_t_2_5), (hc_t_2_6), (hc_t_2_7), (hc_t_7_2), (hc_t_7_3), (hc_t_7_4), trivial⟩ [0, 15, 1, 2, 3, 4, 5, 6, 7, 8, 9, 10, 11, 12, 13, 14] (by decide) rfl dX11_misprint_23
  · refine lv_iload_n hx hb dX11_misprint_11 rfl (lv_at hl 2 rfl) ?_
    refine g_if_lt (tgt := 21) hx hb (by omega) dX11_misprint_12 (by decide) (fun c12 => ?_) (fun c12 => ?_)
    · refine lv_bipush (v := iI (-2)) hx hb dX11_misprint_21 (by decide) ?_
      have y23_1 : 0 ≤ t_2_x0 ∧ t_2_x0 ≤ 40 := hi_t_2
      have y23_2 : 0 ≤ t_7_x0 ∧ t_7_x0 ≤ 12 := hi_t_7.1
      have y23_3 : 0 ≤ t_7_x1 ∧ t_7_x1 ≤ 4095 := hi_t_7.2.1
      rw [hQ]; exact fn_iret hx hb hr hlocks rfl hP hD hS ((fun k => ([t_2_x0, t_7_x0, t_7_x1] : List Int).getD k 0), (fun k => ([t_2_3_c, t_2_4_c, t_2_5_c, t_2_6_c, t_2_7_c, t_7_2_c, t_7_3_c, t_7_4_c] : List (Nat → Int)).getD k (fun _ => 0))) ⟨(-2), rfl, by omega, (by show 0 ≤ t_2_x0 ∧ t_2_x0 ≤ 40 ∧ 0 ≤ t_7_x0 ∧ t_7_x0 ≤ 12 ∧ 0 ≤ t_7_x1 ∧ t_7_x1 ≤ 4095; omega), (show AR t_2_4_c t_2_5_c t_2_7_c from by assumption), (hc_t_2_3), (hc_t_2_4), (hc_t_2_5), (hc_t_2_6), (hc_t_2_7), (hc_t_7_2), (hc_t_7_3), (hc_t_7_4), trivial⟩ [0, 15, 1, 2, 3, 4, 5, 6, 7, 8, 9, 10, 11, 12, 13, 14] (by decide) rfl dX11_misprint_23
    · refine lv_iload_n hx hb dX11_misprint_15 rfl (lv_at hl 2 rfl) ?_
      refine lv_bipush (v := iI 30) hx hb dX11_misprint_16 (by decide) ?_
      refine g_icmp_lt (tgt := 24) hx hb (by omega) (by omega) dX11_misprint_18 (by decide) (fun c18 => ?_) (fun c18 => ?_)
      · refine lv_aload_n hx hb dX11_misprint_24 rfl (lv_at hl 0 rfl) ?_
        refine va_get (D := D) (own := RX11) (ci := 11) (v := .ref (t_q 2)) (C := RX11) (T := TX11) (N := 13) hx hb hts inb_X11 hown hK.1 hP 0 rfl rfl 2 (by decide) (hts _ wd_424) (fun _ h9 => h9) rfl dX11_misprint_25 ?_
        refine va_getN (D := D) (own := RX11) (ci := 5) (v := .int (iI t_2_x0)) (C := RX5) (T := TX5) (N := 8) hx hb hts inb_X5 hown hK.1 hP 1 rfl rfl 0 (by decide) (hK.nf 56 rfl) (fun _ h9 => h9) rfl dX11_misprint_28 ?_
        have y28_1 : 0 ≤ t_2_x0 ∧ t_2_x0 ≤ 40 := hi_t_2
        refine lv_bipush (v := iI 40) hx hb dX11_misprint_31 (by decide) ?_
        refine g_icmp_lt (tgt := 39) hx hb (by omega) (by omega) dX11_misprint_33 (by decide) (fun c33 => ?_) (fun c33 => ?_)
        · refine lv_aload_n hx hb dX11_misprint_39 rfl (lv_at hl 0 rfl) ?_
          refine va_get (D := D) (own := RX11) (ci := 11) (v := .ref (t_q 2)) (C := RX11) (T := TX11) (N := 13) hx hb hts inb_X11 hown hK.1 hP 0 rfl rfl 2 (by decide) (hts _ wd_424) (fun _ h9 => h9) rfl dX11_misprint_40 ?_
          refine va_getN (D := D) (own := RX11) (ci := 5) (v := .ref (t_2_q 3)) (C := RX5) (T := TX5) (N := 8) hx hb hts inb_X5 hown hK.1 hP 1 rfl rfl 3 (by decide) (hK.nf 61 rfl) (fun _ h9 => h9) rfl dX11_misprint_43 ?_
          refine lv_iload_n hx hb dX11_misprint_46 rfl (lv_at hl 1 rfl) ?_
          refine fn_at 47 rfl ?_
          refine g_iald hx hb hK.1 hP 2 0 rfl rfl (by omega) (by omega) (by decide) dX11_misprint_47 ?_
          have y47 : 0 ≤ (t_2_3_c p1.toNat) ∧ (t_2_3_c p1.toNat) ≤ 29 := hc_t_2_3 p1.toNat
          refine lv_istore_n (lv' := [(3, .int (iI (t_2_3_c p1.toNat))), (0, .ref t), (1, .int (iI p1)), (2, .int (iI p2))]) hx hb dX11_misprint_48 rfl hl (by decide) rfl (fun ls hl => ?_)
          refine lv_aload_n hx hb dX11_misprint_49 rfl (lv_at hl 1 rfl) ?_
          refine va_get (D := D) (own := RX11) (ci := 11) (v := .ref (t_q 2)) (C := RX11) (T := TX11) (N := 13) hx hb hts inb_X11 hown hK.1 hP 0 rfl rfl 2 (by decide) (hts _ wd_424) (fun _ h9 => h9) rfl dX11_misprint_50 ?_
          refine lv_iload_n hx hb dX11_misprint_53 rfl (lv_at hl 2 rfl) ?_
          refine lv_iload_n hx hb dX11_misprint_54 rfl (lv_at hl 3 rfl) ?_
          refine fn_gov (wc := [((t_q 2), .inr (5, oX5 t_2_q t_2_x0)), ((t_2_q 3), .inl (K 0, 24, .inl (fun j => iI (t_2_3_c j)))), ((t_2_q 4), .inl (K 0, 40, .inl (fun j => iI (t_2_4_c j)))), ((t_2_q 5), .inl (K 0, 40, .inl (fun j => iI (t_2_5_c j)))), ((t_2_q 6), .inl (K 0, 40, .inl (fun j => iI (t_2_6_c j)))), ((t_2_q 7), .inl (K 0, 40, .inl (fun j => iI (t_2_7_c j))))]) (wr := [(t, .inr (11, oX11 t_q)), ((t_q 7), .inr (10, oX10 t_7_q t_7_x0 t_7_x1 t_7_x6)), ((t_7_q 2), .inl (K 0, 12, .inl (fun j => iI (t_7_2_c j)))), ((t_2_q 1), .inl (K 0, 5, .inl (fun j => iI (t_2_1_c j)))), ((t_2_q 2), .inl (K 0, 150, .inl (fun j => iI (t_2_2_c j)))), ((t_7_q 4), .inl (K 0, 12, .inl (fun j => iI (t_7_4_c j)))), ((t_1_q 12), .inl (K 0, 24, .inl (fun j => iI (t_1_12_c j)))), ((t_1_q 13), .inl (K 0, 24, .inl (fun j => iI (t_1_13_c j)))), ((t_7_q 3), .inl (K 0, 24, .inl (fun j => iI (t_7_3_c j)))), ((t_q 1), .inr (7, oX7 t_1_q t_1_x0 t_1_x1 t_1_x2 t_1_x3 t_1_x4 t_1_x5 t_1_x6 t_1_x7 t_1_x8))]) hK hP hD hS hA [1, 2, 3, 4, 5, 6] [0, 7, 8, 9, 10, 11, 12, 13, 14, 15] rfl rfl (by decide) (fun hp => va_runVN (C := RX5) (As := [.int (iI p1), .int (iI p2)]) (rest := []) ⟨hx, hb, hml, hown, hts⟩ (k_X5_reprint (l := l) (D := D) (K := K) (t := (t_q 2)) (p1 := p1) (p2 := p2) (t_q := t_2_q) (t_x0 := t_2_x0) (t_3_c := t_2_3_c) (t_4_c := t_2_4_c) (t_5_c := t_2_5_c) (t_6_c := t_2_6_c) (t_7_c := t_2_7_c) (hp1 := (by omega)) (hp2 := (by omega)) (hi_t := hi_t_2) (hc_t_3 := hc_t_2_3) (hc_t_4 := hc_t_2_4) (hc_t_5 := hc_t_2_5) (hc_t_6 := hc_t_2_6) (hc_t_7 := hc_t_2_7) (ar := (show AR t_2_4_c t_2_5_c t_2_7_c from by assumption)) _) ⟨va_cnB (own := RX11) 2 hts (fn_gin wd_739) rfl rfl rfl (hK.nw 117 rfl) (hts _ wd_5) (by decide +kernel) ⟨Nat.le_of_ble_eq_true rfl, Nat.le_of_ble_eq_true rfl⟩, hts _ wd_738, hts _ wp_34⟩ ⟨fn_blind, va_recv hK.1 hP (ci := 5) (q0 := 1) rfl rfl, hp⟩ rfl rfl hl.1 rfl (lv_room (Nat.le_of_ble_eq_true rfl)) dX11_misprint_55 ⟨Nat.le_of_ble_eq_true rfl, Nat.le_of_ble_eq_true rfl⟩) (fun u55 H locs hwu55 hP hD hS => ?_)
          obtain ⟨u55a, u55b⟩ := u55
          obtain ⟨hqu550, hqu55_ar0, hu55_00, hu55_10, hu55_20, hu55_30, hu55_40, -⟩ := hwu55
          have hqu55 : 0 ≤ (u55a 0) ∧ (u55a 0) ≤ 40 := hqu550
          have hqu55_ar : AR (u55b 1) (u55b 2) (u55b 4) := hqu55_ar0
          have hu55_0 : ∀ j : Nat, 0 ≤ (u55b 0) j ∧ (u55b 0) j ≤ 29 := hu55_00
          have hu55_1 : ∀ j : Nat, 0 ≤ (u55b 1) j ∧ (u55b 1) j ≤ 2 := hu55_10
          have hu55_2 : ∀ j : Nat, 0 ≤ (u55b 2) j ∧ (u55b 2) j ≤ 23 := hu55_20
          have hu55_3 : ∀ j : Nat, 0 ≤ (u55b 3) j ∧ (u55b 3) j ≤ 29 := hu55_30
          have hu55_4 : ∀ j : Nat, (-4) ≤ (u55b 4) j ∧ (u55b 4) j ≤ 29 := hu55_40
          clear hqu550 hqu55_ar0 hu55_00 hu55_10 hu55_20 hu55_30 hu55_40
          have hP : va_P D vwCl [(t, .inr (11, oX11 t_q)), ((t_q 7), .inr (10, oX10 t_7_q t_7_x0 t_7_x1 t_7_x6)), ((t_7_q 2), .inl (K 0, 12, .inl (fun j => iI (t_7_2_c j)))), ((t_2_q 1), .inl (K 0, 5, .inl (fun j => iI (t_2_1_c j)))), ((t_2_q 2), .inl (K 0, 150, .inl (fun j => iI (t_2_2_c j)))), ((t_7_q 4), .inl (K 0, 12, .inl (fun j => iI (t_7_4_c j)))), ((t_1_q 12), .inl (K 0, 24, .inl (fun j => iI (t_1_12_c j)))), ((t_1_q 13), .inl (K 0, 24, .inl (fun j => iI (t_1_13_c j)))), ((t_7_q 3), .inl (K 0, 24, .inl (fun j => iI (t_7_3_c j)))), ((t_q 1), .inr (7, oX7 t_1_q t_1_x0 t_1_x1 t_1_x2 t_1_x3 t_1_x4 t_1_x5 t_1_x6 t_1_x7 t_1_x8)), ((t_q 2), .inr (5, oX5 t_2_q (u55a 0))), ((t_2_q 3), .inl (K 0, 24, .inl (fun j => iI ((u55b 0) j)))), ((t_2_q 4), .inl (K 0, 40, .inl (fun j => iI ((u55b 1) j)))), ((t_2_q 5), .inl (K 0, 40, .inl (fun j => iI ((u55b 2) j)))), ((t_2_q 6), .inl (K 0, 40, .inl (fun j => iI ((u55b 3) j)))), ((t_2_q 7), .inl (K 0, 40, .inl (fun j => iI ((u55b 4) j))))] H := hP
          have hD : va_D A [(t, .inr (11, oX11 t_q)), ((t_q 7), .inr (10, oX10 t_7_q t_7_x0 t_7_x1 t_7_x6)), ((t_7_q 2), .inl (K 0, 12, .inl (fun j => iI (t_7_2_c j)))), ((t_2_q 1), .inl (K 0, 5, .inl (fun j => iI (t_2_1_c j)))), ((t_2_q 2), .inl (K 0, 150, .inl (fun j => iI (t_2_2_c j)))), ((t_7_q 4), .inl (K 0, 12, .inl (fun j => iI (t_7_4_c j)))), ((t_1_q 12), .inl (K 0, 24, .inl (fun j => iI (t_1_12_c j)))), ((t_1_q 13), .inl (K 0, 24, .inl (fun j => iI (t_1_13_c j)))), ((t_7_q 3), .inl (K 0, 24, .inl (fun j => iI (t_7_3_c j)))), ((t_q 1), .inr (7, oX7 t_1_q t_1_x0 t_1_x1 t_1_x2 t_1_x3 t_1_x4 t_1_x5 t_1_x6 t_1_x7 t_1_x8)), ((t_q 2), .inr (5, oX5 t_2_q (u55a 0))), ((t_2_q 3), .inl (K 0, 24, .inl (fun j => iI ((u55b 0) j)))), ((t_2_q 4), .inl (K 0, 40, .inl (fun j => iI ((u55b 1) j)))), ((t_2_q 5), .inl (K 0, 40, .inl (fun j => iI ((u55b 2) j)))), ((t_2_q 6), .inl (K 0, 40, .inl (fun j => iI ((u55b 3) j)))), ((t_2_q 7), .inl (K 0, 40, .inl (fun j => iI ((u55b 4) j))))] := hD
          refine lv_aload_n hx hb dX11_misprint_58 rfl (lv_at hl 1 rfl) ?_
          refine fn_gov (wc := [(t, .inr (11, oX11 t_q)), ((t_q 7), .inr (10, oX10 t_7_q t_7_x0 t_7_x1 t_7_x6)), ((t_q 1), .inr (7, oX7 t_1_q t_1_x0 t_1_x1 t_1_x2 t_1_x3 t_1_x4 t_1_x5 t_1_x6 t_1_x7 t_1_x8)), ((t_7_q 2), .inl (K 0, 12, .inl (fun j => iI (t_7_2_c j)))), ((t_q 2), .inr (5, oX5 t_2_q (u55a 0))), ((t_2_q 1), .inl (K 0, 5, .inl (fun j => iI (t_2_1_c j)))), ((t_2_q 2), .inl (K 0, 150, .inl (fun j => iI (t_2_2_c j)))), ((t_7_q 4), .inl (K 0, 12, .inl (fun j => iI (t_7_4_c j)))), ((t_1_q 12), .inl (K 0, 24, .inl (fun j => iI (t_1_12_c j)))), ((t_2_q 3), .inl (K 0, 24, .inl (fun j => iI ((u55b 0) j)))), ((t_1_q 13), .inl (K 0, 24, .inl (fun j => iI (t_1_13_c j)))), ((t_7_q 3), .inl (K 0, 24, .inl (fun j => iI (t_7_3_c j))))]) (wr := [((t_2_q 4), .inl (K 0, 40, .inl (fun j => iI ((u55b 1) j)))), ((t_2_q 5), .inl (K 0, 40, .inl (fun j => iI ((u55b 2) j)))), ((t_2_q 6), .inl (K 0, 40, .inl (fun j => iI ((u55b 3) j)))), ((t_2_q 7), .inl (K 0, 40, .inl (fun j => iI ((u55b 4) j))))]) hK hP hD hS hA [0, 1, 9, 2, 10, 3, 4, 5, 6, 11, 7, 8] [12, 13, 14, 15] rfl rfl (by decide) (fun hp => va_runV (C := RX11) (As := []) (rest := []) ⟨hx, hb, hml, hown, hts⟩ (k_X11_settle (l := l) (D := D) (K := K) (t := t) (t_q := t_q) (t_7_q := t_7_q) (t_7_x0 := t_7_x0) (t_7_x1 := t_7_x1) (t_7_x6 := t_7_x6) (t_1_q := t_1_q) (t_1_x0 := t_1_x0) (t_1_x1 := t_1_x1) (t_1_x2 := t_1_x2) (t_1_x3 := t_1_x3) (t_1_x4 := t_1_x4) (t_1_x5 := t_1_x5) (t_1_x6 := t_1_x6) (t_1_x7 := t_1_x7) (t_1_x8 := t_1_x8) (t_7_2_c := t_7_2_c) (t_2_q := t_2_q) (t_2_x0 := (u55a 0)) (t_2_1_c := t_2_1_c) (t_2_2_c := t_2_2_c) (t_7_4_c := t_7_4_c) (t_1_12_c := t_1_12_c) (t_2_3_c := (u55b 0)) (t_1_13_c := t_1_13_c) (t_7_3_c := t_7_3_c) (hi_t_7 := hi_t_7) (hi_t_1 := hi_t_1) (hc_t_7_2 := hc_t_7_2) (hi_t_2 := (show 0 ≤ (u55a 0) ∧ (u55a 0) ≤ 40 from by omega)) (hc_t_2_1 := hc_t_2_1) (hc_t_2_2 := hc_t_2_2) (hc_t_7_4 := hc_t_7_4) (hc_t_1_12 := hc_t_1_12) (hc_t_2_3 := hu55_0) (hc_t_1_13 := hc_t_1_13) (hc_t_7_3 := hc_t_7_3) _) (cwV 0 hts (fn_ginV (fn_gin wd_635) wd_632 wd_634 wp_21 wd_1) rfl rfl rfl (by decide +kernel) ⟨Nat.le_of_ble_eq_true rfl, Nat.le_of_ble_eq_true rfl⟩) ⟨fn_blind, va_recv hK.1 hP (ci := 11) (q0 := 0) rfl rfl, hp⟩ rfl rfl hl.1 rfl (lv_room (Nat.le_of_ble_eq_true rfl)) dX11_misprint_59 ⟨Nat.le_of_ble_eq_true rfl, Nat.le_of_ble_eq_true rfl⟩) (fun u59 H locs hwu59 hP hD hS => ?_)
          obtain ⟨u59a, u59b⟩ := u59
          obtain ⟨hqu590, hu59_00, hu59_10, hu59_20, -⟩ := hwu59
          have hqu59 : 0 ≤ (u59a 0) ∧ (u59a 0) ≤ 12 ∧ 0 ≤ (u59a 1) ∧ (u59a 1) ≤ 4095 := hqu590
          have hu59_0 : ∀ j : Nat, (-1) ≤ (u59b 0) j ∧ (u59b 0) j ≤ 149 := hu59_00
          have hu59_1 : ∀ j : Nat, (-1) ≤ (u59b 1) j ∧ (u59b 1) j ≤ 11 := hu59_10
          have hu59_2 : ∀ j : Nat, 0 ≤ (u59b 2) j ∧ (u59b 2) j ≤ 4095 := hu59_20
          clear hqu590 hu59_00 hu59_10 hu59_20
          have hP : va_P D vwCl [((t_2_q 4), .inl (K 0, 40, .inl (fun j => iI ((u55b 1) j)))), ((t_2_q 5), .inl (K 0, 40, .inl (fun j => iI ((u55b 2) j)))), ((t_2_q 6), .inl (K 0, 40, .inl (fun j => iI ((u55b 3) j)))), ((t_2_q 7), .inl (K 0, 40, .inl (fun j => iI ((u55b 4) j)))), (t, .inr (11, oX11 t_q)), ((t_q 7), .inr (10, oX10 t_7_q (u59a 0) (u59a 1) t_7_x6)), ((t_q 1), .inr (7, oX7 t_1_q t_1_x0 t_1_x1 t_1_x2 t_1_x3 t_1_x4 t_1_x5 t_1_x6 t_1_x7 t_1_x8)), ((t_7_q 2), .inl (K 0, 12, .inl (fun j => iI ((u59b 0) j)))), ((t_q 2), .inr (5, oX5 t_2_q (u55a 0))), ((t_2_q 1), .inl (K 0, 5, .inl (fun j => iI (t_2_1_c j)))), ((t_2_q 2), .inl (K 0, 150, .inl (fun j => iI (t_2_2_c j)))), ((t_7_q 4), .inl (K 0, 12, .inl (fun j => iI ((u59b 2) j)))), ((t_1_q 12), .inl (K 0, 24, .inl (fun j => iI (t_1_12_c j)))), ((t_2_q 3), .inl (K 0, 24, .inl (fun j => iI ((u55b 0) j)))), ((t_1_q 13), .inl (K 0, 24, .inl (fun j => iI (t_1_13_c j)))), ((t_7_q 3), .inl (K 0, 24, .inl (fun j => iI ((u59b 1) j))))] H := hP
          have hD : va_D A [((t_2_q 4), .inl (K 0, 40, .inl (fun j => iI ((u55b 1) j)))), ((t_2_q 5), .inl (K 0, 40, .inl (fun j => iI ((u55b 2) j)))), ((t_2_q 6), .inl (K 0, 40, .inl (fun j => iI ((u55b 3) j)))), ((t_2_q 7), .inl (K 0, 40, .inl (fun j => iI ((u55b 4) j)))), (t, .inr (11, oX11 t_q)), ((t_q 7), .inr (10, oX10 t_7_q (u59a 0) (u59a 1) t_7_x6)), ((t_q 1), .inr (7, oX7 t_1_q t_1_x0 t_1_x1 t_1_x2 t_1_x3 t_1_x4 t_1_x5 t_1_x6 t_1_x7 t_1_x8)), ((t_7_q 2), .inl (K 0, 12, .inl (fun j => iI ((u59b 0) j)))), ((t_q 2), .inr (5, oX5 t_2_q (u55a 0))), ((t_2_q 1), .inl (K 0, 5, .inl (fun j => iI (t_2_1_c j)))), ((t_2_q 2), .inl (K 0, 150, .inl (fun j => iI (t_2_2_c j)))), ((t_7_q 4), .inl (K 0, 12, .inl (fun j => iI ((u59b 2) j)))), ((t_1_q 12), .inl (K 0, 24, .inl (fun j => iI (t_1_12_c j)))), ((t_2_q 3), .inl (K 0, 24, .inl (fun j => iI ((u55b 0) j)))), ((t_1_q 13), .inl (K 0, 24, .inl (fun j => iI (t_1_13_c j)))), ((t_7_q 3), .inl (K 0, 24, .inl (fun j => iI ((u59b 1) j))))] := hD
          refine lv_iload_n hx hb dX11_misprint_62 rfl (lv_at hl 0 rfl) ?_
          rw [hQ]; exact fn_iret hx hb hr hlocks rfl hP hD hS ((fun k => ([(u55a 0), (u59a 0), (u59a 1)] : List Int).getD k 0), (fun k => ([(u55b 0), (u55b 1), (u55b 2), (u55b 3), (u55b 4), (u59b 0), (u59b 1), (u59b 2)] : List (Nat → Int)).getD k (fun _ => 0))) ⟨t_2_3_c p1.toNat, rfl, by omega, (by show 0 ≤ (u55a 0) ∧ (u55a 0) ≤ 40 ∧ 0 ≤ (u59a 0) ∧ (u59a 0) ≤ 12 ∧ 0 ≤ (u59a 1) ∧ (u59a 1) ≤ 4095; omega), (show AR (u55b 1) (u55b 2) (u55b 4) from by assumption), (hu55_0), (hu55_1), (hu55_2), (hu55_3), (hu55_4), (hu59_0), (hu59_1), (hu59_2), trivial⟩ [4, 6, 8, 13, 0, 1, 2, 3, 5, 7, 9, 10, 11, 12, 14, 15] (by decide) rfl dX11_misprint_63
        · refine lv_bipush (v := iI (-5)) hx hb dX11_misprint_36 (by decide) ?_
          have y38_2 : 0 ≤ t_7_x0 ∧ t_7_x0 ≤ 12 := hi_t_7.1
          have y38_3 : 0 ≤ t_7_x1 ∧ t_7_x1 ≤ 4095 := hi_t_7.2.1
          rw [hQ]; exact fn_iret hx hb hr hlocks rfl hP hD hS ((fun k => ([t_2_x0, t_7_x0, t_7_x1] : List Int).getD k 0), (fun k => ([t_2_3_c, t_2_4_c, t_2_5_c, t_2_6_c, t_2_7_c, t_7_2_c, t_7_3_c, t_7_4_c] : List (Nat → Int)).getD k (fun _ => 0))) ⟨(-5), rfl, by omega, (by show 0 ≤ t_2_x0 ∧ t_2_x0 ≤ 40 ∧ 0 ≤ t_7_x0 ∧ t_7_x0 ≤ 12 ∧ 0 ≤ t_7_x1 ∧ t_7_x1 ≤ 4095; omega), (show AR t_2_4_c t_2_5_c t_2_7_c from by assumption), (hc_t_2_3), (hc_t_2_4), (hc_t_2_5), (hc_t_2_6), (hc_t_2_7), (hc_t_7_2), (hc_t_7_3), (hc_t_7_4), trivial⟩ [0, 15, 1, 2, 3, 4, 5, 6, 7, 8, 9, 10, 11, 12, 13, 14] (by decide) rfl dX11_misprint_38
      · refine lv_bipush (v := iI (-2)) hx hb dX11_misprint_21 (by decide) ?_
        have y23_1 : 0 ≤ t_2_x0 ∧ t_2_x0 ≤ 40 := hi_t_2
        have y23_2 : 0 ≤ t_7_x0 ∧ t_7_x0 ≤ 12 := hi_t_7.1
        have y23_3 : 0 ≤ t_7_x1 ∧ t_7_x1 ≤ 4095 := hi_t_7.2.1
        rw [hQ]; exact fn_iret hx hb hr hlocks rfl hP hD hS ((fun k => ([t_2_x0, t_7_x0, t_7_x1] : List Int).getD k 0), (fun k => ([t_2_3_c, t_2_4_c, t_2_5_c, t_2_6_c, t_2_7_c, t_7_2_c, t_7_3_c, t_7_4_c] : List (Nat → Int)).getD k (fun _ => 0))) ⟨(-2), rfl, by omega, (by show 0 ≤ t_2_x0 ∧ t_2_x0 ≤ 40 ∧ 0 ≤ t_7_x0 ∧ t_7_x0 ≤ 12 ∧ 0 ≤ t_7_x1 ∧ t_7_x1 ≤ 4095; omega), (show AR t_2_4_c t_2_5_c t_2_7_c from by assumption), (hc_t_2_3), (hc_t_2_4), (hc_t_2_5), (hc_t_2_6), (hc_t_2_7), (hc_t_7_2), (hc_t_7_3), (hc_t_7_4), trivial⟩ [0, 15, 1, 2, 3, 4, 5, 6, 7, 8, 9, 10, 11, 12, 13, 14] (by decide) rfl dX11_misprint_23
theorem wd_747 : Cond.code ⟨"FootNotes$Shelf", "takeBack", "()V"⟩ prog_7_method_9_code 2 (Option.none : Option Jvm.ClassFile.FieldType) ∈ fn_big := fn_tb (fn_l4 (List.mem_of_getElem? (i := 27) (by decide +kernel))) (by decide +kernel)
theorem wd_746 : Cond.instanceMethod ⟨"FootNotes$Shelf", "takeBack", "()V"⟩ ∈ fn_big := fn_tb (fn_l4 (List.mem_of_getElem? (i := 26) (by decide +kernel))) (by decide +kernel)
theorem wp_35 : Cond.selects "FootNotes$Shelf" ⟨"FootNotes$Shelf", "takeBack", "()V"⟩ ⟨"FootNotes$Shelf", "takeBack", "()V"⟩ ∈ fn_big := fn_sel (q := (⟨"FootNotes$Shelf", "takeBack", "()V"⟩, 8)) 35 (by decide +kernel) (by decide +kernel)
theorem dX11_undo_0 : decode cX11_undo 0 = .ok (.aload_n 0, 1) := by decide +kernel
theorem dX11_undo_1 : decode cX11_undo 1 = .ok (.invokevirtual 188, 3) := by decide +kernel
theorem dX11_undo_4 : decode cX11_undo 4 = .ok (.ifCond .eq 6, 3) := by decide +kernel
theorem dX11_undo_10 : decode cX11_undo 10 = .ok (.aload_n 0, 1) := by decide +kernel
theorem dX11_undo_11 : decode cX11_undo 11 = .ok (.getfield 26, 3) := by decide +kernel
theorem dX11_undo_14 : decode cX11_undo 14 = .ok (.getfield 199, 3) := by decide +kernel
theorem dX11_undo_17 : decode cX11_undo 17 = .ok (.ifCond .ne 6, 3) := by decide +kernel
theorem dX11_undo_23 : decode cX11_undo 23 = .ok (.aload_n 0, 1) := by decide +kernel
theorem dX11_undo_24 : decode cX11_undo 24 = .ok (.getfield 26, 3) := by decide +kernel
theorem dX11_undo_27 : decode cX11_undo 27 = .ok (.invokevirtual 212, 3) := by decide +kernel
theorem dX11_undo_30 : decode cX11_undo 30 = .ok (.aload_n 0, 1) := by decide +kernel
theorem dX11_undo_31 : decode cX11_undo 31 = .ok (.invokevirtual 117, 3) := by decide +kernel
theorem dX11_undo_34 : decode cX11_undo 34 = .ok (.aload_n 0, 1) := by decide +kernel
theorem dX11_undo_35 : decode cX11_undo 35 = .ok (.getfield 26, 3) := by decide +kernel
theorem dX11_undo_38 : decode cX11_undo 38 = .ok (.getfield 199, 3) := by decide +kernel
theorem dX11_undo_41 : decode cX11_undo 41 = .ok (.ireturn, 1) := by decide +kernel
theorem dX11_undo_20 : decode cX11_undo 20 = .ok (.bipush (-5), 2) := by decide +kernel
theorem dX11_undo_22 : decode cX11_undo 22 = .ok (.ireturn, 1) := by decide +kernel
theorem dX11_undo_7 : decode cX11_undo 7 = .ok (.bipush (-2), 2) := by decide +kernel
theorem dX11_undo_9 : decode cX11_undo 9 = .ok (.ireturn, 1) := by decide +kernel
set_option maxHeartbeats 4000000 in
set_option maxRecDepth 100000 in
theorem k_X11_undo (l : Launch) (D : va_G) (K : Nat → ClassId) (t : Nat) (t_q t_1_q t_2_q t_7_q : Nat → Nat) (t_1_x0 t_1_x1 t_1_x2 t_1_x3 t_1_x4 t_1_x5 t_1_x6 t_1_x7 t_1_x8 t_2_x0 t_7_x0 t_7_x1 t_7_x6 : Int) (t_2_5_c : Nat → Int) (t_2_4_c : Nat → Int) (t_2_6_c : Nat → Int) (t_2_1_c : Nat → Int) (t_2_2_c : Nat → Int) (t_2_7_c : Nat → Int) (t_2_3_c : Nat → Int) (t_7_2_c : Nat → Int) (t_7_4_c : Nat → Int) (t_1_12_c : Nat → Int) (t_1_13_c : Nat → Int) (t_7_3_c : Nat → Int) (hi_t_1 : bX7 t_1_x0 t_1_x1 t_1_x2 t_1_x3 t_1_x4 t_1_x5 t_1_x6 t_1_x7 t_1_x8) (hi_t_2 : bX5 t_2_x0) (hc_t_2_5 : ∀ j : Nat, 0 ≤ t_2_5_c j ∧ t_2_5_c j ≤ 23) (hc_t_2_4 : ∀ j : Nat, 0 ≤ t_2_4_c j ∧ t_2_4_c j ≤ 2) (hc_t_2_6 : ∀ j : Nat, 0 ≤ t_2_6_c j ∧ t_2_6_c j ≤ 29) (hc_t_2_1 : ∀ j : Nat, (-999) ≤ t_2_1_c j ∧ t_2_1_c j ≤ 30) (hc_t_2_2 : ∀ j : Nat, (-4) ≤ t_2_2_c j ∧ t_2_2_c j ≤ 11) (hc_t_2_7 : ∀ j : Nat, (-4) ≤ t_2_7_c j ∧ t_2_7_c j ≤ 29) (hc_t_2_3 : ∀ j : Nat, 0 ≤ t_2_3_c j ∧ t_2_3_c j ≤ 29) (hi_t_7 : bX10 t_7_x0 t_7_x1 t_7_x6) (hc_t_7_2 : ∀ j : Nat, (-1) ≤ t_7_2_c j ∧ t_7_2_c j ≤ 149) (hc_t_7_4 : ∀ j : Nat, 0 ≤ t_7_4_c j ∧ t_7_4_c j ≤ 4095) (hc_t_1_12 : ∀ j : Nat, 0 ≤ t_1_12_c j ∧ t_1_12_c j ≤ 11) (hc_t_1_13 : ∀ j : Nat, 0 ≤ t_1_13_c j ∧ t_1_13_c j ≤ 4) (hc_t_7_3 : ∀ j : Nat, (-1) ≤ t_7_3_c j ∧ t_7_3_c j ≤ 11) (ar : AR t_2_4_c t_2_5_c t_2_7_c) : fn_CI (S := (Nat → Int) × (Nat → Nat → Int)) l D K yX11_undo (fn_ws yX11_undo cX11_undo 1 (some .int)) ({ frames := 20, cells := 0, slots := 0, locals := 500 } : Room) [.ref t] [(t, .inr (11, oX11 t_q)), ((t_q 1), .inr (7, oX7 t_1_q t_1_x0 t_1_x1 t_1_x2 t_1_x3 t_1_x4 t_1_x5 t_1_x6 t_1_x7 t_1_x8)), ((t_q 2), .inr (5, oX5 t_2_q t_2_x0)), ((t_2_q 5), .inl (K 0, 40, .inl (fun j => iI (t_2_5_c j)))), ((t_2_q 4), .inl (K 0, 40, .inl (fun j => iI (t_2_4_c j)))), ((t_2_q 6), .inl (K 0, 40, .inl (fun j => iI (t_2_6_c j)))), ((t_2_q 1), .inl (K 0, 5, .inl (fun j => iI (t_2_1_c j)))), ((t_2_q 2), .inl (K 0, 150, .inl (fun j => iI (t_2_2_c j)))), ((t_2_q 7), .inl (K 0, 40, .inl (fun j => iI (t_2_7_c j)))), ((t_2_q 3), .inl (K 0, 24, .inl (fun j => iI (t_2_3_c j)))), ((t_q 7), .inr (10, oX10 t_7_q t_7_x0 t_7_x1 t_7_x6)), ((t_7_q 2), .inl (K 0, 12, .inl (fun j => iI (t_7_2_c j)))), ((t_7_q 4), .inl (K 0, 12, .inl (fun j => iI (t_7_4_c j)))), ((t_1_q 12), .inl (K 0, 24, .inl (fun j => iI (t_1_12_c j)))), ((t_1_q 13), .inl (K 0, 24, .inl (fun j => iI (t_1_13_c j)))), ((t_7_q 3), .inl (K 0, 24, .inl (fun j => iI (t_7_3_c j))))] (fun r u => ∃ k : Int, r = iI k ∧ ((-5) ≤ k ∧ k ≤ 40) ∧ (0 ≤ (u.1 0) ∧ (u.1 0) ≤ 40 ∧ 0 ≤ (u.1 1) ∧ (u.1 1) ≤ 12 ∧ 0 ≤ (u.1 2) ∧ (u.1 2) ≤ 4095) ∧ (∀ j : Nat, t_2_1_c j - 1 ≤ (u.2 0) j) ∧ (∀ j : Nat, (-1000) ≤ (u.2 0) j ∧ (u.2 0) j ≤ 30) ∧ (∀ j : Nat, (-4) ≤ (u.2 1) j ∧ (u.2 1) j ≤ 11) ∧ (∀ j : Nat, 0 ≤ (u.2 2) j ∧ (u.2 2) j ≤ 29) ∧ (∀ j : Nat, (-1) ≤ (u.2 3) j ∧ (u.2 3) j ≤ 149) ∧ (∀ j : Nat, (-1) ≤ (u.2 4) j ∧ (u.2 4) j ≤ 11) ∧ (∀ j : Nat, 0 ≤ (u.2 5) j ∧ (u.2 5) j ≤ 4095) ∧ True) (fun u => [(t, .inr (11, oX11 t_q)), ((t_q 1), .inr (7, oX7 t_1_q t_1_x0 t_1_x1 t_1_x2 t_1_x3 t_1_x4 t_1_x5 t_1_x6 t_1_x7 t_1_x8)), ((t_q 2), .inr (5, oX5 t_2_q (u.1 0))), ((t_2_q 5), .inl (K 0, 40, .inl (fun j => iI (t_2_5_c j)))), ((t_2_q 4), .inl (K 0, 40, .inl (fun j => iI (t_2_4_c j)))), ((t_2_q 6), .inl (K 0, 40, .inl (fun j => iI (t_2_6_c j)))), ((t_2_q 1), .inl (K 0, 5, .inl (fun j => iI ((u.2 0) j)))), ((t_2_q 2), .inl (K 0, 150, .inl (fun j => iI ((u.2 1) j)))), ((t_2_q 7), .inl (K 0, 40, .inl (fun j => iI (t_2_7_c j)))), ((t_2_q 3), .inl (K 0, 24, .inl (fun j => iI ((u.2 2) j)))), ((t_q 7), .inr (10, oX10 t_7_q (u.1 1) (u.1 2) t_7_x6)), ((t_7_q 2), .inl (K 0, 12, .inl (fun j => iI ((u.2 3) j)))), ((t_7_q 4), .inl (K 0, 12, .inl (fun j => iI ((u.2 5) j)))), ((t_1_q 12), .inl (K 0, 24, .inl (fun j => iI (t_1_12_c j)))), ((t_1_q 13), .inl (K 0, 24, .inl (fun j => iI (t_1_13_c j)))), ((t_7_q 3), .inl (K 0, 24, .inl (fun j => iI ((u.2 4) j))))]) 0 0 := by
  refine g_inI (cc := cX11_undo) (maxL := 1) (ret := (some .int)) (by decide) rfl (Nat.le_of_ble_eq_true rfl) ?_
  intro p e s m below meth c A ls ag Q B hA hP hD hS hl hQ
  obtain ⟨hx, hb, hr, hml, hts, hown, hlocks, hin, hK⟩ := B
  have hown : s.vm.findClass RX11 = some m.cls := hown
  have hts := fun w h => hts w (List.mem_cons_of_mem _ h)
  have hl : lv_has ls 1 [(0, .ref t)] := hl
  refine lv_aload_n hx hb dX11_undo_0 rfl (lv_at hl 0 rfl) ?_
  refine fn_goi (wc := [(t, .inr (11, oX11 t_q)), ((t_q 1), .inr (7, oX7 t_1_q t_1_x0 t_1_x1 t_1_x2 t_1_x3 t_1_x4 t_1_x5 t_1_x6 t_1_x7 t_1_x8))]) (wr := [((t_q 2), .inr (5, oX5 t_2_q t_2_x0)), ((t_2_q 5), .inl (K 0, 40, .inl (fun j => iI (t_2_5_c j)))), ((t_2_q 4), .inl (K 0, 40, .inl (fun j => iI (t_2_4_c j)))), ((t_2_q 6), .inl (K 0, 40, .inl (fun j => iI (t_2_6_c j)))), ((t_2_q 1), .inl (K 0, 5, .inl (fun j => iI (t_2_1_c j)))), ((t_2_q 2), .inl (K 0, 150, .inl (fun j => iI (t_2_2_c j)))), ((t_2_q 7), .inl (K 0, 40, .inl (fun j => iI (t_2_7_c j)))), ((t_2_q 3), .inl (K 0, 24, .inl (fun j => iI (t_2_3_c j)))), ((t_q 7), .inr (10, oX10 t_7_q t_7_x0 t_7_x1 t_7_x6)), ((t_7_q 2), .inl (K 0, 12, .inl (fun j => iI (t_7_2_c j)))), ((t_7_q 4), .inl (K 0, 12, .inl (fun j => iI (t_7_4_c j)))), ((t_1_q 12), .inl (K 0, 24, .inl (fun j => iI (t_1_12_c j)))), ((t_1_q 13), .inl (K 0, 24, .inl (fun j => iI (t_1_13_c j)))), ((t_7_q 3), .inl (K 0, 24, .inl (fun j => iI (t_7_3_c j))))]) hK hP hD hS hA [0, 1] [2, 3, 4, 5, 6, 7, 8, 9, 10, 11, 12, 13, 14, 15] rfl rfl (by decide) (fun hp => va_runV (C := RX11) (As := []) (rest := []) ⟨hx, hb, hml, hown, hts⟩ (k_X11_noTown (l := l) (D := D) (K := K) (t := t) (t_q := t_q) (t_1_q := t_1_q) (t_1_x0 := t_1_x0) (t_1_x1 := t_1_x1) (t_1_x2 := t_1_x2) (t_1_x3 := t_1_x3) (t_1_x4 := t_1_x4) (t_1_x5 := t_1_x5) (t_1_x6 := t_1_x6) (t_1_x7 := t_1_x7) (t_1_x8 := t_1_x8) (hi_t_1 := hi_t_1) _) (cwV 0 hts (fn_ginV (fn_gin wd_709) wd_706 wd_708 wp_30 wd_1) rfl rfl rfl (by decide +kernel) ⟨Nat.le_of_ble_eq_true rfl, Nat.le_of_ble_eq_true rfl⟩) ⟨fn_blind, va_recv hK.1 hP (ci := 11) (q0 := 0) rfl rfl, hp⟩ rfl rfl hl.1 rfl (lv_room (Nat.le_of_ble_eq_true rfl)) dX11_undo_1 ⟨Nat.le_of_ble_eq_true rfl, Nat.le_of_ble_eq_true rfl⟩) (fun r1 u1 H locs hwu1 hP hD hS => ?_)
  obtain ⟨u1a, u1b⟩ := u1
  obtain ⟨kr1, rfl, hkr1, -⟩ := hwu1
  have hP : va_P D vwCl [((t_q 2), .inr (5, oX5 t_2_q t_2_x0)), ((t_2_q 5), .inl (K 0, 40, .inl (fun j => iI (t_2_5_c j)))), ((t_2_q 4), .inl (K 0, 40, .inl (fun j => iI (t_2_4_c j)))), ((t_2_q 6), .inl (K 0, 40, .inl (fun j => iI (t_2_6_c j)))), ((t_2_q 1), .inl (K 0, 5, .inl (fun j => iI (t_2_1_c j)))), ((t_2_q 2), .inl (K 0, 150, .inl (fun j => iI (t_2_2_c j)))), ((t_2_q 7), .inl (K 0, 40, .inl (fun j => iI (t_2_7_c j)))), ((t_2_q 3), .inl (K 0, 24, .inl (fun j => iI (t_2_3_c j)))), ((t_q 7), .inr (10, oX10 t_7_q t_7_x0 t_7_x1 t_7_x6)), ((t_7_q 2), .inl (K 0, 12, .inl (fun j => iI (t_7_2_c j)))), ((t_7_q 4), .inl (K 0, 12, .inl (fun j => iI (t_7_4_c j)))), ((t_1_q 12), .inl (K 0, 24, .inl (fun j => iI (t_1_12_c j)))), ((t_1_q 13), .inl (K 0, 24, .inl (fun j => iI (t_1_13_c j)))), ((t_7_q 3), .inl (K 0, 24, .inl (fun j => iI (t_7_3_c j)))), (t, .inr (11, oX11 t_q)), ((t_q 1), .inr (7, oX7 t_1_q t_1_x0 t_1_x1 t_1_x2 t_1_x3 t_1_x4 t_1_x5 t_1_x6 t_1_x7 t_1_x8))] H := hP
  have hD : va_D A [((t_q 2), .inr (5, oX5 t_2_q t_2_x0)), ((t_2_q 5), .inl (K 0, 40, .inl (fun j => iI (t_2_5_c j)))), ((t_2_q 4), .inl (K 0, 40, .inl (fun j => iI (t_2_4_c j)))), ((t_2_q 6), .inl (K 0, 40, .inl (fun j => iI (t_2_6_c j)))), ((t_2_q 1), .inl (K 0, 5, .inl (fun j => iI (t_2_1_c j)))), ((t_2_q 2), .inl (K 0, 150, .inl (fun j => iI (t_2_2_c j)))), ((t_2_q 7), .inl (K 0, 40, .inl (fun j => iI (t_2_7_c j)))), ((t_2_q 3), .inl (K 0, 24, .inl (fun j => iI (t_2_3_c j)))), ((t_q 7), .inr (10, oX10 t_7_q t_7_x0 t_7_x1 t_7_x6)), ((t_7_q 2), .inl (K 0, 12, .inl (fun j => iI (t_7_2_c j)))), ((t_7_q 4), .inl (K 0, 12, .inl (fun j => iI (t_7_4_c j)))), ((t_1_q 12), .inl (K 0, 24, .inl (fun j => iI (t_1_12_c j)))), ((t_1_q 13), .inl (K 0, 24, .inl (fun j => iI (t_1_13_c j)))), ((t_7_q 3), .inl (K 0, 24, .inl (fun j => iI (t_7_3_c j)))), (t, .inr (11, oX11 t_q)), ((t_q 1), .inr (7, oX7 t_1_q t_1_x0 t_1_x1 t_1_x2 t_1_x3 t_1_x4 t_1_x5 t_1_x6 t_1_x7 t_1_x8))] := hD
  refine g_if_eq (tgt := 10) hx hb (by omega) dX11_undo_4 (by decide) (fun c4 => ?_) (fun c4 => ?_)
  · refine lv_aload_n hx hb dX11_undo_10 rfl (lv_at hl 0 rfl) ?_
    refine va_get (D := D) (own := RX11) (ci := 11) (v := .ref (t_q 2)) (C := RX11) (T := TX11) (N := 13) hx hb hts inb_X11 hown hK.1 hP 14 rfl rfl 2 (by decide) (hts _ wd_424) (fun _ h9 => h9) rfl dX11_undo_11 ?_
    refine va_getN (D := D) (own := RX11) (ci := 5) (v := .int (iI t_2_x0)) (C := RX5) (T := TX5) (N := 8) hx hb hts inb_X5 hown hK.1 hP 0 rfl rfl 0 (by decide) (hK.nf 56 rfl) (fun _ h9 => h9) rfl dX11_undo_14 ?_
    have y14_1 : 0 ≤ t_2_x0 ∧ t_2_x0 ≤ 40 := hi_t_2
    refine g_if_ne (tgt := 23) hx hb (by omega) dX11_undo_17 (by decide) (fun c17 => ?_) (fun c17 => ?_)
    · refine lv_aload_n hx hb dX11_undo_23 rfl (lv_at hl 0 rfl) ?_
      refine va_get (D := D) (own := RX11) (ci := 11) (v := .ref (t_q 2)) (C := RX11) (T := TX11) (N := 13) hx hb hts inb_X11 hown hK.1 hP 14 rfl rfl 2 (by decide) (hts _ wd_424) (fun _ h9 => h9) rfl dX11_undo_24 ?_
      refine fn_gov (wc := [((t_q 2), .inr (5, oX5 t_2_q t_2_x0)), ((t_2_q 5), .inl (K 0, 40, .inl (fun j => iI (t_2_5_c j)))), ((t_2_q 4), .inl (K 0, 40, .inl (fun j => iI (t_2_4_c j)))), ((t_2_q 6), .inl (K 0, 40, .inl (fun j => iI (t_2_6_c j)))), ((t_2_q 1), .inl (K 0, 5, .inl (fun j => iI (t_2_1_c j)))), ((t_2_q 2), .inl (K 0, 150, .inl (fun j => iI (t_2_2_c j)))), ((t_2_q 7), .inl (K 0, 40, .inl (fun j => iI (t_2_7_c j)))), ((t_2_q 3), .inl (K 0, 24, .inl (fun j => iI (t_2_3_c j))))]) (wr := [((t_q 7), .inr (10, oX10 t_7_q t_7_x0 t_7_x1 t_7_x6)), ((t_7_q 2), .inl (K 0, 12, .inl (fun j => iI (t_7_2_c j)))), ((t_7_q 4), .inl (K 0, 12, .inl (fun j => iI (t_7_4_c j)))), ((t_1_q 12), .inl (K 0, 24, .inl (fun j => iI (t_1_12_c j)))), ((t_1_q 13), .inl (K 0, 24, .inl (fun j => iI (t_1_13_c j)))), ((t_7_q 3), .inl (K 0, 24, .inl (fun j => iI (t_7_3_c j)))), (t, .inr (11, oX11 t_q)), ((t_q 1), .inr (7, oX7 t_1_q t_1_x0 t_1_x1 t_1_x2 t_1_x3 t_1_x4 t_1_x5 t_1_x6 t_1_x7 t_1_x8))]) hK hP hD hS hA [0, 1, 2, 3, 4, 5, 6, 7] [8, 9, 10, 11, 12, 13, 14, 15] rfl rfl (by decide) (fun hp => va_runVN (C := RX5) (As := []) (rest := []) ⟨hx, hb, hml, hown, hts⟩ (k_X5_takeBack (l := l) (D := D) (K := K) (t := (t_q 2)) (t_q := t_2_q) (t_x0 := t_2_x0) (t_5_c := t_2_5_c) (t_4_c := t_2_4_c) (t_6_c := t_2_6_c) (t_1_c := t_2_1_c) (t_2_c := t_2_2_c) (t_7_c := t_2_7_c) (t_3_c := t_2_3_c) (hi_t := hi_t_2) (hc_t_5 := hc_t_2_5) (hc_t_4 := hc_t_2_4) (hc_t_6 := hc_t_2_6) (hc_t_1 := hc_t_2_1) (hc_t_2 := hc_t_2_2) (hc_t_7 := hc_t_2_7) (hc_t_3 := hc_t_2_3) (ar := (show AR t_2_4_c t_2_5_c t_2_7_c from by assumption)) _) ⟨va_cnB (own := RX11) 0 hts (fn_gin wd_747) rfl rfl rfl (hK.nw 118 rfl) (hts _ wd_5) (by decide +kernel) ⟨Nat.le_of_ble_eq_true rfl, Nat.le_of_ble_eq_true rfl⟩, hts _ wd_746, hts _ wp_35⟩ ⟨fn_blind, va_recv hK.1 hP (ci := 5) (q0 := 0) rfl rfl, hp⟩ rfl rfl hl.1 rfl (lv_room (Nat.le_of_ble_eq_true rfl)) dX11_undo_27 ⟨Nat.le_of_ble_eq_true rfl, Nat.le_of_ble_eq_true rfl⟩) (fun u27 H locs hwu27 hP hD hS => ?_)
      obtain ⟨u27a, u27b⟩ := u27
      obtain ⟨hqu270, hqu27_lb0, hu27_00, hu27_10, hu27_20, -⟩ := hwu27
      have hqu27 : 0 ≤ (u27a 0) ∧ (u27a 0) ≤ 40 := hqu270
      have hqu27_lb : ∀ j : Nat, t_2_1_c j - 1 ≤ (u27b 0) j := hqu27_lb0
      have hu27_0 : ∀ j : Nat, (-1000) ≤ (u27b 0) j ∧ (u27b 0) j ≤ 30 := hu27_00
      have hu27_1 : ∀ j : Nat, (-4) ≤ (u27b 1) j ∧ (u27b 1) j ≤ 11 := hu27_10
      have hu27_2 : ∀ j : Nat, 0 ≤ (u27b 2) j ∧ (u27b 2) j ≤ 29 := hu27_20
      clear hqu270 hqu27_lb0 hu27_00 hu27_10 hu27_20
      have hP : va_P D vwCl [((t_q 7), .inr (10, oX10 t_7_q t_7_x0 t_7_x1 t_7_x6)), ((t_7_q 2), .inl (K 0, 12, .inl (fun j => iI (t_7_2_c j)))), ((t_7_q 4), .inl (K 0, 12, .inl (fun j => iI (t_7_4_c j)))), ((t_1_q 12), .inl (K 0, 24, .inl (fun j => iI (t_1_12_c j)))), ((t_1_q 13), .inl (K 0, 24, .inl (fun j => iI (t_1_13_c j)))), ((t_7_q 3), .inl (K 0, 24, .inl (fun j => iI (t_7_3_c j)))), (t, .inr (11, oX11 t_q)), ((t_q 1), .inr (7, oX7 t_1_q t_1_x0 t_1_x1 t_1_x2 t_1_x3 t_1_x4 t_1_x5 t_1_x6 t_1_x7 t_1_x8)), ((t_q 2), .inr (5, oX5 t_2_q (u27a 0))), ((t_2_q 5), .inl (K 0, 40, .inl (fun j => iI (t_2_5_c j)))), ((t_2_q 4), .inl (K 0, 40, .inl (fun j => iI (t_2_4_c j)))), ((t_2_q 6), .inl (K 0, 40, .inl (fun j => iI (t_2_6_c j)))), ((t_2_q 1), .inl (K 0, 5, .inl (fun j => iI ((u27b 0) j)))), ((t_2_q 2), .inl (K 0, 150, .inl (fun j => iI ((u27b 1) j)))), ((t_2_q 7), .inl (K 0, 40, .inl (fun j => iI (t_2_7_c j)))), ((t_2_q 3), .inl (K 0, 24, .inl (fun j => iI ((u27b 2) j))))] H := hP
      have hD : va_D A [((t_q 7), .inr (10, oX10 t_7_q t_7_x0 t_7_x1 t_7_x6)), ((t_7_q 2), .inl (K 0, 12, .inl (fun j => iI (t_7_2_c j)))), ((t_7_q 4), .inl (K 0, 12, .inl (fun j => iI (t_7_4_c j)))), ((t_1_q 12), .inl (K 0, 24, .inl (fun j => iI (t_1_12_c j)))), ((t_1_q 13), .inl (K 0, 24, .inl (fun j => iI (t_1_13_c j)))), ((t_7_q 3), .inl (K 0, 24, .inl (fun j => iI (t_7_3_c j)))), (t, .inr (11, oX11 t_q)), ((t_q 1), .inr (7, oX7 t_1_q t_1_x0 t_1_x1 t_1_x2 t_1_x3 t_1_x4 t_1_x5 t_1_x6 t_1_x7 t_1_x8)), ((t_q 2), .inr (5, oX5 t_2_q (u27a 0))), ((t_2_q 5), .inl (K 0, 40, .inl (fun j => iI (t_2_5_c j)))), ((t_2_q 4), .inl (K 0, 40, .inl (fun j => iI (t_2_4_c j)))), ((t_2_q 6), .inl (K 0, 40, .inl (fun j => iI (t_2_6_c j)))), ((t_2_q 1), .inl (K 0, 5, .inl (fun j => iI ((u27b 0) j)))), ((t_2_q 2), .inl (K 0, 150, .inl (fun j => iI ((u27b 1) j)))), ((t_2_q 7), .inl (K 0, 40, .inl (fun j => iI (t_2_7_c j)))), ((t_2_q 3), .inl (K 0, 24, .inl (fun j => iI ((u27b 2) j))))] := hD
      refine lv_aload_n hx hb dX11_undo_30 rfl (lv_at hl 0 rfl) ?_
      refine fn_gov (wc := [(t, .inr (11, oX11 t_q)), ((t_q 7), .inr (10, oX10 t_7_q t_7_x0 t_7_x1 t_7_x6)), ((t_q 1), .inr (7, oX7 t_1_q t_1_x0 t_1_x1 t_1_x2 t_1_x3 t_1_x4 t_1_x5 t_1_x6 t_1_x7 t_1_x8)), ((t_7_q 2), .inl (K 0, 12, .inl (fun j => iI (t_7_2_c j)))), ((t_q 2), .inr (5, oX5 t_2_q (u27a 0))), ((t_2_q 1), .inl (K 0, 5, .inl (fun j => iI ((u27b 0) j)))), ((t_2_q 2), .inl (K 0, 150, .inl (fun j => iI ((u27b 1) j)))), ((t_7_q 4), .inl (K 0, 12, .inl (fun j => iI (t_7_4_c j)))), ((t_1_q 12), .inl (K 0, 24, .inl (fun j => iI (t_1_12_c j)))), ((t_2_q 3), .inl (K 0, 24, .inl (fun j => iI ((u27b 2) j)))), ((t_1_q 13), .inl (K 0, 24, .inl (fun j => iI (t_1_13_c j)))), ((t_7_q 3), .inl (K 0, 24, .inl (fun j => iI (t_7_3_c j))))]) (wr := [((t_2_q 5), .inl (K 0, 40, .inl (fun j => iI (t_2_5_c j)))), ((t_2_q 4), .inl (K 0, 40, .inl (fun j => iI (t_2_4_c j)))), ((t_2_q 6), .inl (K 0, 40, .inl (fun j => iI (t_2_6_c j)))), ((t_2_q 7), .inl (K 0, 40, .inl (fun j => iI (t_2_7_c j))))]) hK hP hD hS hA [6, 0, 7, 1, 8, 12, 13, 2, 3, 15, 4, 5] [9, 10, 11, 14] rfl rfl (by decide) (fun hp => va_runV (C := RX11) (As := []) (rest := []) ⟨hx, hb, hml, hown, hts⟩ (k_X11_settle (l := l) (D := D) (K := K) (t := t) (t_q := t_q) (t_7_q := t_7_q) (t_7_x0 := t_7_x0) (t_7_x1 := t_7_x1) (t_7_x6 := t_7_x6) (t_1_q := t_1_q) (t_1_x0 := t_1_x0) (t_1_x1 := t_1_x1) (t_1_x2 := t_1_x2) (t_1_x3 := t_1_x3) (t_1_x4 := t_1_x4) (t_1_x5 := t_1_x5) (t_1_x6 := t_1_x6) (t_1_x7 := t_1_x7) (t_1_x8 := t_1_x8) (t_7_2_c := t_7_2_c) (t_2_q := t_2_q) (t_2_x0 := (u27a 0)) (t_2_1_c := (u27b 0)) (t_2_2_c := (u27b 1)) (t_7_4_c := t_7_4_c) (t_1_12_c := t_1_12_c) (t_2_3_c := (u27b 2)) (t_1_13_c := t_1_13_c) (t_7_3_c := t_7_3_c) (hi_t_7 := hi_t_7) (hi_t_1 := hi_t_1) (hc_t_7_2 := hc_t_7_2) (hi_t_2 := (show 0 ≤ (u27a 0) ∧ (u27a 0) ≤ 40 from by omega)) (hc_t_2_1 := hu27_0) (hc_t_2_2 := hu27_1) (hc_t_7_4 := hc_t_7_4) (hc_t_1_12 := hc_t_1_12) (hc_t_2_3 := hu27_2) (hc_t_1_13 := hc_t_1_13) (hc_t_7_3 := hc_t_7_3) _) (cwV 0 hts (fn_ginV (fn_gin wd_635) wd_632 wd_634 wp_21 wd_1) rfl rfl rfl (by decide +kernel) ⟨Nat.le_of_ble_eq_true rfl, Nat.le_of_ble_eq_true rfl⟩) ⟨fn_blind, va_recv hK.1 hP (ci := 11) (q0 := 6) rfl rfl, hp⟩ rfl rfl hl.1 rfl (lv_room (Nat.le_of_ble_eq_true rfl)) dX11_undo_31 ⟨Nat.le_of_ble_eq_true rfl, Nat.le_of_ble_eq_true rfl⟩) (fun u31 H locs hwu31 hP hD hS => ?_)
      obtain ⟨u31a, u31b⟩ := u31
      obtain ⟨hqu310, hu31_00, hu31_10, hu31_20, -⟩ := hwu31
      have hqu31 : 0 ≤ (u31a 0) ∧ (u31a 0) ≤ 12 ∧ 0 ≤ (u31a 1) ∧ (u31a 1) ≤ 4095 := hqu310
      have hu31_0 : ∀ j : Nat, (-1) ≤ (u31b 0) j ∧ (u31b 0) j ≤ 149 := hu31_00
      have hu31_1 : ∀ j : Nat, (-1) ≤ (u31b 1) j ∧ (u31b 1) j ≤ 11 := hu31_10
      have hu31_2 : ∀ j : Nat, 0 ≤ (u31b 2) j ∧ (u31b 2) j ≤ 4095 := hu31_20
      clear hqu310 hu31_00 hu31_10 hu31_20
      have hP : va_P D vwCl [((t_2_q 5), .inl (K 0, 40, .inl (fun j => iI (t_2_5_c j)))), ((t_2_q 4), .inl (K 0, 40, .inl (fun j => iI (t_2_4_c j)))), ((t_2_q 6), .inl (K 0, 40, .inl (fun j => iI (t_2_6_c j)))), ((t_2_q 7), .inl (K 0, 40, .inl (fun j => iI (t_2_7_c j)))), (t, .inr (11, oX11 t_q)), ((t_q 7), .inr (10, oX10 t_7_q (u31a 0) (u31a 1) t_7_x6)), ((t_q 1), .inr (7, oX7 t_1_q t_1_x0 t_1_x1 t_1_x2 t_1_x3 t_1_x4 t_1_x5 t_1_x6 t_1_x7 t_1_x8)), ((t_7_q 2), .inl (K 0, 12, .inl (fun j => iI ((u31b 0) j)))), ((t_q 2), .inr (5, oX5 t_2_q (u27a 0))), ((t_2_q 1), .inl (K 0, 5, .inl (fun j => iI ((u27b 0) j)))), ((t_2_q 2), .inl (K 0, 150, .inl (fun j => iI ((u27b 1) j)))), ((t_7_q 4), .inl (K 0, 12, .inl (fun j => iI ((u31b 2) j)))), ((t_1_q 12), .inl (K 0, 24, .inl (fun j => iI (t_1_12_c j)))), ((t_2_q 3), .inl (K 0, 24, .inl (fun j => iI ((u27b 2) j)))), ((t_1_q 13), .inl (K 0, 24, .inl (fun j => iI (t_1_13_c j)))), ((t_7_q 3), .inl (K 0, 24, .inl (fun j => iI ((u31b 1) j))))] H := hP
      have hD : va_D A [((t_2_q 5), .inl (K 0, 40, .inl (fun j => iI (t_2_5_c j)))), ((t_2_q 4), .inl (K 0, 40, .inl (fun j => iI (t_2_4_c j)))), ((t_2_q 6), .inl (K 0, 40, .inl (fun j => iI (t_2_6_c j)))), ((t_2_q 7), .inl (K 0, 40, .inl (fun j => iI (t_2_7_c j)))), (t, .inr (11, oX11 t_q)), ((t_q 7), .inr (10, oX10 t_7_q (u31a 0) (u31a 1) t_7_x6)), ((t_q 1), .inr (7, oX7 t_1_q t_1_x0 t_1_x1 t_1_x2 t_1_x3 t_1_x4 t_1_x5 t_1_x6 t_1_x7 t_1_x8)), ((t_7_q 2), .inl (K 0, 12, .inl (fun j => iI ((u31b 0) j)))), ((t_q 2), .inr (5, oX5 t_2_q (u27a 0))), ((t_2_q 1), .inl (K 0, 5, .inl (fun j => iI ((u27b 0) j)))), ((t_2_q 2), .inl (K 0, 150, .inl (fun j => iI ((u27b 1) j)))), ((t_7_q 4), .inl (K 0, 12, .inl (fun j => iI ((u31b 2) j)))), ((t_1_q 12), .inl (K 0, 24, .inl (fun j => iI (t_1_12_c j)))), ((t_2_q 3), .inl (K 0, 24, .inl (fun j => iI ((u27b 2) j)))), ((t_1_q 13), .inl (K 0, 24, .inl (fun j => iI (t_1_13_c j)))), ((t_7_q 3), .inl (K 0, 24, .inl (fun j => iI ((u31b 1) j))))] := hD
      refine lv_aload_n hx hb dX11_undo_34 rfl (lv_at hl 0 rfl) ?_
      refine va_get (D := D) (own := RX11) (ci := 11) (v := .ref (t_q 2)) (C := RX11) (T := TX11) (N := 13) hx hb hts inb_X11 hown hK.1 hP 4 rfl rfl 2 (by decide) (hts _ wd_424) (fun _ h9 => h9) rfl dX11_undo_35 ?_
      refine va_getN (D := D) (own := RX11) (ci := 5) (v := .int (iI (u27a 0))) (C := RX5) (T := TX5) (N := 8) hx hb hts inb_X5 hown hK.1 hP 8 rfl rfl 0 (by decide) (hK.nf 56 rfl) (fun _ h9 => h9) rfl dX11_undo_38 ?_
      rw [hQ]; exact fn_iret hx hb hr hlocks rfl hP hD hS ((fun k => ([(u27a 0), (u31a 0), (u31a 1)] : List Int).getD k 0), (fun k => ([(u27b 0), (u27b 1), (u27b 2), (u31b 0), (u31b 1), (u31b 2)] : List (Nat → Int)).getD k (fun _ => 0))) ⟨(u27a 0), rfl, by omega, (by show 0 ≤ (u27a 0) ∧ (u27a 0) ≤ 40 ∧ 0 ≤ (u31a 0) ∧ (u31a 0) ≤ 12 ∧ 0 ≤ (u31a 1) ∧ (u31a 1) ≤ 4095; omega), (show ∀ j : Nat, t_2_1_c j - 1 ≤ (u27b 0) j from by first | assumption | exact fun j => by omega), (hu27_0), (hu27_1), (hu27_2), (hu31_0), (hu31_1), (hu31_2), trivial⟩ [4, 6, 8, 0, 1, 2, 9, 10, 3, 13, 5, 7, 11, 12, 14, 15] (by decide) rfl dX11_undo_41
    · refine lv_bipush (v := iI (-5)) hx hb dX11_undo_20 (by decide) ?_
      have y22_2 : 0 ≤ t_7_x0 ∧ t_7_x0 ≤ 12 := hi_t_7.1
      have y22_3 : 0 ≤ t_7_x1 ∧ t_7_x1 ≤ 4095 := hi_t_7.2.1
      rw [hQ]; exact fn_iret hx hb hr hlocks rfl hP hD hS ((fun k => ([t_2_x0, t_7_x0, t_7_x1] : List Int).getD k 0), (fun k => ([t_2_1_c, t_2_2_c, t_2_3_c, t_7_2_c, t_7_3_c, t_7_4_c] : List (Nat → Int)).getD k (fun _ => 0))) ⟨(-5), rfl, by omega, (by show 0 ≤ t_2_x0 ∧ t_2_x0 ≤ 40 ∧ 0 ≤ t_7_x0 ∧ t_7_x0 ≤ 12 ∧ 0 ≤ t_7_x1 ∧ t_7_x1 ≤ 4095; omega), (show ∀ j : Nat, t_2_1_c j - 1 ≤ t_2_1_c j from by first | assumption | exact fun j => by omega), (fun j => by have h9 := hc_t_2_1 j; show (-1000) ≤ t_2_1_c j ∧ t_2_1_c j ≤ 30; omega), (hc_t_2_2), (hc_t_2_3), (hc_t_7_2), (hc_t_7_3), (hc_t_7_4), trivial⟩ [14, 15, 0, 1, 2, 3, 4, 5, 6, 7, 8, 9, 10, 11, 12, 13] (by decide) rfl dX11_undo_22
  · refine lv_bipush (v := iI (-2)) hx hb dX11_undo_7 (by decide) ?_
    have y9_1 : 0 ≤ t_2_x0 ∧ t_2_x0 ≤ 40 := hi_t_2
    have y9_2 : 0 ≤ t_7_x0 ∧ t_7_x0 ≤ 12 := hi_t_7.1
    have y9_3 : 0 ≤ t_7_x1 ∧ t_7_x1 ≤ 4095 := hi_t_7.2.1
    rw [hQ]; exact fn_iret hx hb hr hlocks rfl hP hD hS ((fun k => ([t_2_x0, t_7_x0, t_7_x1] : List Int).getD k 0), (fun k => ([t_2_1_c, t_2_2_c, t_2_3_c, t_7_2_c, t_7_3_c, t_7_4_c] : List (Nat → Int)).getD k (fun _ => 0))) ⟨(-2), rfl, by omega, (by show 0 ≤ t_2_x0 ∧ t_2_x0 ≤ 40 ∧ 0 ≤ t_7_x0 ∧ t_7_x0 ≤ 12 ∧ 0 ≤ t_7_x1 ∧ t_7_x1 ≤ 4095; omega), (show ∀ j : Nat, t_2_1_c j - 1 ≤ t_2_1_c j from by first | assumption | exact fun j => by omega), (fun j => by have h9 := hc_t_2_1 j; show (-1000) ≤ t_2_1_c j ∧ t_2_1_c j ≤ 30; omega), (hc_t_2_2), (hc_t_2_3), (hc_t_7_2), (hc_t_7_3), (hc_t_7_4), trivial⟩ [14, 15, 0, 1, 2, 3, 4, 5, 6, 7, 8, 9, 10, 11, 12, 13] (by decide) rfl dX11_undo_9
theorem dX11_anew_0 : decode cX11_anew 0 = .ok (.aload_n 0, 1) := by decide +kernel
theorem dX11_anew_1 : decode cX11_anew 1 = .ok (.invokevirtual 188, 3) := by decide +kernel
theorem dX11_anew_4 : decode cX11_anew 4 = .ok (.ifCond .eq 6, 3) := by decide +kernel
theorem dX11_anew_10 : decode cX11_anew 10 = .ok (.aload_n 0, 1) := by decide +kernel
theorem dX11_anew_11 : decode cX11_anew 11 = .ok (.getfield 26, 3) := by decide +kernel
theorem dX11_anew_14 : decode cX11_anew 14 = .ok (.getfield 199, 3) := by decide +kernel
theorem dX11_anew_17 : decode cX11_anew 17 = .ok (.istore_n 1, 1) := by decide +kernel
theorem dX11_anew_18 : decode cX11_anew 18 = .ok (.aload_n 0, 1) := by decide +kernel
theorem dX11_anew_19 : decode cX11_anew 19 = .ok (.getfield 26, 3) := by decide +kernel
theorem dX11_anew_22 : decode cX11_anew 22 = .ok (.aload_n 0, 1) := by decide +kernel
theorem dX11_anew_23 : decode cX11_anew 23 = .ok (.getfield 19, 3) := by decide +kernel
theorem dX11_anew_26 : decode cX11_anew 26 = .ok (.invokevirtual 114, 3) := by decide +kernel
theorem dX11_anew_29 : decode cX11_anew 29 = .ok (.aload_n 0, 1) := by decide +kernel
theorem dX11_anew_30 : decode cX11_anew 30 = .ok (.invokevirtual 117, 3) := by decide +kernel
theorem dX11_anew_33 : decode cX11_anew 33 = .ok (.iload_n 1, 1) := by decide +kernel
theorem dX11_anew_34 : decode cX11_anew 34 = .ok (.ireturn, 1) := by decide +kernel
theorem dX11_anew_7 : decode cX11_anew 7 = .ok (.bipush (-2), 2) := by decide +kernel
theorem dX11_anew_9 : decode cX11_anew 9 = .ok (.ireturn, 1) := by decide +kernel
set_option maxHeartbeats 4000000 in
set_option maxRecDepth 100000 in
theorem k_X11_anew (l : Launch) (D : va_G) (K : Nat → ClassId) (t : Nat) (t_q t_1_q t_2_q t_7_q : Nat → Nat) (t_1_x0 t_1_x1 t_1_x2 t_1_x3 t_1_x4 t_1_x5 t_1_x6 t_1_x7 t_1_x8 t_2_x0 t_7_x0 t_7_x1 t_7_x6 : Int) (t_1_14_c : Nat → Int) (t_2_3_c : Nat → Int) (t_1_10_c : Nat → Int) (t_2_1_c : Nat → Int) (t_2_2_c : Nat → Int) (t_7_2_c : Nat → Int) (t_7_4_c : Nat → Int) (t_1_12_c : Nat → Int) (t_1_13_c : Nat → Int) (t_7_3_c : Nat → Int) (hi_t_1 : bX7 t_1_x0 t_1_x1 t_1_x2 t_1_x3 t_1_x4 t_1_x5 t_1_x6 t_1_x7 t_1_x8) (hi_t_2 : bX5 t_2_x0) (hc_t_1_14 : ∀ j : Nat, 0 ≤ t_1_14_c j ∧ t_1_14_c j ≤ 29) (hc_t_2_3 : ∀ j : Nat, 0 ≤ t_2_3_c j ∧ t_2_3_c j ≤ 29) (hc_t_1_10 : ∀ j : Nat, 0 ≤ t_1_10_c j ∧ t_1_10_c j ≤ 12) (hc_t_2_1 : ∀ j : Nat, (-1000) ≤ t_2_1_c j ∧ t_2_1_c j ≤ 30) (hc_t_2_2 : ∀ j : Nat, (-4) ≤ t_2_2_c j ∧ t_2_2_c j ≤ 11) (hi_t_7 : bX10 t_7_x0 t_7_x1 t_7_x6) (hc_t_7_2 : ∀ j : Nat, (-1) ≤ t_7_2_c j ∧ t_7_2_c j ≤ 149) (hc_t_7_4 : ∀ j : Nat, 0 ≤ t_7_4_c j ∧ t_7_4_c j ≤ 4095) (hc_t_1_12 : ∀ j : Nat, 0 ≤ t_1_12_c j ∧ t_1_12_c j ≤ 11) (hc_t_1_13 : ∀ j : Nat, 0 ≤ t_1_13_c j ∧ t_1_13_c j ≤ 4) (hc_t_7_3 : ∀ j : Nat, (-1) ≤ t_7_3_c j ∧ t_7_3_c j ≤ 11) : fn_CI (S := (Nat → Int) × (Nat → Nat → Int)) l D K yX11_anew (fn_ws yX11_anew cX11_anew 2 (some .int)) ({ frames := 20, cells := 0, slots := 0, locals := 500 } : Room) [.ref t] [(t, .inr (11, oX11 t_q)), ((t_q 1), .inr (7, oX7 t_1_q t_1_x0 t_1_x1 t_1_x2 t_1_x3 t_1_x4 t_1_x5 t_1_x6 t_1_x7 t_1_x8)), ((t_q 2), .inr (5, oX5 t_2_q t_2_x0)), ((t_1_q 14), .inl (K 0, 24, .inl (fun j => iI (t_1_14_c j)))), ((t_2_q 3), .inl (K 0, 24, .inl (fun j => iI (t_2_3_c j)))), ((t_1_q 10), .inl (K 0, 6, .inl (fun j => iI (t_1_10_c j)))), ((t_2_q 1), .inl (K 0, 5, .inl (fun j => iI (t_2_1_c j)))), ((t_2_q 2), .inl (K 0, 150, .inl (fun j => iI (t_2_2_c j)))), ((t_q 7), .inr (10, oX10 t_7_q t_7_x0 t_7_x1 t_7_x6)), ((t_7_q 2), .inl (K 0, 12, .inl (fun j => iI (t_7_2_c j)))), ((t_7_q 4), .inl (K 0, 12, .inl (fun j => iI (t_7_4_c j)))), ((t_1_q 12), .inl (K 0, 24, .inl (fun j => iI (t_1_12_c j)))), ((t_1_q 13), .inl (K 0, 24, .inl (fun j => iI (t_1_13_c j)))), ((t_7_q 3), .inl (K 0, 24, .inl (fun j => iI (t_7_3_c j))))] (fun r u => ∃ k : Int, r = iI k ∧ ((-2) ≤ k ∧ k ≤ 40) ∧ (0 ≤ (u.1 0) ∧ (u.1 0) ≤ 40 ∧ 0 ≤ (u.1 1) ∧ (u.1 1) ≤ 12 ∧ 0 ≤ (u.1 2) ∧ (u.1 2) ≤ 4095) ∧ (∀ j : Nat, -12 ≤ (u.2 0) j ∨ t_2_1_c j ≤ (u.2 0) j) ∧ (∀ j : Nat, (-1000) ≤ (u.2 0) j ∧ (u.2 0) j ≤ 30) ∧ (∀ j : Nat, (-4) ≤ (u.2 1) j ∧ (u.2 1) j ≤ 11) ∧ (∀ j : Nat, 0 ≤ (u.2 2) j ∧ (u.2 2) j ≤ 29) ∧ (∀ j : Nat, (-1) ≤ (u.2 3) j ∧ (u.2 3) j ≤ 149) ∧ (∀ j : Nat, (-1) ≤ (u.2 4) j ∧ (u.2 4) j ≤ 11) ∧ (∀ j : Nat, 0 ≤ (u.2 5) j ∧ (u.2 5) j ≤ 4095) ∧ True) (fun u => [(t, .inr (11, oX11 t_q)), ((t_q 1), .inr (7, oX7 t_1_q t_1_x0 t_1_x1 t_1_x2 t_1_x3 t_1_x4 t_1_x5 t_1_x6 t_1_x7 t_1_x8)), ((t_q 2), .inr (5, oX5 t_2_q (u.1 0))), ((t_1_q 14), .inl (K 0, 24, .inl (fun j => iI (t_1_14_c j)))), ((t_2_q 3), .inl (K 0, 24, .inl (fun j => iI ((u.2 2) j)))), ((t_1_q 10), .inl (K 0, 6, .inl (fun j => iI (t_1_10_c j)))), ((t_2_q 1), .inl (K 0, 5, .inl (fun j => iI ((u.2 0) j)))), ((t_2_q 2), .inl (K 0, 150, .inl (fun j => iI ((u.2 1) j)))), ((t_q 7), .inr (10, oX10 t_7_q (u.1 1) (u.1 2) t_7_x6)), ((t_7_q 2), .inl (K 0, 12, .inl (fun j => iI ((u.2 3) j)))), ((t_7_q 4), .inl (K 0, 12, .inl (fun j => iI ((u.2 5) j)))), ((t_1_q 12), .inl (K 0, 24, .inl (fun j => iI (t_1_12_c j)))), ((t_1_q 13), .inl (K 0, 24, .inl (fun j => iI (t_1_13_c j)))), ((t_7_q 3), .inl (K 0, 24, .inl (fun j => iI ((u.2 4) j))))]) 0 0 := by
  refine g_inI (cc := cX11_anew) (maxL := 2) (ret := (some .int)) (by decide) rfl (Nat.le_of_ble_eq_true rfl) ?_
  intro p e s m below meth c A ls ag Q B hA hP hD hS hl hQ
  obtain ⟨hx, hb, hr, hml, hts, hown, hlocks, hin, hK⟩ := B
  have hown : s.vm.findClass RX11 = some m.cls := hown
  have hts := fun w h => hts w (List.mem_cons_of_mem _ h)
  have hl : lv_has ls 2 [(0, .ref t)] := hl
  refine lv_aload_n hx hb dX11_anew_0 rfl (lv_at hl 0 rfl) ?_
  refine fn_goi (wc := [(t, .inr (11, oX11 t_q)), ((t_q 1), .inr (7, oX7 t_1_q t_1_x0 t_1_x1 t_1_x2 t_1_x3 t_1_x4 t_1_x5 t_1_x6 t_1_x7 t_1_x8))]) (wr := [((t_q 2), .inr (5, oX5 t_2_q t_2_x0)), ((t_1_q 14), .inl (K 0, 24, .inl (fun j => iI (t_1_14_c j)))), ((t_2_q 3), .inl (K 0, 24, .inl (fun j => iI (t_2_3_c j)))), ((t_1_q 10), .inl (K 0, 6, .inl (fun j => iI (t_1_10_c j)))), ((t_2_q 1), .inl (K 0, 5, .inl (fun j => iI (t_2_1_c j)))), ((t_2_q 2), .inl (K 0, 150, .inl (fun j => iI (t_2_2_c j)))), ((t_q 7), .inr (10, oX10 t_7_q t_7_x0 t_7_x1 t_7_x6)), ((t_7_q 2), .inl (K 0, 12, .inl (fun j => iI (t_7_2_c j)))), ((t_7_q 4), .inl (K 0, 12, .inl (fun j => iI (t_7_4_c j)))), ((t_1_q 12), .inl (K 0, 24, .inl (fun j => iI (t_1_12_c j)))), ((t_1_q 13), .inl (K 0, 24, .inl (fun j => iI (t_1_13_c j)))), ((t_7_q 3), .inl (K 0, 24, .inl (fun j => iI (t_7_3_c j))))]) hK hP hD hS hA [0, 1] [2, 3, 4, 5, 6, 7, 8, 9, 10, 11, 12, 13] rfl rfl (by decide) (fun hp => va_runV (C := RX11) (As := []) (rest := []) ⟨hx, hb, hml, hown, hts⟩ (k_X11_noTown (l := l) (D := D) (K := K) (t := t) (t_q := t_q) (t_1_q := t_1_q) (t_1_x0 := t_1_x0) (t_1_x1 := t_1_x1) (t_1_x2 := t_1_x2) (t_1_x3 := t_1_x3) (t_1_x4 := t_1_x4) (t_1_x5 := t_1_x5) (t_1_x6 := t_1_x6) (t_1_x7 := t_1_x7) (t_1_x8 := t_1_x8) (hi_t_1 := hi_t_1) _) (cwV 0 hts (fn_ginV (fn_gin wd_709) wd_706 wd_708 wp_30 wd_1) rfl rfl rfl (by decide +kernel) ⟨Nat.le_of_ble_eq_true rfl, Nat.le_of_ble_eq_true rfl⟩) ⟨fn_blind, va_recv hK.1 hP (ci := 11) (q0 := 0) rfl rfl, hp⟩ rfl rfl hl.1 rfl (lv_room (Nat.le_of_ble_eq_true rfl)) dX11_anew_1 ⟨Nat.le_of_ble_eq_true rfl, Nat.le_of_ble_eq_true rfl⟩) (fun r1 u1 H locs hwu1 hP hD hS => ?_)
  obtain ⟨u1a, u1b⟩ := u1
  obtain ⟨kr1, rfl, hkr1, -⟩ := hwu1
  have hP : va_P D vwCl [((t_q 2), .inr (5, oX5 t_2_q t_2_x0)), ((t_1_q 14), .inl (K 0, 24, .inl (fun j => iI (t_1_14_c j)))), ((t_2_q 3), .inl (K 0, 24, .inl (fun j => iI (t_2_3_c j)))), ((t_1_q 10), .inl (K 0, 6, .inl (fun j => iI (t_1_10_c j)))), ((t_2_q 1), .inl (K 0, 5, .inl (fun j => iI (t_2_1_c j)))), ((t_2_q 2), .inl (K 0, 150, .inl (fun j => iI (t_2_2_c j)))), ((t_q 7), .inr (10, oX10 t_7_q t_7_x0 t_7_x1 t_7_x6)), ((t_7_q 2), .inl (K 0, 12, .inl (fun j => iI (t_7_2_c j)))), ((t_7_q 4), .inl (K 0, 12, .inl (fun j => iI (t_7_4_c j)))), ((t_1_q 12), .inl (K 0, 24, .inl (fun j => iI (t_1_12_c j)))), ((t_1_q 13), .inl (K 0, 24, .inl (fun j => iI (t_1_13_c j)))), ((t_7_q 3), .inl (K 0, 24, .inl (fun j => iI (t_7_3_c j)))), (t, .inr (11, oX11 t_q)), ((t_q 1), .inr (7, oX7 t_1_q t_1_x0 t_1_x1 t_1_x2 t_1_x3 t_1_x4 t_1_x5 t_1_x6 t_1_x7 t_1_x8))] H := hP
  have hD : va_D A [((t_q 2), .inr (5, oX5 t_2_q t_2_x0)), ((t_1_q 14), .inl (K 0, 24, .inl (fun j => iI (t_1_14_c j)))), ((t_2_q 3), .inl (K 0, 24, .inl (fun j => iI (t_2_3_c j)))), ((t_1_q 10), .inl (K 0, 6, .inl (fun j => iI (t_1_10_c j)))), ((t_2_q 1), .inl (K 0, 5, .inl (fun j => iI (t_2_1_c j)))), ((t_2_q 2), .inl (K 0, 150, .inl (fun j => iI (t_2_2_c j)))), ((t_q 7), .inr (10, oX10 t_7_q t_7_x0 t_7_x1 t_7_x6)), ((t_7_q 2), .inl (K 0, 12, .inl (fun j => iI (t_7_2_c j)))), ((t_7_q 4), .inl (K 0, 12, .inl (fun j => iI (t_7_4_c j)))), ((t_1_q 12), .inl (K 0, 24, .inl (fun j => iI (t_1_12_c j)))), ((t_1_q 13), .inl (K 0, 24, .inl (fun j => iI (t_1_13_c j)))), ((t_7_q 3), .inl (K 0, 24, .inl (fun j => iI (t_7_3_c j)))), (t, .inr (11, oX11 t_q)), ((t_q 1), .inr (7, oX7 t_1_q t_1_x0 t_1_x1 t_1_x2 t_1_x3 t_1_x4 t_1_x5 t_1_x6 t_1_x7 t_1_x8))] := hD
  refine g_if_eq (tgt := 10) hx hb (by omega) dX11_anew_4 (by decide) (fun c4 => ?_) (fun c4 => ?_)
  · refine lv_aload_n hx hb dX11_anew_10 rfl (lv_at hl 0 rfl) ?_
    refine va_get (D := D) (own := RX11) (ci := 11) (v := .ref (t_q 2)) (C := RX11) (T := TX11) (N := 13) hx hb hts inb_X11 hown hK.1 hP 12 rfl rfl 2 (by decide) (hts _ wd_424) (fun _ h9 => h9) rfl dX11_anew_11 ?_
    refine va_getN (D := D) (own := RX11) (ci := 5) (v := .int (iI t_2_x0)) (C := RX5) (T := TX5) (N := 8) hx hb hts inb_X5 hown hK.1 hP 0 rfl rfl 0 (by decide) (hK.nf 56 rfl) (fun _ h9 => h9) rfl dX11_anew_14 ?_
    have y14_1 : 0 ≤ t_2_x0 ∧ t_2_x0 ≤ 40 := hi_t_2
    refine lv_istore_n (lv' := [(1, .int (iI t_2_x0)), (0, .ref t)]) hx hb dX11_anew_17 rfl hl (by decide) rfl (fun ls hl => ?_)
    refine lv_aload_n hx hb dX11_anew_18 rfl (lv_at hl 1 rfl) ?_
    refine va_get (D := D) (own := RX11) (ci := 11) (v := .ref (t_q 2)) (C := RX11) (T := TX11) (N := 13) hx hb hts inb_X11 hown hK.1 hP 12 rfl rfl 2 (by decide) (hts _ wd_424) (fun _ h9 => h9) rfl dX11_anew_19 ?_
    refine lv_aload_n hx hb dX11_anew_22 rfl (lv_at hl 1 rfl) ?_
    refine va_get (D := D) (own := RX11) (ci := 11) (v := .ref (t_q 1)) (C := RX11) (T := TX11) (N := 13) hx hb hts inb_X11 hown hK.1 hP 12 rfl rfl 1 (by decide) (hts _ wd_423) (fun _ h9 => h9) rfl dX11_anew_23 ?_
    refine fn_gov (wc := [((t_q 2), .inr (5, oX5 t_2_q t_2_x0)), ((t_q 1), .inr (7, oX7 t_1_q t_1_x0 t_1_x1 t_1_x2 t_1_x3 t_1_x4 t_1_x5 t_1_x6 t_1_x7 t_1_x8)), ((t_1_q 14), .inl (K 0, 24, .inl (fun j => iI (t_1_14_c j)))), ((t_2_q 3), .inl (K 0, 24, .inl (fun j => iI (t_2_3_c j)))), ((t_1_q 10), .inl (K 0, 6, .inl (fun j => iI (t_1_10_c j)))), ((t_2_q 1), .inl (K 0, 5, .inl (fun j => iI (t_2_1_c j)))), ((t_2_q 2), .inl (K 0, 150, .inl (fun j => iI (t_2_2_c j))))]) (wr := [((t_q 7), .inr (10, oX10 t_7_q t_7_x0 t_7_x1 t_7_x6)), ((t_7_q 2), .inl (K 0, 12, .inl (fun j => iI (t_7_2_c j)))), ((t_7_q 4), .inl (K 0, 12, .inl (fun j => iI (t_7_4_c j)))), ((t_1_q 12), .inl (K 0, 24, .inl (fun j => iI (t_1_12_c j)))), ((t_1_q 13), .inl (K 0, 24, .inl (fun j => iI (t_1_13_c j)))), ((t_7_q 3), .inl (K 0, 24, .inl (fun j => iI (t_7_3_c j)))), (t, .inr (11, oX11 t_q))]) hK hP hD hS hA [0, 13, 1, 2, 3, 4, 5] [6, 7, 8, 9, 10, 11, 12] rfl rfl (by decide) (fun hp => va_runVN (C := RX5) (As := [.ref (t_q 1)]) (rest := []) ⟨hx, hb, hml, hown, hts⟩ (k_X5_lay (l := l) (D := D) (K := K) (t := (t_q 2)) (a1 := (t_q 1)) (t_q := t_2_q) (t_x0 := t_2_x0) (a1_q := t_1_q) (a1_x0 := t_1_x0) (a1_x1 := t_1_x1) (a1_x2 := t_1_x2) (a1_x3 := t_1_x3) (a1_x4 := t_1_x4) (a1_x5 := t_1_x5) (a1_x6 := t_1_x6) (a1_x7 := t_1_x7) (a1_x8 := t_1_x8) (a1_14_c := t_1_14_c) (t_3_c := t_2_3_c) (a1_10_c := t_1_10_c) (t_1_c := t_2_1_c) (t_2_c := t_2_2_c) (hi_t := hi_t_2) (hi_a1 := hi_t_1) (hc_a1_14 := hc_t_1_14) (hc_t_3 := hc_t_2_3) (hc_a1_10 := hc_t_1_10) (hc_t_1 := hc_t_2_1) (hc_t_2 := hc_t_2_2) _) ⟨va_cnB (own := RX11) 1 hts (fn_gin wd_626) rfl rfl rfl (hK.nw 104 rfl) (hts _ wd_5) (by decide +kernel) ⟨Nat.le_of_ble_eq_true rfl, Nat.le_of_ble_eq_true rfl⟩, hts _ wd_625, hts _ wp_19⟩ ⟨fn_blind, va_recv hK.1 hP (ci := 5) (q0 := 0) rfl rfl, hp⟩ rfl rfl hl.1 rfl (lv_room (Nat.le_of_ble_eq_true rfl)) dX11_anew_26 ⟨Nat.le_of_ble_eq_true rfl, Nat.le_of_ble_eq_true rfl⟩) (fun u26 H locs hwu26 hP hD hS => ?_)
    obtain ⟨u26a, u26b⟩ := u26
    obtain ⟨hqu260, hqu26_lb0, hu26_00, hu26_10, hu26_20, -⟩ := hwu26
    have hqu26 : 0 ≤ (u26a 0) ∧ (u26a 0) ≤ 40 := hqu260
    have hqu26_lb : ∀ j : Nat, -12 ≤ (u26b 0) j ∨ t_2_1_c j ≤ (u26b 0) j := hqu26_lb0
    have hu26_0 : ∀ j : Nat, (-1000) ≤ (u26b 0) j ∧ (u26b 0) j ≤ 30 := hu26_00
    have hu26_1 : ∀ j : Nat, (-4) ≤ (u26b 1) j ∧ (u26b 1) j ≤ 11 := hu26_10
    have hu26_2 : ∀ j : Nat, 0 ≤ (u26b 2) j ∧ (u26b 2) j ≤ 29 := hu26_20
    clear hqu260 hqu26_lb0 hu26_00 hu26_10 hu26_20
    have hP : va_P D vwCl [((t_q 7), .inr (10, oX10 t_7_q t_7_x0 t_7_x1 t_7_x6)), ((t_7_q 2), .inl (K 0, 12, .inl (fun j => iI (t_7_2_c j)))), ((t_7_q 4), .inl (K 0, 12, .inl (fun j => iI (t_7_4_c j)))), ((t_1_q 12), .inl (K 0, 24, .inl (fun j => iI (t_1_12_c j)))), ((t_1_q 13), .inl (K 0, 24, .inl (fun j => iI (t_1_13_c j)))), ((t_7_q 3), .inl (K 0, 24, .inl (fun j => iI (t_7_3_c j)))), (t, .inr (11, oX11 t_q)), ((t_q 2), .inr (5, oX5 t_2_q (u26a 0))), ((t_q 1), .inr (7, oX7 t_1_q t_1_x0 t_1_x1 t_1_x2 t_1_x3 t_1_x4 t_1_x5 t_1_x6 t_1_x7 t_1_x8)), ((t_1_q 14), .inl (K 0, 24, .inl (fun j => iI (t_1_14_c j)))), ((t_2_q 3), .inl (K 0, 24, .inl (fun j => iI ((u26b 2) j)))), ((t_1_q 10), .inl (K 0, 6, .inl (fun j => iI (t_1_10_c j)))), ((t_2_q 1), .inl (K 0, 5, .inl (fun j => iI ((u26b 0) j)))), ((t_2_q 2), .inl (K 0, 150, .inl (fun j => iI ((u26b 1) j))))] H := hP
    have hD : va_D A [((t_q 7), .inr (10, oX10 t_7_q t_7_x0 t_7_x1 t_7_x6)), ((t_7_q 2), .inl (K 0, 12, .inl (fun j => iI (t_7_2_c j)))), ((t_7_q 4), .inl (K 0, 12, .inl (fun j => iI (t_7_4_c j)))), ((t_1_q 12), .inl (K 0, 24, .inl (fun j => iI (t_1_12_c j)))), ((t_1_q 13), .inl (K 0, 24, .inl (fun j => iI (t_1_13_c j)))), ((t_7_q 3), .inl (K 0, 24, .inl (fun j => iI (t_7_3_c j)))), (t, .inr (11, oX11 t_q)), ((t_q 2), .inr (5, oX5 t_2_q (u26a 0))), ((t_q 1), .inr (7, oX7 t_1_q t_1_x0 t_1_x1 t_1_x2 t_1_x3 t_1_x4 t_1_x5 t_1_x6 t_1_x7 t_1_x8)), ((t_1_q 14), .inl (K 0, 24, .inl (fun j => iI (t_1_14_c j)))), ((t_2_q 3), .inl (K 0, 24, .inl (fun j => iI ((u26b 2) j)))), ((t_1_q 10), .inl (K 0, 6, .inl (fun j => iI (t_1_10_c j)))), ((t_2_q 1), .inl (K 0, 5, .inl (fun j => iI ((u26b 0) j)))), ((t_2_q 2), .inl (K 0, 150, .inl (fun j => iI ((u26b 1) j))))] := hD
    refine lv_aload_n hx hb dX11_anew_29 rfl (lv_at hl 1 rfl) ?_
    refine fn_gov (wc := [(t, .inr (11, oX11 t_q)), ((t_q 7), .inr (10, oX10 t_7_q t_7_x0 t_7_x1 t_7_x6)), ((t_q 1), .inr (7, oX7 t_1_q t_1_x0 t_1_x1 t_1_x2 t_1_x3 t_1_x4 t_1_x5 t_1_x6 t_1_x7 t_1_x8)), ((t_7_q 2), .inl (K 0, 12, .inl (fun j => iI (t_7_2_c j)))), ((t_q 2), .inr (5, oX5 t_2_q (u26a 0))), ((t_2_q 1), .inl (K 0, 5, .inl (fun j => iI ((u26b 0) j)))), ((t_2_q 2), .inl (K 0, 150, .inl (fun j => iI ((u26b 1) j)))), ((t_7_q 4), .inl (K 0, 12, .inl (fun j => iI (t_7_4_c j)))), ((t_1_q 12), .inl (K 0, 24, .inl (fun j => iI (t_1_12_c j)))), ((t_2_q 3), .inl (K 0, 24, .inl (fun j => iI ((u26b 2) j)))), ((t_1_q 13), .inl (K 0, 24, .inl (fun j => iI (t_1_13_c j)))), ((t_7_q 3), .inl (K 0, 24, .inl (fun j => iI (t_7_3_c j))))]) (wr := [((t_1_q 14), .inl (K 0, 24, .inl (fun j => iI (t_1_14_c j)))), ((t_1_q 10), .inl (K 0, 6, .inl (fun j => iI (t_1_10_c j))))]) hK hP hD hS hA [6, 0, 8, 1, 7, 12, 13, 2, 3, 10, 4, 5] [9, 11] rfl rfl (by decide) (fun hp => va_runV (C := RX11) (As := []) (rest := []) ⟨hx, hb, hml, hown, hts⟩ (k_X11_settle (l := l) (D := D) (K := K) (t := t) (t_q := t_q) (t_7_q := t_7_q) (t_7_x0 := t_7_x0) (t_7_x1 := t_7_x1) (t_7_x6 := t_7_x6) (t_1_q := t_1_q) (t_1_x0 := t_1_x0) (t_1_x1 := t_1_x1) (t_1_x2 := t_1_x2) (t_1_x3 := t_1_x3) (t_1_x4 := t_1_x4) (t_1_x5 := t_1_x5) (t_1_x6 := t_1_x6) (t_1_x7 := t_1_x7) (t_1_x8 := t_1_x8) (t_7_2_c := t_7_2_c) (t_2_q := t_2_q) (t_2_x0 := (u26a 0)) (t_2_1_c := (u26b 0)) (t_2_2_c := (u26b 1)) (t_7_4_c := t_7_4_c) (t_1_12_c := t_1_12_c) (t_2_3_c := (u26b 2)) (t_1_13_c := t_1_13_c) (t_7_3_c := t_7_3_c) (hi_t_7 := hi_t_7) (hi_t_1 := hi_t_1) (hc_t_7_2 := hc_t_7_2) (hi_t_2 := (show 0 ≤ (u26a 0) ∧ (u26a 0) ≤ 40 from by omega)) (hc_t_2_1 := hu26_0) (hc_t_2_2 := hu26_1) (hc_t_7_4 := hc_t_7_4) (hc_t_1_12 := hc_t_1_12) (hc_t_2_3 := hu26_2) (hc_t_1_13 := hc_t_1_13) (hc_t_7_3 := hc_t_7_3) _) (cwV 0 hts (fn_ginV (fn_gin wd_635) wd_632 wd_634 wp_21 wd_1) rfl rfl rfl (by decide +kernel) ⟨Nat.le_of_ble_eq_true rfl, Nat.le_of_ble_eq_true rfl⟩) ⟨fn_blind, va_recv hK.1 hP (ci := 11) (q0 := 6) rfl rfl, hp⟩ rfl rfl hl.1 rfl (lv_room (Nat.le_of_ble_eq_true rfl)) dX11_anew_30 ⟨Nat.le_of_ble_eq_true rfl, Nat.le_of_ble_eq_true rfl⟩) (fun u30 H locs hwu30 hP hD hS => ?_)
    obtain ⟨u30a, u30b⟩ := u30
    obtain ⟨hqu300, hu30_00, hu30_10, hu30_20, -⟩ := hwu30
    have hqu30 : 0 ≤ (u30a 0) ∧ (u30a 0) ≤ 12 ∧ 0 ≤ (u30a 1) ∧ (u30a 1) ≤ 4095 := hqu300
    have hu30_0 : ∀ j : Nat, (-1) ≤ (u30b 0) j ∧ (u30b 0) j ≤ 149 := hu30_00
    have hu30_1 : ∀ j : Nat, (-1) ≤ (u30b 1) j ∧ (u30b 1) j ≤ 11 := hu30_10
    have hu30_2 : ∀ j : Nat, 0 ≤ (u30b 2) j ∧ (u30b 2) j ≤ 4095 := hu30_20
    clear hqu300 hu30_00 hu30_10 hu30_20
    have hP : va_P D vwCl [((t_1_q 14), .inl (K 0, 24, .inl (fun j => iI (t_1_14_c j)))), ((t_1_q 10), .inl (K 0, 6, .inl (fun j => iI (t_1_10_c j)))), (t, .inr (11, oX11 t_q)), ((t_q 7), .inr (10, oX10 t_7_q (u30a 0) (u30a 1) t_7_x6)), ((t_q 1), .inr (7, oX7 t_1_q t_1_x0 t_1_x1 t_1_x2 t_1_x3 t_1_x4 t_1_x5 t_1_x6 t_1_x7 t_1_x8)), ((t_7_q 2), .inl (K 0, 12, .inl (fun j => iI ((u30b 0) j)))), ((t_q 2), .inr (5, oX5 t_2_q (u26a 0))), ((t_2_q 1), .inl (K 0, 5, .inl (fun j => iI ((u26b 0) j)))), ((t_2_q 2), .inl (K 0, 150, .inl (fun j => iI ((u26b 1) j)))), ((t_7_q 4), .inl (K 0, 12, .inl (fun j => iI ((u30b 2) j)))), ((t_1_q 12), .inl (K 0, 24, .inl (fun j => iI (t_1_12_c j)))), ((t_2_q 3), .inl (K 0, 24, .inl (fun j => iI ((u26b 2) j)))), ((t_1_q 13), .inl (K 0, 24, .inl (fun j => iI (t_1_13_c j)))), ((t_7_q 3), .inl (K 0, 24, .inl (fun j => iI ((u30b 1) j))))] H := hP
    have hD : va_D A [((t_1_q 14), .inl (K 0, 24, .inl (fun j => iI (t_1_14_c j)))), ((t_1_q 10), .inl (K 0, 6, .inl (fun j => iI (t_1_10_c j)))), (t, .inr (11, oX11 t_q)), ((t_q 7), .inr (10, oX10 t_7_q (u30a 0) (u30a 1) t_7_x6)), ((t_q 1), .inr (7, oX7 t_1_q t_1_x0 t_1_x1 t_1_x2 t_1_x3 t_1_x4 t_1_x5 t_1_x6 t_1_x7 t_1_x8)), ((t_7_q 2), .inl (K 0, 12, .inl (fun j => iI ((u30b 0) j)))), ((t_q 2), .inr (5, oX5 t_2_q (u26a 0))), ((t_2_q 1), .inl (K 0, 5, .inl (fun j => iI ((u26b 0) j)))), ((t_2_q 2), .inl (K 0, 150, .inl (fun j => iI ((u26b 1) j)))), ((t_7_q 4), .inl (K 0, 12, .inl (fun j => iI ((u30b 2) j)))), ((t_1_q 12), .inl (K 0, 24, .inl (fun j => iI (t_1_12_c j)))), ((t_2_q 3), .inl (K 0, 24, .inl (fun j => iI ((u26b 2) j)))), ((t_1_q 13), .inl (K 0, 24, .inl (fun j => iI (t_1_13_c j)))), ((t_7_q 3), .inl (K 0, 24, .inl (fun j => iI ((u30b 1) j))))] := hD
    refine lv_iload_n hx hb dX11_anew_33 rfl (lv_at hl 0 rfl) ?_
    rw [hQ]; exact fn_iret hx hb hr hlocks rfl hP hD hS ((fun k => ([(u26a 0), (u30a 0), (u30a 1)] : List Int).getD k 0), (fun k => ([(u26b 0), (u26b 1), (u26b 2), (u30b 0), (u30b 1), (u30b 2)] : List (Nat → Int)).getD k (fun _ => 0))) ⟨t_2_x0, rfl, by omega, (by show 0 ≤ (u26a 0) ∧ (u26a 0) ≤ 40 ∧ 0 ≤ (u30a 0) ∧ (u30a 0) ≤ 12 ∧ 0 ≤ (u30a 1) ∧ (u30a 1) ≤ 4095; omega), (show ∀ j : Nat, -12 ≤ (u26b 0) j ∨ t_2_1_c j ≤ (u26b 0) j from by first | assumption | exact fun j => Or.inr (Int.le_refl _)), (hu26_0), (hu26_1), (hu26_2), (hu30_0), (hu30_1), (hu30_2), trivial⟩ [2, 4, 6, 0, 11, 1, 7, 8, 3, 5, 9, 10, 12, 13] (by decide) rfl dX11_anew_34
  · refine lv_bipush (v := iI (-2)) hx hb dX11_anew_7 (by decide) ?_
    have y9_1 : 0 ≤ t_2_x0 ∧ t_2_x0 ≤ 40 := hi_t_2
    have y9_2 : 0 ≤ t_7_x0 ∧ t_7_x0 ≤ 12 := hi_t_7.1
    have y9_3 : 0 ≤ t_7_x1 ∧ t_7_x1 ≤ 4095 := hi_t_7.2.1
    rw [hQ]; exact fn_iret hx hb hr hlocks rfl hP hD hS ((fun k => ([t_2_x0, t_7_x0, t_7_x1] : List Int).getD k 0), (fun k => ([t_2_1_c, t_2_2_c, t_2_3_c, t_7_2_c, t_7_3_c, t_7_4_c] : List (Nat → Int)).getD k (fun _ => 0))) ⟨(-2), rfl, by omega, (by show 0 ≤ t_2_x0 ∧ t_2_x0 ≤ 40 ∧ 0 ≤ t_7_x0 ∧ t_7_x0 ≤ 12 ∧ 0 ≤ t_7_x1 ∧ t_7_x1 ≤ 4095; omega), (show ∀ j : Nat, -12 ≤ t_2_1_c j ∨ t_2_1_c j ≤ t_2_1_c j from by first | assumption | exact fun j => Or.inr (Int.le_refl _)), (hc_t_2_1), (hc_t_2_2), (hc_t_2_3), (hc_t_7_2), (hc_t_7_3), (hc_t_7_4), trivial⟩ [12, 13, 0, 1, 2, 3, 4, 5, 6, 7, 8, 9, 10, 11] (by decide) rfl dX11_anew_9
theorem wd_763 : Cond.code ⟨"FootNotes$Web", "reachedFrom", "(I)I"⟩ prog_12_method_6_code 2 (Option.some Jvm.ClassFile.FieldType.int) ∈ fn_big := fn_tb (fn_l4 (List.mem_of_getElem? (i := 43) (by decide +kernel))) (by decide +kernel)
theorem wd_762 : Cond.instanceMethod ⟨"FootNotes$Web", "reachedFrom", "(I)I"⟩ ∈ fn_big := fn_tb (fn_l4 (List.mem_of_getElem? (i := 42) (by decide +kernel))) (by decide +kernel)
theorem wp_37 : Cond.selects "FootNotes$Web" ⟨"FootNotes$Web", "reachedFrom", "(I)I"⟩ ⟨"FootNotes$Web", "reachedFrom", "(I)I"⟩ ∈ fn_big := fn_sel (q := (⟨"FootNotes$Web", "reachedFrom", "(I)I"⟩, 7)) 37 (by decide +kernel) (by decide +kernel)
theorem dX11_reach_0 : decode cX11_reach 0 = .ok (.aload_n 0, 1) := by decide +kernel
theorem dX11_reach_1 : decode cX11_reach 1 = .ok (.getfield 19, 3) := by decide +kernel
theorem dX11_reach_4 : decode cX11_reach 4 = .ok (.iload_n 1, 1) := by decide +kernel
theorem dX11_reach_5 : decode cX11_reach 5 = .ok (.invokevirtual 130, 3) := by decide +kernel
theorem dX11_reach_8 : decode cX11_reach 8 = .ok (.ifCond .eq 14, 3) := by decide +kernel
theorem dX11_reach_22 : decode cX11_reach 22 = .ok (.bipush (-2), 2) := by decide +kernel
theorem dX11_reach_24 : decode cX11_reach 24 = .ok (.ireturn, 1) := by decide +kernel
theorem dX11_reach_11 : decode cX11_reach 11 = .ok (.aload_n 0, 1) := by decide +kernel
theorem dX11_reach_12 : decode cX11_reach 12 = .ok (.getfield 51, 3) := by decide +kernel
theorem dX11_reach_15 : decode cX11_reach 15 = .ok (.iload_n 1, 1) := by decide +kernel
theorem dX11_reach_16 : decode cX11_reach 16 = .ok (.invokevirtual 215, 3) := by decide +kernel
theorem dX11_reach_19 : decode cX11_reach 19 = .ok (.goto 5, 3) := by decide +kernel
set_option maxHeartbeats 4000000 in
set_option maxRecDepth 100000 in
theorem k_X11_reach (l : Launch) (D : va_G) (K : Nat → ClassId) (t : Nat) (t_q t_1_q t_7_q : Nat → Nat) (p1 t_1_x0 t_1_x1 t_1_x2 t_1_x3 t_1_x4 t_1_x5 t_1_x6 t_1_x7 t_1_x8 t_7_x0 t_7_x1 t_7_x6 : Int) (t_7_5_c : Nat → Int) (t_7_4_c : Nat → Int) (hp1 : (-2147483648) ≤ p1 ∧ p1 ≤ 2147483647) (hi_t_1 : bX7 t_1_x0 t_1_x1 t_1_x2 t_1_x3 t_1_x4 t_1_x5 t_1_x6 t_1_x7 t_1_x8) (hi_t_7 : bX10 t_7_x0 t_7_x1 t_7_x6) (hc_t_7_5 : ∀ j : Nat, (-1) ≤ t_7_5_c j ∧ t_7_5_c j ≤ 12) (hc_t_7_4 : ∀ j : Nat, 0 ≤ t_7_4_c j ∧ t_7_4_c j ≤ 4095) : fn_CI (S := (Nat → Int) × (Nat → Nat → Int)) l D K yX11_reach (fn_ws yX11_reach cX11_reach 2 (some .int)) ({ frames := 16, cells := 0, slots := 0, locals := 400 } : Room) [.ref t, .int (iI p1)] [(t, .inr (11, oX11 t_q)), ((t_q 1), .inr (7, oX7 t_1_q t_1_x0 t_1_x1 t_1_x2 t_1_x3 t_1_x4 t_1_x5 t_1_x6 t_1_x7 t_1_x8)), ((t_q 7), .inr (10, oX10 t_7_q t_7_x0 t_7_x1 t_7_x6)), ((t_7_q 5), .inl (K 0, 12, .inl (fun j => iI (t_7_5_c j)))), ((t_7_q 4), .inl (K 0, 12, .inl (fun j => iI (t_7_4_c j))))] (fun r u => ∃ k : Int, r = iI k ∧ ((-2) ≤ k ∧ k ≤ 4095) ∧ (0 ≤ (u.1 0) ∧ (u.1 0) ≤ 4095) ∧ (∀ j : Nat, (-1) ≤ (u.2 0) j ∧ (u.2 0) j ≤ 12) ∧ True) (fun u => [(t, .inr (11, oX11 t_q)), ((t_q 1), .inr (7, oX7 t_1_q t_1_x0 t_1_x1 t_1_x2 t_1_x3 t_1_x4 t_1_x5 t_1_x6 t_1_x7 t_1_x8)), ((t_q 7), .inr (10, oX10 t_7_q t_7_x0 t_7_x1 (u.1 0))), ((t_7_q 5), .inl (K 0, 12, .inl (fun j => iI ((u.2 0) j)))), ((t_7_q 4), .inl (K 0, 12, .inl (fun j => iI (t_7_4_c j))))]) 0 0 := by
  refine g_inI (cc := cX11_reach) (maxL := 2) (ret := (some .int)) (by decide) rfl (Nat.le_of_ble_eq_true rfl) ?_
  intro p e s m below meth c A ls ag Q B hA hP hD hS hl hQ
  obtain ⟨hx, hb, hr, hml, hts, hown, hlocks, hin, hK⟩ := B
  have hown : s.vm.findClass RX11 = some m.cls := hown
  have hts := fun w h => hts w (List.mem_cons_of_mem _ h)
  have hl : lv_has ls 2 [(0, .ref t), (1, .int (iI p1))] := hl
  refine lv_aload_n hx hb dX11_reach_0 rfl (lv_at hl 0 rfl) ?_
  refine va_get (D := D) (own := RX11) (ci := 11) (v := .ref (t_q 1)) (C := RX11) (T := TX11) (N := 13) hx hb hts inb_X11 hown hK.1 hP 0 rfl rfl 1 (by decide) (hts _ wd_423) (fun _ h9 => h9) rfl dX11_reach_1 ?_
  refine lv_iload_n hx hb dX11_reach_4 rfl (lv_at hl 1 rfl) ?_
  refine fn_goi (wc := [((t_q 1), .inr (7, oX7 t_1_q t_1_x0 t_1_x1 t_1_x2 t_1_x3 t_1_x4 t_1_x5 t_1_x6 t_1_x7 t_1_x8))]) (wr := [(t, .inr (11, oX11 t_q)), ((t_q 7), .inr (10, oX10 t_7_q t_7_x0 t_7_x1 t_7_x6)), ((t_7_q 5), .inl (K 0, 12, .inl (fun j => iI (t_7_5_c j)))), ((t_7_q 4), .inl (K 0, 12, .inl (fun j => iI (t_7_4_c j))))]) hK hP hD hS hA [1] [0, 2, 3, 4] rfl rfl (by decide) (fun hp => va_runVN (C := RX7) (As := [.int (iI p1)]) (rest := []) ⟨hx, hb, hml, hown, hts⟩ (k_X7_hasPage (l := l) (D := D) (K := K) (t := (t_q 1)) (p1 := p1) (t_q := t_1_q) (t_x0 := t_1_x0) (t_x1 := t_1_x1) (t_x2 := t_1_x2) (t_x3 := t_1_x3) (t_x4 := t_1_x4) (t_x5 := t_1_x5) (t_x6 := t_1_x6) (t_x7 := t_1_x7) (t_x8 := t_1_x8) (hp1 := (by omega)) (hi_t := hi_t_1) _) ⟨va_cnB (own := RX11) 1 hts (fn_gin wd_662) rfl rfl rfl (hK.nw 108 rfl) (hts _ wd_4) (by decide +kernel) ⟨Nat.le_of_ble_eq_true rfl, Nat.le_of_ble_eq_true rfl⟩, hts _ wd_661, hts _ wp_25⟩ ⟨fn_blind, va_recv hK.1 hP (ci := 7) (q0 := 1) rfl rfl, hp⟩ rfl rfl hl.1 rfl (lv_room (Nat.le_of_ble_eq_true rfl)) dX11_reach_5 ⟨Nat.le_of_ble_eq_true rfl, Nat.le_of_ble_eq_true rfl⟩) (fun r5 u5 H locs hwu5 hP hD hS => ?_)
  obtain ⟨u5a, u5b⟩ := u5
  obtain ⟨kr5, rfl, hkr5, hqu50, -⟩ := hwu5
  have hqu5 : (kr5 = 1 → 0 ≤ p1 ∧ p1 < t_1_x4 ∧ p1 ≤ 11) := hqu50
  clear hqu50
  have hP : va_P D vwCl [(t, .inr (11, oX11 t_q)), ((t_q 7), .inr (10, oX10 t_7_q t_7_x0 t_7_x1 t_7_x6)), ((t_7_q 5), .inl (K 0, 12, .inl (fun j => iI (t_7_5_c j)))), ((t_7_q 4), .inl (K 0, 12, .inl (fun j => iI (t_7_4_c j)))), ((t_q 1), .inr (7, oX7 t_1_q t_1_x0 t_1_x1 t_1_x2 t_1_x3 t_1_x4 t_1_x5 t_1_x6 t_1_x7 t_1_x8))] H := hP
  have hD : va_D A [(t, .inr (11, oX11 t_q)), ((t_q 7), .inr (10, oX10 t_7_q t_7_x0 t_7_x1 t_7_x6)), ((t_7_q 5), .inl (K 0, 12, .inl (fun j => iI (t_7_5_c j)))), ((t_7_q 4), .inl (K 0, 12, .inl (fun j => iI (t_7_4_c j)))), ((t_q 1), .inr (7, oX7 t_1_q t_1_x0 t_1_x1 t_1_x2 t_1_x3 t_1_x4 t_1_x5 t_1_x6 t_1_x7 t_1_x8))] := hD
  refine g_if_eq (tgt := 22) hx hb (by omega) dX11_reach_8 (by decide) (fun c8 => ?_) (fun c8 => ?_)
  · refine lv_bipush (v := iI (-2)) hx hb dX11_reach_22 (by decide) ?_
    have y24_1 : 0 ≤ t_7_x6 ∧ t_7_x6 ≤ 4095 := hi_t_7.2.2
    rw [hQ]; exact fn_iret hx hb hr hlocks rfl hP hD hS ((fun k => ([t_7_x6] : List Int).getD k 0), (fun k => ([t_7_5_c] : List (Nat → Int)).getD k (fun _ => 0))) ⟨(-2), rfl, by omega, (by show 0 ≤ t_7_x6 ∧ t_7_x6 ≤ 4095; omega), (hc_t_7_5), trivial⟩ [0, 4, 1, 2, 3] (by decide) rfl dX11_reach_24
  · refine lv_aload_n hx hb dX11_reach_11 rfl (lv_at hl 0 rfl) ?_
    refine va_get (D := D) (own := RX11) (ci := 11) (v := .ref (t_q 7)) (C := RX11) (T := TX11) (N := 13) hx hb hts inb_X11 hown hK.1 hP 0 rfl rfl 7 (by decide) (hts _ wd_429) (fun _ h9 => h9) rfl dX11_reach_12 ?_
    refine lv_iload_n hx hb dX11_reach_15 rfl (lv_at hl 1 rfl) ?_
    refine fn_goi (wc := [((t_q 7), .inr (10, oX10 t_7_q t_7_x0 t_7_x1 t_7_x6)), ((t_7_q 5), .inl (K 0, 12, .inl (fun j => iI (t_7_5_c j)))), ((t_7_q 4), .inl (K 0, 12, .inl (fun j => iI (t_7_4_c j))))]) (wr := [(t, .inr (11, oX11 t_q)), ((t_q 1), .inr (7, oX7 t_1_q t_1_x0 t_1_x1 t_1_x2 t_1_x3 t_1_x4 t_1_x5 t_1_x6 t_1_x7 t_1_x8))]) hK hP hD hS hA [1, 2, 3] [0, 4] rfl rfl (by decide) (fun hp => va_runVN (C := RX10) (As := [.int (iI p1)]) (rest := []) ⟨hx, hb, hml, hown, hts⟩ (k_X10_reachedFrom (l := l) (D := D) (K := K) (t := (t_q 7)) (p1 := p1) (t_q := t_7_q) (t_x0 := t_7_x0) (t_x1 := t_7_x1) (t_x6 := t_7_x6) (t_5_c := t_7_5_c) (t_4_c := t_7_4_c) (hp1 := (by omega)) (hi_t := hi_t_7) (hc_t_5 := hc_t_7_5) (hc_t_4 := hc_t_7_4) _) ⟨va_cnB (own := RX11) 1 hts (fn_gin wd_763) rfl rfl rfl (hK.nw 119 rfl) (hts _ wd_6) (by decide +kernel) ⟨Nat.le_of_ble_eq_true rfl, Nat.le_of_ble_eq_true rfl⟩, hts _ wd_762, hts _ wp_37⟩ ⟨fn_blind, va_recv hK.1 hP (ci := 10) (q0 := 1) rfl rfl, hp⟩ rfl rfl hl.1 rfl (lv_room (Nat.le_of_ble_eq_true rfl)) dX11_reach_16 ⟨Nat.le_of_ble_eq_true rfl, Nat.le_of_ble_eq_true rfl⟩) (fun r16 u16 H locs hwu16 hP hD hS => ?_)
    obtain ⟨u16a, u16b⟩ := u16
    obtain ⟨kr16, rfl, hkr16, hqu160, hu16_00, -⟩ := hwu16
    have hqu16 : 0 ≤ (u16a 0) ∧ (u16a 0) ≤ 4095 := hqu160
    have hu16_0 : ∀ j : Nat, (-1) ≤ (u16b 0) j ∧ (u16b 0) j ≤ 12 := hu16_00
    clear hqu160 hu16_00
    have hP : va_P D vwCl [(t, .inr (11, oX11 t_q)), ((t_q 1), .inr (7, oX7 t_1_q t_1_x0 t_1_x1 t_1_x2 t_1_x3 t_1_x4 t_1_x5 t_1_x6 t_1_x7 t_1_x8)), ((t_q 7), .inr (10, oX10 t_7_q t_7_x0 t_7_x1 (u16a 0))), ((t_7_q 5), .inl (K 0, 12, .inl (fun j => iI ((u16b 0) j)))), ((t_7_q 4), .inl (K 0, 12, .inl (fun j => iI (t_7_4_c j))))] H := hP
    have hD : va_D A [(t, .inr (11, oX11 t_q)), ((t_q 1), .inr (7, oX7 t_1_q t_1_x0 t_1_x1 t_1_x2 t_1_x3 t_1_x4 t_1_x5 t_1_x6 t_1_x7 t_1_x8)), ((t_q 7), .inr (10, oX10 t_7_q t_7_x0 t_7_x1 (u16a 0))), ((t_7_q 5), .inl (K 0, 12, .inl (fun j => iI ((u16b 0) j)))), ((t_7_q 4), .inl (K 0, 12, .inl (fun j => iI (t_7_4_c j))))] := hD
    refine lv_goto (tgt := 24) hx hb dX11_reach_19 (by decide) ?_
    rw [hQ]; exact fn_iret hx hb hr hlocks rfl hP hD hS ((fun k => ([(u16a 0)] : List Int).getD k 0), (fun k => ([(u16b 0)] : List (Nat → Int)).getD k (fun _ => 0))) ⟨kr16, rfl, by omega, (by show 0 ≤ (u16a 0) ∧ (u16a 0) ≤ 4095; omega), (hu16_0), trivial⟩ [0, 1, 2, 3, 4] (by decide) rfl dX11_reach_24
theorem dX11_upon_18 : decode cX11_upon 18 = .ok (.iload_n 3, 1) := by decide +kernel
theorem dX11_upon_19 : decode cX11_upon 19 = .ok (.aload_n 0, 1) := by decide +kernel
theorem dX11_upon_20 : decode cX11_upon 20 = .ok (.getfield 19, 3) := by decide +kernel
theorem dX11_upon_23 : decode cX11_upon 23 = .ok (.getfield 218, 3) := by decide +kernel
theorem dX11_upon_26 : decode cX11_upon 26 = .ok (.if_icmp .ge 26, 3) := by decide +kernel
theorem dX11_upon_52 : decode cX11_upon 52 = .ok (.iload_n 2, 1) := by decide +kernel
theorem dX11_upon_53 : decode cX11_upon 53 = .ok (.ireturn, 1) := by decide +kernel
theorem dX11_upon_29 : decode cX11_upon 29 = .ok (.iload_n 2, 1) := by decide +kernel
theorem dX11_upon_30 : decode cX11_upon 30 = .ok (.aload_n 0, 1) := by decide +kernel
theorem dX11_upon_31 : decode cX11_upon 31 = .ok (.getfield 51, 3) := by decide +kernel
theorem dX11_upon_34 : decode cX11_upon 34 = .ok (.iload_n 3, 1) := by decide +kernel
theorem dX11_upon_35 : decode cX11_upon 35 = .ok (.invokevirtual 215, 3) := by decide +kernel
theorem dX11_upon_38 : decode cX11_upon 38 = .ok (.iload_n 1, 1) := by decide +kernel
theorem dX11_upon_39 : decode cX11_upon 39 = .ok (.ishr, 1) := by decide +kernel
theorem dX11_upon_40 : decode cX11_upon 40 = .ok (.iconst 1, 1) := by decide +kernel
theorem dX11_upon_41 : decode cX11_upon 41 = .ok (.iand, 1) := by decide +kernel
theorem dX11_upon_42 : decode cX11_upon 42 = .ok (.iload_n 3, 1) := by decide +kernel
theorem dX11_upon_43 : decode cX11_upon 43 = .ok (.ishl, 1) := by decide +kernel
theorem dX11_upon_44 : decode cX11_upon 44 = .ok (.ior, 1) := by decide +kernel
theorem dX11_upon_45 : decode cX11_upon 45 = .ok (.istore_n 2, 1) := by decide +kernel
theorem dX11_upon_46 : decode cX11_upon 46 = .ok (.iinc 3 1, 3) := by decide +kernel
theorem dX11_upon_49 : decode cX11_upon 49 = .ok (.goto (-31), 3) := by decide +kernel
theorem dX11_upon_0 : decode cX11_upon 0 = .ok (.aload_n 0, 1) := by decide +kernel
theorem dX11_upon_1 : decode cX11_upon 1 = .ok (.getfield 19, 3) := by decide +kernel
theorem dX11_upon_4 : decode cX11_upon 4 = .ok (.iload_n 1, 1) := by decide +kernel
theorem dX11_upon_5 : decode cX11_upon 5 = .ok (.invokevirtual 130, 3) := by decide +kernel
theorem dX11_upon_8 : decode cX11_upon 8 = .ok (.ifCond .ne 6, 3) := by decide +kernel
theorem dX11_upon_14 : decode cX11_upon 14 = .ok (.iconst 0, 1) := by decide +kernel
theorem dX11_upon_15 : decode cX11_upon 15 = .ok (.istore_n 2, 1) := by decide +kernel
theorem dX11_upon_16 : decode cX11_upon 16 = .ok (.iconst 0, 1) := by decide +kernel
theorem dX11_upon_17 : decode cX11_upon 17 = .ok (.istore_n 3, 1) := by decide +kernel
theorem dX11_upon_11 : decode cX11_upon 11 = .ok (.bipush (-2), 2) := by decide +kernel
theorem dX11_upon_13 : decode cX11_upon 13 = .ok (.ireturn, 1) := by decide +kernel
set_option maxHeartbeats 4000000 in
set_option maxRecDepth 100000 in
theorem k_X11_upon (l : Launch) (D : va_G) (K : Nat → ClassId) (t : Nat) (t_q t_1_q t_7_q : Nat → Nat) (p1 t_1_x0 t_1_x1 t_1_x2 t_1_x3 t_1_x4 t_1_x5 t_1_x6 t_1_x7 t_1_x8 t_7_x0 t_7_x1 t_7_x6 : Int) (t_7_5_c : Nat → Int) (t_7_4_c : Nat → Int) (hp1 : (-2147483648) ≤ p1 ∧ p1 ≤ 2147483647) (hi_t_1 : bX7 t_1_x0 t_1_x1 t_1_x2 t_1_x3 t_1_x4 t_1_x5 t_1_x6 t_1_x7 t_1_x8) (hi_t_7 : bX10 t_7_x0 t_7_x1 t_7_x6) (hc_t_7_5 : ∀ j : Nat, (-1) ≤ t_7_5_c j ∧ t_7_5_c j ≤ 12) (hc_t_7_4 : ∀ j : Nat, 0 ≤ t_7_4_c j ∧ t_7_4_c j ≤ 4095) : fn_CI (S := (Nat → Int) × (Nat → Nat → Int)) l D K yX11_upon (fn_ws yX11_upon cX11_upon 4 (some .int)) ({ frames := 16, cells := 0, slots := 0, locals := 400 } : Room) [.ref t, .int (iI p1)] [(t, .inr (11, oX11 t_q)), ((t_q 1), .inr (7, oX7 t_1_q t_1_x0 t_1_x1 t_1_x2 t_1_x3 t_1_x4 t_1_x5 t_1_x6 t_1_x7 t_1_x8)), ((t_q 7), .inr (10, oX10 t_7_q t_7_x0 t_7_x1 t_7_x6)), ((t_7_q 5), .inl (K 0, 12, .inl (fun j => iI (t_7_5_c j)))), ((t_7_q 4), .inl (K 0, 12, .inl (fun j => iI (t_7_4_c j))))] (fun r u => ∃ k : Int, r = iI k ∧ ((-2147483648) ≤ k ∧ k ≤ 2147483647) ∧ (0 ≤ (u.1 0) ∧ (u.1 0) ≤ 4095) ∧ (∀ j : Nat, (-1) ≤ (u.2 0) j ∧ (u.2 0) j ≤ 12) ∧ True) (fun u => [(t, .inr (11, oX11 t_q)), ((t_q 1), .inr (7, oX7 t_1_q t_1_x0 t_1_x1 t_1_x2 t_1_x3 t_1_x4 t_1_x5 t_1_x6 t_1_x7 t_1_x8)), ((t_q 7), .inr (10, oX10 t_7_q t_7_x0 t_7_x1 (u.1 0))), ((t_7_q 5), .inl (K 0, 12, .inl (fun j => iI ((u.2 0) j)))), ((t_7_q 4), .inl (K 0, 12, .inl (fun j => iI (t_7_4_c j))))]) 0 0 := by
  refine g_inI (cc := cX11_upon) (maxL := 4) (ret := (some .int)) (by decide) rfl (Nat.le_of_ble_eq_true rfl) ?_
  intro p e s m below meth c A ls ag Q B hA hP hD hS hl hQ
  obtain ⟨hx, hb, hr, hml, hts, hown, hlocks, hin, hK⟩ := B
  have hown : s.vm.findClass RX11 = some m.cls := hown
  have hts := fun w h => hts w (List.mem_cons_of_mem _ h)
  have J18 : ∀ (n : Nat) (x18_2 : Int) (x18_3 : Int) (f18_t_7_6 : Int) (c18_t_7_5 : Nat → Int) (H : Heap) (locs : List Loc) (ls : Array Slot), (12 - x18_3).toNat < n → (0 ≤ p1 ∧ p1 ≤ 11 ∧ (-2147483648) ≤ x18_2 ∧ x18_2 ≤ 2147483647 ∧ 0 ≤ x18_3 ∧ x18_3 ≤ 12 ∧ 0 ≤ f18_t_7_6 ∧ f18_t_7_6 ≤ 4095) → (∀ j : Nat, (-1) ≤ c18_t_7_5 j ∧ c18_t_7_5 j ≤ 12) → va_P D vwCl [(t, .inr (11, oX11 t_q)), ((t_q 1), .inr (7, oX7 t_1_q t_1_x0 t_1_x1 t_1_x2 t_1_x3 t_1_x4 t_1_x5 t_1_x6 t_1_x7 t_1_x8)), ((t_q 7), .inr (10, oX10 t_7_q t_7_x0 t_7_x1 f18_t_7_6)), ((t_7_q 5), .inl (K 0, 12, .inl (fun j => iI (c18_t_7_5 j)))), ((t_7_q 4), .inl (K 0, 12, .inl (fun j => iI (t_7_4_c j))))] H → va_D A [(t, .inr (11, oX11 t_q)), ((t_q 1), .inr (7, oX7 t_1_q t_1_x0 t_1_x1 t_1_x2 t_1_x3 t_1_x4 t_1_x5 t_1_x6 t_1_x7 t_1_x8)), ((t_q 7), .inr (10, oX10 t_7_q t_7_x0 t_7_x1 f18_t_7_6)), ((t_7_q 5), .inl (K 0, 12, .inl (fun j => iI (c18_t_7_5 j)))), ((t_7_q 4), .inl (K 0, 12, .inl (fun j => iI (t_7_4_c j))))] → va_S A s.heap H locs → lv_has ls 4 [(0, .ref t), (1, .int (iI p1)), (2, .int (iI x18_2)), (3, .int (iI x18_3))] → W p l e ({ frames := 16, cells := 0, slots := 0, locals := 400 } : Room) s m ag below meth c H locs 0 0 Q (F0 m 18 ls []) := by
    intro n
    induction n with
    | zero =>
      intro x18_2 x18_3 f18_t_7_6 c18_t_7_5 H locs ls hm18 hf18 hc18_t_7_5 hP hD hS hl
      exact absurd hm18 (Nat.not_lt_zero _)
    | succ n ih18 =>
      intro x18_2 x18_3 f18_t_7_6 c18_t_7_5 H locs ls hm18 hf18 hc18_t_7_5 hP hD hS hl
      refine lv_iload_n hx hb dX11_upon_18 rfl (lv_at hl 3 rfl) ?_
      refine lv_aload_n hx hb dX11_upon_19 rfl (lv_at hl 0 rfl) ?_
      refine va_get (D := D) (own := RX11) (ci := 11) (v := .ref (t_q 1)) (C := RX11) (T := TX11) (N := 13) hx hb hts inb_X11 hown hK.1 hP 0 rfl rfl 1 (by decide) (hts _ wd_423) (fun _ h9 => h9) rfl dX11_upon_20 ?_
      refine va_getN (D := D) (own := RX11) (ci := 7) (v := .int (iI t_1_x4)) (C := RX7) (T := TX7) (N := 15) hx hb hts inb_X7 hown hK.1 hP 1 rfl rfl 4 (by decide) (hK.nf 23 rfl) (fun _ h9 => h9) rfl dX11_upon_23 ?_
      have y23_1 : 0 ≤ t_1_x4 ∧ t_1_x4 ≤ 12 := hi_t_1.2.2.2.2.1
      refine g_icmp_ge (tgt := 52) hx hb (by omega) (by omega) dX11_upon_26 (by decide) (fun c26 => ?_) (fun c26 => ?_)
      · refine lv_iload_n hx hb dX11_upon_52 rfl (lv_at hl 2 rfl) ?_
        rw [hQ]; exact fn_iret hx hb hr hlocks rfl hP hD hS ((fun k => ([f18_t_7_6] : List Int).getD k 0), (fun k => ([c18_t_7_5] : List (Nat → Int)).getD k (fun _ => 0))) ⟨x18_2, rfl, by omega, (by show 0 ≤ f18_t_7_6 ∧ f18_t_7_6 ≤ 4095; omega), (hc18_t_7_5), trivial⟩ [0, 1, 2, 3, 4] (by decide) rfl dX11_upon_53
      · refine lv_iload_n hx hb dX11_upon_29 rfl (lv_at hl 2 rfl) ?_
        refine lv_aload_n hx hb dX11_upon_30 rfl (lv_at hl 0 rfl) ?_
        refine va_get (D := D) (own := RX11) (ci := 11) (v := .ref (t_q 7)) (C := RX11) (T := TX11) (N := 13) hx hb hts inb_X11 hown hK.1 hP 0 rfl rfl 7 (by decide) (hts _ wd_429) (fun _ h9 => h9) rfl dX11_upon_31 ?_
        refine lv_iload_n hx hb dX11_upon_34 rfl (lv_at hl 3 rfl) ?_
        refine fn_goi (wc := [((t_q 7), .inr (10, oX10 t_7_q t_7_x0 t_7_x1 f18_t_7_6)), ((t_7_q 5), .inl (K 0, 12, .inl (fun j => iI (c18_t_7_5 j)))), ((t_7_q 4), .inl (K 0, 12, .inl (fun j => iI (t_7_4_c j))))]) (wr := [(t, .inr (11, oX11 t_q)), ((t_q 1), .inr (7, oX7 t_1_q t_1_x0 t_1_x1 t_1_x2 t_1_x3 t_1_x4 t_1_x5 t_1_x6 t_1_x7 t_1_x8))]) hK hP hD hS hA [2, 3, 4] [0, 1] rfl rfl (by decide) (fun hp => va_runVN (C := RX10) (As := [.int (iI x18_3)]) (rest := [.int (iI x18_2)]) ⟨hx, hb, hml, hown, hts⟩ (k_X10_reachedFrom (l := l) (D := D) (K := K) (t := (t_q 7)) (p1 := x18_3) (t_q := t_7_q) (t_x0 := t_7_x0) (t_x1 := t_7_x1) (t_x6 := f18_t_7_6) (t_5_c := c18_t_7_5) (t_4_c := t_7_4_c) (hp1 := (by omega)) (hi_t := ⟨hi_t_7.1, hi_t_7.2.1, (by omega)⟩) (hc_t_5 := hc18_t_7_5) (hc_t_4 := hc_t_7_4) _) ⟨va_cnB (own := RX11) 1 hts (fn_gin wd_763) rfl rfl rfl (hK.nw 119 rfl) (hts _ wd_6) (by decide +kernel) ⟨Nat.le_of_ble_eq_true rfl, Nat.le_of_ble_eq_true rfl⟩, hts _ wd_762, hts _ wp_37⟩ ⟨fn_blind, va_recv hK.1 hP (ci := 10) (q0 := 2) rfl rfl, hp⟩ rfl rfl hl.1 rfl (lv_room (Nat.le_of_ble_eq_true rfl)) dX11_upon_35 ⟨Nat.le_of_ble_eq_true rfl, Nat.le_of_ble_eq_true rfl⟩) (fun r35 u35 H locs hwu35 hP hD hS => ?_)
        obtain ⟨u35a, u35b⟩ := u35
        obtain ⟨kr35, rfl, hkr35, hqu350, hu35_00, -⟩ := hwu35
        have hqu35 : 0 ≤ (u35a 0) ∧ (u35a 0) ≤ 4095 := hqu350
        have hu35_0 : ∀ j : Nat, (-1) ≤ (u35b 0) j ∧ (u35b 0) j ≤ 12 := hu35_00
        clear hqu350 hu35_00
        have hP : va_P D vwCl [(t, .inr (11, oX11 t_q)), ((t_q 1), .inr (7, oX7 t_1_q t_1_x0 t_1_x1 t_1_x2 t_1_x3 t_1_x4 t_1_x5 t_1_x6 t_1_x7 t_1_x8)), ((t_q 7), .inr (10, oX10 t_7_q t_7_x0 t_7_x1 (u35a 0))), ((t_7_q 5), .inl (K 0, 12, .inl (fun j => iI ((u35b 0) j)))), ((t_7_q 4), .inl (K 0, 12, .inl (fun j => iI (t_7_4_c j))))] H := hP
        have hD : va_D A [(t, .inr (11, oX11 t_q)), ((t_q 1), .inr (7, oX7 t_1_q t_1_x0 t_1_x1 t_1_x2 t_1_x3 t_1_x4 t_1_x5 t_1_x6 t_1_x7 t_1_x8)), ((t_q 7), .inr (10, oX10 t_7_q t_7_x0 t_7_x1 (u35a 0))), ((t_7_q 5), .inl (K 0, 12, .inl (fun j => iI ((u35b 0) j)))), ((t_7_q 4), .inl (K 0, 12, .inl (fun j => iI (t_7_4_c j))))] := hD
        refine lv_iload_n hx hb dX11_upon_38 rfl (lv_at hl 1 rfl) ?_
        refine lv_ishr hx hb dX11_upon_39 ?_
        obtain ⟨w39, ew39, hw39⟩ := iI_shr kr35 p1 (by omega) (by omega)
        refine fn_top (iI w39) ew39 ?_
        refine lv_iconst (v := iI 1) hx hb dX11_upon_40 rfl ?_
        refine lv_iand hx hb dX11_upon_41 ?_
        obtain ⟨w41, ew41, hw41⟩ := iI_and1 w39 (by omega)
        refine fn_top (iI w41) ew41 ?_
        refine lv_iload_n hx hb dX11_upon_42 rfl (lv_at hl 3 rfl) ?_
        refine lv_ishl hx hb dX11_upon_43 ?_
        refine g_any (fun w43 hw43 ew43 => ?_)
        refine lv_ior hx hb dX11_upon_44 ?_
        refine g_any (fun w44 hw44 ew44 => ?_)
        refine lv_istore_n (lv' := [(2, .int (iI w44)), (0, .ref t), (1, .int (iI p1)), (3, .int (iI x18_3))]) hx hb dX11_upon_45 rfl hl (by decide) rfl (fun ls hl => ?_)
        refine lv_iinc (v := iI (x18_3 + 1)) (lv' := [(3, .int (iI (x18_3 + 1))), (2, .int (iI w44)), (0, .ref t), (1, .int (iI p1))]) hx hb dX11_upon_46 hl (k := 3) rfl (iI_add _ _) (by decide) rfl (fun ls hl => ?_)
        refine fn_at 49 rfl ?_
        refine lv_goto (tgt := 18) hx hb dX11_upon_49 (by decide) ?_
        exact ih18 w44 (x18_3 + 1) (u35a 0) (u35b 0) _ _ ls (by omega) (by omega) hu35_0 (hP.sub [0, 1, 2, 3, 4] rfl) (hD.sub [0, 1, 2, 3, 4] (by decide) rfl) hS (lv_sub hl [2, 3, 1, 0] rfl)
  have hl : lv_has ls 4 [(0, .ref t), (1, .int (iI p1))] := hl
  refine lv_aload_n hx hb dX11_upon_0 rfl (lv_at hl 0 rfl) ?_
  refine va_get (D := D) (own := RX11) (ci := 11) (v := .ref (t_q 1)) (C := RX11) (T := TX11) (N := 13) hx hb hts inb_X11 hown hK.1 hP 0 rfl rfl 1 (by decide) (hts _ wd_423) (fun _ h9 => h9) rfl dX11_upon_1 ?_
  refine lv_iload_n hx hb dX11_upon_4 rfl (lv_at hl 1 rfl) ?_
  refine fn_goi (wc := [((t_q 1), .inr (7, oX7 t_1_q t_1_x0 t_1_x1 t_1_x2 t_1_x3 t_1_x4 t_1_x5 t_1_x6 t_1_x7 t_1_x8))]) (wr := [(t, .inr (11, oX11 t_q)), ((t_q 7), .inr (10, oX10 t_7_q t_7_x0 t_7_x1 t_7_x6)), ((t_7_q 5), .inl (K 0, 12, .inl (fun j => iI (t_7_5_c j)))), ((t_7_q 4), .inl (K 0, 12, .inl (fun j => iI (t_7_4_c j))))]) hK hP hD hS hA [1] [0, 2, 3, 4] rfl rfl (by decide) (fun hp => va_runVN (C := RX7) (As := [.int (iI p1)]) (rest := []) ⟨hx, hb, hml, hown, hts⟩ (k_X7_hasPage (l := l) (D := D) (K := K) (t := (t_q 1)) (p1 := p1) (t_q := t_1_q) (t_x0 := t_1_x0) (t_x1 := t_1_x1) (t_x2 := t_1_x2) (t_x3 := t_1_x3) (t_x4 := t_1_x4) (t_x5 := t_1_x5) (t_x6 := t_1_x6) (t_x7 := t_1_x7) (t_x8 := t_1_x8) (hp1 := (by omega)) (hi_t := hi_t_1) _) ⟨va_cnB (own := RX11) 1 hts (fn_gin wd_662) rfl rfl rfl (hK.nw 108 rfl) (hts _ wd_4) (by decide +kernel) ⟨Nat.le_of_ble_eq_true rfl, Nat.le_of_ble_eq_true rfl⟩, hts _ wd_661, hts _ wp_25⟩ ⟨fn_blind, va_recv hK.1 hP (ci := 7) (q0 := 1) rfl rfl, hp⟩ rfl rfl hl.1 rfl (lv_room (Nat.le_of_ble_eq_true rfl)) dX11_upon_5 ⟨Nat.le_of_ble_eq_true rfl, Nat.le_of_ble_eq_true rfl⟩) (fun r5 u5 H locs hwu5 hP hD hS => ?_)
  obtain ⟨u5a, u5b⟩ := u5
  obtain ⟨kr5, rfl, hkr5, hqu50, -⟩ := hwu5
  have hqu5 : (kr5 = 1 → 0 ≤ p1 ∧ p1 < t_1_x4 ∧ p1 ≤ 11) := hqu50
  clear hqu50
  have hP : va_P D vwCl [(t, .inr (11, oX11 t_q)), ((t_q 7), .inr (10, oX10 t_7_q t_7_x0 t_7_x1 t_7_x6)), ((t_7_q 5), .inl (K 0, 12, .inl (fun j => iI (t_7_5_c j)))), ((t_7_q 4), .inl (K 0, 12, .inl (fun j => iI (t_7_4_c j)))), ((t_q 1), .inr (7, oX7 t_1_q t_1_x0 t_1_x1 t_1_x2 t_1_x3 t_1_x4 t_1_x5 t_1_x6 t_1_x7 t_1_x8))] H := hP
  have hD : va_D A [(t, .inr (11, oX11 t_q)), ((t_q 7), .inr (10, oX10 t_7_q t_7_x0 t_7_x1 t_7_x6)), ((t_7_q 5), .inl (K 0, 12, .inl (fun j => iI (t_7_5_c j)))), ((t_7_q 4), .inl (K 0, 12, .inl (fun j => iI (t_7_4_c j)))), ((t_q 1), .inr (7, oX7 t_1_q t_1_x0 t_1_x1 t_1_x2 t_1_x3 t_1_x4 t_1_x5 t_1_x6 t_1_x7 t_1_x8))] := hD
  refine g_if_ne (tgt := 14) hx hb (by omega) dX11_upon_8 (by decide) (fun c8 => ?_) (fun c8 => ?_)
  · refine lv_iconst (v := iI 0) hx hb dX11_upon_14 rfl ?_
    refine lv_istore_n (lv' := [(2, .int (iI 0)), (0, .ref t), (1, .int (iI p1))]) hx hb dX11_upon_15 rfl hl (by decide) rfl (fun ls hl => ?_)
    refine lv_iconst (v := iI 0) hx hb dX11_upon_16 rfl ?_
    refine lv_istore_n (lv' := [(3, .int (iI 0)), (2, .int (iI 0)), (0, .ref t), (1, .int (iI p1))]) hx hb dX11_upon_17 rfl hl (by decide) rfl (fun ls hl => ?_)
    have y18_1 : 0 ≤ t_7_x6 ∧ t_7_x6 ≤ 4095 := hi_t_7.2.2
    exact J18 _ 0 0 t_7_x6 t_7_5_c _ _ ls (Nat.lt_succ_self _) (by omega) hc_t_7_5 (hP.sub [0, 4, 1, 2, 3] rfl) (hD.sub [0, 4, 1, 2, 3] (by decide) rfl) hS (lv_sub hl [2, 3, 1, 0] rfl)
  · refine lv_bipush (v := iI (-2)) hx hb dX11_upon_11 (by decide) ?_
    have y13_1 : 0 ≤ t_7_x6 ∧ t_7_x6 ≤ 4095 := hi_t_7.2.2
    rw [hQ]; exact fn_iret hx hb hr hlocks rfl hP hD hS ((fun k => ([t_7_x6] : List Int).getD k 0), (fun k => ([t_7_5_c] : List (Nat → Int)).getD k (fun _ => 0))) ⟨(-2), rfl, by omega, (by show 0 ≤ t_7_x6 ∧ t_7_x6 ≤ 4095; omega), (hc_t_7_5), trivial⟩ [0, 4, 1, 2, 3] (by decide) rfl dX11_upon_13
theorem dX11_rings_14 : decode cX11_rings 14 = .ok (.iload_n 2, 1) := by decide +kernel
theorem dX11_rings_15 : decode cX11_rings 15 = .ok (.aload_n 0, 1) := by decide +kernel
theorem dX11_rings_16 : decode cX11_rings 16 = .ok (.getfield 19, 3) := by decide +kernel
theorem dX11_rings_19 : decode cX11_rings 19 = .ok (.getfield 218, 3) := by decide +kernel
theorem dX11_rings_22 : decode cX11_rings 22 = .ok (.if_icmp .ge 24, 3) := by decide +kernel
theorem dX11_rings_46 : decode cX11_rings 46 = .ok (.iload_n 1, 1) := by decide +kernel
theorem dX11_rings_47 : decode cX11_rings 47 = .ok (.ireturn, 1) := by decide +kernel
theorem dX11_rings_25 : decode cX11_rings 25 = .ok (.iload_n 1, 1) := by decide +kernel
theorem dX11_rings_26 : decode cX11_rings 26 = .ok (.aload_n 0, 1) := by decide +kernel
theorem dX11_rings_27 : decode cX11_rings 27 = .ok (.getfield 51, 3) := by decide +kernel
theorem dX11_rings_30 : decode cX11_rings 30 = .ok (.iload_n 2, 1) := by decide +kernel
theorem dX11_rings_31 : decode cX11_rings 31 = .ok (.invokevirtual 215, 3) := by decide +kernel
theorem dX11_rings_34 : decode cX11_rings 34 = .ok (.iconst 1, 1) := by decide +kernel
theorem dX11_rings_35 : decode cX11_rings 35 = .ok (.iload_n 2, 1) := by decide +kernel
theorem dX11_rings_36 : decode cX11_rings 36 = .ok (.ishl, 1) := by decide +kernel
theorem dX11_rings_37 : decode cX11_rings 37 = .ok (.iand, 1) := by decide +kernel
theorem dX11_rings_38 : decode cX11_rings 38 = .ok (.ior, 1) := by decide +kernel
theorem dX11_rings_39 : decode cX11_rings 39 = .ok (.istore_n 1, 1) := by decide +kernel
theorem dX11_rings_40 : decode cX11_rings 40 = .ok (.iinc 2 1, 3) := by decide +kernel
theorem dX11_rings_43 : decode cX11_rings 43 = .ok (.goto (-29), 3) := by decide +kernel
theorem dX11_rings_0 : decode cX11_rings 0 = .ok (.aload_n 0, 1) := by decide +kernel
theorem dX11_rings_1 : decode cX11_rings 1 = .ok (.invokevirtual 188, 3) := by decide +kernel
theorem dX11_rings_4 : decode cX11_rings 4 = .ok (.ifCond .eq 6, 3) := by decide +kernel
theorem dX11_rings_10 : decode cX11_rings 10 = .ok (.iconst 0, 1) := by decide +kernel
theorem dX11_rings_11 : decode cX11_rings 11 = .ok (.istore_n 1, 1) := by decide +kernel
theorem dX11_rings_12 : decode cX11_rings 12 = .ok (.iconst 0, 1) := by decide +kernel
theorem dX11_rings_13 : decode cX11_rings 13 = .ok (.istore_n 2, 1) := by decide +kernel
theorem dX11_rings_7 : decode cX11_rings 7 = .ok (.bipush (-2), 2) := by decide +kernel
theorem dX11_rings_9 : decode cX11_rings 9 = .ok (.ireturn, 1) := by decide +kernel
set_option maxHeartbeats 4000000 in
set_option maxRecDepth 100000 in
theorem k_X11_rings (l : Launch) (D : va_G) (K : Nat → ClassId) (t : Nat) (t_q t_1_q t_7_q : Nat → Nat) (t_1_x0 t_1_x1 t_1_x2 t_1_x3 t_1_x4 t_1_x5 t_1_x6 t_1_x7 t_1_x8 t_7_x0 t_7_x1 t_7_x6 : Int) (t_7_5_c : Nat → Int) (t_7_4_c : Nat → Int) (hi_t_1 : bX7 t_1_x0 t_1_x1 t_1_x2 t_1_x3 t_1_x4 t_1_x5 t_1_x6 t_1_x7 t_1_x8) (hi_t_7 : bX10 t_7_x0 t_7_x1 t_7_x6) (hc_t_7_5 : ∀ j : Nat, (-1) ≤ t_7_5_c j ∧ t_7_5_c j ≤ 12) (hc_t_7_4 : ∀ j : Nat, 0 ≤ t_7_4_c j ∧ t_7_4_c j ≤ 4095) : fn_CI (S := (Nat → Int) × (Nat → Nat → Int)) l D K yX11_rings (fn_ws yX11_rings cX11_rings 3 (some .int)) ({ frames := 16, cells := 0, slots := 0, locals := 400 } : Room) [.ref t] [(t, .inr (11, oX11 t_q)), ((t_q 1), .inr (7, oX7 t_1_q t_1_x0 t_1_x1 t_1_x2 t_1_x3 t_1_x4 t_1_x5 t_1_x6 t_1_x7 t_1_x8)), ((t_q 7), .inr (10, oX10 t_7_q t_7_x0 t_7_x1 t_7_x6)), ((t_7_q 5), .inl (K 0, 12, .inl (fun j => iI (t_7_5_c j)))), ((t_7_q 4), .inl (K 0, 12, .inl (fun j => iI (t_7_4_c j))))] (fun r u => ∃ k : Int, r = iI k ∧ ((-2) ≤ k ∧ k ≤ 4095) ∧ (0 ≤ (u.1 0) ∧ (u.1 0) ≤ 4095) ∧ (∀ j : Nat, (-1) ≤ (u.2 0) j ∧ (u.2 0) j ≤ 12) ∧ True) (fun u => [(t, .inr (11, oX11 t_q)), ((t_q 1), .inr (7, oX7 t_1_q t_1_x0 t_1_x1 t_1_x2 t_1_x3 t_1_x4 t_1_x5 t_1_x6 t_1_x7 t_1_x8)), ((t_q 7), .inr (10, oX10 t_7_q t_7_x0 t_7_x1 (u.1 0))), ((t_7_q 5), .inl (K 0, 12, .inl (fun j => iI ((u.2 0) j)))), ((t_7_q 4), .inl (K 0, 12, .inl (fun j => iI (t_7_4_c j))))]) 0 0 := by
  refine g_inI (cc := cX11_rings) (maxL := 3) (ret := (some .int)) (by decide) rfl (Nat.le_of_ble_eq_true rfl) ?_
  intro p e s m below meth c A ls ag Q B hA hP hD hS hl hQ
  obtain ⟨hx, hb, hr, hml, hts, hown, hlocks, hin, hK⟩ := B
  have hown : s.vm.findClass RX11 = some m.cls := hown
  have hts := fun w h => hts w (List.mem_cons_of_mem _ h)
  have J14 : ∀ (n : Nat) (x14_1 : Int) (x14_2 : Int) (f14_t_7_6 : Int) (c14_t_7_5 : Nat → Int) (H : Heap) (locs : List Loc) (ls : Array Slot), (12 - x14_2).toNat < n → (0 ≤ x14_1 ∧ x14_1 ≤ 4095 ∧ 0 ≤ x14_2 ∧ x14_2 ≤ 12 ∧ 0 ≤ f14_t_7_6 ∧ f14_t_7_6 ≤ 4095) → (∀ j : Nat, (-1) ≤ c14_t_7_5 j ∧ c14_t_7_5 j ≤ 12) → va_P D vwCl [(t, .inr (11, oX11 t_q)), ((t_q 1), .inr (7, oX7 t_1_q t_1_x0 t_1_x1 t_1_x2 t_1_x3 t_1_x4 t_1_x5 t_1_x6 t_1_x7 t_1_x8)), ((t_q 7), .inr (10, oX10 t_7_q t_7_x0 t_7_x1 f14_t_7_6)), ((t_7_q 5), .inl (K 0, 12, .inl (fun j => iI (c14_t_7_5 j)))), ((t_7_q 4), .inl (K 0, 12, .inl (fun j => iI (t_7_4_c j))))] H → va_D A [(t, .inr (11, oX11 t_q)), ((t_q 1), .inr (7, oX7 t_1_q t_1_x0 t_1_x1 t_1_x2 t_1_x3 t_1_x4 t_1_x5 t_1_x6 t_1_x7 t_1_x8)), ((t_q 7), .inr (10, oX10 t_7_q t_7_x0 t_7_x1 f14_t_7_6)), ((t_7_q 5), .inl (K 0, 12, .inl (fun j => iI (c14_t_7_5 j)))), ((t_7_q 4), .inl (K 0, 12, .inl (fun j => iI (t_7_4_c j))))] → va_S A s.heap H locs → lv_has ls 3 [(0, .ref t), (1, .int (iI x14_1)), (2, .int (iI x14_2))] → W p l e ({ frames := 16, cells := 0, slots := 0, locals := 400 } : Room) s m ag below meth c H locs 0 0 Q (F0 m 14 ls []) := by
    intro n
    induction n with
    | zero =>
      intro x14_1 x14_2 f14_t_7_6 c14_t_7_5 H locs ls hm14 hf14 hc14_t_7_5 hP hD hS hl
      exact absurd hm14 (Nat.not_lt_zero _)
    | succ n ih14 =>
      intro x14_1 x14_2 f14_t_7_6 c14_t_7_5 H locs ls hm14 hf14 hc14_t_7_5 hP hD hS hl
      refine lv_iload_n hx hb dX11_rings_14 rfl (lv_at hl 2 rfl) ?_
      refine lv_aload_n hx hb dX11_rings_15 rfl (lv_at hl 0 rfl) ?_
      refine va_get (D := D) (own := RX11) (ci := 11) (v := .ref (t_q 1)) (C := RX11) (T := TX11) (N := 13) hx hb hts inb_X11 hown hK.1 hP 0 rfl rfl 1 (by decide) (hts _ wd_423) (fun _ h9 => h9) rfl dX11_rings_16 ?_
      refine va_getN (D := D) (own := RX11) (ci := 7) (v := .int (iI t_1_x4)) (C := RX7) (T := TX7) (N := 15) hx hb hts inb_X7 hown hK.1 hP 1 rfl rfl 4 (by decide) (hK.nf 23 rfl) (fun _ h9 => h9) rfl dX11_rings_19 ?_
      have y19_1 : 0 ≤ t_1_x4 ∧ t_1_x4 ≤ 12 := hi_t_1.2.2.2.2.1
      refine g_icmp_ge (tgt := 46) hx hb (by omega) (by omega) dX11_rings_22 (by decide) (fun c22 => ?_) (fun c22 => ?_)
      · refine lv_iload_n hx hb dX11_rings_46 rfl (lv_at hl 1 rfl) ?_
        rw [hQ]; exact fn_iret hx hb hr hlocks rfl hP hD hS ((fun k => ([f14_t_7_6] : List Int).getD k 0), (fun k => ([c14_t_7_5] : List (Nat → Int)).getD k (fun _ => 0))) ⟨x14_1, rfl, by omega, (by show 0 ≤ f14_t_7_6 ∧ f14_t_7_6 ≤ 4095; omega), (hc14_t_7_5), trivial⟩ [0, 1, 2, 3, 4] (by decide) rfl dX11_rings_47
      · refine lv_iload_n hx hb dX11_rings_25 rfl (lv_at hl 1 rfl) ?_
        refine lv_aload_n hx hb dX11_rings_26 rfl (lv_at hl 0 rfl) ?_
        refine va_get (D := D) (own := RX11) (ci := 11) (v := .ref (t_q 7)) (C := RX11) (T := TX11) (N := 13) hx hb hts inb_X11 hown hK.1 hP 0 rfl rfl 7 (by decide) (hts _ wd_429) (fun _ h9 => h9) rfl dX11_rings_27 ?_
        refine lv_iload_n hx hb dX11_rings_30 rfl (lv_at hl 2 rfl) ?_
        refine fn_goi (wc := [((t_q 7), .inr (10, oX10 t_7_q t_7_x0 t_7_x1 f14_t_7_6)), ((t_7_q 5), .inl (K 0, 12, .inl (fun j => iI (c14_t_7_5 j)))), ((t_7_q 4), .inl (K 0, 12, .inl (fun j => iI (t_7_4_c j))))]) (wr := [(t, .inr (11, oX11 t_q)), ((t_q 1), .inr (7, oX7 t_1_q t_1_x0 t_1_x1 t_1_x2 t_1_x3 t_1_x4 t_1_x5 t_1_x6 t_1_x7 t_1_x8))]) hK hP hD hS hA [2, 3, 4] [0, 1] rfl rfl (by decide) (fun hp => va_runVN (C := RX10) (As := [.int (iI x14_2)]) (rest := [.int (iI x14_1)]) ⟨hx, hb, hml, hown, hts⟩ (k_X10_reachedFrom (l := l) (D := D) (K := K) (t := (t_q 7)) (p1 := x14_2) (t_q := t_7_q) (t_x0 := t_7_x0) (t_x1 := t_7_x1) (t_x6 := f14_t_7_6) (t_5_c := c14_t_7_5) (t_4_c := t_7_4_c) (hp1 := (by omega)) (hi_t := ⟨hi_t_7.1, hi_t_7.2.1, (by omega)⟩) (hc_t_5 := hc14_t_7_5) (hc_t_4 := hc_t_7_4) _) ⟨va_cnB (own := RX11) 1 hts (fn_gin wd_763) rfl rfl rfl (hK.nw 119 rfl) (hts _ wd_6) (by decide +kernel) ⟨Nat.le_of_ble_eq_true rfl, Nat.le_of_ble_eq_true rfl⟩, hts _ wd_762, hts _ wp_37⟩ ⟨fn_blind, va_recv hK.1 hP (ci := 10) (q0 := 2) rfl rfl, hp⟩ rfl rfl hl.1 rfl (lv_room (Nat.le_of_ble_eq_true rfl)) dX11_rings_31 ⟨Nat.le_of_ble_eq_true rfl, Nat.le_of_ble_eq_true rfl⟩) (fun r31 u31 H locs hwu31 hP hD hS => ?_)
        obtain ⟨u31a, u31b⟩ := u31
        obtain ⟨kr31, rfl, hkr31, hqu310, hu31_00, -⟩ := hwu31
        have hqu31 : 0 ≤ (u31a 0) ∧ (u31a 0) ≤ 4095 := hqu310
        have hu31_0 : ∀ j : Nat, (-1) ≤ (u31b 0) j ∧ (u31b 0) j ≤ 12 := hu31_00
        clear hqu310 hu31_00
        have hP : va_P D vwCl [(t, .inr (11, oX11 t_q)), ((t_q 1), .inr (7, oX7 t_1_q t_1_x0 t_1_x1 t_1_x2 t_1_x3 t_1_x4 t_1_x5 t_1_x6 t_1_x7 t_1_x8)), ((t_q 7), .inr (10, oX10 t_7_q t_7_x0 t_7_x1 (u31a 0))), ((t_7_q 5), .inl (K 0, 12, .inl (fun j => iI ((u31b 0) j)))), ((t_7_q 4), .inl (K 0, 12, .inl (fun j => iI (t_7_4_c j))))] H := hP
        have hD : va_D A [(t, .inr (11, oX11 t_q)), ((t_q 1), .inr (7, oX7 t_1_q t_1_x0 t_1_x1 t_1_x2 t_1_x3 t_1_x4 t_1_x5 t_1_x6 t_1_x7 t_1_x8)), ((t_q 7), .inr (10, oX10 t_7_q t_7_x0 t_7_x1 (u31a 0))), ((t_7_q 5), .inl (K 0, 12, .inl (fun j => iI ((u31b 0) j)))), ((t_7_q 4), .inl (K 0, 12, .inl (fun j => iI (t_7_4_c j))))] := hD
        refine lv_iconst (v := iI 1) hx hb dX11_rings_34 rfl ?_
        refine lv_iload_n hx hb dX11_rings_35 rfl (lv_at hl 2 rfl) ?_
        refine lv_ishl hx hb dX11_rings_36 ?_
        obtain ⟨w36, ew36, hw36⟩ := iI_shl1 11 x14_2 (by omega) (by omega) (by decide)
        refine fn_top (iI w36) ew36 ?_
        refine lv_iand hx hb dX11_rings_37 ?_
        obtain ⟨w37, ew37, hw37⟩ := iI_and kr31 w36 (by omega)
        refine fn_top (iI w37) ew37 ?_
        refine lv_ior hx hb dX11_rings_38 ?_
        obtain ⟨w38, ew38, hw38⟩ := iI_or 12 x14_1 w37 (by omega) (by omega) (by decide)
        refine fn_top (iI w38) ew38 ?_
        refine lv_istore_n (lv' := [(1, .int (iI w38)), (0, .ref t), (2, .int (iI x14_2))]) hx hb dX11_rings_39 rfl hl (by decide) rfl (fun ls hl => ?_)
        refine lv_iinc (v := iI (x14_2 + 1)) (lv' := [(2, .int (iI (x14_2 + 1))), (1, .int (iI w38)), (0, .ref t)]) hx hb dX11_rings_40 hl (k := 2) rfl (iI_add _ _) (by decide) rfl (fun ls hl => ?_)
        refine lv_goto (tgt := 14) hx hb dX11_rings_43 (by decide) ?_
        exact ih14 w38 (x14_2 + 1) (u31a 0) (u31b 0) _ _ ls (by omega) (by omega) hu31_0 (hP.sub [0, 1, 2, 3, 4] rfl) (hD.sub [0, 1, 2, 3, 4] (by decide) rfl) hS (lv_sub hl [2, 1, 0] rfl)
  have hl : lv_has ls 3 [(0, .ref t)] := hl
  refine lv_aload_n hx hb dX11_rings_0 rfl (lv_at hl 0 rfl) ?_
  refine fn_goi (wc := [(t, .inr (11, oX11 t_q)), ((t_q 1), .inr (7, oX7 t_1_q t_1_x0 t_1_x1 t_1_x2 t_1_x3 t_1_x4 t_1_x5 t_1_x6 t_1_x7 t_1_x8))]) (wr := [((t_q 7), .inr (10, oX10 t_7_q t_7_x0 t_7_x1 t_7_x6)), ((t_7_q 5), .inl (K 0, 12, .inl (fun j => iI (t_7_5_c j)))), ((t_7_q 4), .inl (K 0, 12, .inl (fun j => iI (t_7_4_c j))))]) hK hP hD hS hA [0, 1] [2, 3, 4] rfl rfl (by decide) (fun hp => va_runV (C := RX11) (As := []) (rest := []) ⟨hx, hb, hml, hown, hts⟩ (k_X11_noTown (l := l) (D := D) (K := K) (t := t) (t_q := t_q) (t_1_q := t_1_q) (t_1_x0 := t_1_x0) (t_1_x1 := t_1_x1) (t_1_x2 := t_1_x2) (t_1_x3 := t_1_x3) (t_1_x4 := t_1_x4) (t_1_x5 := t_1_x5) (t_1_x6 := t_1_x6) (t_1_x7 := t_1_x7) (t_1_x8 := t_1_x8) (hi_t_1 := hi_t_1) _) (cwV 0 hts (fn_ginV (fn_gin wd_709) wd_706 wd_708 wp_30 wd_1) rfl rfl rfl (by decide +kernel) ⟨Nat.le_of_ble_eq_true rfl, Nat.le_of_ble_eq_true rfl⟩) ⟨fn_blind, va_recv hK.1 hP (ci := 11) (q0 := 0) rfl rfl, hp⟩ rfl rfl hl.1 rfl (lv_room (Nat.le_of_ble_eq_true rfl)) dX11_rings_1 ⟨Nat.le_of_ble_eq_true rfl, Nat.le_of_ble_eq_true rfl⟩) (fun r1 u1 H locs hwu1 hP hD hS => ?_)
  obtain ⟨u1a, u1b⟩ := u1
  obtain ⟨kr1, rfl, hkr1, -⟩ := hwu1
  have hP : va_P D vwCl [((t_q 7), .inr (10, oX10 t_7_q t_7_x0 t_7_x1 t_7_x6)), ((t_7_q 5), .inl (K 0, 12, .inl (fun j => iI (t_7_5_c j)))), ((t_7_q 4), .inl (K 0, 12, .inl (fun j => iI (t_7_4_c j)))), (t, .inr (11, oX11 t_q)), ((t_q 1), .inr (7, oX7 t_1_q t_1_x0 t_1_x1 t_1_x2 t_1_x3 t_1_x4 t_1_x5 t_1_x6 t_1_x7 t_1_x8))] H := hP
  have hD : va_D A [((t_q 7), .inr (10, oX10 t_7_q t_7_x0 t_7_x1 t_7_x6)), ((t_7_q 5), .inl (K 0, 12, .inl (fun j => iI (t_7_5_c j)))), ((t_7_q 4), .inl (K 0, 12, .inl (fun j => iI (t_7_4_c j)))), (t, .inr (11, oX11 t_q)), ((t_q 1), .inr (7, oX7 t_1_q t_1_x0 t_1_x1 t_1_x2 t_1_x3 t_1_x4 t_1_x5 t_1_x6 t_1_x7 t_1_x8))] := hD
  refine g_if_eq (tgt := 10) hx hb (by omega) dX11_rings_4 (by decide) (fun c4 => ?_) (fun c4 => ?_)
  · refine lv_iconst (v := iI 0) hx hb dX11_rings_10 rfl ?_
    refine lv_istore_n (lv' := [(1, .int (iI 0)), (0, .ref t)]) hx hb dX11_rings_11 rfl hl (by decide) rfl (fun ls hl => ?_)
    refine lv_iconst (v := iI 0) hx hb dX11_rings_12 rfl ?_
    refine lv_istore_n (lv' := [(2, .int (iI 0)), (1, .int (iI 0)), (0, .ref t)]) hx hb dX11_rings_13 rfl hl (by decide) rfl (fun ls hl => ?_)
    have y14_1 : 0 ≤ t_7_x6 ∧ t_7_x6 ≤ 4095 := hi_t_7.2.2
    exact J14 _ 0 0 t_7_x6 t_7_5_c _ _ ls (Nat.lt_succ_self _) (by omega) hc_t_7_5 (hP.sub [3, 4, 0, 1, 2] rfl) (hD.sub [3, 4, 0, 1, 2] (by decide) rfl) hS (lv_sub hl [2, 1, 0] rfl)
  · refine lv_bipush (v := iI (-2)) hx hb dX11_rings_7 (by decide) ?_
    have y9_1 : 0 ≤ t_7_x6 ∧ t_7_x6 ≤ 4095 := hi_t_7.2.2
    rw [hQ]; exact fn_iret hx hb hr hlocks rfl hP hD hS ((fun k => ([t_7_x6] : List Int).getD k 0), (fun k => ([t_7_5_c] : List (Nat → Int)).getD k (fun _ => 0))) ⟨(-2), rfl, by omega, (by show 0 ≤ t_7_x6 ∧ t_7_x6 ≤ 4095; omega), (hc_t_7_5), trivial⟩ [3, 4, 0, 1, 2] (by decide) rfl dX11_rings_9
theorem dX11_round_0 : decode cX11_round 0 = .ok (.aload_n 0, 1) := by decide +kernel
theorem dX11_round_1 : decode cX11_round 1 = .ok (.getfield 19, 3) := by decide +kernel
theorem dX11_round_4 : decode cX11_round 4 = .ok (.iload_n 1, 1) := by decide +kernel
theorem dX11_round_5 : decode cX11_round 5 = .ok (.invokevirtual 130, 3) := by decide +kernel
theorem dX11_round_8 : decode cX11_round 8 = .ok (.ifCond .ne 6, 3) := by decide +kernel
theorem dX11_round_14 : decode cX11_round 14 = .ok (.aload_n 0, 1) := by decide +kernel
theorem dX11_round_15 : decode cX11_round 15 = .ok (.getfield 51, 3) := by decide +kernel
theorem dX11_round_18 : decode cX11_round 18 = .ok (.iload_n 1, 1) := by decide +kernel
theorem dX11_round_19 : decode cX11_round 19 = .ok (.invokevirtual 221, 3) := by decide +kernel
theorem dX11_round_22 : decode cX11_round 22 = .ok (.aload_n 0, 1) := by decide +kernel
theorem dX11_round_23 : decode cX11_round 23 = .ok (.getfield 51, 3) := by decide +kernel
theorem dX11_round_26 : decode cX11_round 26 = .ok (.getfield 224, 3) := by decide +kernel
theorem dX11_round_29 : decode cX11_round 29 = .ok (.iload_n 1, 1) := by decide +kernel
theorem dX11_round_30 : decode cX11_round 30 = .ok (.iaload, 1) := by decide +kernel
theorem dX11_round_31 : decode cX11_round 31 = .ok (.ireturn, 1) := by decide +kernel
theorem dX11_round_11 : decode cX11_round 11 = .ok (.bipush (-2), 2) := by decide +kernel
theorem dX11_round_13 : decode cX11_round 13 = .ok (.ireturn, 1) := by decide +kernel
set_option maxHeartbeats 4000000 in
set_option maxRecDepth 100000 in
theorem k_X11_round (l : Launch) (D : va_G) (K : Nat → ClassId) (t : Nat) (t_q t_1_q t_7_q : Nat → Nat) (p1 t_1_x0 t_1_x1 t_1_x2 t_1_x3 t_1_x4 t_1_x5 t_1_x6 t_1_x7 t_1_x8 t_7_x0 t_7_x1 t_7_x6 : Int) (t_7_5_c : Nat → Int) (t_7_4_c : Nat → Int) (hp1 : (-2147483648) ≤ p1 ∧ p1 ≤ 2147483647) (hi_t_1 : bX7 t_1_x0 t_1_x1 t_1_x2 t_1_x3 t_1_x4 t_1_x5 t_1_x6 t_1_x7 t_1_x8) (hi_t_7 : bX10 t_7_x0 t_7_x1 t_7_x6) (hc_t_7_5 : ∀ j : Nat, (-1) ≤ t_7_5_c j ∧ t_7_5_c j ≤ 12) (hc_t_7_4 : ∀ j : Nat, 0 ≤ t_7_4_c j ∧ t_7_4_c j ≤ 4095) : fn_CI (S := (Nat → Int) × (Nat → Nat → Int)) l D K yX11_round (fn_ws yX11_round cX11_round 2 (some .int)) ({ frames := 12, cells := 0, slots := 0, locals := 300 } : Room) [.ref t, .int (iI p1)] [(t, .inr (11, oX11 t_q)), ((t_q 1), .inr (7, oX7 t_1_q t_1_x0 t_1_x1 t_1_x2 t_1_x3 t_1_x4 t_1_x5 t_1_x6 t_1_x7 t_1_x8)), ((t_q 7), .inr (10, oX10 t_7_q t_7_x0 t_7_x1 t_7_x6)), ((t_7_q 5), .inl (K 0, 12, .inl (fun j => iI (t_7_5_c j)))), ((t_7_q 4), .inl (K 0, 12, .inl (fun j => iI (t_7_4_c j))))] (fun r u => ∃ k : Int, r = iI k ∧ ((-2) ≤ k ∧ k ≤ 12) ∧ (0 ≤ (u.1 0) ∧ (u.1 0) ≤ 4095) ∧ (∀ j : Nat, (-1) ≤ (u.2 0) j ∧ (u.2 0) j ≤ 12) ∧ True) (fun u => [(t, .inr (11, oX11 t_q)), ((t_q 1), .inr (7, oX7 t_1_q t_1_x0 t_1_x1 t_1_x2 t_1_x3 t_1_x4 t_1_x5 t_1_x6 t_1_x7 t_1_x8)), ((t_q 7), .inr (10, oX10 t_7_q t_7_x0 t_7_x1 (u.1 0))), ((t_7_q 5), .inl (K 0, 12, .inl (fun j => iI ((u.2 0) j)))), ((t_7_q 4), .inl (K 0, 12, .inl (fun j => iI (t_7_4_c j))))]) 0 0 := by
  refine g_inI (cc := cX11_round) (maxL := 2) (ret := (some .int)) (by decide) rfl (Nat.le_of_ble_eq_true rfl) ?_
  intro p e s m below meth c A ls ag Q B hA hP hD hS hl hQ
  obtain ⟨hx, hb, hr, hml, hts, hown, hlocks, hin, hK⟩ := B
  have hown : s.vm.findClass RX11 = some m.cls := hown
  have hts := fun w h => hts w (List.mem_cons_of_mem _ h)
  have hl : lv_has ls 2 [(0, .ref t), (1, .int (iI p1))] := hl
  refine lv_aload_n hx hb dX11_round_0 rfl (lv_at hl 0 rfl) ?_
  refine va_get (D := D) (own := RX11) (ci := 11) (v := .ref (t_q 1)) (C := RX11) (T := TX11) (N := 13) hx hb hts inb_X11 hown hK.1 hP 0 rfl rfl 1 (by decide) (hts _ wd_423) (fun _ h9 => h9) rfl dX11_round_1 ?_
  refine lv_iload_n hx hb dX11_round_4 rfl (lv_at hl 1 rfl) ?_
  refine fn_goi (wc := [((t_q 1), .inr (7, oX7 t_1_q t_1_x0 t_1_x1 t_1_x2 t_1_x3 t_1_x4 t_1_x5 t_1_x6 t_1_x7 t_1_x8))]) (wr := [(t, .inr (11, oX11 t_q)), ((t_q 7), .inr (10, oX10 t_7_q t_7_x0 t_7_x1 t_7_x6)), ((t_7_q 5), .inl (K 0, 12, .inl (fun j => iI (t_7_5_c j)))), ((t_7_q 4), .inl (K 0, 12, .inl (fun j => iI (t_7_4_c j))))]) hK hP hD hS hA [1] [0, 2, 3, 4] rfl rfl (by decide) (fun hp => va_runVN (C := RX7) (As := [.int (iI p1)]) (rest := []) ⟨hx, hb, hml, hown, hts⟩ (k_X7_hasPage (l := l) (D := D) (K := K) (t := (t_q 1)) (p1 := p1) (t_q := t_1_q) (t_x0 := t_1_x0) (t_x1 := t_1_x1) (t_x2 := t_1_x2) (t_x3 := t_1_x3) (t_x4 := t_1_x4) (t_x5 := t_1_x5) (t_x6 := t_1_x6) (t_x7 := t_1_x7) (t_x8 := t_1_x8) (hp1 := (by omega)) (hi_t := hi_t_1) _) ⟨va_cnB (own := RX11) 1 hts (fn_gin wd_662) rfl rfl rfl (hK.nw 108 rfl) (hts _ wd_4) (by decide +kernel) ⟨Nat.le_of_ble_eq_true rfl, Nat.le_of_ble_eq_true rfl⟩, hts _ wd_661, hts _ wp_25⟩ ⟨fn_blind, va_recv hK.1 hP (ci := 7) (q0 := 1) rfl rfl, hp⟩ rfl rfl hl.1 rfl (lv_room (Nat.le_of_ble_eq_true rfl)) dX11_round_5 ⟨Nat.le_of_ble_eq_true rfl, Nat.le_of_ble_eq_true rfl⟩) (fun r5 u5 H locs hwu5 hP hD hS => ?_)
  obtain ⟨u5a, u5b⟩ := u5
  obtain ⟨kr5, rfl, hkr5, hqu50, -⟩ := hwu5
  have hqu5 : (kr5 = 1 → 0 ≤ p1 ∧ p1 < t_1_x4 ∧ p1 ≤ 11) := hqu50
  clear hqu50
  have hP : va_P D vwCl [(t, .inr (11, oX11 t_q)), ((t_q 7), .inr (10, oX10 t_7_q t_7_x0 t_7_x1 t_7_x6)), ((t_7_q 5), .inl (K 0, 12, .inl (fun j => iI (t_7_5_c j)))), ((t_7_q 4), .inl (K 0, 12, .inl (fun j => iI (t_7_4_c j)))), ((t_q 1), .inr (7, oX7 t_1_q t_1_x0 t_1_x1 t_1_x2 t_1_x3 t_1_x4 t_1_x5 t_1_x6 t_1_x7 t_1_x8))] H := hP
  have hD : va_D A [(t, .inr (11, oX11 t_q)), ((t_q 7), .inr (10, oX10 t_7_q t_7_x0 t_7_x1 t_7_x6)), ((t_7_q 5), .inl (K 0, 12, .inl (fun j => iI (t_7_5_c j)))), ((t_7_q 4), .inl (K 0, 12, .inl (fun j => iI (t_7_4_c j)))), ((t_q 1), .inr (7, oX7 t_1_q t_1_x0 t_1_x1 t_1_x2 t_1_x3 t_1_x4 t_1_x5 t_1_x6 t_1_x7 t_1_x8))] := hD
  refine g_if_ne (tgt := 14) hx hb (by omega) dX11_round_8 (by decide) (fun c8 => ?_) (fun c8 => ?_)
  · refine lv_aload_n hx hb dX11_round_14 rfl (lv_at hl 0 rfl) ?_
    refine va_get (D := D) (own := RX11) (ci := 11) (v := .ref (t_q 7)) (C := RX11) (T := TX11) (N := 13) hx hb hts inb_X11 hown hK.1 hP 0 rfl rfl 7 (by decide) (hts _ wd_429) (fun _ h9 => h9) rfl dX11_round_15 ?_
    refine lv_iload_n hx hb dX11_round_18 rfl (lv_at hl 1 rfl) ?_
    refine fn_gov (wc := [((t_q 7), .inr (10, oX10 t_7_q t_7_x0 t_7_x1 t_7_x6)), ((t_7_q 5), .inl (K 0, 12, .inl (fun j => iI (t_7_5_c j)))), ((t_7_q 4), .inl (K 0, 12, .inl (fun j => iI (t_7_4_c j))))]) (wr := [(t, .inr (11, oX11 t_q)), ((t_q 1), .inr (7, oX7 t_1_q t_1_x0 t_1_x1 t_1_x2 t_1_x3 t_1_x4 t_1_x5 t_1_x6 t_1_x7 t_1_x8))]) hK hP hD hS hA [1, 2, 3] [0, 4] rfl rfl (by decide) (fun hp => va_runVN (C := RX10) (As := [.int (iI p1)]) (rest := []) ⟨hx, hb, hml, hown, hts⟩ (k_X10_walkFrom (l := l) (D := D) (K := K) (t := (t_q 7)) (p1 := p1) (t_q := t_7_q) (t_x0 := t_7_x0) (t_x1 := t_7_x1) (t_x6 := t_7_x6) (t_5_c := t_7_5_c) (t_4_c := t_7_4_c) (hp1 := (by omega)) (hi_t := hi_t_7) (hc_t_5 := hc_t_7_5) (hc_t_4 := hc_t_7_4) _) ⟨va_cnB (own := RX11) 1 hts (fn_gin wd_767) rfl rfl rfl (hK.nw 120 rfl) (hts _ wd_6) (by decide +kernel) ⟨Nat.le_of_ble_eq_true rfl, Nat.le_of_ble_eq_true rfl⟩, hts _ wd_766, hts _ wp_38⟩ ⟨fn_blind, va_recv hK.1 hP (ci := 10) (q0 := 1) rfl rfl, hp⟩ rfl rfl hl.1 rfl (lv_room (Nat.le_of_ble_eq_true rfl)) dX11_round_19 ⟨Nat.le_of_ble_eq_true rfl, Nat.le_of_ble_eq_true rfl⟩) (fun u19 H locs hwu19 hP hD hS => ?_)
    obtain ⟨u19a, u19b⟩ := u19
    obtain ⟨hqu190, hu19_00, -⟩ := hwu19
    have hqu19 : 0 ≤ (u19a 0) ∧ (u19a 0) ≤ 4095 := hqu190
    have hu19_0 : ∀ j : Nat, (-1) ≤ (u19b 0) j ∧ (u19b 0) j ≤ 12 := hu19_00
    clear hqu190 hu19_00
    have hP : va_P D vwCl [(t, .inr (11, oX11 t_q)), ((t_q 1), .inr (7, oX7 t_1_q t_1_x0 t_1_x1 t_1_x2 t_1_x3 t_1_x4 t_1_x5 t_1_x6 t_1_x7 t_1_x8)), ((t_q 7), .inr (10, oX10 t_7_q t_7_x0 t_7_x1 (u19a 0))), ((t_7_q 5), .inl (K 0, 12, .inl (fun j => iI ((u19b 0) j)))), ((t_7_q 4), .inl (K 0, 12, .inl (fun j => iI (t_7_4_c j))))] H := hP
    have hD : va_D A [(t, .inr (11, oX11 t_q)), ((t_q 1), .inr (7, oX7 t_1_q t_1_x0 t_1_x1 t_1_x2 t_1_x3 t_1_x4 t_1_x5 t_1_x6 t_1_x7 t_1_x8)), ((t_q 7), .inr (10, oX10 t_7_q t_7_x0 t_7_x1 (u19a 0))), ((t_7_q 5), .inl (K 0, 12, .inl (fun j => iI ((u19b 0) j)))), ((t_7_q 4), .inl (K 0, 12, .inl (fun j => iI (t_7_4_c j))))] := hD
    refine lv_aload_n hx hb dX11_round_22 rfl (lv_at hl 0 rfl) ?_
    refine va_get (D := D) (own := RX11) (ci := 11) (v := .ref (t_q 7)) (C := RX11) (T := TX11) (N := 13) hx hb hts inb_X11 hown hK.1 hP 0 rfl rfl 7 (by decide) (hts _ wd_429) (fun _ h9 => h9) rfl dX11_round_23 ?_
    refine va_getN (D := D) (own := RX11) (ci := 10) (v := .ref (t_7_q 5)) (C := RX10) (T := TX10) (N := 7) hx hb hts inb_X10 hown hK.1 hP 2 rfl rfl 5 (by decide) (hK.nf 71 rfl) (fun _ h9 => h9) rfl dX11_round_26 ?_
    refine lv_iload_n hx hb dX11_round_29 rfl (lv_at hl 1 rfl) ?_
    refine g_iald hx hb hK.1 hP 3 0 rfl rfl (by omega) (by omega) (by decide) dX11_round_30 ?_
    have y30 : (-1) ≤ ((u19b 0) p1.toNat) ∧ ((u19b 0) p1.toNat) ≤ 12 := hu19_0 p1.toNat
    rw [hQ]; exact fn_iret hx hb hr hlocks rfl hP hD hS ((fun k => ([(u19a 0)] : List Int).getD k 0), (fun k => ([(u19b 0)] : List (Nat → Int)).getD k (fun _ => 0))) ⟨(u19b 0) p1.toNat, rfl, by omega, (by show 0 ≤ (u19a 0) ∧ (u19a 0) ≤ 4095; omega), (hu19_0), trivial⟩ [0, 1, 2, 3, 4] (by decide) rfl dX11_round_31
  · refine lv_bipush (v := iI (-2)) hx hb dX11_round_11 (by decide) ?_
    have y13_1 : 0 ≤ t_7_x6 ∧ t_7_x6 ≤ 4095 := hi_t_7.2.2
    rw [hQ]; exact fn_iret hx hb hr hlocks rfl hP hD hS ((fun k => ([t_7_x6] : List Int).getD k 0), (fun k => ([t_7_5_c] : List (Nat → Int)).getD k (fun _ => 0))) ⟨(-2), rfl, by omega, (by show 0 ≤ t_7_x6 ∧ t_7_x6 ≤ 4095; omega), (hc_t_7_5), trivial⟩ [0, 4, 1, 2, 3] (by decide) rfl dX11_round_13
theorem wd_771 : Cond.code ⟨"FootNotes", "upon", "(I)I"⟩ prog_1_method_22_code 4 (Option.some Jvm.ClassFile.FieldType.int) ∈ fn_big := fn_tb (fn_l4 (List.mem_of_getElem? (i := 51) (by decide +kernel))) (by decide +kernel)
theorem wd_785 : Cond.methodLink "FootNotes" 227 ⟨"FootNotes", "upon", "(I)I"⟩ ∈ fn_big := fn_tb (fn_l4 (List.mem_of_getElem? (i := 65) (by decide +kernel))) (by decide +kernel)
theorem wd_769 : Cond.instanceMethod ⟨"FootNotes", "upon", "(I)I"⟩ ∈ fn_big := fn_tb (fn_l4 (List.mem_of_getElem? (i := 49) (by decide +kernel))) (by decide +kernel)
theorem wd_770 : Cond.selects "FootNotes" ⟨"FootNotes", "upon", "(I)I"⟩ ⟨"FootNotes", "upon", "(I)I"⟩ ∈ fn_big := fn_tb (fn_l4 (List.mem_of_getElem? (i := 50) (by decide +kernel))) (by decide +kernel)
theorem dX11_ring_0 : decode cX11_ring 0 = .ok (.aload_n 0, 1) := by decide +kernel
theorem dX11_ring_1 : decode cX11_ring 1 = .ok (.getfield 19, 3) := by decide +kernel
theorem dX11_ring_4 : decode cX11_ring 4 = .ok (.iload_n 1, 1) := by decide +kernel
theorem dX11_ring_5 : decode cX11_ring 5 = .ok (.invokevirtual 130, 3) := by decide +kernel
theorem dX11_ring_8 : decode cX11_ring 8 = .ok (.ifCond .ne 6, 3) := by decide +kernel
theorem dX11_ring_14 : decode cX11_ring 14 = .ok (.aload_n 0, 1) := by decide +kernel
theorem dX11_ring_15 : decode cX11_ring 15 = .ok (.getfield 51, 3) := by decide +kernel
theorem dX11_ring_18 : decode cX11_ring 18 = .ok (.iload_n 1, 1) := by decide +kernel
theorem dX11_ring_19 : decode cX11_ring 19 = .ok (.invokevirtual 215, 3) := by decide +kernel
theorem dX11_ring_22 : decode cX11_ring 22 = .ok (.aload_n 0, 1) := by decide +kernel
theorem dX11_ring_23 : decode cX11_ring 23 = .ok (.iload_n 1, 1) := by decide +kernel
theorem dX11_ring_24 : decode cX11_ring 24 = .ok (.invokevirtual 227, 3) := by decide +kernel
theorem dX11_ring_27 : decode cX11_ring 27 = .ok (.iand, 1) := by decide +kernel
theorem dX11_ring_28 : decode cX11_ring 28 = .ok (.ireturn, 1) := by decide +kernel
theorem dX11_ring_11 : decode cX11_ring 11 = .ok (.bipush (-2), 2) := by decide +kernel
theorem dX11_ring_13 : decode cX11_ring 13 = .ok (.ireturn, 1) := by decide +kernel
set_option maxHeartbeats 4000000 in
set_option maxRecDepth 100000 in
theorem k_X11_ring (l : Launch) (D : va_G) (K : Nat → ClassId) (t : Nat) (t_q t_1_q t_7_q : Nat → Nat) (p1 t_1_x0 t_1_x1 t_1_x2 t_1_x3 t_1_x4 t_1_x5 t_1_x6 t_1_x7 t_1_x8 t_7_x0 t_7_x1 t_7_x6 : Int) (t_7_5_c : Nat → Int) (t_7_4_c : Nat → Int) (hp1 : (-2147483648) ≤ p1 ∧ p1 ≤ 2147483647) (hi_t_1 : bX7 t_1_x0 t_1_x1 t_1_x2 t_1_x3 t_1_x4 t_1_x5 t_1_x6 t_1_x7 t_1_x8) (hi_t_7 : bX10 t_7_x0 t_7_x1 t_7_x6) (hc_t_7_5 : ∀ j : Nat, (-1) ≤ t_7_5_c j ∧ t_7_5_c j ≤ 12) (hc_t_7_4 : ∀ j : Nat, 0 ≤ t_7_4_c j ∧ t_7_4_c j ≤ 4095) : fn_CI (S := (Nat → Int) × (Nat → Nat → Int)) l D K yX11_ring (fn_ws yX11_ring cX11_ring 2 (some .int)) ({ frames := 20, cells := 0, slots := 0, locals := 500 } : Room) [.ref t, .int (iI p1)] [(t, .inr (11, oX11 t_q)), ((t_q 1), .inr (7, oX7 t_1_q t_1_x0 t_1_x1 t_1_x2 t_1_x3 t_1_x4 t_1_x5 t_1_x6 t_1_x7 t_1_x8)), ((t_q 7), .inr (10, oX10 t_7_q t_7_x0 t_7_x1 t_7_x6)), ((t_7_q 5), .inl (K 0, 12, .inl (fun j => iI (t_7_5_c j)))), ((t_7_q 4), .inl (K 0, 12, .inl (fun j => iI (t_7_4_c j))))] (fun r u => ∃ k : Int, r = iI k ∧ ((-2) ≤ k ∧ k ≤ 4095) ∧ (0 ≤ (u.1 0) ∧ (u.1 0) ≤ 4095) ∧ (∀ j : Nat, (-1) ≤ (u.2 0) j ∧ (u.2 0) j ≤ 12) ∧ True) (fun u => [(t, .inr (11, oX11 t_q)), ((t_q 1), .inr (7, oX7 t_1_q t_1_x0 t_1_x1 t_1_x2 t_1_x3 t_1_x4 t_1_x5 t_1_x6 t_1_x7 t_1_x8)), ((t_q 7), .inr (10, oX10 t_7_q t_7_x0 t_7_x1 (u.1 0))), ((t_7_q 5), .inl (K 0, 12, .inl (fun j => iI ((u.2 0) j)))), ((t_7_q 4), .inl (K 0, 12, .inl (fun j => iI (t_7_4_c j))))]) 0 0 := by
  refine g_inI (cc := cX11_ring) (maxL := 2) (ret := (some .int)) (by decide) rfl (Nat.le_of_ble_eq_true rfl) ?_
  intro p e s m below meth c A ls ag Q B hA hP hD hS hl hQ
  obtain ⟨hx, hb, hr, hml, hts, hown, hlocks, hin, hK⟩ := B
  have hown : s.vm.findClass RX11 = some m.cls := hown
  have hts := fun w h => hts w (List.mem_cons_of_mem _ h)
  have hl : lv_has ls 2 [(0, .ref t), (1, .int (iI p1))] := hl
  refine lv_aload_n hx hb dX11_ring_0 rfl (lv_at hl 0 rfl) ?_
  refine va_get (D := D) (own := RX11) (ci := 11) (v := .ref (t_q 1)) (C := RX11) (T := TX11) (N := 13) hx hb hts inb_X11 hown hK.1 hP 0 rfl rfl 1 (by decide) (hts _ wd_423) (fun _ h9 => h9) rfl dX11_ring_1 ?_
  refine lv_iload_n hx hb dX11_ring_4 rfl (lv_at hl 1 rfl) ?_
  refine fn_goi (wc := [((t_q 1), .inr (7, oX7 t_1_q t_1_x0 t_1_x1 t_1_x2 t_1_x3 t_1_x4 t_1_x5 t_1_x6 t_1_x7 t_1_x8))]) (wr := [(t, .inr (11, oX11 t_q)), ((t_q 7), .inr (10, oX10 t_7_q t_7_x0 t_7_x1 t_7_x6)), ((t_7_q 5), .inl (K 0, 12, .inl (fun j => iI (t_7_5_c j)))), ((t_7_q 4), .inl (K 0, 12, .inl (fun j => iI (t_7_4_c j))))]) hK hP hD hS hA [1] [0, 2, 3, 4] rfl rfl (by decide) (fun hp => va_runVN (C := RX7) (As := [.int (iI p1)]) (rest := []) ⟨hx, hb, hml, hown, hts⟩ (k_X7_hasPage (l := l) (D := D) (K := K) (t := (t_q 1)) (p1 := p1) (t_q := t_1_q) (t_x0 := t_1_x0) (t_x1 := t_1_x1) (t_x2 := t_1_x2) (t_x3 := t_1_x3) (t_x4 := t_1_x4) (t_x5 := t_1_x5) (t_x6 := t_1_x6) (t_x7 := t_1_x7) (t_x8 := t_1_x8) (hp1 := (by omega)) (hi_t := hi_t_1) _) ⟨va_cnB (own := RX11) 1 hts (fn_gin wd_662) rfl rfl rfl (hK.nw 108 rfl) (hts _ wd_4) (by decide +kernel) ⟨Nat.le_of_ble_eq_true rfl, Nat.le_of_ble_eq_true rfl⟩, hts _ wd_661, hts _ wp_25⟩ ⟨fn_blind, va_recv hK.1 hP (ci := 7) (q0 := 1) rfl rfl, hp⟩ rfl rfl hl.1 rfl (lv_room (Nat.le_of_ble_eq_true rfl)) dX11_ring_5 ⟨Nat.le_of_ble_eq_true rfl, Nat.le_of_ble_eq_true rfl⟩) (fun r5 u5 H locs hwu5 hP hD hS => ?_)
  obtain ⟨u5a, u5b⟩ := u5
  obtain ⟨kr5, rfl, hkr5, hqu50, -⟩ := hwu5
  have hqu5 : (kr5 = 1 → 0 ≤ p1 ∧ p1 < t_1_x4 ∧ p1 ≤ 11) := hqu50
  clear hqu50
  have hP : va_P D vwCl [(t, .inr (11, oX11 t_q)), ((t_q 7), .inr (10, oX10 t_7_q t_7_x0 t_7_x1 t_7_x6)), ((t_7_q 5), .inl (K 0, 12, .inl (fun j => iI (t_7_5_c j)))), ((t_7_q 4), .inl (K 0, 12, .inl (fun j => iI (t_7_4_c j)))), ((t_q 1), .inr (7, oX7 t_1_q t_1_x0 t_1_x1 t_1_x2 t_1_x3 t_1_x4 t_1_x5 t_1_x6 t_1_x7 t_1_x8))] H := hP
  have hD : va_D A [(t, .inr (11, oX11 t_q)), ((t_q 7), .inr (10, oX10 t_7_q t_7_x0 t_7_x1 t_7_x6)), ((t_7_q 5), .inl (K 0, 12, .inl (fun j => iI (t_7_5_c j)))), ((t_7_q 4), .inl (K 0, 12, .inl (fun j => iI (t_7_4_c j)))), ((t_q 1), .inr (7, oX7 t_1_q t_1_x0 t_1_x1 t_1_x2 t_1_x3 t_1_x4 t_1_x5 t_1_x6 t_1_x7 t_1_x8))] := hD
  refine g_if_ne (tgt := 14) hx hb (by omega) dX11_ring_8 (by decide) (fun c8 => ?_) (fun c8 => ?_)
  · refine lv_aload_n hx hb dX11_ring_14 rfl (lv_at hl 0 rfl) ?_
    refine va_get (D := D) (own := RX11) (ci := 11) (v := .ref (t_q 7)) (C := RX11) (T := TX11) (N := 13) hx hb hts inb_X11 hown hK.1 hP 0 rfl rfl 7 (by decide) (hts _ wd_429) (fun _ h9 => h9) rfl dX11_ring_15 ?_
    refine lv_iload_n hx hb dX11_ring_18 rfl (lv_at hl 1 rfl) ?_
    refine fn_goi (wc := [((t_q 7), .inr (10, oX10 t_7_q t_7_x0 t_7_x1 t_7_x6)), ((t_7_q 5), .inl (K 0, 12, .inl (fun j => iI (t_7_5_c j)))), ((t_7_q 4), .inl (K 0, 12, .inl (fun j => iI (t_7_4_c j))))]) (wr := [(t, .inr (11, oX11 t_q)), ((t_q 1), .inr (7, oX7 t_1_q t_1_x0 t_1_x1 t_1_x2 t_1_x3 t_1_x4 t_1_x5 t_1_x6 t_1_x7 t_1_x8))]) hK hP hD hS hA [1, 2, 3] [0, 4] rfl rfl (by decide) (fun hp => va_runVN (C := RX10) (As := [.int (iI p1)]) (rest := []) ⟨hx, hb, hml, hown, hts⟩ (k_X10_reachedFrom (l := l) (D := D) (K := K) (t := (t_q 7)) (p1 := p1) (t_q := t_7_q) (t_x0 := t_7_x0) (t_x1 := t_7_x1) (t_x6 := t_7_x6) (t_5_c := t_7_5_c) (t_4_c := t_7_4_c) (hp1 := (by omega)) (hi_t := hi_t_7) (hc_t_5 := hc_t_7_5) (hc_t_4 := hc_t_7_4) _) ⟨va_cnB (own := RX11) 1 hts (fn_gin wd_763) rfl rfl rfl (hK.nw 119 rfl) (hts _ wd_6) (by decide +kernel) ⟨Nat.le_of_ble_eq_true rfl, Nat.le_of_ble_eq_true rfl⟩, hts _ wd_762, hts _ wp_37⟩ ⟨fn_blind, va_recv hK.1 hP (ci := 10) (q0 := 1) rfl rfl, hp⟩ rfl rfl hl.1 rfl (lv_room (Nat.le_of_ble_eq_true rfl)) dX11_ring_19 ⟨Nat.le_of_ble_eq_true rfl, Nat.le_of_ble_eq_true rfl⟩) (fun r19 u19 H locs hwu19 hP hD hS => ?_)
    obtain ⟨u19a, u19b⟩ := u19
    obtain ⟨kr19, rfl, hkr19, hqu190, hu19_00, -⟩ := hwu19
    have hqu19 : 0 ≤ (u19a 0) ∧ (u19a 0) ≤ 4095 := hqu190
    have hu19_0 : ∀ j : Nat, (-1) ≤ (u19b 0) j ∧ (u19b 0) j ≤ 12 := hu19_00
    clear hqu190 hu19_00
    have hP : va_P D vwCl [(t, .inr (11, oX11 t_q)), ((t_q 1), .inr (7, oX7 t_1_q t_1_x0 t_1_x1 t_1_x2 t_1_x3 t_1_x4 t_1_x5 t_1_x6 t_1_x7 t_1_x8)), ((t_q 7), .inr (10, oX10 t_7_q t_7_x0 t_7_x1 (u19a 0))), ((t_7_q 5), .inl (K 0, 12, .inl (fun j => iI ((u19b 0) j)))), ((t_7_q 4), .inl (K 0, 12, .inl (fun j => iI (t_7_4_c j))))] H := hP
    have hD : va_D A [(t, .inr (11, oX11 t_q)), ((t_q 1), .inr (7, oX7 t_1_q t_1_x0 t_1_x1 t_1_x2 t_1_x3 t_1_x4 t_1_x5 t_1_x6 t_1_x7 t_1_x8)), ((t_q 7), .inr (10, oX10 t_7_q t_7_x0 t_7_x1 (u19a 0))), ((t_7_q 5), .inl (K 0, 12, .inl (fun j => iI ((u19b 0) j)))), ((t_7_q 4), .inl (K 0, 12, .inl (fun j => iI (t_7_4_c j))))] := hD
    refine lv_aload_n hx hb dX11_ring_22 rfl (lv_at hl 0 rfl) ?_
    refine lv_iload_n hx hb dX11_ring_23 rfl (lv_at hl 1 rfl) ?_
    refine fn_goi (wc := [(t, .inr (11, oX11 t_q)), ((t_q 1), .inr (7, oX7 t_1_q t_1_x0 t_1_x1 t_1_x2 t_1_x3 t_1_x4 t_1_x5 t_1_x6 t_1_x7 t_1_x8)), ((t_q 7), .inr (10, oX10 t_7_q t_7_x0 t_7_x1 (u19a 0))), ((t_7_q 5), .inl (K 0, 12, .inl (fun j => iI ((u19b 0) j)))), ((t_7_q 4), .inl (K 0, 12, .inl (fun j => iI (t_7_4_c j))))]) (wr := []) hK hP hD hS hA [0, 1, 2, 3, 4] [] rfl rfl (by decide) (fun hp => va_runV (C := RX11) (As := [.int (iI p1)]) (rest := [.int (iI kr19)]) ⟨hx, hb, hml, hown, hts⟩ (k_X11_upon (l := l) (D := D) (K := K) (t := t) (p1 := p1) (t_q := t_q) (t_1_q := t_1_q) (t_1_x0 := t_1_x0) (t_1_x1 := t_1_x1) (t_1_x2 := t_1_x2) (t_1_x3 := t_1_x3) (t_1_x4 := t_1_x4) (t_1_x5 := t_1_x5) (t_1_x6 := t_1_x6) (t_1_x7 := t_1_x7) (t_1_x8 := t_1_x8) (t_7_q := t_7_q) (t_7_x0 := t_7_x0) (t_7_x1 := t_7_x1) (t_7_x6 := (u19a 0)) (t_7_5_c := (u19b 0)) (t_7_4_c := t_7_4_c) (hp1 := (by omega)) (hi_t_1 := hi_t_1) (hi_t_7 := ⟨hi_t_7.1, hi_t_7.2.1, (by omega)⟩) (hc_t_7_5 := hu19_0) (hc_t_7_4 := hc_t_7_4) _) (cwV 1 hts (fn_ginV (fn_gin wd_771) wd_785 wd_769 wd_770 wd_1) rfl rfl rfl (by decide +kernel) ⟨Nat.le_of_ble_eq_true rfl, Nat.le_of_ble_eq_true rfl⟩) ⟨fn_blind, va_recv hK.1 hP (ci := 11) (q0 := 0) rfl rfl, hp⟩ rfl rfl hl.1 rfl (lv_room (Nat.le_of_ble_eq_true rfl)) dX11_ring_24 ⟨Nat.le_of_ble_eq_true rfl, Nat.le_of_ble_eq_true rfl⟩) (fun r24 u24 H locs hwu24 hP hD hS => ?_)
    obtain ⟨u24a, u24b⟩ := u24
    obtain ⟨kr24, rfl, hkr24, hqu240, hu24_00, -⟩ := hwu24
    have hqu24 : 0 ≤ (u24a 0) ∧ (u24a 0) ≤ 4095 := hqu240
    have hu24_0 : ∀ j : Nat, (-1) ≤ (u24b 0) j ∧ (u24b 0) j ≤ 12 := hu24_00
    clear hqu240 hu24_00
    have hP : va_P D vwCl [(t, .inr (11, oX11 t_q)), ((t_q 1), .inr (7, oX7 t_1_q t_1_x0 t_1_x1 t_1_x2 t_1_x3 t_1_x4 t_1_x5 t_1_x6 t_1_x7 t_1_x8)), ((t_q 7), .inr (10, oX10 t_7_q t_7_x0 t_7_x1 (u24a 0))), ((t_7_q 5), .inl (K 0, 12, .inl (fun j => iI ((u24b 0) j)))), ((t_7_q 4), .inl (K 0, 12, .inl (fun j => iI (t_7_4_c j))))] H := hP
    have hD : va_D A [(t, .inr (11, oX11 t_q)), ((t_q 1), .inr (7, oX7 t_1_q t_1_x0 t_1_x1 t_1_x2 t_1_x3 t_1_x4 t_1_x5 t_1_x6 t_1_x7 t_1_x8)), ((t_q 7), .inr (10, oX10 t_7_q t_7_x0 t_7_x1 (u24a 0))), ((t_7_q 5), .inl (K 0, 12, .inl (fun j => iI ((u24b 0) j)))), ((t_7_q 4), .inl (K 0, 12, .inl (fun j => iI (t_7_4_c j))))] := hD
    refine lv_iand hx hb dX11_ring_27 ?_
    obtain ⟨w27, ew27, hw27⟩ := iI_and2 kr19 kr24 (by omega)
    refine fn_top (iI w27) ew27 ?_
    rw [hQ]; exact fn_iret hx hb hr hlocks rfl hP hD hS ((fun k => ([(u24a 0)] : List Int).getD k 0), (fun k => ([(u24b 0)] : List (Nat → Int)).getD k (fun _ => 0))) ⟨w27, rfl, by omega, (by show 0 ≤ (u24a 0) ∧ (u24a 0) ≤ 4095; omega), (hu24_0), trivial⟩ [0, 1, 2, 3, 4] (by decide) rfl dX11_ring_28
  · refine lv_bipush (v := iI (-2)) hx hb dX11_ring_11 (by decide) ?_
    have y13_1 : 0 ≤ t_7_x6 ∧ t_7_x6 ≤ 4095 := hi_t_7.2.2
    rw [hQ]; exact fn_iret hx hb hr hlocks rfl hP hD hS ((fun k => ([t_7_x6] : List Int).getD k 0), (fun k => ([t_7_5_c] : List (Nat → Int)).getD k (fun _ => 0))) ⟨(-2), rfl, by omega, (by show 0 ≤ t_7_x6 ∧ t_7_x6 ≤ 4095; omega), (hc_t_7_5), trivial⟩ [0, 4, 1, 2, 3] (by decide) rfl dX11_ring_13
theorem dX11_way_0 : decode cX11_way 0 = .ok (.aload_n 0, 1) := by decide +kernel
theorem dX11_way_1 : decode cX11_way 1 = .ok (.getfield 19, 3) := by decide +kernel
theorem dX11_way_4 : decode cX11_way 4 = .ok (.iload_n 1, 1) := by decide +kernel
theorem dX11_way_5 : decode cX11_way 5 = .ok (.invokevirtual 130, 3) := by decide +kernel
theorem dX11_way_8 : decode cX11_way 8 = .ok (.ifCond .eq 14, 3) := by decide +kernel
theorem dX11_way_22 : decode cX11_way 22 = .ok (.bipush (-2), 2) := by decide +kernel
theorem dX11_way_24 : decode cX11_way 24 = .ok (.ireturn, 1) := by decide +kernel
theorem dX11_way_11 : decode cX11_way 11 = .ok (.aload_n 0, 1) := by decide +kernel
theorem dX11_way_12 : decode cX11_way 12 = .ok (.getfield 51, 3) := by decide +kernel
theorem dX11_way_15 : decode cX11_way 15 = .ok (.iload_n 1, 1) := by decide +kernel
theorem dX11_way_16 : decode cX11_way 16 = .ok (.invokevirtual 230, 3) := by decide +kernel
theorem dX11_way_19 : decode cX11_way 19 = .ok (.goto 5, 3) := by decide +kernel
set_option maxHeartbeats 4000000 in
set_option maxRecDepth 100000 in
theorem k_X11_way (l : Launch) (D : va_G) (K : Nat → ClassId) (t : Nat) (t_q t_1_q t_7_q : Nat → Nat) (p1 t_1_x0 t_1_x1 t_1_x2 t_1_x3 t_1_x4 t_1_x5 t_1_x6 t_1_x7 t_1_x8 t_7_x0 t_7_x1 t_7_x6 : Int) (t_7_5_c : Nat → Int) (t_7_4_c : Nat → Int) (hp1 : (-2147483648) ≤ p1 ∧ p1 ≤ 2147483647) (hi_t_1 : bX7 t_1_x0 t_1_x1 t_1_x2 t_1_x3 t_1_x4 t_1_x5 t_1_x6 t_1_x7 t_1_x8) (hi_t_7 : bX10 t_7_x0 t_7_x1 t_7_x6) (hc_t_7_5 : ∀ j : Nat, (-1) ≤ t_7_5_c j ∧ t_7_5_c j ≤ 12) (hc_t_7_4 : ∀ j : Nat, 0 ≤ t_7_4_c j ∧ t_7_4_c j ≤ 4095) : fn_CI (S := (Nat → Int) × (Nat → Nat → Int)) l D K yX11_way (fn_ws yX11_way cX11_way 2 (some .int)) ({ frames := 16, cells := 0, slots := 0, locals := 400 } : Room) [.ref t, .int (iI p1)] [(t, .inr (11, oX11 t_q)), ((t_q 1), .inr (7, oX7 t_1_q t_1_x0 t_1_x1 t_1_x2 t_1_x3 t_1_x4 t_1_x5 t_1_x6 t_1_x7 t_1_x8)), ((t_q 7), .inr (10, oX10 t_7_q t_7_x0 t_7_x1 t_7_x6)), ((t_7_q 5), .inl (K 0, 12, .inl (fun j => iI (t_7_5_c j)))), ((t_7_q 4), .inl (K 0, 12, .inl (fun j => iI (t_7_4_c j))))] (fun r u => ∃ k : Int, r = iI k ∧ ((-2) ≤ k ∧ k ≤ 12) ∧ (0 ≤ (u.1 0) ∧ (u.1 0) ≤ 4095) ∧ (∀ j : Nat, (-1) ≤ (u.2 0) j ∧ (u.2 0) j ≤ 12) ∧ True) (fun u => [(t, .inr (11, oX11 t_q)), ((t_q 1), .inr (7, oX7 t_1_q t_1_x0 t_1_x1 t_1_x2 t_1_x3 t_1_x4 t_1_x5 t_1_x6 t_1_x7 t_1_x8)), ((t_q 7), .inr (10, oX10 t_7_q t_7_x0 t_7_x1 (u.1 0))), ((t_7_q 5), .inl (K 0, 12, .inl (fun j => iI ((u.2 0) j)))), ((t_7_q 4), .inl (K 0, 12, .inl (fun j => iI (t_7_4_c j))))]) 0 0 := by
  refine g_inI (cc := cX11_way) (maxL := 2) (ret := (some .int)) (by decide) rfl (Nat.le_of_ble_eq_true rfl) ?_
  intro p e s m below meth c A ls ag Q B hA hP hD hS hl hQ
  obtain ⟨hx, hb, hr, hml, hts, hown, hlocks, hin, hK⟩ := B
  have hown : s.vm.findClass RX11 = some m.cls := hown
  have hts := fun w h => hts w (List.mem_cons_of_mem _ h)
  have hl : lv_has ls 2 [(0, .ref t), (1, .int (iI p1))] := hl
  refine lv_aload_n hx hb dX11_way_0 rfl (lv_at hl 0 rfl) ?_
  refine va_get (D := D) (own := RX11) (ci := 11) (v := .ref (t_q 1)) (C := RX11) (T := TX11) (N := 13) hx hb hts inb_X11 hown hK.1 hP 0 rfl rfl 1 (by decide) (hts _ wd_423) (fun _ h9 => h9) rfl dX11_way_1 ?_
  refine lv_iload_n hx hb dX11_way_4 rfl (lv_at hl 1 rfl) ?_
  refine fn_goi (wc := [((t_q 1), .inr (7, oX7 t_1_q t_1_x0 t_1_x1 t_1_x2 t_1_x3 t_1_x4 t_1_x5 t_1_x6 t_1_x7 t_1_x8))]) (wr := [(t, .inr (11, oX11 t_q)), ((t_q 7), .inr (10, oX10 t_7_q t_7_x0 t_7_x1 t_7_x6)), ((t_7_q 5), .inl (K 0, 12, .inl (fun j => iI (t_7_5_c j)))), ((t_7_q 4), .inl (K 0, 12, .inl (fun j => iI (t_7_4_c j))))]) hK hP hD hS hA [1] [0, 2, 3, 4] rfl rfl (by decide) (fun hp => va_runVN (C := RX7) (As := [.int (iI p1)]) (rest := []) ⟨hx, hb, hml, hown, hts⟩ (k_X7_hasPage (l := l) (D := D) (K := K) (t := (t_q 1)) (p1 := p1) (t_q := t_1_q) (t_x0 := t_1_x0) (t_x1 := t_1_x1) (t_x2 := t_1_x2) (t_x3 := t_1_x3) (t_x4 := t_1_x4) (t_x5 := t_1_x5) (t_x6 := t_1_x6) (t_x7 := t_1_x7) (t_x8 := t_1_x8) (hp1 := (by omega)) (hi_t := hi_t_1) _) ⟨va_cnB (own := RX11) 1 hts (fn_gin wd_662) rfl rfl rfl (hK.nw 108 rfl) (hts _ wd_4) (by decide +kernel) ⟨Nat.le_of_ble_eq_true rfl, Nat.le_of_ble_eq_true rfl⟩, hts _ wd_661, hts _ wp_25⟩ ⟨fn_blind, va_recv hK.1 hP (ci := 7) (q0 := 1) rfl rfl, hp⟩ rfl rfl hl.1 rfl (lv_room (Nat.le_of_ble_eq_true rfl)) dX11_way_5 ⟨Nat.le_of_ble_eq_true rfl, Nat.le_of_ble_eq_true rfl⟩) (fun r5 u5 H locs hwu5 hP hD hS => ?_)
  obtain ⟨u5a, u5b⟩ := u5
  obtain ⟨kr5, rfl, hkr5, hqu50, -⟩ := hwu5
  have hqu5 : (kr5 = 1 → 0 ≤ p1 ∧ p1 < t_1_x4 ∧ p1 ≤ 11) := hqu50
  clear hqu50
  have hP : va_P D vwCl [(t, .inr (11, oX11 t_q)), ((t_q 7), .inr (10, oX10 t_7_q t_7_x0 t_7_x1 t_7_x6)), ((t_7_q 5), .inl (K 0, 12, .inl (fun j => iI (t_7_5_c j)))), ((t_7_q 4), .inl (K 0, 12, .inl (fun j => iI (t_7_4_c j)))), ((t_q 1), .inr (7, oX7 t_1_q t_1_x0 t_1_x1 t_1_x2 t_1_x3 t_1_x4 t_1_x5 t_1_x6 t_1_x7 t_1_x8))] H := hP
  have hD : va_D A [(t, .inr (11, oX11 t_q)), ((t_q 7), .inr (10, oX10 t_7_q t_7_x0 t_7_x1 t_7_x6)), ((t_7_q 5), .inl (K 0, 12, .inl (fun j => iI (t_7_5_c j)))), ((t_7_q 4), .inl (K 0, 12, .inl (fun j => iI (t_7_4_c j)))), ((t_q 1), .inr (7, oX7 t_1_q t_1_x0 t_1_x1 t_1_x2 t_1_x3 t_1_x4 t_1_x5 t_1_x6 t_1_x7 t_1_x8))] := hD
  refine g_if_eq (tgt := 22) hx hb (by omega) dX11_way_8 (by decide) (fun c8 => ?_) (fun c8 => ?_)
  · refine lv_bipush (v := iI (-2)) hx hb dX11_way_22 (by decide) ?_
    have y24_1 : 0 ≤ t_7_x6 ∧ t_7_x6 ≤ 4095 := hi_t_7.2.2
    rw [hQ]; exact fn_iret hx hb hr hlocks rfl hP hD hS ((fun k => ([t_7_x6] : List Int).getD k 0), (fun k => ([t_7_5_c] : List (Nat → Int)).getD k (fun _ => 0))) ⟨(-2), rfl, by omega, (by show 0 ≤ t_7_x6 ∧ t_7_x6 ≤ 4095; omega), (hc_t_7_5), trivial⟩ [0, 4, 1, 2, 3] (by decide) rfl dX11_way_24
  · refine lv_aload_n hx hb dX11_way_11 rfl (lv_at hl 0 rfl) ?_
    refine va_get (D := D) (own := RX11) (ci := 11) (v := .ref (t_q 7)) (C := RX11) (T := TX11) (N := 13) hx hb hts inb_X11 hown hK.1 hP 0 rfl rfl 7 (by decide) (hts _ wd_429) (fun _ h9 => h9) rfl dX11_way_12 ?_
    refine lv_iload_n hx hb dX11_way_15 rfl (lv_at hl 1 rfl) ?_
    refine fn_goi (wc := [((t_q 7), .inr (10, oX10 t_7_q t_7_x0 t_7_x1 t_7_x6)), ((t_7_q 5), .inl (K 0, 12, .inl (fun j => iI (t_7_5_c j)))), ((t_7_q 4), .inl (K 0, 12, .inl (fun j => iI (t_7_4_c j))))]) (wr := [(t, .inr (11, oX11 t_q)), ((t_q 1), .inr (7, oX7 t_1_q t_1_x0 t_1_x1 t_1_x2 t_1_x3 t_1_x4 t_1_x5 t_1_x6 t_1_x7 t_1_x8))]) hK hP hD hS hA [1, 2, 3] [0, 4] rfl rfl (by decide) (fun hp => va_runVN (C := RX10) (As := [.int (iI p1)]) (rest := []) ⟨hx, hb, hml, hown, hts⟩ (k_X10_wayLength (l := l) (D := D) (K := K) (t := (t_q 7)) (p1 := p1) (t_q := t_7_q) (t_x0 := t_7_x0) (t_x1 := t_7_x1) (t_x6 := t_7_x6) (t_5_c := t_7_5_c) (t_4_c := t_7_4_c) (hp1 := (by omega)) (hi_t := hi_t_7) (hc_t_5 := hc_t_7_5) (hc_t_4 := hc_t_7_4) _) ⟨va_cnB (own := RX11) 1 hts (fn_gin wd_793) rfl rfl rfl (hK.nw 121 rfl) (hts _ wd_6) (by decide +kernel) ⟨Nat.le_of_ble_eq_true rfl, Nat.le_of_ble_eq_true rfl⟩, hts _ wd_792, hts _ wp_39⟩ ⟨fn_blind, va_recv hK.1 hP (ci := 10) (q0 := 1) rfl rfl, hp⟩ rfl rfl hl.1 rfl (lv_room (Nat.le_of_ble_eq_true rfl)) dX11_way_16 ⟨Nat.le_of_ble_eq_true rfl, Nat.le_of_ble_eq_true rfl⟩) (fun r16 u16 H locs hwu16 hP hD hS => ?_)
    obtain ⟨u16a, u16b⟩ := u16
    obtain ⟨kr16, rfl, hkr16, hqu160, hu16_00, -⟩ := hwu16
    have hqu16 : 0 ≤ (u16a 0) ∧ (u16a 0) ≤ 4095 := hqu160
    have hu16_0 : ∀ j : Nat, (-1) ≤ (u16b 0) j ∧ (u16b 0) j ≤ 12 := hu16_00
    clear hqu160 hu16_00
    have hP : va_P D vwCl [(t, .inr (11, oX11 t_q)), ((t_q 1), .inr (7, oX7 t_1_q t_1_x0 t_1_x1 t_1_x2 t_1_x3 t_1_x4 t_1_x5 t_1_x6 t_1_x7 t_1_x8)), ((t_q 7), .inr (10, oX10 t_7_q t_7_x0 t_7_x1 (u16a 0))), ((t_7_q 5), .inl (K 0, 12, .inl (fun j => iI ((u16b 0) j)))), ((t_7_q 4), .inl (K 0, 12, .inl (fun j => iI (t_7_4_c j))))] H := hP
    have hD : va_D A [(t, .inr (11, oX11 t_q)), ((t_q 1), .inr (7, oX7 t_1_q t_1_x0 t_1_x1 t_1_x2 t_1_x3 t_1_x4 t_1_x5 t_1_x6 t_1_x7 t_1_x8)), ((t_q 7), .inr (10, oX10 t_7_q t_7_x0 t_7_x1 (u16a 0))), ((t_7_q 5), .inl (K 0, 12, .inl (fun j => iI ((u16b 0) j)))), ((t_7_q 4), .inl (K 0, 12, .inl (fun j => iI (t_7_4_c j))))] := hD
    refine lv_goto (tgt := 24) hx hb dX11_way_19 (by decide) ?_
    rw [hQ]; exact fn_iret hx hb hr hlocks rfl hP hD hS ((fun k => ([(u16a 0)] : List Int).getD k 0), (fun k => ([(u16b 0)] : List (Nat → Int)).getD k (fun _ => 0))) ⟨kr16, rfl, by omega, (by show 0 ≤ (u16a 0) ∧ (u16a 0) ≤ 4095; omega), (hu16_0), trivial⟩ [0, 1, 2, 3, 4] (by decide) rfl dX11_way_24
theorem wd_801 : Cond.code ⟨"FootNotes$Web", "nextOnWay", "(II)I"⟩ prog_12_method_10_code 4 (Option.some Jvm.ClassFile.FieldType.int) ∈ fn_big := fn_tb (fn_l4 (List.mem_of_getElem? (i := 81) (by decide +kernel))) (by decide +kernel)
theorem wd_800 : Cond.instanceMethod ⟨"FootNotes$Web", "nextOnWay", "(II)I"⟩ ∈ fn_big := fn_tb (fn_l4 (List.mem_of_getElem? (i := 80) (by decide +kernel))) (by decide +kernel)
theorem wp_40 : Cond.selects "FootNotes$Web" ⟨"FootNotes$Web", "nextOnWay", "(II)I"⟩ ⟨"FootNotes$Web", "nextOnWay", "(II)I"⟩ ∈ fn_big := fn_sel (q := (⟨"FootNotes$Web", "nextOnWay", "(II)I"⟩, 7)) 40 (by decide +kernel) (by decide +kernel)
theorem dX11_step_40 : decode cX11_step 40 = .ok (.iload 5, 2) := by decide +kernel
theorem dX11_step_42 : decode cX11_step 42 = .ok (.iload_n 2, 1) := by decide +kernel
theorem dX11_step_43 : decode cX11_step 43 = .ok (.if_icmp .gt 29, 3) := by decide +kernel
theorem dX11_step_72 : decode cX11_step 72 = .ok (.iload 4, 2) := by decide +kernel
theorem dX11_step_74 : decode cX11_step 74 = .ok (.ireturn, 1) := by decide +kernel
theorem dX11_step_46 : decode cX11_step 46 = .ok (.iload 4, 2) := by decide +kernel
theorem dX11_step_48 : decode cX11_step 48 = .ok (.ifCond .lt 24, 3) := by decide +kernel
theorem dX11_step_51 : decode cX11_step 51 = .ok (.aload_n 0, 1) := by decide +kernel
theorem dX11_step_52 : decode cX11_step 52 = .ok (.getfield 51, 3) := by decide +kernel
theorem dX11_step_55 : decode cX11_step 55 = .ok (.iload 4, 2) := by decide +kernel
theorem dX11_step_57 : decode cX11_step 57 = .ok (.iload_n 3, 1) := by decide +kernel
theorem dX11_step_58 : decode cX11_step 58 = .ok (.iload 5, 2) := by decide +kernel
theorem dX11_step_60 : decode cX11_step 60 = .ok (.isub, 1) := by decide +kernel
theorem dX11_step_61 : decode cX11_step 61 = .ok (.invokevirtual 233, 3) := by decide +kernel
theorem dX11_step_64 : decode cX11_step 64 = .ok (.istore 4, 2) := by decide +kernel
theorem dX11_step_66 : decode cX11_step 66 = .ok (.iinc 5 1, 3) := by decide +kernel
theorem dX11_step_69 : decode cX11_step 69 = .ok (.goto (-29), 3) := by decide +kernel
theorem dX11_step_0 : decode cX11_step 0 = .ok (.aload_n 0, 1) := by decide +kernel
theorem dX11_step_1 : decode cX11_step 1 = .ok (.getfield 19, 3) := by decide +kernel
theorem dX11_step_4 : decode cX11_step 4 = .ok (.iload_n 1, 1) := by decide +kernel
theorem dX11_step_5 : decode cX11_step 5 = .ok (.invokevirtual 130, 3) := by decide +kernel
theorem dX11_step_8 : decode cX11_step 8 = .ok (.ifCond .ne 6, 3) := by decide +kernel
theorem dX11_step_14 : decode cX11_step 14 = .ok (.aload_n 0, 1) := by decide +kernel
theorem dX11_step_15 : decode cX11_step 15 = .ok (.getfield 51, 3) := by decide +kernel
theorem dX11_step_18 : decode cX11_step 18 = .ok (.iload_n 1, 1) := by decide +kernel
theorem dX11_step_19 : decode cX11_step 19 = .ok (.invokevirtual 230, 3) := by decide +kernel
theorem dX11_step_22 : decode cX11_step 22 = .ok (.istore_n 3, 1) := by decide +kernel
theorem dX11_step_23 : decode cX11_step 23 = .ok (.iload_n 2, 1) := by decide +kernel
theorem dX11_step_24 : decode cX11_step 24 = .ok (.ifCond .lt 8, 3) := by decide +kernel
theorem dX11_step_32 : decode cX11_step 32 = .ok (.iconst (-1), 1) := by decide +kernel
theorem dX11_step_33 : decode cX11_step 33 = .ok (.ireturn, 1) := by decide +kernel
theorem dX11_step_27 : decode cX11_step 27 = .ok (.iload_n 2, 1) := by decide +kernel
theorem dX11_step_28 : decode cX11_step 28 = .ok (.iload_n 3, 1) := by decide +kernel
theorem dX11_step_29 : decode cX11_step 29 = .ok (.if_icmp .le 5, 3) := by decide +kernel
theorem dX11_step_34 : decode cX11_step 34 = .ok (.iload_n 1, 1) := by decide +kernel
theorem dX11_step_35 : decode cX11_step 35 = .ok (.istore 4, 2) := by decide +kernel
theorem dX11_step_37 : decode cX11_step 37 = .ok (.iconst 1, 1) := by decide +kernel
theorem dX11_step_38 : decode cX11_step 38 = .ok (.istore 5, 2) := by decide +kernel
theorem dX11_step_11 : decode cX11_step 11 = .ok (.bipush (-2), 2) := by decide +kernel
theorem dX11_step_13 : decode cX11_step 13 = .ok (.ireturn, 1) := by decide +kernel
set_option maxHeartbeats 4000000 in
set_option maxRecDepth 100000 in
theorem k_X11_step (l : Launch) (D : va_G) (K : Nat → ClassId) (t : Nat) (t_q t_1_q t_7_q : Nat → Nat) (p1 p2 t_1_x0 t_1_x1 t_1_x2 t_1_x3 t_1_x4 t_1_x5 t_1_x6 t_1_x7 t_1_x8 t_7_x0 t_7_x1 t_7_x6 : Int) (t_7_5_c : Nat → Int) (t_7_4_c : Nat → Int) (hp1 : (-2147483648) ≤ p1 ∧ p1 ≤ 2147483647) (hp2 : (-2147483648) ≤ p2 ∧ p2 ≤ 2147483647) (hi_t_1 : bX7 t_1_x0 t_1_x1 t_1_x2 t_1_x3 t_1_x4 t_1_x5 t_1_x6 t_1_x7 t_1_x8) (hi_t_7 : bX10 t_7_x0 t_7_x1 t_7_x6) (hc_t_7_5 : ∀ j : Nat, (-1) ≤ t_7_5_c j ∧ t_7_5_c j ≤ 12) (hc_t_7_4 : ∀ j : Nat, 0 ≤ t_7_4_c j ∧ t_7_4_c j ≤ 4095) : fn_CI (S := (Nat → Int) × (Nat → Nat → Int)) l D K yX11_step (fn_ws yX11_step cX11_step 6 (some .int)) ({ frames := 20, cells := 0, slots := 0, locals := 500 } : Room) [.ref t, .int (iI p1), .int (iI p2)] [(t, .inr (11, oX11 t_q)), ((t_q 1), .inr (7, oX7 t_1_q t_1_x0 t_1_x1 t_1_x2 t_1_x3 t_1_x4 t_1_x5 t_1_x6 t_1_x7 t_1_x8)), ((t_q 7), .inr (10, oX10 t_7_q t_7_x0 t_7_x1 t_7_x6)), ((t_7_q 5), .inl (K 0, 12, .inl (fun j => iI (t_7_5_c j)))), ((t_7_q 4), .inl (K 0, 12, .inl (fun j => iI (t_7_4_c j))))] (fun r u => ∃ k : Int, r = iI k ∧ ((-2) ≤ k ∧ k ≤ 11) ∧ (0 ≤ (u.1 0) ∧ (u.1 0) ≤ 4095) ∧ (∀ j : Nat, (-1) ≤ (u.2 0) j ∧ (u.2 0) j ≤ 12) ∧ True) (fun u => [(t, .inr (11, oX11 t_q)), ((t_q 1), .inr (7, oX7 t_1_q t_1_x0 t_1_x1 t_1_x2 t_1_x3 t_1_x4 t_1_x5 t_1_x6 t_1_x7 t_1_x8)), ((t_q 7), .inr (10, oX10 t_7_q t_7_x0 t_7_x1 (u.1 0))), ((t_7_q 5), .inl (K 0, 12, .inl (fun j => iI ((u.2 0) j)))), ((t_7_q 4), .inl (K 0, 12, .inl (fun j => iI (t_7_4_c j))))]) 0 0 := by
  refine g_inI (cc := cX11_step) (maxL := 6) (ret := (some .int)) (by decide) rfl (Nat.le_of_ble_eq_true rfl) ?_
  intro p e s m below meth c A ls ag Q B hA hP hD hS hl hQ
  obtain ⟨hx, hb, hr, hml, hts, hown, hlocks, hin, hK⟩ := B
  have hown : s.vm.findClass RX11 = some m.cls := hown
  have hts := fun w h => hts w (List.mem_cons_of_mem _ h)
  have J40 : ∀ (n : Nat) (x40_3 : Int) (x40_4 : Int) (x40_5 : Int) (f40_t_7_6 : Int) (c40_t_7_5 : Nat → Int) (H : Heap) (locs : List Loc) (ls : Array Slot), (15 - x40_5).toNat < n → (0 ≤ p1 ∧ p1 ≤ 11 ∧ 0 ≤ p2 ∧ p2 ≤ 12 ∧ 0 ≤ x40_3 ∧ x40_3 ≤ 12 ∧ (-1) ≤ x40_4 ∧ x40_4 ≤ 11 ∧ 1 ≤ x40_5 ∧ x40_5 ≤ 15 ∧ 0 ≤ f40_t_7_6 ∧ f40_t_7_6 ≤ 4095) → (∀ j : Nat, (-1) ≤ c40_t_7_5 j ∧ c40_t_7_5 j ≤ 12) → va_P D vwCl [(t, .inr (11, oX11 t_q)), ((t_q 1), .inr (7, oX7 t_1_q t_1_x0 t_1_x1 t_1_x2 t_1_x3 t_1_x4 t_1_x5 t_1_x6 t_1_x7 t_1_x8)), ((t_q 7), .inr (10, oX10 t_7_q t_7_x0 t_7_x1 f40_t_7_6)), ((t_7_q 5), .inl (K 0, 12, .inl (fun j => iI (c40_t_7_5 j)))), ((t_7_q 4), .inl (K 0, 12, .inl (fun j => iI (t_7_4_c j))))] H → va_D A [(t, .inr (11, oX11 t_q)), ((t_q 1), .inr (7, oX7 t_1_q t_1_x0 t_1_x1 t_1_x2 t_1_x3 t_1_x4 t_1_x5 t_1_x6 t_1_x7 t_1_x8)), ((t_q 7), .inr (10, oX10 t_7_q t_7_x0 t_7_x1 f40_t_7_6)), ((t_7_q 5), .inl (K 0, 12, .inl (fun j => iI (c40_t_7_5 j)))), ((t_7_q 4), .inl (K 0, 12, .inl (fun j => iI (t_7_4_c j))))] → va_S A s.heap H locs → lv_has ls 6 [(0, .ref t), (1, .int (iI p1)), (2, .int (iI p2)), (3, .int (iI x40_3)), (4, .int (iI x40_4)), (5, .int (iI x40_5))] → W p l e ({ frames := 20, cells := 0, slots := 0, locals := 500 } : Room) s m ag below meth c H locs 0 0 Q (F0 m 40 ls []) := by
    intro n
    induction n with
    | zero =>
      intro x40_3 x40_4 x40_5 f40_t_7_6 c40_t_7_5 H locs ls hm40 hf40 hc40_t_7_5 hP hD hS hl
      exact absurd hm40 (Nat.not_lt_zero _)
    | succ n ih40 =>
      intro x40_3 x40_4 x40_5 f40_t_7_6 c40_t_7_5 H locs ls hm40 hf40 hc40_t_7_5 hP hD hS hl
      refine lv_iload hx hb dX11_step_40 (lv_at hl 5 rfl) ?_
      refine lv_iload_n hx hb dX11_step_42 rfl (lv_at hl 2 rfl) ?_
      refine g_icmp_gt (tgt := 72) hx hb (by omega) (by omega) dX11_step_43 (by decide) (fun c43 => ?_) (fun c43 => ?_)
      · refine lv_iload hx hb dX11_step_72 (lv_at hl 4 rfl) ?_
        rw [hQ]; exact fn_iret hx hb hr hlocks rfl hP hD hS ((fun k => ([f40_t_7_6] : List Int).getD k 0), (fun k => ([c40_t_7_5] : List (Nat → Int)).getD k (fun _ => 0))) ⟨x40_4, rfl, by omega, (by show 0 ≤ f40_t_7_6 ∧ f40_t_7_6 ≤ 4095; omega), (hc40_t_7_5), trivial⟩ [0, 1, 2, 3, 4] (by decide) rfl dX11_step_74
      · refine lv_iload hx hb dX11_step_46 (lv_at hl 4 rfl) ?_
        refine g_if_lt (tgt := 72) hx hb (by omega) dX11_step_48 (by decide) (fun c48 => ?_) (fun c48 => ?_)
        · refine lv_iload hx hb dX11_step_72 (lv_at hl 4 rfl) ?_
          rw [hQ]; exact fn_iret hx hb hr hlocks rfl hP hD hS ((fun k => ([f40_t_7_6] : List Int).getD k 0), (fun k => ([c40_t_7_5] : List (Nat → Int)).getD k (fun _ => 0))) ⟨x40_4, rfl, by omega, (by show 0 ≤ f40_t_7_6 ∧ f40_t_7_6 ≤ 4095; omega), (hc40_t_7_5), trivial⟩ [0, 1, 2, 3, 4] (by decide) rfl dX11_step_74
        · refine lv_aload_n hx hb dX11_step_51 rfl (lv_at hl 0 rfl) ?_
          refine va_get (D := D) (own := RX11) (ci := 11) (v := .ref (t_q 7)) (C := RX11) (T := TX11) (N := 13) hx hb hts inb_X11 hown hK.1 hP 0 rfl rfl 7 (by decide) (hts _ wd_429) (fun _ h9 => h9) rfl dX11_step_52 ?_
          refine lv_iload hx hb dX11_step_55 (lv_at hl 4 rfl) ?_
          refine lv_iload_n hx hb dX11_step_57 rfl (lv_at hl 3 rfl) ?_
          refine lv_iload hx hb dX11_step_58 (lv_at hl 5 rfl) ?_
          refine g_isub hx hb dX11_step_60 ?_
          refine fn_goi (wc := [((t_q 7), .inr (10, oX10 t_7_q t_7_x0 t_7_x1 f40_t_7_6)), ((t_7_q 4), .inl (K 0, 12, .inl (fun j => iI (t_7_4_c j)))), ((t_7_q 5), .inl (K 0, 12, .inl (fun j => iI (c40_t_7_5 j))))]) (wr := [(t, .inr (11, oX11 t_q)), ((t_q 1), .inr (7, oX7 t_1_q t_1_x0 t_1_x1 t_1_x2 t_1_x3 t_1_x4 t_1_x5 t_1_x6 t_1_x7 t_1_x8))]) hK hP hD hS hA [2, 4, 3] [0, 1] rfl rfl (by decide) (fun hp => va_runVN (C := RX10) (As := [.int (iI x40_4), .int (iI (x40_3 - x40_5))]) (rest := []) ⟨hx, hb, hml, hown, hts⟩ (k_X10_nextOnWay (l := l) (D := D) (K := K) (t := (t_q 7)) (p1 := x40_4) (p2 := (x40_3 - x40_5)) (t_q := t_7_q) (t_x0 := t_7_x0) (t_x1 := t_7_x1) (t_x6 := f40_t_7_6) (t_4_c := t_7_4_c) (t_5_c := c40_t_7_5) (hp1 := (by omega)) (hp2 := (by omega)) (hi_t := ⟨hi_t_7.1, hi_t_7.2.1, (by omega)⟩) (hc_t_4 := hc_t_7_4) (hc_t_5 := hc40_t_7_5) _) ⟨va_cnB (own := RX11) 2 hts (fn_gin wd_801) rfl rfl rfl (hK.nw 122 rfl) (hts _ wd_6) (by decide +kernel) ⟨Nat.le_of_ble_eq_true rfl, Nat.le_of_ble_eq_true rfl⟩, hts _ wd_800, hts _ wp_40⟩ ⟨fn_blind, va_recv hK.1 hP (ci := 10) (q0 := 2) rfl rfl, hp⟩ rfl rfl hl.1 rfl (lv_room (Nat.le_of_ble_eq_true rfl)) dX11_step_61 ⟨Nat.le_of_ble_eq_true rfl, Nat.le_of_ble_eq_true rfl⟩) (fun r61 u61 H locs hwu61 hP hD hS => ?_)
          obtain ⟨u61a, u61b⟩ := u61
          obtain ⟨kr61, rfl, hkr61, hqu610, hu61_00, -⟩ := hwu61
          have hqu61 : 0 ≤ (u61a 0) ∧ (u61a 0) ≤ 4095 := hqu610
          have hu61_0 : ∀ j : Nat, (-1) ≤ (u61b 0) j ∧ (u61b 0) j ≤ 12 := hu61_00
          clear hqu610 hu61_00
          have hP : va_P D vwCl [(t, .inr (11, oX11 t_q)), ((t_q 1), .inr (7, oX7 t_1_q t_1_x0 t_1_x1 t_1_x2 t_1_x3 t_1_x4 t_1_x5 t_1_x6 t_1_x7 t_1_x8)), ((t_q 7), .inr (10, oX10 t_7_q t_7_x0 t_7_x1 (u61a 0))), ((t_7_q 4), .inl (K 0, 12, .inl (fun j => iI (t_7_4_c j)))), ((t_7_q 5), .inl (K 0, 12, .inl (fun j => iI ((u61b 0) j))))] H := hP
          have hD : va_D A [(t, .inr (11, oX11 t_q)), ((t_q 1), .inr (7, oX7 t_1_q t_1_x0 t_1_x1 t_1_x2 t_1_x3 t_1_x4 t_1_x5 t_1_x6 t_1_x7 t_1_x8)), ((t_q 7), .inr (10, oX10 t_7_q t_7_x0 t_7_x1 (u61a 0))), ((t_7_q 4), .inl (K 0, 12, .inl (fun j => iI (t_7_4_c j)))), ((t_7_q 5), .inl (K 0, 12, .inl (fun j => iI ((u61b 0) j))))] := hD
          refine lv_istore (lv' := [(4, .int (iI kr61)), (0, .ref t), (1, .int (iI p1)), (2, .int (iI p2)), (3, .int (iI x40_3)), (5, .int (iI x40_5))]) hx hb dX11_step_64 hl (by decide) rfl (fun ls hl => ?_)
          refine lv_iinc (v := iI (x40_5 + 1)) (lv' := [(5, .int (iI (x40_5 + 1))), (4, .int (iI kr61)), (0, .ref t), (1, .int (iI p1)), (2, .int (iI p2)), (3, .int (iI x40_3))]) hx hb dX11_step_66 hl (k := 5) rfl (iI_add _ _) (by decide) rfl (fun ls hl => ?_)
          refine lv_goto (tgt := 40) hx hb dX11_step_69 (by decide) ?_
          exact ih40 x40_3 kr61 (x40_5 + 1) (u61a 0) (u61b 0) _ _ ls (by omega) (by omega) hu61_0 (hP.sub [0, 1, 2, 4, 3] rfl) (hD.sub [0, 1, 2, 4, 3] (by decide) rfl) hS (lv_sub hl [2, 3, 4, 5, 1, 0] rfl)
  have hl : lv_has ls 6 [(0, .ref t), (1, .int (iI p1)), (2, .int (iI p2))] := hl
  refine lv_aload_n hx hb dX11_step_0 rfl (lv_at hl 0 rfl) ?_
  refine va_get (D := D) (own := RX11) (ci := 11) (v := .ref (t_q 1)) (C := RX11) (T := TX11) (N := 13) hx hb hts inb_X11 hown hK.1 hP 0 rfl rfl 1 (by decide) (hts _ wd_423) (fun _ h9 => h9) rfl dX11_step_1 ?_
  refine lv_iload_n hx hb dX11_step_4 rfl (lv_at hl 1 rfl) ?_
  refine fn_goi (wc := [((t_q 1), .inr (7, oX7 t_1_q t_1_x0 t_1_x1 t_1_x2 t_1_x3 t_1_x4 t_1_x5 t_1_x6 t_1_x7 t_1_x8))]) (wr := [(t, .inr (11, oX11 t_q)), ((t_q 7), .inr (10, oX10 t_7_q t_7_x0 t_7_x1 t_7_x6)), ((t_7_q 5), .inl (K 0, 12, .inl (fun j => iI (t_7_5_c j)))), ((t_7_q 4), .inl (K 0, 12, .inl (fun j => iI (t_7_4_c j))))]) hK hP hD hS hA [1] [0, 2, 3, 4] rfl rfl (by decide) (fun hp => va_runVN (C := RX7) (As := [.int (iI p1)]) (rest := []) ⟨hx, hb, hml, hown, hts⟩ (k_X7_hasPage (l := l) (D := D) (K := K) (t := (t_q 1)) (p1 := p1) (t_q := t_1_q) (t_x0 := t_1_x0) (t_x1 := t_1_x1) (t_x2 := t_1_x2) (t_x3 := t_1_x3) (t_x4 := t_1_x4) (t_x5 := t_1_x5) (t_x6 := t_1_x6) (t_x7 := t_1_x7) (t_x8 := t_1_x8) (hp1 := (by omega)) (hi_t := hi_t_1) _) ⟨va_cnB (own := RX11) 1 hts (fn_gin wd_662) rfl rfl rfl (hK.nw 108 rfl) (hts _ wd_4) (by decide +kernel) ⟨Nat.le_of_ble_eq_true rfl, Nat.le_of_ble_eq_true rfl⟩, hts _ wd_661, hts _ wp_25⟩ ⟨fn_blind, va_recv hK.1 hP (ci := 7) (q0 := 1) rfl rfl, hp⟩ rfl rfl hl.1 rfl (lv_room (Nat.le_of_ble_eq_true rfl)) dX11_step_5 ⟨Nat.le_of_ble_eq_true rfl, Nat.le_of_ble_eq_true rfl⟩) (fun r5 u5 H locs hwu5 hP hD hS => ?_)
  obtain ⟨u5a, u5b⟩ := u5
  obtain ⟨kr5, rfl, hkr5, hqu50, -⟩ := hwu5
  have hqu5 : (kr5 = 1 → 0 ≤ p1 ∧ p1 < t_1_x4 ∧ p1 ≤ 11) := hqu50
  clear hqu50
  have hP : va_P D vwCl [(t, .inr (11, oX11 t_q)), ((t_q 7), .inr (10, oX10 t_7_q t_7_x0 t_7_x1 t_7_x6)), ((t_7_q 5), .inl (K 0, 12, .inl (fun j => iI (t_7_5_c j)))), ((t_7_q 4), .inl (K 0, 12, .inl (fun j => iI (t_7_4_c j)))), ((t_q 1), .inr (7, oX7 t_1_q t_1_x0 t_1_x1 t_1_x2 t_1_x3 t_1_x4 t_1_x5 t_1_x6 t_1_x7 t_1_x8))] H := hP
  have hD : va_D A [(t, .inr (11, oX11 t_q)), ((t_q 7), .inr (10, oX10 t_7_q t_7_x0 t_7_x1 t_7_x6)), ((t_7_q 5), .inl (K 0, 12, .inl (fun j => iI (t_7_5_c j)))), ((t_7_q 4), .inl (K 0, 12, .inl (fun j => iI (t_7_4_c j)))), ((t_q 1), .inr (7, oX7 t_1_q t_1_x0 t_1_x1 t_1_x2 t_1_x3 t_1_x4 t_1_x5 t_1_x6 t_1_x7 t_1_x8))] := hD
  refine g_if_ne (tgt := 14) hx hb (by omega) dX11_step_8 (by decide) (fun c8 => ?_) (fun c8 => ?_)
  · refine lv_aload_n hx hb dX11_step_14 rfl (lv_at hl 0 rfl) ?_
    refine va_get (D := D) (own := RX11) (ci := 11) (v := .ref (t_q 7)) (C := RX11) (T := TX11) (N := 13) hx hb hts inb_X11 hown hK.1 hP 0 rfl rfl 7 (by decide) (hts _ wd_429) (fun _ h9 => h9) rfl dX11_step_15 ?_
    refine lv_iload_n hx hb dX11_step_18 rfl (lv_at hl 1 rfl) ?_
    refine fn_goi (wc := [((t_q 7), .inr (10, oX10 t_7_q t_7_x0 t_7_x1 t_7_x6)), ((t_7_q 5), .inl (K 0, 12, .inl (fun j => iI (t_7_5_c j)))), ((t_7_q 4), .inl (K 0, 12, .inl (fun j => iI (t_7_4_c j))))]) (wr := [(t, .inr (11, oX11 t_q)), ((t_q 1), .inr (7, oX7 t_1_q t_1_x0 t_1_x1 t_1_x2 t_1_x3 t_1_x4 t_1_x5 t_1_x6 t_1_x7 t_1_x8))]) hK hP hD hS hA [1, 2, 3] [0, 4] rfl rfl (by decide) (fun hp => va_runVN (C := RX10) (As := [.int (iI p1)]) (rest := []) ⟨hx, hb, hml, hown, hts⟩ (k_X10_wayLength (l := l) (D := D) (K := K) (t := (t_q 7)) (p1 := p1) (t_q := t_7_q) (t_x0 := t_7_x0) (t_x1 := t_7_x1) (t_x6 := t_7_x6) (t_5_c := t_7_5_c) (t_4_c := t_7_4_c) (hp1 := (by omega)) (hi_t := hi_t_7) (hc_t_5 := hc_t_7_5) (hc_t_4 := hc_t_7_4) _) ⟨va_cnB (own := RX11) 1 hts (fn_gin wd_793) rfl rfl rfl (hK.nw 121 rfl) (hts _ wd_6) (by decide +kernel) ⟨Nat.le_of_ble_eq_true rfl, Nat.le_of_ble_eq_true rfl⟩, hts _ wd_792, hts _ wp_39⟩ ⟨fn_blind, va_recv hK.1 hP (ci := 10) (q0 := 1) rfl rfl, hp⟩ rfl rfl hl.1 rfl (lv_room (Nat.le_of_ble_eq_true rfl)) dX11_step_19 ⟨Nat.le_of_ble_eq_true rfl, Nat.le_of_ble_eq_true rfl⟩) (fun r19 u19 H locs hwu19 hP hD hS => ?_)
    obtain ⟨u19a, u19b⟩ := u19
    obtain ⟨kr19, rfl, hkr19, hqu190, hu19_00, -⟩ := hwu19
    have hqu19 : 0 ≤ (u19a 0) ∧ (u19a 0) ≤ 4095 := hqu190
    have hu19_0 : ∀ j : Nat, (-1) ≤ (u19b 0) j ∧ (u19b 0) j ≤ 12 := hu19_00
    clear hqu190 hu19_00
    have hP : va_P D vwCl [(t, .inr (11, oX11 t_q)), ((t_q 1), .inr (7, oX7 t_1_q t_1_x0 t_1_x1 t_1_x2 t_1_x3 t_1_x4 t_1_x5 t_1_x6 t_1_x7 t_1_x8)), ((t_q 7), .inr (10, oX10 t_7_q t_7_x0 t_7_x1 (u19a 0))), ((t_7_q 5), .inl (K 0, 12, .inl (fun j => iI ((u19b 0) j)))), ((t_7_q 4), .inl (K 0, 12, .inl (fun j => iI (t_7_4_c j))))] H := hP
    have hD : va_D A [(t, .inr (11, oX11 t_q)), ((t_q 1), .inr (7, oX7 t_1_q t_1_x0 t_1_x1 t_1_x2 t_1_x3 t_1_x4 t_1_x5 t_1_x6 t_1_x7 t_1_x8)), ((t_q 7), .inr (10, oX10 t_7_q t_7_x0 t_7_x1 (u19a 0))), ((t_7_q 5), .inl (K 0, 12, .inl (fun j => iI ((u19b 0) j)))), ((t_7_q 4), .inl (K 0, 12, .inl (fun j => iI (t_7_4_c j))))] := hD
    refine lv_istore_n (lv' := [(3, .int (iI kr19)), (0, .ref t), (1, .int (iI p1)), (2, .int (iI p2))]) hx hb dX11_step_22 rfl hl (by decide) rfl (fun ls hl => ?_)
    refine lv_iload_n hx hb dX11_step_23 rfl (lv_at hl 3 rfl) ?_
    refine g_if_lt (tgt := 32) hx hb (by omega) dX11_step_24 (by decide) (fun c24 => ?_) (fun c24 => ?_)
    · refine lv_iconst (v := iI (-1)) hx hb dX11_step_32 rfl ?_
      rw [hQ]; exact fn_iret hx hb hr hlocks rfl hP hD hS ((fun k => ([(u19a 0)] : List Int).getD k 0), (fun k => ([(u19b 0)] : List (Nat → Int)).getD k (fun _ => 0))) ⟨(-1), rfl, by omega, (by show 0 ≤ (u19a 0) ∧ (u19a 0) ≤ 4095; omega), (hu19_0), trivial⟩ [0, 1, 2, 3, 4] (by decide) rfl dX11_step_33
    · refine lv_iload_n hx hb dX11_step_27 rfl (lv_at hl 3 rfl) ?_
      refine lv_iload_n hx hb dX11_step_28 rfl (lv_at hl 0 rfl) ?_
      refine g_icmp_le (tgt := 34) hx hb (by omega) (by omega) dX11_step_29 (by decide) (fun c29 => ?_) (fun c29 => ?_)
      · refine lv_iload_n hx hb dX11_step_34 rfl (lv_at hl 2 rfl) ?_
        refine lv_istore (lv' := [(4, .int (iI p1)), (3, .int (iI kr19)), (0, .ref t), (1, .int (iI p1)), (2, .int (iI p2))]) hx hb dX11_step_35 hl (by decide) rfl (fun ls hl => ?_)
        refine lv_iconst (v := iI 1) hx hb dX11_step_37 rfl ?_
        refine lv_istore (lv' := [(5, .int (iI 1)), (4, .int (iI p1)), (3, .int (iI kr19)), (0, .ref t), (1, .int (iI p1)), (2, .int (iI p2))]) hx hb dX11_step_38 hl (by decide) rfl (fun ls hl => ?_)
        exact J40 _ kr19 p1 1 (u19a 0) (u19b 0) _ _ ls (Nat.lt_succ_self _) (by omega) hu19_0 (hP.sub [0, 1, 2, 3, 4] rfl) (hD.sub [0, 1, 2, 3, 4] (by decide) rfl) hS (lv_sub hl [3, 4, 5, 2, 1, 0] rfl)
      · refine lv_iconst (v := iI (-1)) hx hb dX11_step_32 rfl ?_
        rw [hQ]; exact fn_iret hx hb hr hlocks rfl hP hD hS ((fun k => ([(u19a 0)] : List Int).getD k 0), (fun k => ([(u19b 0)] : List (Nat → Int)).getD k (fun _ => 0))) ⟨(-1), rfl, by omega, (by show 0 ≤ (u19a 0) ∧ (u19a 0) ≤ 4095; omega), (hu19_0), trivial⟩ [0, 1, 2, 3, 4] (by decide) rfl dX11_step_33
  · refine lv_bipush (v := iI (-2)) hx hb dX11_step_11 (by decide) ?_
    have y13_1 : 0 ≤ t_7_x6 ∧ t_7_x6 ≤ 4095 := hi_t_7.2.2
    rw [hQ]; exact fn_iret hx hb hr hlocks rfl hP hD hS ((fun k => ([t_7_x6] : List Int).getD k 0), (fun k => ([t_7_5_c] : List (Nat → Int)).getD k (fun _ => 0))) ⟨(-2), rfl, by omega, (by show 0 ≤ t_7_x6 ∧ t_7_x6 ≤ 4095; omega), (hc_t_7_5), trivial⟩ [0, 4, 1, 2, 3] (by decide) rfl dX11_step_13
theorem wd_810 : Cond.code ⟨"FootNotes$Web", "farthestFrom", "(I)I"⟩ prog_12_method_8_code 4 (Option.some Jvm.ClassFile.FieldType.int) ∈ fn_big := fn_tb (fn_l4 (List.mem_of_getElem? (i := 90) (by decide +kernel))) (by decide +kernel)
theorem wd_809 : Cond.instanceMethod ⟨"FootNotes$Web", "farthestFrom", "(I)I"⟩ ∈ fn_big := fn_tb (fn_l4 (List.mem_of_getElem? (i := 89) (by decide +kernel))) (by decide +kernel)
theorem wp_41 : Cond.selects "FootNotes$Web" ⟨"FootNotes$Web", "farthestFrom", "(I)I"⟩ ⟨"FootNotes$Web", "farthestFrom", "(I)I"⟩ ∈ fn_big := fn_sel (q := (⟨"FootNotes$Web", "farthestFrom", "(I)I"⟩, 7)) 41 (by decide +kernel) (by decide +kernel)
theorem dX11_depth_0 : decode cX11_depth 0 = .ok (.aload_n 0, 1) := by decide +kernel
theorem dX11_depth_1 : decode cX11_depth 1 = .ok (.getfield 19, 3) := by decide +kernel
theorem dX11_depth_4 : decode cX11_depth 4 = .ok (.iload_n 1, 1) := by decide +kernel
theorem dX11_depth_5 : decode cX11_depth 5 = .ok (.invokevirtual 130, 3) := by decide +kernel
theorem dX11_depth_8 : decode cX11_depth 8 = .ok (.ifCond .eq 14, 3) := by decide +kernel
theorem dX11_depth_22 : decode cX11_depth 22 = .ok (.bipush (-2), 2) := by decide +kernel
theorem dX11_depth_24 : decode cX11_depth 24 = .ok (.ireturn, 1) := by decide +kernel
theorem dX11_depth_11 : decode cX11_depth 11 = .ok (.aload_n 0, 1) := by decide +kernel
theorem dX11_depth_12 : decode cX11_depth 12 = .ok (.getfield 51, 3) := by decide +kernel
theorem dX11_depth_15 : decode cX11_depth 15 = .ok (.iload_n 1, 1) := by decide +kernel
theorem dX11_depth_16 : decode cX11_depth 16 = .ok (.invokevirtual 236, 3) := by decide +kernel
theorem dX11_depth_19 : decode cX11_depth 19 = .ok (.goto 5, 3) := by decide +kernel
set_option maxHeartbeats 4000000 in
set_option maxRecDepth 100000 in
theorem k_X11_depth (l : Launch) (D : va_G) (K : Nat → ClassId) (t : Nat) (t_q t_1_q t_7_q : Nat → Nat) (p1 t_1_x0 t_1_x1 t_1_x2 t_1_x3 t_1_x4 t_1_x5 t_1_x6 t_1_x7 t_1_x8 t_7_x0 t_7_x1 t_7_x6 : Int) (t_7_5_c : Nat → Int) (t_7_4_c : Nat → Int) (hp1 : (-2147483648) ≤ p1 ∧ p1 ≤ 2147483647) (hi_t_1 : bX7 t_1_x0 t_1_x1 t_1_x2 t_1_x3 t_1_x4 t_1_x5 t_1_x6 t_1_x7 t_1_x8) (hi_t_7 : bX10 t_7_x0 t_7_x1 t_7_x6) (hc_t_7_5 : ∀ j : Nat, (-1) ≤ t_7_5_c j ∧ t_7_5_c j ≤ 12) (hc_t_7_4 : ∀ j : Nat, 0 ≤ t_7_4_c j ∧ t_7_4_c j ≤ 4095) : fn_CI (S := (Nat → Int) × (Nat → Nat → Int)) l D K yX11_depth (fn_ws yX11_depth cX11_depth 2 (some .int)) ({ frames := 16, cells := 0, slots := 0, locals := 400 } : Room) [.ref t, .int (iI p1)] [(t, .inr (11, oX11 t_q)), ((t_q 1), .inr (7, oX7 t_1_q t_1_x0 t_1_x1 t_1_x2 t_1_x3 t_1_x4 t_1_x5 t_1_x6 t_1_x7 t_1_x8)), ((t_q 7), .inr (10, oX10 t_7_q t_7_x0 t_7_x1 t_7_x6)), ((t_7_q 5), .inl (K 0, 12, .inl (fun j => iI (t_7_5_c j)))), ((t_7_q 4), .inl (K 0, 12, .inl (fun j => iI (t_7_4_c j))))] (fun r u => ∃ k : Int, r = iI k ∧ ((-2) ≤ k ∧ k ≤ 12) ∧ (0 ≤ (u.1 0) ∧ (u.1 0) ≤ 4095) ∧ (∀ j : Nat, (-1) ≤ (u.2 0) j ∧ (u.2 0) j ≤ 12) ∧ True) (fun u => [(t, .inr (11, oX11 t_q)), ((t_q 1), .inr (7, oX7 t_1_q t_1_x0 t_1_x1 t_1_x2 t_1_x3 t_1_x4 t_1_x5 t_1_x6 t_1_x7 t_1_x8)), ((t_q 7), .inr (10, oX10 t_7_q t_7_x0 t_7_x1 (u.1 0))), ((t_7_q 5), .inl (K 0, 12, .inl (fun j => iI ((u.2 0) j)))), ((t_7_q 4), .inl (K 0, 12, .inl (fun j => iI (t_7_4_c j))))]) 0 0 := by
  refine g_inI (cc := cX11_depth) (maxL := 2) (ret := (some .int)) (by decide) rfl (Nat.le_of_ble_eq_true rfl) ?_
  intro p e s m below meth c A ls ag Q B hA hP hD hS hl hQ
  obtain ⟨hx, hb, hr, hml, hts, hown, hlocks, hin, hK⟩ := B
  have hown : s.vm.findClass RX11 = some m.cls := hown
  have hts := fun w h => hts w (List.mem_cons_of_mem _ h)
  have hl : lv_has ls 2 [(0, .ref t), (1, .int (iI p1))] := hl
  refine lv_aload_n hx hb dX11_depth_0 rfl (lv_at hl 0 rfl) ?_
  refine va_get (D := D) (own := RX11) (ci := 11) (v := .ref (t_q 1)) (C := RX11) (T := TX11) (N := 13) hx hb hts inb_X11 hown hK.1 hP 0 rfl rfl 1 (by decide) (hts _ wd_423) (fun _ h9 => h9) rfl dX11_depth_1 ?_
  refine lv_iload_n hx hb dX11_depth_4 rfl (lv_at hl 1 rfl) ?_
  refine fn_goi (wc := [((t_q 1), .inr (7, oX7 t_1_q t_1_x0 t_1_x1 t_1_x2 t_1_x3 t_1_x4 t_1_x5 t_1_x6 t_1_x7 t_1_x8))]) (wr := [(t, .inr (11, oX11 t_q)), ((t_q 7), .inr (10, oX10 t_7_q t_7_x0 t_7_x1 t_7_x6)), ((t_7_q 5), .inl (K 0, 12, .inl (fun j => iI (t_7_5_c j)))), ((t_7_q 4), .inl (K 0, 12, .inl (fun j => iI (t_7_4_c j))))]) hK hP hD hS hA [1] [0, 2, 3, 4] rfl rfl (by decide) (fun hp => va_runVN (C := RX7) (As := [.int (iI p1)]) (rest := []) ⟨hx, hb, hml, hown, hts⟩ (k_X7_hasPage (l := l) (D := D) (K := K) (t := (t_q 1)) (p1 := p1) (t_q := t_1_q) (t_x0 := t_1_x0) (t_x1 := t_1_x1) (t_x2 := t_1_x2) (t_x3 := t_1_x3) (t_x4 := t_1_x4) (t_x5 := t_1_x5) (t_x6 := t_1_x6) (t_x7 := t_1_x7) (t_x8 := t_1_x8) (hp1 := (by omega)) (hi_t := hi_t_1) _) ⟨va_cnB (own := RX11) 1 hts (fn_gin wd_662) rfl rfl rfl (hK.nw 108 rfl) (hts _ wd_4) (by decide +kernel) ⟨Nat.le_of_ble_eq_true rfl, Nat.le_of_ble_eq_true rfl⟩, hts _ wd_661, hts _ wp_25⟩ ⟨fn_blind, va_recv hK.1 hP (ci := 7) (q0 := 1) rfl rfl, hp⟩ rfl rfl hl.1 rfl (lv_room (Nat.le_of_ble_eq_true rfl)) dX11_depth_5 ⟨Nat.le_of_ble_eq_true rfl, Nat.le_of_ble_eq_true rfl⟩) (fun r5 u5 H locs hwu5 hP hD hS => ?_)
  obtain ⟨u5a, u5b⟩ := u5
  obtain ⟨kr5, rfl, hkr5, hqu50, -⟩ := hwu5
  have hqu5 : (kr5 = 1 → 0 ≤ p1 ∧ p1 < t_1_x4 ∧ p1 ≤ 11) := hqu50
  clear hqu50
  have hP : va_P D vwCl [(t, .inr (11, oX11 t_q)), ((t_q 7), .inr (10, oX10 t_7_q t_7_x0 t_7_x1 t_7_x6)), ((t_7_q 5), .inl (K 0, 12, .inl (fun j => iI (t_7_5_c j)))), ((t_7_q 4), .inl (K 0, 12, .inl (fun j => iI (t_7_4_c j)))), ((t_q 1), .inr (7, oX7 t_1_q t_1_x0 t_1_x1 t_1_x2 t_1_x3 t_1_x4 t_1_x5 t_1_x6 t_1_x7 t_1_x8))] H := hP
  have hD : va_D A [(t, .inr (11, oX11 t_q)), ((t_q 7), .inr (10, oX10 t_7_q t_7_x0 t_7_x1 t_7_x6)), ((t_7_q 5), .inl (K 0, 12, .inl (fun j => iI (t_7_5_c j)))), ((t_7_q 4), .inl (K 0, 12, .inl (fun j => iI (t_7_4_c j)))), ((t_q 1), .inr (7, oX7 t_1_q t_1_x0 t_1_x1 t_1_x2 t_1_x3 t_1_x4 t_1_x5 t_1_x6 t_1_x7 t_1_x8))] := hD
  refine g_if_eq (tgt := 22) hx hb (by omega) dX11_depth_8 (by decide) (fun c8 => ?_) (fun c8 => ?_)
  · refine lv_bipush (v := iI (-2)) hx hb dX11_depth_22 (by decide) ?_
    have y24_1 : 0 ≤ t_7_x6 ∧ t_7_x6 ≤ 4095 := hi_t_7.2.2
    rw [hQ]; exact fn_iret hx hb hr hlocks rfl hP hD hS ((fun k => ([t_7_x6] : List Int).getD k 0), (fun k => ([t_7_5_c] : List (Nat → Int)).getD k (fun _ => 0))) ⟨(-2), rfl, by omega, (by show 0 ≤ t_7_x6 ∧ t_7_x6 ≤ 4095; omega), (hc_t_7_5), trivial⟩ [0, 4, 1, 2, 3] (by decide) rfl dX11_depth_24
  · refine lv_aload_n hx hb dX11_depth_11 rfl (lv_at hl 0 rfl) ?_
    refine va_get (D := D) (own := RX11) (ci := 11) (v := .ref (t_q 7)) (C := RX11) (T := TX11) (N := 13) hx hb hts inb_X11 hown hK.1 hP 0 rfl rfl 7 (by decide) (hts _ wd_429) (fun _ h9 => h9) rfl dX11_depth_12 ?_
    refine lv_iload_n hx hb dX11_depth_15 rfl (lv_at hl 1 rfl) ?_
    refine fn_goi (wc := [((t_q 7), .inr (10, oX10 t_7_q t_7_x0 t_7_x1 t_7_x6)), ((t_7_q 5), .inl (K 0, 12, .inl (fun j => iI (t_7_5_c j)))), ((t_7_q 4), .inl (K 0, 12, .inl (fun j => iI (t_7_4_c j))))]) (wr := [(t, .inr (11, oX11 t_q)), ((t_q 1), .inr (7, oX7 t_1_q t_1_x0 t_1_x1 t_1_x2 t_1_x3 t_1_x4 t_1_x5 t_1_x6 t_1_x7 t_1_x8))]) hK hP hD hS hA [1, 2, 3] [0, 4] rfl rfl (by decide) (fun hp => va_runVN (C := RX10) (As := [.int (iI p1)]) (rest := []) ⟨hx, hb, hml, hown, hts⟩ (k_X10_farthestFrom (l := l) (D := D) (K := K) (t := (t_q 7)) (p1 := p1) (t_q := t_7_q) (t_x0 := t_7_x0) (t_x1 := t_7_x1) (t_x6 := t_7_x6) (t_5_c := t_7_5_c) (t_4_c := t_7_4_c) (hp1 := (by omega)) (hi_t := hi_t_7) (hc_t_5 := hc_t_7_5) (hc_t_4 := hc_t_7_4) _) ⟨va_cnB (own := RX11) 1 hts (fn_gin wd_810) rfl rfl rfl (hK.nw 123 rfl) (hts _ wd_6) (by decide +kernel) ⟨Nat.le_of_ble_eq_true rfl, Nat.le_of_ble_eq_true rfl⟩, hts _ wd_809, hts _ wp_41⟩ ⟨fn_blind, va_recv hK.1 hP (ci := 10) (q0 := 1) rfl rfl, hp⟩ rfl rfl hl.1 rfl (lv_room (Nat.le_of_ble_eq_true rfl)) dX11_depth_16 ⟨Nat.le_of_ble_eq_true rfl, Nat.le_of_ble_eq_true rfl⟩) (fun r16 u16 H locs hwu16 hP hD hS => ?_)
    obtain ⟨u16a, u16b⟩ := u16
    obtain ⟨kr16, rfl, hkr16, hqu160, hu16_00, -⟩ := hwu16
    have hqu16 : 0 ≤ (u16a 0) ∧ (u16a 0) ≤ 4095 := hqu160
    have hu16_0 : ∀ j : Nat, (-1) ≤ (u16b 0) j ∧ (u16b 0) j ≤ 12 := hu16_00
    clear hqu160 hu16_00
    have hP : va_P D vwCl [(t, .inr (11, oX11 t_q)), ((t_q 1), .inr (7, oX7 t_1_q t_1_x0 t_1_x1 t_1_x2 t_1_x3 t_1_x4 t_1_x5 t_1_x6 t_1_x7 t_1_x8)), ((t_q 7), .inr (10, oX10 t_7_q t_7_x0 t_7_x1 (u16a 0))), ((t_7_q 5), .inl (K 0, 12, .inl (fun j => iI ((u16b 0) j)))), ((t_7_q 4), .inl (K 0, 12, .inl (fun j => iI (t_7_4_c j))))] H := hP
    have hD : va_D A [(t, .inr (11, oX11 t_q)), ((t_q 1), .inr (7, oX7 t_1_q t_1_x0 t_1_x1 t_1_x2 t_1_x3 t_1_x4 t_1_x5 t_1_x6 t_1_x7 t_1_x8)), ((t_q 7), .inr (10, oX10 t_7_q t_7_x0 t_7_x1 (u16a 0))), ((t_7_q 5), .inl (K 0, 12, .inl (fun j => iI ((u16b 0) j)))), ((t_7_q 4), .inl (K 0, 12, .inl (fun j => iI (t_7_4_c j))))] := hD
    refine lv_goto (tgt := 24) hx hb dX11_depth_19 (by decide) ?_
    rw [hQ]; exact fn_iret hx hb hr hlocks rfl hP hD hS ((fun k => ([(u16a 0)] : List Int).getD k 0), (fun k => ([(u16b 0)] : List (Nat → Int)).getD k (fun _ => 0))) ⟨kr16, rfl, by omega, (by show 0 ≤ (u16a 0) ∧ (u16a 0) ≤ 4095; omega), (hu16_0), trivial⟩ [0, 1, 2, 3, 4] (by decide) rfl dX11_depth_24
theorem dX11_deepest_48 : decode cX11_deepest 48 = .ok (.iinc 3 1, 3) := by decide +kernel
theorem dX11_deepest_51 : decode cX11_deepest 51 = .ok (.goto (-35), 3) := by decide +kernel
theorem dX11_deepest_16 : decode cX11_deepest 16 = .ok (.iload_n 3, 1) := by decide +kernel
theorem dX11_deepest_17 : decode cX11_deepest 17 = .ok (.aload_n 0, 1) := by decide +kernel
theorem dX11_deepest_18 : decode cX11_deepest 18 = .ok (.getfield 19, 3) := by decide +kernel
theorem dX11_deepest_21 : decode cX11_deepest 21 = .ok (.getfield 218, 3) := by decide +kernel
theorem dX11_deepest_24 : decode cX11_deepest 24 = .ok (.if_icmp .ge 30, 3) := by decide +kernel
theorem dX11_deepest_54 : decode cX11_deepest 54 = .ok (.iload_n 1, 1) := by decide +kernel
theorem dX11_deepest_55 : decode cX11_deepest 55 = .ok (.ireturn, 1) := by decide +kernel
theorem dX11_deepest_27 : decode cX11_deepest 27 = .ok (.aload_n 0, 1) := by decide +kernel
theorem dX11_deepest_28 : decode cX11_deepest 28 = .ok (.getfield 51, 3) := by decide +kernel
theorem dX11_deepest_31 : decode cX11_deepest 31 = .ok (.iload_n 3, 1) := by decide +kernel
theorem dX11_deepest_32 : decode cX11_deepest 32 = .ok (.invokevirtual 236, 3) := by decide +kernel
theorem dX11_deepest_35 : decode cX11_deepest 35 = .ok (.istore 4, 2) := by decide +kernel
theorem dX11_deepest_37 : decode cX11_deepest 37 = .ok (.iload 4, 2) := by decide +kernel
theorem dX11_deepest_39 : decode cX11_deepest 39 = .ok (.iload_n 2, 1) := by decide +kernel
theorem dX11_deepest_40 : decode cX11_deepest 40 = .ok (.if_icmp .le 8, 3) := by decide +kernel
theorem dX11_deepest_43 : decode cX11_deepest 43 = .ok (.iload 4, 2) := by decide +kernel
theorem dX11_deepest_45 : decode cX11_deepest 45 = .ok (.istore_n 2, 1) := by decide +kernel
theorem dX11_deepest_46 : decode cX11_deepest 46 = .ok (.iload_n 3, 1) := by decide +kernel
theorem dX11_deepest_47 : decode cX11_deepest 47 = .ok (.istore_n 1, 1) := by decide +kernel
theorem dX11_deepest_0 : decode cX11_deepest 0 = .ok (.aload_n 0, 1) := by decide +kernel
theorem dX11_deepest_1 : decode cX11_deepest 1 = .ok (.invokevirtual 188, 3) := by decide +kernel
theorem dX11_deepest_4 : decode cX11_deepest 4 = .ok (.ifCond .eq 6, 3) := by decide +kernel
theorem dX11_deepest_10 : decode cX11_deepest 10 = .ok (.iconst (-1), 1) := by decide +kernel
theorem dX11_deepest_11 : decode cX11_deepest 11 = .ok (.istore_n 1, 1) := by decide +kernel
theorem dX11_deepest_12 : decode cX11_deepest 12 = .ok (.iconst 0, 1) := by decide +kernel
theorem dX11_deepest_13 : decode cX11_deepest 13 = .ok (.istore_n 2, 1) := by decide +kernel
theorem dX11_deepest_14 : decode cX11_deepest 14 = .ok (.iconst 0, 1) := by decide +kernel
theorem dX11_deepest_15 : decode cX11_deepest 15 = .ok (.istore_n 3, 1) := by decide +kernel
theorem dX11_deepest_7 : decode cX11_deepest 7 = .ok (.bipush (-2), 2) := by decide +kernel
theorem dX11_deepest_9 : decode cX11_deepest 9 = .ok (.ireturn, 1) := by decide +kernel
set_option maxHeartbeats 4000000 in
set_option maxRecDepth 100000 in
theorem k_X11_deepest (l : Launch) (D : va_G) (K : Nat → ClassId) (t : Nat) (t_q t_1_q t_7_q : Nat → Nat) (t_1_x0 t_1_x1 t_1_x2 t_1_x3 t_1_x4 t_1_x5 t_1_x6 t_1_x7 t_1_x8 t_7_x0 t_7_x1 t_7_x6 : Int) (t_7_5_c : Nat → Int) (t_7_4_c : Nat → Int) (hi_t_1 : bX7 t_1_x0 t_1_x1 t_1_x2 t_1_x3 t_1_x4 t_1_x5 t_1_x6 t_1_x7 t_1_x8) (hi_t_7 : bX10 t_7_x0 t_7_x1 t_7_x6) (hc_t_7_5 : ∀ j : Nat, (-1) ≤ t_7_5_c j ∧ t_7_5_c j ≤ 12) (hc_t_7_4 : ∀ j : Nat, 0 ≤ t_7_4_c j ∧ t_7_4_c j ≤ 4095) : fn_CI (S := (Nat → Int) × (Nat → Nat → Int)) l D K yX11_deepest (fn_ws yX11_deepest cX11_deepest 5 (some .int)) ({ frames := 16, cells := 0, slots := 0, locals := 400 } : Room) [.ref t] [(t, .inr (11, oX11 t_q)), ((t_q 1), .inr (7, oX7 t_1_q t_1_x0 t_1_x1 t_1_x2 t_1_x3 t_1_x4 t_1_x5 t_1_x6 t_1_x7 t_1_x8)), ((t_q 7), .inr (10, oX10 t_7_q t_7_x0 t_7_x1 t_7_x6)), ((t_7_q 5), .inl (K 0, 12, .inl (fun j => iI (t_7_5_c j)))), ((t_7_q 4), .inl (K 0, 12, .inl (fun j => iI (t_7_4_c j))))] (fun r u => ∃ k : Int, r = iI k ∧ ((-2) ≤ k ∧ k ≤ 11) ∧ (0 ≤ (u.1 0) ∧ (u.1 0) ≤ 4095) ∧ (∀ j : Nat, (-1) ≤ (u.2 0) j ∧ (u.2 0) j ≤ 12) ∧ True) (fun u => [(t, .inr (11, oX11 t_q)), ((t_q 1), .inr (7, oX7 t_1_q t_1_x0 t_1_x1 t_1_x2 t_1_x3 t_1_x4 t_1_x5 t_1_x6 t_1_x7 t_1_x8)), ((t_q 7), .inr (10, oX10 t_7_q t_7_x0 t_7_x1 (u.1 0))), ((t_7_q 5), .inl (K 0, 12, .inl (fun j => iI ((u.2 0) j)))), ((t_7_q 4), .inl (K 0, 12, .inl (fun j => iI (t_7_4_c j))))]) 0 0 := by
  refine g_inI (cc := cX11_deepest) (maxL := 5) (ret := (some .int)) (by decide) rfl (Nat.le_of_ble_eq_true rfl) ?_
  intro p e s m below meth c A ls ag Q B hA hP hD hS hl hQ
  obtain ⟨hx, hb, hr, hml, hts, hown, hlocks, hin, hK⟩ := B
  have hown : s.vm.findClass RX11 = some m.cls := hown
  have hts := fun w h => hts w (List.mem_cons_of_mem _ h)
  have J16 : ∀ (n : Nat) (x16_1 : Int) (x16_2 : Int) (x16_3 : Int) (f16_t_7_6 : Int) (c16_t_7_5 : Nat → Int) (H : Heap) (locs : List Loc) (ls : Array Slot), (12 - x16_3).toNat < n → ((-1) ≤ x16_1 ∧ x16_1 ≤ 11 ∧ 0 ≤ x16_2 ∧ x16_2 ≤ 12 ∧ 0 ≤ x16_3 ∧ x16_3 ≤ 12 ∧ 0 ≤ f16_t_7_6 ∧ f16_t_7_6 ≤ 4095) → (∀ j : Nat, (-1) ≤ c16_t_7_5 j ∧ c16_t_7_5 j ≤ 12) → va_P D vwCl [(t, .inr (11, oX11 t_q)), ((t_q 1), .inr (7, oX7 t_1_q t_1_x0 t_1_x1 t_1_x2 t_1_x3 t_1_x4 t_1_x5 t_1_x6 t_1_x7 t_1_x8)), ((t_q 7), .inr (10, oX10 t_7_q t_7_x0 t_7_x1 f16_t_7_6)), ((t_7_q 5), .inl (K 0, 12, .inl (fun j => iI (c16_t_7_5 j)))), ((t_7_q 4), .inl (K 0, 12, .inl (fun j => iI (t_7_4_c j))))] H → va_D A [(t, .inr (11, oX11 t_q)), ((t_q 1), .inr (7, oX7 t_1_q t_1_x0 t_1_x1 t_1_x2 t_1_x3 t_1_x4 t_1_x5 t_1_x6 t_1_x7 t_1_x8)), ((t_q 7), .inr (10, oX10 t_7_q t_7_x0 t_7_x1 f16_t_7_6)), ((t_7_q 5), .inl (K 0, 12, .inl (fun j => iI (c16_t_7_5 j)))), ((t_7_q 4), .inl (K 0, 12, .inl (fun j => iI (t_7_4_c j))))] → va_S A s.heap H locs → lv_has ls 5 [(0, .ref t), (1, .int (iI x16_1)), (2, .int (iI x16_2)), (3, .int (iI x16_3))] → W p l e ({ frames := 16, cells := 0, slots := 0, locals := 400 } : Room) s m ag below meth c H locs 0 0 Q (F0 m 16 ls []) := by
    intro n
    induction n with
    | zero =>
      intro x16_1 x16_2 x16_3 f16_t_7_6 c16_t_7_5 H locs ls hm16 hf16 hc16_t_7_5 hP hD hS hl
      exact absurd hm16 (Nat.not_lt_zero _)
    | succ n ih16 =>
      intro x16_1 x16_2 x16_3 f16_t_7_6 c16_t_7_5 H locs ls hm16 hf16 hc16_t_7_5 hP hD hS hl
      have J48 : ∀ (x48_1 : Int) (x48_2 : Int) (x48_4 : Int) (f48_t_7_6 : Int) (c48_t_7_5 : Nat → Int) (H : Heap) (locs : List Loc) (ls : Array Slot), ((-1) ≤ x48_1 ∧ x48_1 ≤ 11 ∧ 0 ≤ x48_2 ∧ x48_2 ≤ 12 ∧ 0 ≤ x16_3 ∧ x16_3 ≤ 11 ∧ 0 ≤ x48_4 ∧ x48_4 ≤ 12 ∧ 1 ≤ t_1_x4 ∧ t_1_x4 ≤ 12 ∧ 0 ≤ f48_t_7_6 ∧ f48_t_7_6 ≤ 4095) → (∀ j : Nat, (-1) ≤ c48_t_7_5 j ∧ c48_t_7_5 j ≤ 12) → va_P D vwCl [(t, .inr (11, oX11 t_q)), ((t_q 1), .inr (7, oX7 t_1_q t_1_x0 t_1_x1 t_1_x2 t_1_x3 t_1_x4 t_1_x5 t_1_x6 t_1_x7 t_1_x8)), ((t_q 7), .inr (10, oX10 t_7_q t_7_x0 t_7_x1 f48_t_7_6)), ((t_7_q 5), .inl (K 0, 12, .inl (fun j => iI (c48_t_7_5 j)))), ((t_7_q 4), .inl (K 0, 12, .inl (fun j => iI (t_7_4_c j))))] H → va_D A [(t, .inr (11, oX11 t_q)), ((t_q 1), .inr (7, oX7 t_1_q t_1_x0 t_1_x1 t_1_x2 t_1_x3 t_1_x4 t_1_x5 t_1_x6 t_1_x7 t_1_x8)), ((t_q 7), .inr (10, oX10 t_7_q t_7_x0 t_7_x1 f48_t_7_6)), ((t_7_q 5), .inl (K 0, 12, .inl (fun j => iI (c48_t_7_5 j)))), ((t_7_q 4), .inl (K 0, 12, .inl (fun j => iI (t_7_4_c j))))] → va_S A s.heap H locs → lv_has ls 5 [(0, .ref t), (1, .int (iI x48_1)), (2, .int (iI x48_2)), (3, .int (iI x16_3)), (4, .int (iI x48_4))] → W p l e ({ frames := 16, cells := 0, slots := 0, locals := 400 } : Room) s m ag below meth c H locs 0 0 Q (F0 m 48 ls []) := by
        intro x48_1 x48_2 x48_4 f48_t_7_6 c48_t_7_5 H locs ls hf48 hc48_t_7_5 hP hD hS hl
        refine lv_iinc (v := iI (x16_3 + 1)) (lv' := [(3, .int (iI (x16_3 + 1))), (0, .ref t), (1, .int (iI x48_1)), (2, .int (iI x48_2)), (4, .int (iI x48_4))]) hx hb dX11_deepest_48 hl (k := 3) rfl (iI_add _ _) (by decide) rfl (fun ls hl => ?_)
        refine lv_goto (tgt := 16) hx hb dX11_deepest_51 (by decide) ?_
        exact ih16 x48_1 x48_2 (x16_3 + 1) f48_t_7_6 c48_t_7_5 _ _ ls (by omega) (by omega) hc48_t_7_5 (hP.sub [0, 1, 2, 3, 4] rfl) (hD.sub [0, 1, 2, 3, 4] (by decide) rfl) hS (lv_sub hl [1, 2, 3, 0] rfl)
      refine lv_iload_n hx hb dX11_deepest_16 rfl (lv_at hl 3 rfl) ?_
      refine lv_aload_n hx hb dX11_deepest_17 rfl (lv_at hl 0 rfl) ?_
      refine va_get (D := D) (own := RX11) (ci := 11) (v := .ref (t_q 1)) (C := RX11) (T := TX11) (N := 13) hx hb hts inb_X11 hown hK.1 hP 0 rfl rfl 1 (by decide) (hts _ wd_423) (fun _ h9 => h9) rfl dX11_deepest_18 ?_
      refine va_getN (D := D) (own := RX11) (ci := 7) (v := .int (iI t_1_x4)) (C := RX7) (T := TX7) (N := 15) hx hb hts inb_X7 hown hK.1 hP 1 rfl rfl 4 (by decide) (hK.nf 23 rfl) (fun _ h9 => h9) rfl dX11_deepest_21 ?_
      have y21_1 : 0 ≤ t_1_x4 ∧ t_1_x4 ≤ 12 := hi_t_1.2.2.2.2.1
      refine g_icmp_ge (tgt := 54) hx hb (by omega) (by omega) dX11_deepest_24 (by decide) (fun c24 => ?_) (fun c24 => ?_)
      · refine lv_iload_n hx hb dX11_deepest_54 rfl (lv_at hl 1 rfl) ?_
        rw [hQ]; exact fn_iret hx hb hr hlocks rfl hP hD hS ((fun k => ([f16_t_7_6] : List Int).getD k 0), (fun k => ([c16_t_7_5] : List (Nat → Int)).getD k (fun _ => 0))) ⟨x16_1, rfl, by omega, (by show 0 ≤ f16_t_7_6 ∧ f16_t_7_6 ≤ 4095; omega), (hc16_t_7_5), trivial⟩ [0, 1, 2, 3, 4] (by decide) rfl dX11_deepest_55
      · refine lv_aload_n hx hb dX11_deepest_27 rfl (lv_at hl 0 rfl) ?_
        refine va_get (D := D) (own := RX11) (ci := 11) (v := .ref (t_q 7)) (C := RX11) (T := TX11) (N := 13) hx hb hts inb_X11 hown hK.1 hP 0 rfl rfl 7 (by decide) (hts _ wd_429) (fun _ h9 => h9) rfl dX11_deepest_28 ?_
        refine lv_iload_n hx hb dX11_deepest_31 rfl (lv_at hl 3 rfl) ?_
        refine fn_goi (wc := [((t_q 7), .inr (10, oX10 t_7_q t_7_x0 t_7_x1 f16_t_7_6)), ((t_7_q 5), .inl (K 0, 12, .inl (fun j => iI (c16_t_7_5 j)))), ((t_7_q 4), .inl (K 0, 12, .inl (fun j => iI (t_7_4_c j))))]) (wr := [(t, .inr (11, oX11 t_q)), ((t_q 1), .inr (7, oX7 t_1_q t_1_x0 t_1_x1 t_1_x2 t_1_x3 t_1_x4 t_1_x5 t_1_x6 t_1_x7 t_1_x8))]) hK hP hD hS hA [2, 3, 4] [0, 1] rfl rfl (by decide) (fun hp => va_runVN (C := RX10) (As := [.int (iI x16_3)]) (rest := []) ⟨hx, hb, hml, hown, hts⟩ (k_X10_farthestFrom (l := l) (D := D) (K := K) (t := (t_q 7)) (p1 := x16_3) (t_q := t_7_q) (t_x0 := t_7_x0) (t_x1 := t_7_x1) (t_x6 := f16_t_7_6) (t_5_c := c16_t_7_5) (t_4_c := t_7_4_c) (hp1 := (by omega)) (hi_t := ⟨hi_t_7.1, hi_t_7.2.1, (by omega)⟩) (hc_t_5 := hc16_t_7_5) (hc_t_4 := hc_t_7_4) _) ⟨va_cnB (own := RX11) 1 hts (fn_gin wd_810) rfl rfl rfl (hK.nw 123 rfl) (hts _ wd_6) (by decide +kernel) ⟨Nat.le_of_ble_eq_true rfl, Nat.le_of_ble_eq_true rfl⟩, hts _ wd_809, hts _ wp_41⟩ ⟨fn_blind, va_recv hK.1 hP (ci := 10) (q0 := 2) rfl rfl, hp⟩ rfl rfl hl.1 rfl (lv_room (Nat.le_of_ble_eq_true rfl)) dX11_deepest_32 ⟨Nat.le_of_ble_eq_true rfl, Nat.le_of_ble_eq_true rfl⟩) (fun r32 u32 H locs hwu32 hP hD hS => ?_)
        obtain ⟨u32a, u32b⟩ := u32
        obtain ⟨kr32, rfl, hkr32, hqu320, hu32_00, -⟩ := hwu32
        have hqu32 : 0 ≤ (u32a 0) ∧ (u32a 0) ≤ 4095 := hqu320
        have hu32_0 : ∀ j : Nat, (-1) ≤ (u32b 0) j ∧ (u32b 0) j ≤ 12 := hu32_00
        clear hqu320 hu32_00
        have hP : va_P D vwCl [(t, .inr (11, oX11 t_q)), ((t_q 1), .inr (7, oX7 t_1_q t_1_x0 t_1_x1 t_1_x2 t_1_x3 t_1_x4 t_1_x5 t_1_x6 t_1_x7 t_1_x8)), ((t_q 7), .inr (10, oX10 t_7_q t_7_x0 t_7_x1 (u32a 0))), ((t_7_q 5), .inl (K 0, 12, .inl (fun j => iI ((u32b 0) j)))), ((t_7_q 4), .inl (K 0, 12, .inl (fun j => iI (t_7_4_c j))))] H := hP
        have hD : va_D A [(t, .inr (11, oX11 t_q)), ((t_q 1), .inr (7, oX7 t_1_q t_1_x0 t_1_x1 t_1_x2 t_1_x3 t_1_x4 t_1_x5 t_1_x6 t_1_x7 t_1_x8)), ((t_q 7), .inr (10, oX10 t_7_q t_7_x0 t_7_x1 (u32a 0))), ((t_7_q 5), .inl (K 0, 12, .inl (fun j => iI ((u32b 0) j)))), ((t_7_q 4), .inl (K 0, 12, .inl (fun j => iI (t_7_4_c j))))] := hD
        refine lv_istore (lv' := [(4, .int (iI kr32)), (0, .ref t), (1, .int (iI x16_1)), (2, .int (iI x16_2)), (3, .int (iI x16_3))]) hx hb dX11_deepest_35 hl (by decide) rfl (fun ls hl => ?_)
        refine lv_iload hx hb dX11_deepest_37 (lv_at hl 0 rfl) ?_
        refine lv_iload_n hx hb dX11_deepest_39 rfl (lv_at hl 3 rfl) ?_
        refine g_icmp_le (tgt := 48) hx hb (by omega) (by omega) dX11_deepest_40 (by decide) (fun c40 => ?_) (fun c40 => ?_)
        · exact J48 x16_1 x16_2 kr32 (u32a 0) (u32b 0) _ _ ls (by omega) hu32_0 (hP.sub [0, 1, 2, 3, 4] rfl) (hD.sub [0, 1, 2, 3, 4] (by decide) rfl) hS (lv_sub hl [1, 2, 3, 4, 0] rfl)
        · refine lv_iload hx hb dX11_deepest_43 (lv_at hl 0 rfl) ?_
          refine lv_istore_n (lv' := [(2, .int (iI kr32)), (4, .int (iI kr32)), (0, .ref t), (1, .int (iI x16_1)), (3, .int (iI x16_3))]) hx hb dX11_deepest_45 rfl hl (by decide) rfl (fun ls hl => ?_)
          refine lv_iload_n hx hb dX11_deepest_46 rfl (lv_at hl 4 rfl) ?_
          refine lv_istore_n (lv' := [(1, .int (iI x16_3)), (2, .int (iI kr32)), (4, .int (iI kr32)), (0, .ref t), (3, .int (iI x16_3))]) hx hb dX11_deepest_47 rfl hl (by decide) rfl (fun ls hl => ?_)
          exact J48 x16_3 kr32 kr32 (u32a 0) (u32b 0) _ _ ls (by omega) hu32_0 (hP.sub [0, 1, 2, 3, 4] rfl) (hD.sub [0, 1, 2, 3, 4] (by decide) rfl) hS (lv_sub hl [3, 0, 1, 4, 2] rfl)
  have hl : lv_has ls 5 [(0, .ref t)] := hl
  refine lv_aload_n hx hb dX11_deepest_0 rfl (lv_at hl 0 rfl) ?_
  refine fn_goi (wc := [(t, .inr (11, oX11 t_q)), ((t_q 1), .inr (7, oX7 t_1_q t_1_x0 t_1_x1 t_1_x2 t_1_x3 t_1_x4 t_1_x5 t_1_x6 t_1_x7 t_1_x8))]) (wr := [((t_q 7), .inr (10, oX10 t_7_q t_7_x0 t_7_x1 t_7_x6)), ((t_7_q 5), .inl (K 0, 12, .inl (fun j => iI (t_7_5_c j)))), ((t_7_q 4), .inl (K 0, 12, .inl (fun j => iI (t_7_4_c j))))]) hK hP hD hS hA [0, 1] [2, 3, 4] rfl rfl (by decide) (fun hp => va_runV (C := RX11) (As := []) (rest := []) ⟨hx, hb, hml, hown, hts⟩ (k_X11_noTown (l := l) (D := D) (K := K) (t := t) (t_q := t_q) (t_1_q := t_1_q) (t_1_x0 := t_1_x0) (t_1_x1 := t_1_x1) (t_1_x2 := t_1_x2) (t_1_x3 := t_1_x3) (t_1_x4 := t_1_x4) (t_1_x5 := t_1_x5) (t_1_x6 := t_1_x6) (t_1_x7 := t_1_x7) (t_1_x8 := t_1_x8) (hi_t_1 := hi_t_1) _) (cwV 0 hts (fn_ginV (fn_gin wd_709) wd_706 wd_708 wp_30 wd_1) rfl rfl rfl (by decide +kernel) ⟨Nat.le_of_ble_eq_true rfl, Nat.le_of_ble_eq_true rfl⟩) ⟨fn_blind, va_recv hK.1 hP (ci := 11) (q0 := 0) rfl rfl, hp⟩ rfl rfl hl.1 rfl (lv_room (Nat.le_of_ble_eq_true rfl)) dX11_deepest_1 ⟨Nat.le_of_ble_eq_true rfl, Nat.le_of_ble_eq_true rfl⟩) (fun r1 u1 H locs hwu1 hP hD hS => ?_)
  obtain ⟨u1a, u1b⟩ := u1
  obtain ⟨kr1, rfl, hkr1, -⟩ := hwu1
  have hP : va_P D vwCl [((t_q 7), .inr (10, oX10 t_7_q t_7_x0 t_7_x1 t_7_x6)), ((t_7_q 5), .inl (K 0, 12, .inl (fun j => iI (t_7_5_c j)))), ((t_7_q 4), .inl (K 0, 12, .inl (fun j => iI (t_7_4_c j)))), (t, .inr (11, oX11 t_q)), ((t_q 1), .inr (7, oX7 t_1_q t_1_x0 t_1_x1 t_1_x2 t_1_x3 t_1_x4 t_1_x5 t_1_x6 t_1_x7 t_1_x8))] H := hP
  have hD : va_D A [((t_q 7), .inr (10, oX10 t_7_q t_7_x0 t_7_x1 t_7_x6)), ((t_7_q 5), .inl (K 0, 12, .inl (fun j => iI (t_7_5_c j)))), ((t_7_q 4), .inl (K 0, 12, .inl (fun j => iI (t_7_4_c j)))), (t, .inr (11, oX11 t_q)), ((t_q 1), .inr (7, oX7 t_1_q t_1_x0 t_1_x1 t_1_x2 t_1_x3 t_1_x4 t_1_x5 t_1_x6 t_1_x7 t_1_x8))] := hD
  refine g_if_eq (tgt := 10) hx hb (by omega) dX11_deepest_4 (by decide) (fun c4 => ?_) (fun c4 => ?_)
  · refine lv_iconst (v := iI (-1)) hx hb dX11_deepest_10 rfl ?_
    refine lv_istore_n (lv' := [(1, .int (iI (-1))), (0, .ref t)]) hx hb dX11_deepest_11 rfl hl (by decide) rfl (fun ls hl => ?_)
    refine lv_iconst (v := iI 0) hx hb dX11_deepest_12 rfl ?_
    refine lv_istore_n (lv' := [(2, .int (iI 0)), (1, .int (iI (-1))), (0, .ref t)]) hx hb dX11_deepest_13 rfl hl (by decide) rfl (fun ls hl => ?_)
    refine lv_iconst (v := iI 0) hx hb dX11_deepest_14 rfl ?_
    refine lv_istore_n (lv' := [(3, .int (iI 0)), (2, .int (iI 0)), (1, .int (iI (-1))), (0, .ref t)]) hx hb dX11_deepest_15 rfl hl (by decide) rfl (fun ls hl => ?_)
    have y16_1 : 0 ≤ t_7_x6 ∧ t_7_x6 ≤ 4095 := hi_t_7.2.2
    exact J16 _ (-1) 0 0 t_7_x6 t_7_5_c _ _ ls (Nat.lt_succ_self _) (by omega) hc_t_7_5 (hP.sub [3, 4, 0, 1, 2] rfl) (hD.sub [3, 4, 0, 1, 2] (by decide) rfl) hS (lv_sub hl [3, 2, 1, 0] rfl)
  · refine lv_bipush (v := iI (-2)) hx hb dX11_deepest_7 (by decide) ?_
    have y9_1 : 0 ≤ t_7_x6 ∧ t_7_x6 ≤ 4095 := hi_t_7.2.2
    rw [hQ]; exact fn_iret hx hb hr hlocks rfl hP hD hS ((fun k => ([t_7_x6] : List Int).getD k 0), (fun k => ([t_7_5_c] : List (Nat → Int)).getD k (fun _ => 0))) ⟨(-2), rfl, by omega, (by show 0 ≤ t_7_x6 ∧ t_7_x6 ≤ 4095; omega), (hc_t_7_5), trivial⟩ [3, 4, 0, 1, 2] (by decide) rfl dX11_deepest_9
theorem dX11_grounded_0 : decode cX11_grounded 0 = .ok (.aload_n 0, 1) := by decide +kernel
theorem dX11_grounded_1 : decode cX11_grounded 1 = .ok (.invokevirtual 188, 3) := by decide +kernel
theorem dX11_grounded_4 : decode cX11_grounded 4 = .ok (.ifCond .eq 8, 3) := by decide +kernel
theorem dX11_grounded_12 : decode cX11_grounded 12 = .ok (.aload_n 0, 1) := by decide +kernel
theorem dX11_grounded_13 : decode cX11_grounded 13 = .ok (.getfield 51, 3) := by decide +kernel
theorem dX11_grounded_16 : decode cX11_grounded 16 = .ok (.iconst 0, 1) := by decide +kernel
theorem dX11_grounded_17 : decode cX11_grounded 17 = .ok (.invokevirtual 239, 3) := by decide +kernel
theorem dX11_grounded_20 : decode cX11_grounded 20 = .ok (.ireturn, 1) := by decide +kernel
theorem dX11_grounded_7 : decode cX11_grounded 7 = .ok (.bipush (-2), 2) := by decide +kernel
theorem dX11_grounded_9 : decode cX11_grounded 9 = .ok (.goto 11, 3) := by decide +kernel
set_option maxHeartbeats 4000000 in
set_option maxRecDepth 100000 in
theorem k_X11_grounded (l : Launch) (D : va_G) (K : Nat → ClassId) (t : Nat) (t_q t_1_q t_7_q : Nat → Nat) (t_1_x0 t_1_x1 t_1_x2 t_1_x3 t_1_x4 t_1_x5 t_1_x6 t_1_x7 t_1_x8 t_7_x0 t_7_x1 t_7_x6 : Int) (t_7_4_c : Nat → Int) (hi_t_1 : bX7 t_1_x0 t_1_x1 t_1_x2 t_1_x3 t_1_x4 t_1_x5 t_1_x6 t_1_x7 t_1_x8) (hi_t_7 : bX10 t_7_x0 t_7_x1 t_7_x6) (hc_t_7_4 : ∀ j : Nat, 0 ≤ t_7_4_c j ∧ t_7_4_c j ≤ 4095) : fn_CI (S := (Nat → Int) × (Nat → Nat → Int)) l D K yX11_grounded (fn_ws yX11_grounded cX11_grounded 1 (some .int)) ({ frames := 8, cells := 0, slots := 0, locals := 200 } : Room) [.ref t] [(t, .inr (11, oX11 t_q)), ((t_q 1), .inr (7, oX7 t_1_q t_1_x0 t_1_x1 t_1_x2 t_1_x3 t_1_x4 t_1_x5 t_1_x6 t_1_x7 t_1_x8)), ((t_q 7), .inr (10, oX10 t_7_q t_7_x0 t_7_x1 t_7_x6)), ((t_7_q 4), .inl (K 0, 12, .inl (fun j => iI (t_7_4_c j))))] (fun r u => ∃ k : Int, r = iI k ∧ ((-2) ≤ k ∧ k ≤ 4095) ∧ True) (fun u => [(t, .inr (11, oX11 t_q)), ((t_q 1), .inr (7, oX7 t_1_q t_1_x0 t_1_x1 t_1_x2 t_1_x3 t_1_x4 t_1_x5 t_1_x6 t_1_x7 t_1_x8)), ((t_q 7), .inr (10, oX10 t_7_q t_7_x0 t_7_x1 t_7_x6)), ((t_7_q 4), .inl (K 0, 12, .inl (fun j => iI (t_7_4_c j))))]) 0 0 := by
  refine g_inI (cc := cX11_grounded) (maxL := 1) (ret := (some .int)) (by decide) rfl (Nat.le_of_ble_eq_true rfl) ?_
  intro p e s m below meth c A ls ag Q B hA hP hD hS hl hQ
  obtain ⟨hx, hb, hr, hml, hts, hown, hlocks, hin, hK⟩ := B
  have hown : s.vm.findClass RX11 = some m.cls := hown
  have hts := fun w h => hts w (List.mem_cons_of_mem _ h)
  have hl : lv_has ls 1 [(0, .ref t)] := hl
  refine lv_aload_n hx hb dX11_grounded_0 rfl (lv_at hl 0 rfl) ?_
  refine fn_goi (wc := [(t, .inr (11, oX11 t_q)), ((t_q 1), .inr (7, oX7 t_1_q t_1_x0 t_1_x1 t_1_x2 t_1_x3 t_1_x4 t_1_x5 t_1_x6 t_1_x7 t_1_x8))]) (wr := [((t_q 7), .inr (10, oX10 t_7_q t_7_x0 t_7_x1 t_7_x6)), ((t_7_q 4), .inl (K 0, 12, .inl (fun j => iI (t_7_4_c j))))]) hK hP hD hS hA [0, 1] [2, 3] rfl rfl (by decide) (fun hp => va_runV (C := RX11) (As := []) (rest := []) ⟨hx, hb, hml, hown, hts⟩ (k_X11_noTown (l := l) (D := D) (K := K) (t := t) (t_q := t_q) (t_1_q := t_1_q) (t_1_x0 := t_1_x0) (t_1_x1 := t_1_x1) (t_1_x2 := t_1_x2) (t_1_x3 := t_1_x3) (t_1_x4 := t_1_x4) (t_1_x5 := t_1_x5) (t_1_x6 := t_1_x6) (t_1_x7 := t_1_x7) (t_1_x8 := t_1_x8) (hi_t_1 := hi_t_1) _) (cwV 0 hts (fn_ginV (fn_gin wd_709) wd_706 wd_708 wp_30 wd_1) rfl rfl rfl (by decide +kernel) ⟨Nat.le_of_ble_eq_true rfl, Nat.le_of_ble_eq_true rfl⟩) ⟨fn_blind, va_recv hK.1 hP (ci := 11) (q0 := 0) rfl rfl, hp⟩ rfl rfl hl.1 rfl (lv_room (Nat.le_of_ble_eq_true rfl)) dX11_grounded_1 ⟨Nat.le_of_ble_eq_true rfl, Nat.le_of_ble_eq_true rfl⟩) (fun r1 u1 H locs hwu1 hP hD hS => ?_)
  obtain ⟨u1a, u1b⟩ := u1
  obtain ⟨kr1, rfl, hkr1, -⟩ := hwu1
  have hP : va_P D vwCl [((t_q 7), .inr (10, oX10 t_7_q t_7_x0 t_7_x1 t_7_x6)), ((t_7_q 4), .inl (K 0, 12, .inl (fun j => iI (t_7_4_c j)))), (t, .inr (11, oX11 t_q)), ((t_q 1), .inr (7, oX7 t_1_q t_1_x0 t_1_x1 t_1_x2 t_1_x3 t_1_x4 t_1_x5 t_1_x6 t_1_x7 t_1_x8))] H := hP
  have hD : va_D A [((t_q 7), .inr (10, oX10 t_7_q t_7_x0 t_7_x1 t_7_x6)), ((t_7_q 4), .inl (K 0, 12, .inl (fun j => iI (t_7_4_c j)))), (t, .inr (11, oX11 t_q)), ((t_q 1), .inr (7, oX7 t_1_q t_1_x0 t_1_x1 t_1_x2 t_1_x3 t_1_x4 t_1_x5 t_1_x6 t_1_x7 t_1_x8))] := hD
  refine g_if_eq (tgt := 12) hx hb (by omega) dX11_grounded_4 (by decide) (fun c4 => ?_) (fun c4 => ?_)
  · refine lv_aload_n hx hb dX11_grounded_12 rfl (lv_at hl 0 rfl) ?_
    refine va_get (D := D) (own := RX11) (ci := 11) (v := .ref (t_q 7)) (C := RX11) (T := TX11) (N := 13) hx hb hts inb_X11 hown hK.1 hP 2 rfl rfl 7 (by decide) (hts _ wd_429) (fun _ h9 => h9) rfl dX11_grounded_13 ?_
    refine lv_iconst (v := iI 0) hx hb dX11_grounded_16 rfl ?_
    refine fn_goi (wc := [((t_q 7), .inr (10, oX10 t_7_q t_7_x0 t_7_x1 t_7_x6)), ((t_7_q 4), .inl (K 0, 12, .inl (fun j => iI (t_7_4_c j))))]) (wr := [(t, .inr (11, oX11 t_q)), ((t_q 1), .inr (7, oX7 t_1_q t_1_x0 t_1_x1 t_1_x2 t_1_x3 t_1_x4 t_1_x5 t_1_x6 t_1_x7 t_1_x8))]) hK hP hD hS hA [0, 1] [2, 3] rfl rfl (by decide) (fun hp => va_runVN (C := RX10) (As := [.int (iI 0)]) (rest := []) ⟨hx, hb, hml, hown, hts⟩ (k_X10_groundedWithout (l := l) (D := D) (K := K) (t := (t_q 7)) (p1 := 0) (t_q := t_7_q) (t_x0 := t_7_x0) (t_x1 := t_7_x1) (t_x6 := t_7_x6) (t_4_c := t_7_4_c) (hp1 := (by omega)) (hi_t := hi_t_7) (hc_t_4 := hc_t_7_4) _) ⟨va_cnB (own := RX11) 1 hts (fn_gin wd_825) rfl rfl rfl (hK.nw 124 rfl) (hts _ wd_6) (by decide +kernel) ⟨Nat.le_of_ble_eq_true rfl, Nat.le_of_ble_eq_true rfl⟩, hts _ wd_824, hts _ wp_42⟩ ⟨fn_blind, va_recv hK.1 hP (ci := 10) (q0 := 0) rfl rfl, hp⟩ rfl rfl hl.1 rfl (lv_room (Nat.le_of_ble_eq_true rfl)) dX11_grounded_17 ⟨Nat.le_of_ble_eq_true rfl, Nat.le_of_ble_eq_true rfl⟩) (fun r17 u17 H locs hwu17 hP hD hS => ?_)
    obtain ⟨u17a, u17b⟩ := u17
    obtain ⟨kr17, rfl, hkr17, -⟩ := hwu17
    have hP : va_P D vwCl [(t, .inr (11, oX11 t_q)), ((t_q 1), .inr (7, oX7 t_1_q t_1_x0 t_1_x1 t_1_x2 t_1_x3 t_1_x4 t_1_x5 t_1_x6 t_1_x7 t_1_x8)), ((t_q 7), .inr (10, oX10 t_7_q t_7_x0 t_7_x1 t_7_x6)), ((t_7_q 4), .inl (K 0, 12, .inl (fun j => iI (t_7_4_c j))))] H := hP
    have hD : va_D A [(t, .inr (11, oX11 t_q)), ((t_q 1), .inr (7, oX7 t_1_q t_1_x0 t_1_x1 t_1_x2 t_1_x3 t_1_x4 t_1_x5 t_1_x6 t_1_x7 t_1_x8)), ((t_q 7), .inr (10, oX10 t_7_q t_7_x0 t_7_x1 t_7_x6)), ((t_7_q 4), .inl (K 0, 12, .inl (fun j => iI (t_7_4_c j))))] := hD
    rw [hQ]; exact fn_iret hx hb hr hlocks rfl hP hD hS ((fun _ => 0), (fun _ _ => 0)) ⟨kr17, rfl, by omega, trivial⟩ [0, 1, 2, 3] (by decide) rfl dX11_grounded_20
  · refine lv_bipush (v := iI (-2)) hx hb dX11_grounded_7 (by decide) ?_
    refine lv_goto (tgt := 20) hx hb dX11_grounded_9 (by decide) ?_
    rw [hQ]; exact fn_iret hx hb hr hlocks rfl hP hD hS ((fun _ => 0), (fun _ _ => 0)) ⟨(-2), rfl, by omega, trivial⟩ [2, 3, 0, 1] (by decide) rfl dX11_grounded_20
