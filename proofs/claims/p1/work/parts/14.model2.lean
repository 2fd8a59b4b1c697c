set_option maxHeartbeats 4000000 in
set_option maxRecDepth 100000 in
theorem c_X12_in_i0 (l : Launch) (D : va_G) (K : Nat → ClassId) (p0 : Int32) : fn_CI (S := Unit) l D K yX12_in (fn_ws yX12_in cX12_in 6 (some .boolean)) ({ frames := 4, cells := 0, slots := 0, locals := 100 }) [.long (Int32.toInt64 p0), .long 0, .long 0] [] (fun r _ => (r = 1 ∧ fn_ok p0 1) ∨ (r = 0 ∧ ¬ fn_ok p0 1)) (fun _ => []) 0 0 := by
  refine fn_inI (cc := cX12_in) (maxL := 6) (ret := (some .boolean)) (by decide) rfl (Nat.le_of_ble_eq_true rfl) ?_
  intro p e s m below meth c A ls B hA hP hD hS hl
  obtain ⟨hx, hb, hr, hml, hts, hown, hlocks, hin, hK⟩ := B
  have hown : s.vm.findClass RX12 = some m.cls := hown
  have hts := fun w h => hts w (List.mem_cons_of_mem _ h)
  have hl : lv_has ls 6 [(0, .long (Int32.toInt64 p0)), (2, .long 0), (4, .long 0)] := hl
  refine lv_lload_n hx hb dX12_in_0 rfl (lv_at hl 0 rfl) ?_
  refine lv_lload_n hx hb dX12_in_1 rfl (lv_at hl 1 rfl) ?_
  refine W.lcmp hx hb dX12_in_2 ?_
  refine lv_if_lt (tgt := 17) hx hb dX12_in_3 (by decide) (fun c3 => ?_) (fun c3 => ?_)
  · refine lv_iconst (v := 0) hx hb dX12_in_17 (by decide) ?_
    exact fn_iret hx hb hr hlocks rfl hP hD hS () (by first | exact Or.inl ⟨rfl, fn_inY (by decide) c3 c10⟩ | exact Or.inr ⟨rfl, fn_inNa (b := 0) (by decide) c3⟩ | exact Or.inr ⟨rfl, fn_inNb (by decide) c10⟩) [] (by decide) rfl dX12_in_18
  · refine lv_lload_n hx hb dX12_in_6 rfl (lv_at hl 0 rfl) ?_
    refine lv_lload hx hb dX12_in_7 (lv_at hl 2 rfl) ?_
    refine W.lcmp hx hb dX12_in_9 ?_
    refine lv_if_gt (tgt := 17) hx hb dX12_in_10 (by decide) (fun c10 => ?_) (fun c10 => ?_)
    · refine lv_iconst (v := 0) hx hb dX12_in_17 (by decide) ?_
      exact fn_iret hx hb hr hlocks rfl hP hD hS () (by first | exact Or.inl ⟨rfl, fn_inY (by decide) c3 c10⟩ | exact Or.inr ⟨rfl, fn_inNa (b := 0) (by decide) c3⟩ | exact Or.inr ⟨rfl, fn_inNb (by decide) c10⟩) [] (by decide) rfl dX12_in_18
    · refine lv_iconst (v := 1) hx hb dX12_in_13 (by decide) ?_
      refine lv_goto (tgt := 18) hx hb dX12_in_14 (by decide) ?_
      exact fn_iret hx hb hr hlocks rfl hP hD hS () (by first | exact Or.inl ⟨rfl, fn_inY (by decide) c3 c10⟩ | exact Or.inr ⟨rfl, fn_inNa (b := 0) (by decide) c3⟩ | exact Or.inr ⟨rfl, fn_inNb (by decide) c10⟩) [] (by decide) rfl dX12_in_18
set_option maxHeartbeats 4000000 in
set_option maxRecDepth 100000 in
theorem c_X12_in_i2 (l : Launch) (D : va_G) (K : Nat → ClassId) (p0 : Int32) : fn_CI (S := Unit) l D K yX12_in (fn_ws yX12_in cX12_in 6 (some .boolean)) ({ frames := 4, cells := 0, slots := 0, locals := 100 }) [.long (Int32.toInt64 p0), .long 0, .long 2] [] (fun r _ => (r = 1 ∧ fn_ok p0 3) ∨ (r = 0 ∧ ¬ fn_ok p0 3)) (fun _ => []) 0 0 := by
  refine fn_inI (cc := cX12_in) (maxL := 6) (ret := (some .boolean)) (by decide) rfl (Nat.le_of_ble_eq_true rfl) ?_
  intro p e s m below meth c A ls B hA hP hD hS hl
  obtain ⟨hx, hb, hr, hml, hts, hown, hlocks, hin, hK⟩ := B
  have hown : s.vm.findClass RX12 = some m.cls := hown
  have hts := fun w h => hts w (List.mem_cons_of_mem _ h)
  have hl : lv_has ls 6 [(0, .long (Int32.toInt64 p0)), (2, .long 0), (4, .long 2)] := hl
  refine lv_lload_n hx hb dX12_in_0 rfl (lv_at hl 0 rfl) ?_
  refine lv_lload_n hx hb dX12_in_1 rfl (lv_at hl 1 rfl) ?_
  refine W.lcmp hx hb dX12_in_2 ?_
  refine lv_if_lt (tgt := 17) hx hb dX12_in_3 (by decide) (fun c3 => ?_) (fun c3 => ?_)
  · refine lv_iconst (v := 0) hx hb dX12_in_17 (by decide) ?_
    exact fn_iret hx hb hr hlocks rfl hP hD hS () (by first | exact Or.inl ⟨rfl, fn_inY (by decide) c3 c10⟩ | exact Or.inr ⟨rfl, fn_inNa (b := 2) (by decide) c3⟩ | exact Or.inr ⟨rfl, fn_inNb (by decide) c10⟩) [] (by decide) rfl dX12_in_18
  · refine lv_lload_n hx hb dX12_in_6 rfl (lv_at hl 0 rfl) ?_
    refine lv_lload hx hb dX12_in_7 (lv_at hl 2 rfl) ?_
    refine W.lcmp hx hb dX12_in_9 ?_
    refine lv_if_gt (tgt := 17) hx hb dX12_in_10 (by decide) (fun c10 => ?_) (fun c10 => ?_)
    · refine lv_iconst (v := 0) hx hb dX12_in_17 (by decide) ?_
      exact fn_iret hx hb hr hlocks rfl hP hD hS () (by first | exact Or.inl ⟨rfl, fn_inY (by decide) c3 c10⟩ | exact Or.inr ⟨rfl, fn_inNa (b := 2) (by decide) c3⟩ | exact Or.inr ⟨rfl, fn_inNb (by decide) c10⟩) [] (by decide) rfl dX12_in_18
    · refine lv_iconst (v := 1) hx hb dX12_in_13 (by decide) ?_
      refine lv_goto (tgt := 18) hx hb dX12_in_14 (by decide) ?_
      exact fn_iret hx hb hr hlocks rfl hP hD hS () (by first | exact Or.inl ⟨rfl, fn_inY (by decide) c3 c10⟩ | exact Or.inr ⟨rfl, fn_inNa (b := 2) (by decide) c3⟩ | exact Or.inr ⟨rfl, fn_inNb (by decide) c10⟩) [] (by decide) rfl dX12_in_18
set_option maxHeartbeats 4000000 in
set_option maxRecDepth 100000 in
theorem c_X12_in_i3 (l : Launch) (D : va_G) (K : Nat → ClassId) (p0 : Int32) : fn_CI (S := Unit) l D K yX12_in (fn_ws yX12_in cX12_in 6 (some .boolean)) ({ frames := 4, cells := 0, slots := 0, locals := 100 }) [.long (Int32.toInt64 p0), .long 0, .long 3] [] (fun r _ => (r = 1 ∧ fn_ok p0 4) ∨ (r = 0 ∧ ¬ fn_ok p0 4)) (fun _ => []) 0 0 := by
  refine fn_inI (cc := cX12_in) (maxL := 6) (ret := (some .boolean)) (by decide) rfl (Nat.le_of_ble_eq_true rfl) ?_
  intro p e s m below meth c A ls B hA hP hD hS hl
  obtain ⟨hx, hb, hr, hml, hts, hown, hlocks, hin, hK⟩ := B
  have hown : s.vm.findClass RX12 = some m.cls := hown
  have hts := fun w h => hts w (List.mem_cons_of_mem _ h)
  have hl : lv_has ls 6 [(0, .long (Int32.toInt64 p0)), (2, .long 0), (4, .long 3)] := hl
  refine lv_lload_n hx hb dX12_in_0 rfl (lv_at hl 0 rfl) ?_
  refine lv_lload_n hx hb dX12_in_1 rfl (lv_at hl 1 rfl) ?_
  refine W.lcmp hx hb dX12_in_2 ?_
  refine lv_if_lt (tgt := 17) hx hb dX12_in_3 (by decide) (fun c3 => ?_) (fun c3 => ?_)
  · refine lv_iconst (v := 0) hx hb dX12_in_17 (by decide) ?_
    exact fn_iret hx hb hr hlocks rfl hP hD hS () (by first | exact Or.inl ⟨rfl, fn_inY (by decide) c3 c10⟩ | exact Or.inr ⟨rfl, fn_inNa (b := 3) (by decide) c3⟩ | exact Or.inr ⟨rfl, fn_inNb (by decide) c10⟩) [] (by decide) rfl dX12_in_18
  · refine lv_lload_n hx hb dX12_in_6 rfl (lv_at hl 0 rfl) ?_
    refine lv_lload hx hb dX12_in_7 (lv_at hl 2 rfl) ?_
    refine W.lcmp hx hb dX12_in_9 ?_
    refine lv_if_gt (tgt := 17) hx hb dX12_in_10 (by decide) (fun c10 => ?_) (fun c10 => ?_)
    · refine lv_iconst (v := 0) hx hb dX12_in_17 (by decide) ?_
      exact fn_iret hx hb hr hlocks rfl hP hD hS () (by first | exact Or.inl ⟨rfl, fn_inY (by decide) c3 c10⟩ | exact Or.inr ⟨rfl, fn_inNa (b := 3) (by decide) c3⟩ | exact Or.inr ⟨rfl, fn_inNb (by decide) c10⟩) [] (by decide) rfl dX12_in_18
    · refine lv_iconst (v := 1) hx hb dX12_in_13 (by decide) ?_
      refine lv_goto (tgt := 18) hx hb dX12_in_14 (by decide) ?_
      exact fn_iret hx hb hr hlocks rfl hP hD hS () (by first | exact Or.inl ⟨rfl, fn_inY (by decide) c3 c10⟩ | exact Or.inr ⟨rfl, fn_inNa (b := 3) (by decide) c3⟩ | exact Or.inr ⟨rfl, fn_inNb (by decide) c10⟩) [] (by decide) rfl dX12_in_18
theorem dX12_isSlot_0 : decode cX12_isSlot 0 = .ok (.iload_n 0, 1) := by decide +kernel
theorem dX12_isSlot_1 : decode cX12_isSlot 1 = .ok (.i2l, 1) := by decide +kernel
theorem dX12_isSlot_2 : decode cX12_isSlot 2 = .ok (.lconst 0, 1) := by decide +kernel
theorem dX12_isSlot_3 : decode cX12_isSlot 3 = .ok (.ldc2_w 107, 3) := by decide +kernel
theorem dX12_isSlot_6 : decode cX12_isSlot 6 = .ok (.invokestatic 109, 3) := by decide +kernel
theorem dX12_isSlot_9 : decode cX12_isSlot 9 = .ok (.ireturn, 1) := by decide +kernel
set_option maxHeartbeats 4000000 in
set_option maxRecDepth 100000 in
theorem c_X12_isSlot (l : Launch) (D : va_G) (K : Nat → ClassId) (p0 : Int32) : fn_CI (S := Unit) l D K yX12_isSlot (fn_ws yX12_isSlot cX12_isSlot 1 (some .boolean)) ({ frames := 8, cells := 0, slots := 0, locals := 200 }) [.int p0] [] (fun r _ => (r = 1 ∧ fn_ok p0 4) ∨ (r = 0 ∧ ¬ fn_ok p0 4)) (fun _ => []) 0 0 := by
  refine fn_inI (cc := cX12_isSlot) (maxL := 1) (ret := (some .boolean)) (by decide) rfl (Nat.le_of_ble_eq_true rfl) ?_
  intro p e s m below meth c A ls B hA hP hD hS hl
  obtain ⟨hx, hb, hr, hml, hts, hown, hlocks, hin, hK⟩ := B
  have hown : s.vm.findClass RX12 = some m.cls := hown
  have hts := fun w h => hts w (List.mem_cons_of_mem _ h)
  have hl : lv_has ls 1 [(0, .int p0)] := hl
  refine lv_iload_n hx hb dX12_isSlot_0 rfl (lv_at hl 0 rfl) ?_
  refine lv_i2l hx hb dX12_isSlot_1 rfl ?_
  refine lv_lconst (v := 0) hx hb dX12_isSlot_2 (by decide) ?_
  refine lv_ldc2 (own := RX12) (v := 3) hx hb hown (hts _ wd_1395) dX12_isSlot_3 ?_
  refine fn_goi (wc := []) (wr := []) hK hP hD hS hA [] [] rfl rfl (by decide) (fun hp => va_runS (As := [.long (Int32.toInt64 p0), .long 0, .long 3]) (rest := []) ⟨hx, hb, hml, hown, hts⟩ (c_X12_in_i3 (l := l) (D := D) (K := K) (p0 := (p0)) _) (va_cwS 3 hts (fn_ginS (fn_gin wd_1398) wd_1396 wd_1397 wd_13) rfl rfl rfl (by decide +kernel) ⟨Nat.le_of_ble_eq_true rfl, Nat.le_of_ble_eq_true rfl⟩) ⟨fn_blind, hp⟩ rfl rfl hl.1 rfl (lv_room (Nat.le_of_ble_eq_true rfl)) dX12_isSlot_6 ⟨Nat.le_of_ble_eq_true rfl, Nat.le_of_ble_eq_true rfl⟩) (fun r2 u1 H locs hwu1 hP hD hS => ?_)
  rcases hwu1 with ⟨rfl, k3⟩ | ⟨rfl, k3⟩
  · have hP : va_P D vwCl [] H := hP
    have hD : va_D A [] := hD
    exact fn_iret hx hb hr hlocks rfl hP hD hS () (Or.inl ⟨rfl, k3⟩) [] (by decide) rfl dX12_isSlot_9
  · have hP : va_P D vwCl [] H := hP
    have hD : va_D A [] := hD
    exact fn_iret hx hb hr hlocks rfl hP hD hS () (Or.inr ⟨rfl, k3⟩) [] (by decide) rfl dX12_isSlot_9
theorem dX12_whyNot_0 : decode cX12_whyNot 0 = .ok (.iload_n 1, 1) := by decide +kernel
theorem dX12_whyNot_1 : decode cX12_whyNot 1 = .ok (.invokestatic 113, 3) := by decide +kernel
theorem dX12_whyNot_4 : decode cX12_whyNot 4 = .ok (.ifCond .eq 12, 3) := by decide +kernel
theorem dX12_whyNot_7 : decode cX12_whyNot 7 = .ok (.aload_n 0, 1) := by decide +kernel
theorem dX12_whyNot_8 : decode cX12_whyNot 8 = .ok (.iload_n 2, 1) := by decide +kernel
theorem dX12_whyNot_9 : decode cX12_whyNot 9 = .ok (.i2l, 1) := by decide +kernel
theorem dX12_whyNot_10 : decode cX12_whyNot 10 = .ok (.invokevirtual 262, 3) := by decide +kernel
theorem dX12_whyNot_13 : decode cX12_whyNot 13 = .ok (.ifCond .ne 6, 3) := by decide +kernel
theorem dX12_whyNot_16 : decode cX12_whyNot 16 = .ok (.bipush (-2), 2) := by decide +kernel
theorem dX12_whyNot_18 : decode cX12_whyNot 18 = .ok (.ireturn, 1) := by decide +kernel
set_option maxHeartbeats 4000000 in
set_option maxRecDepth 100000 in
theorem c_X12_whyNot (l : Launch) (D : va_G) (K : Nat → ClassId) (m0 al ah : Nat) (fm : List Value) (hmn : fm.length = 51) (hm16 : fm[16]? = some (.ref al)) (hm17 : fm[17]? = some (.ref ah)) (fl fh : Nat → Int32) (hfl : ∀ j, fl j = 0) (hfh : ∀ j, fh j = 0) (p0 p1 : Int32) : fn_CI (S := Unit) l D K yX12_whyNot (fn_ws yX12_whyNot cX12_whyNot 4 (some .int)) ({ frames := 12, cells := 0, slots := 0, locals := 300 }) [.ref m0, .int p0, .int p1] [(m0, .inr (12, fm)), (al, .inl (K 0, 5, .inl fl)), (ah, .inl (K 0, 40, .inl fh))] (fun r _ => r = (-2)) (fun _ => []) 0 0 := by
  refine fn_inI (cc := cX12_whyNot) (maxL := 4) (ret := (some .int)) (by decide) rfl (Nat.le_of_ble_eq_true rfl) ?_
  intro p e s m below meth c A ls B hA hP hD hS hl
  obtain ⟨hx, hb, hr, hml, hts, hown, hlocks, hin, hK⟩ := B
  have hown : s.vm.findClass RX12 = some m.cls := hown
  have hts := fun w h => hts w (List.mem_cons_of_mem _ h)
  have hl : lv_has ls 4 [(0, .ref m0), (1, .int p0), (2, .int p1)] := hl
  refine lv_iload_n hx hb dX12_whyNot_0 rfl (lv_at hl 1 rfl) ?_
  refine fn_goi (wc := []) (wr := [(m0, .inr (12, fm)), (al, .inl (K 0, 5, .inl fl)), (ah, .inl (K 0, 40, .inl fh))]) hK hP hD hS hA [] [0, 1, 2] rfl rfl (by decide) (fun hp => va_runS (As := [.int p0]) (rest := []) ⟨hx, hb, hml, hown, hts⟩ (c_X12_isSlot (l := l) (D := D) (K := K) (p0 := (p0)) _) (va_cwS 1 hts (fn_ginS (fn_gin wd_1394) wd_1392 wd_1393 wd_13) rfl rfl rfl (by decide +kernel) ⟨Nat.le_of_ble_eq_true rfl, Nat.le_of_ble_eq_true rfl⟩) ⟨fn_blind, hp⟩ rfl rfl hl.1 rfl (lv_room (Nat.le_of_ble_eq_true rfl)) dX12_whyNot_1 ⟨Nat.le_of_ble_eq_true rfl, Nat.le_of_ble_eq_true rfl⟩) (fun r2 u1 H locs hwu1 hP hD hS => ?_)
  rcases hwu1 with ⟨rfl, k3⟩ | ⟨rfl, k3⟩
  · have hP : va_P D vwCl [(m0, .inr (12, fm)), (al, .inl (K 0, 5, .inl fl)), (ah, .inl (K 0, 40, .inl fh))] H := hP
    have hD : va_D A [(m0, .inr (12, fm)), (al, .inl (K 0, 5, .inl fl)), (ah, .inl (K 0, 40, .inl fh))] := hD
    refine lv_if_eq (tgt := 16) hx hb dX12_whyNot_4 (by decide) (fun h9 => absurd h9 (by decide)) (fun _ => ?_)
    refine lv_aload_n hx hb dX12_whyNot_7 rfl (lv_at hl 0 rfl) ?_
    refine lv_iload_n hx hb dX12_whyNot_8 rfl (lv_at hl 2 rfl) ?_
    refine lv_i2l hx hb dX12_whyNot_9 rfl ?_
    refine fn_goi (wc := [(m0, .inr (12, fm)), (al, .inl (K 0, 5, .inl fl)), (ah, .inl (K 0, 40, .inl fh))]) (wr := []) hK hP hD hS hA [0, 1, 2] [] rfl rfl (by decide) (fun hp => va_runV (C := RX12) (As := [.long (Int32.toInt64 p1)]) (rest := []) ⟨hx, hb, hml, hown, hts⟩ (c_X12_isPage (l := l) (D := D) (K := K) (m0 := (m0)) (p0 := ((Int32.toInt64 p1))) (fm := (fm)) (hmn := hmn) (al := (al)) (hm16 := hm16) (ah := (ah)) (hm17 := hm17) (fl := (fl)) (hfl := hfl) (fh := (fh)) (hfh := hfh) _) (cwV 1 hts (fn_ginV (fn_gin wd_1543) wd_1540 wd_1542 wp_116 wd_13) rfl rfl rfl (by decide +kernel) ⟨Nat.le_of_ble_eq_true rfl, Nat.le_of_ble_eq_true rfl⟩) ⟨fn_blind, va_recv hK.1 hP (ci := 12) (q0 := 0) rfl rfl, hp⟩ rfl rfl hl.1 rfl (lv_room (Nat.le_of_ble_eq_true rfl)) dX12_whyNot_10 ⟨Nat.le_of_ble_eq_true rfl, Nat.le_of_ble_eq_true rfl⟩) (fun r5 u4 H locs hwu4 hP hD hS => ?_)
    have r5_e : r5 = 0 := hwu4
    subst r5_e
    have hP : va_P D vwCl [] H := hP
    have hD : va_D A [] := hD
    refine lv_if_ne (tgt := 19) hx hb dX12_whyNot_13 (by decide) (fun h9 => absurd rfl h9) (fun _ => ?_)
    refine lv_bipush (v := (-2)) hx hb dX12_whyNot_16 (by decide) ?_
    exact fn_iret hx hb hr hlocks rfl hP hD hS () (by first | rfl | decide) [] (by decide) rfl dX12_whyNot_18
  · have hP : va_P D vwCl [(m0, .inr (12, fm)), (al, .inl (K 0, 5, .inl fl)), (ah, .inl (K 0, 40, .inl fh))] H := hP
    have hD : va_D A [(m0, .inr (12, fm)), (al, .inl (K 0, 5, .inl fl)), (ah, .inl (K 0, 40, .inl fh))] := hD
    refine lv_if_eq (tgt := 16) hx hb dX12_whyNot_4 (by decide) (fun _ => ?_) (fun h9 => absurd (by decide) h9)
    refine lv_bipush (v := (-2)) hx hb dX12_whyNot_16 (by decide) ?_
    exact fn_iret hx hb hr hlocks rfl hP hD hS () (by first | rfl | decide) [] (by decide) rfl dX12_whyNot_18
theorem dX12_reads_0 : decode cX12_reads 0 = .ok (.aload_n 0, 1) := by decide +kernel
theorem dX12_reads_1 : decode cX12_reads 1 = .ok (.iconst 0, 1) := by decide +kernel
theorem dX12_reads_2 : decode cX12_reads 2 = .ok (.putfield 104, 3) := by decide +kernel
theorem dX12_reads_5 : decode cX12_reads 5 = .ok (.aload_n 0, 1) := by decide +kernel
theorem dX12_reads_6 : decode cX12_reads 6 = .ok (.iload_n 1, 1) := by decide +kernel
theorem dX12_reads_7 : decode cX12_reads 7 = .ok (.iload_n 2, 1) := by decide +kernel
theorem dX12_reads_8 : decode cX12_reads 8 = .ok (.invokevirtual 370, 3) := by decide +kernel
theorem dX12_reads_11 : decode cX12_reads 11 = .ok (.istore_n 3, 1) := by decide +kernel
theorem dX12_reads_12 : decode cX12_reads 12 = .ok (.iload_n 3, 1) := by decide +kernel
theorem dX12_reads_13 : decode cX12_reads 13 = .ok (.ifCond .eq 5, 3) := by decide +kernel
theorem dX12_reads_16 : decode cX12_reads 16 = .ok (.iload_n 3, 1) := by decide +kernel
theorem dX12_reads_17 : decode cX12_reads 17 = .ok (.ireturn, 1) := by decide +kernel
set_option maxHeartbeats 4000000 in
set_option maxRecDepth 100000 in
theorem c_X12_reads (l : Launch) (D : va_G) (K : Nat → ClassId) (m0 al ah : Nat) (fm : List Value) (hmn : fm.length = 51) (hm16 : fm[16]? = some (.ref al)) (hm17 : fm[17]? = some (.ref ah)) (fl fh : Nat → Int32) (hfl : ∀ j, fl j = 0) (hfh : ∀ j, fh j = 0) (p0 p1 : Int32) : fn_CI (S := Unit) l D K yX12_reads (fn_ws yX12_reads cX12_reads 4 (some .int)) ({ frames := 16, cells := 0, slots := 0, locals := 400 }) [.ref m0, .int p0, .int p1] [(m0, .inr (12, fm)), (al, .inl (K 0, 5, .inl fl)), (ah, .inl (K 0, 40, .inl fh))] (fun r _ => r = (-2)) (fun _ => []) 0 0 := by
  refine fn_inI (cc := cX12_reads) (maxL := 4) (ret := (some .int)) (by decide) rfl (Nat.le_of_ble_eq_true rfl) ?_
  intro p e s m below meth c A ls B hA hP hD hS hl
  obtain ⟨hx, hb, hr, hml, hts, hown, hlocks, hin, hK⟩ := B
  have hown : s.vm.findClass RX12 = some m.cls := hown
  have hts := fun w h => hts w (List.mem_cons_of_mem _ h)
  have hl : lv_has ls 4 [(0, .ref m0), (1, .int p0), (2, .int p1)] := hl
  refine lv_aload_n hx hb dX12_reads_0 rfl (lv_at hl 0 rfl) ?_
  refine lv_iconst (v := 0) hx hb dX12_reads_1 (by decide) ?_
  refine va_put (D := D) (own := RX12) (ci := 12) (v := .int 0) (ty := .int) (C := RX12) (T := TX12) (N := 51) hx hb hts inb_X12 tyX12 tyX12_ok nmX12 hown hK.1 hP hD hS 0 rfl rfl 0 (by decide) (hts _ wd_1234) (fun _ h9 => h9) rfl (by decide +kernel) rfl rfl (fn_kl hmn (by decide)) dX12_reads_2 (fun H locs hP hD hS => ?_)
  have hP : va_P D vwCl [(m0, .inr (12, fm.set 0 (.int 0))), (al, .inl (K 0, 5, .inl fl)), (ah, .inl (K 0, 40, .inl fh))] H := hP
  have hD : va_D A [(m0, .inr (12, fm.set 0 (.int 0))), (al, .inl (K 0, 5, .inl fl)), (ah, .inl (K 0, 40, .inl fh))] := hD
  refine lv_aload_n hx hb dX12_reads_5 rfl (lv_at hl 0 rfl) ?_
  refine lv_iload_n hx hb dX12_reads_6 rfl (lv_at hl 1 rfl) ?_
  refine lv_iload_n hx hb dX12_reads_7 rfl (lv_at hl 2 rfl) ?_
  refine fn_goi (wc := [(m0, .inr (12, fm.set 0 (.int 0))), (al, .inl (K 0, 5, .inl fl)), (ah, .inl (K 0, 40, .inl fh))]) (wr := []) hK hP hD hS hA [0, 1, 2] [] rfl rfl (by decide) (fun hp => va_runV (C := RX12) (As := [.int p0, .int p1]) (rest := []) ⟨hx, hb, hml, hown, hts⟩ (c_X12_whyNot (l := l) (D := D) (K := K) (m0 := (m0)) (p0 := (p0)) (p1 := (p1)) (fm := (fm.set 0 (.int 0))) (hmn := (fn_sl hmn)) (al := (al)) (hm16 := (fn_gs (by decide) hm16)) (ah := (ah)) (hm17 := (fn_gs (by decide) hm17)) (fl := (fl)) (hfl := hfl) (fh := (fh)) (hfh := hfh) _) (cwV 2 hts (fn_ginV (fn_gin wd_1795) wd_1792 wd_1794 wp_143 wd_13) rfl rfl rfl (by decide +kernel) ⟨Nat.le_of_ble_eq_true rfl, Nat.le_of_ble_eq_true rfl⟩) ⟨fn_blind, va_recv hK.1 hP (ci := 12) (q0 := 0) rfl rfl, hp⟩ rfl rfl hl.1 rfl (lv_room (Nat.le_of_ble_eq_true rfl)) dX12_reads_8 ⟨Nat.le_of_ble_eq_true rfl, Nat.le_of_ble_eq_true rfl⟩) (fun r2 u1 H locs hwu1 hP hD hS => ?_)
  have r2_e : r2 = (-2) := hwu1
  subst r2_e
  have hP : va_P D vwCl [] H := hP
  have hD : va_D A [] := hD
  refine lv_istore_n (lv' := [(3, .int (-2)), (0, .ref m0), (1, .int p0), (2, .int p1)]) hx hb dX12_reads_11 rfl hl (by decide) rfl (fun ls hl => ?_)
  refine lv_iload_n hx hb dX12_reads_12 rfl (lv_at hl 0 rfl) ?_
  refine lv_if_eq (tgt := 18) hx hb dX12_reads_13 (by decide) (fun h9 => absurd h9 (by decide)) (fun _ => ?_)
  refine lv_iload_n hx hb dX12_reads_16 rfl (lv_at hl 0 rfl) ?_
  exact fn_iret hx hb hr hlocks rfl hP hD hS () (by first | rfl | decide) [] (by decide) rfl dX12_reads_17
theorem dX12_order_0 : decode cX12_order 0 = .ok (.aload_n 0, 1) := by decide +kernel
theorem dX12_order_1 : decode cX12_order 1 = .ok (.iconst 0, 1) := by decide +kernel
theorem dX12_order_2 : decode cX12_order 2 = .ok (.putfield 104, 3) := by decide +kernel
theorem dX12_order_5 : decode cX12_order 5 = .ok (.aload_n 0, 1) := by decide +kernel
theorem dX12_order_6 : decode cX12_order 6 = .ok (.iload_n 1, 1) := by decide +kernel
theorem dX12_order_7 : decode cX12_order 7 = .ok (.iload_n 2, 1) := by decide +kernel
theorem dX12_order_8 : decode cX12_order 8 = .ok (.invokevirtual 370, 3) := by decide +kernel
theorem dX12_order_11 : decode cX12_order 11 = .ok (.istore 4, 2) := by decide +kernel
theorem dX12_order_13 : decode cX12_order 13 = .ok (.iload 4, 2) := by decide +kernel
theorem dX12_order_15 : decode cX12_order 15 = .ok (.ifCond .eq 6, 3) := by decide +kernel
theorem dX12_order_18 : decode cX12_order 18 = .ok (.iload 4, 2) := by decide +kernel
theorem dX12_order_20 : decode cX12_order 20 = .ok (.ireturn, 1) := by decide +kernel
set_option maxHeartbeats 4000000 in
set_option maxRecDepth 100000 in
theorem c_X12_order (l : Launch) (D : va_G) (K : Nat → ClassId) (m0 al ah : Nat) (fm : List Value) (hmn : fm.length = 51) (hm16 : fm[16]? = some (.ref al)) (hm17 : fm[17]? = some (.ref ah)) (fl fh : Nat → Int32) (hfl : ∀ j, fl j = 0) (hfh : ∀ j, fh j = 0) (p0 p1 p2 : Int32) : fn_CI (S := Unit) l D K yX12_order (fn_ws yX12_order cX12_order 9 (some .int)) ({ frames := 16, cells := 0, slots := 0, locals := 400 }) [.ref m0, .int p0, .int p1, .int p2] [(m0, .inr (12, fm)), (al, .inl (K 0, 5, .inl fl)), (ah, .inl (K 0, 40, .inl fh))] (fun r _ => r = (-2)) (fun _ => []) 0 0 := by
  refine fn_inI (cc := cX12_order) (maxL := 9) (ret := (some .int)) (by decide) rfl (Nat.le_of_ble_eq_true rfl) ?_
  intro p e s m below meth c A ls B hA hP hD hS hl
  obtain ⟨hx, hb, hr, hml, hts, hown, hlocks, hin, hK⟩ := B
  have hown : s.vm.findClass RX12 = some m.cls := hown
  have hts := fun w h => hts w (List.mem_cons_of_mem _ h)
  have hl : lv_has ls 9 [(0, .ref m0), (1, .int p0), (2, .int p1), (3, .int p2)] := hl
  refine lv_aload_n hx hb dX12_order_0 rfl (lv_at hl 0 rfl) ?_
  refine lv_iconst (v := 0) hx hb dX12_order_1 (by decide) ?_
  refine va_put (D := D) (own := RX12) (ci := 12) (v := .int 0) (ty := .int) (C := RX12) (T := TX12) (N := 51) hx hb hts inb_X12 tyX12 tyX12_ok nmX12 hown hK.1 hP hD hS 0 rfl rfl 0 (by decide) (hts _ wd_1234) (fun _ h9 => h9) rfl (by decide +kernel) rfl rfl (fn_kl hmn (by decide)) dX12_order_2 (fun H locs hP hD hS => ?_)
  have hP : va_P D vwCl [(m0, .inr (12, fm.set 0 (.int 0))), (al, .inl (K 0, 5, .inl fl)), (ah, .inl (K 0, 40, .inl fh))] H := hP
  have hD : va_D A [(m0, .inr (12, fm.set 0 (.int 0))), (al, .inl (K 0, 5, .inl fl)), (ah, .inl (K 0, 40, .inl fh))] := hD
  refine lv_aload_n hx hb dX12_order_5 rfl (lv_at hl 0 rfl) ?_
  refine lv_iload_n hx hb dX12_order_6 rfl (lv_at hl 1 rfl) ?_
  refine lv_iload_n hx hb dX12_order_7 rfl (lv_at hl 2 rfl) ?_
  refine fn_goi (wc := [(m0, .inr (12, fm.set 0 (.int 0))), (al, .inl (K 0, 5, .inl fl)), (ah, .inl (K 0, 40, .inl fh))]) (wr := []) hK hP hD hS hA [0, 1, 2] [] rfl rfl (by decide) (fun hp => va_runV (C := RX12) (As := [.int p0, .int p1]) (rest := []) ⟨hx, hb, hml, hown, hts⟩ (c_X12_whyNot (l := l) (D := D) (K := K) (m0 := (m0)) (p0 := (p0)) (p1 := (p1)) (fm := (fm.set 0 (.int 0))) (hmn := (fn_sl hmn)) (al := (al)) (hm16 := (fn_gs (by decide) hm16)) (ah := (ah)) (hm17 := (fn_gs (by decide) hm17)) (fl := (fl)) (hfl := hfl) (fh := (fh)) (hfh := hfh) _) (cwV 2 hts (fn_ginV (fn_gin wd_1795) wd_1792 wd_1794 wp_143 wd_13) rfl rfl rfl (by decide +kernel) ⟨Nat.le_of_ble_eq_true rfl, Nat.le_of_ble_eq_true rfl⟩) ⟨fn_blind, va_recv hK.1 hP (ci := 12) (q0 := 0) rfl rfl, hp⟩ rfl rfl hl.1 rfl (lv_room (Nat.le_of_ble_eq_true rfl)) dX12_order_8 ⟨Nat.le_of_ble_eq_true rfl, Nat.le_of_ble_eq_true rfl⟩) (fun r2 u1 H locs hwu1 hP hD hS => ?_)
  have r2_e : r2 = (-2) := hwu1
  subst r2_e
  have hP : va_P D vwCl [] H := hP
  have hD : va_D A [] := hD
  refine lv_istore (lv' := [(4, .int (-2)), (0, .ref m0), (1, .int p0), (2, .int p1), (3, .int p2)]) hx hb dX12_order_11 hl (by decide) rfl (fun ls hl => ?_)
  refine lv_iload hx hb dX12_order_13 (lv_at hl 0 rfl) ?_
  refine lv_if_eq (tgt := 21) hx hb dX12_order_15 (by decide) (fun h9 => absurd h9 (by decide)) (fun _ => ?_)
  refine lv_iload hx hb dX12_order_18 (lv_at hl 0 rfl) ?_
  exact fn_iret hx hb hr hlocks rfl hP hD hS () (by first | rfl | decide) [] (by decide) rfl dX12_order_20
theorem dX12_shares_0 : decode cX12_shares 0 = .ok (.aload_n 0, 1) := by decide +kernel
theorem dX12_shares_1 : decode cX12_shares 1 = .ok (.iconst 0, 1) := by decide +kernel
theorem dX12_shares_2 : decode cX12_shares 2 = .ok (.putfield 104, 3) := by decide +kernel
theorem dX12_shares_5 : decode cX12_shares 5 = .ok (.aload_n 0, 1) := by decide +kernel
theorem dX12_shares_6 : decode cX12_shares 6 = .ok (.iload_n 1, 1) := by decide +kernel
theorem dX12_shares_7 : decode cX12_shares 7 = .ok (.iload_n 2, 1) := by decide +kernel
theorem dX12_shares_8 : decode cX12_shares 8 = .ok (.invokevirtual 370, 3) := by decide +kernel
theorem dX12_shares_11 : decode cX12_shares 11 = .ok (.istore_n 3, 1) := by decide +kernel
theorem dX12_shares_12 : decode cX12_shares 12 = .ok (.iload_n 3, 1) := by decide +kernel
theorem dX12_shares_13 : decode cX12_shares 13 = .ok (.ifCond .eq 5, 3) := by decide +kernel
theorem dX12_shares_16 : decode cX12_shares 16 = .ok (.iload_n 3, 1) := by decide +kernel
theorem dX12_shares_17 : decode cX12_shares 17 = .ok (.ireturn, 1) := by decide +kernel
set_option maxHeartbeats 4000000 in
set_option maxRecDepth 100000 in
theorem c_X12_shares (l : Launch) (D : va_G) (K : Nat → ClassId) (m0 al ah : Nat) (fm : List Value) (hmn : fm.length = 51) (hm16 : fm[16]? = some (.ref al)) (hm17 : fm[17]? = some (.ref ah)) (fl fh : Nat → Int32) (hfl : ∀ j, fl j = 0) (hfh : ∀ j, fh j = 0) (p0 p1 : Int32) : fn_CI (S := Unit) l D K yX12_shares (fn_ws yX12_shares cX12_shares 4 (some .int)) ({ frames := 16, cells := 0, slots := 0, locals := 400 }) [.ref m0, .int p0, .int p1] [(m0, .inr (12, fm)), (al, .inl (K 0, 5, .inl fl)), (ah, .inl (K 0, 40, .inl fh))] (fun r _ => r = (-2)) (fun _ => []) 0 0 := by
  refine fn_inI (cc := cX12_shares) (maxL := 4) (ret := (some .int)) (by decide) rfl (Nat.le_of_ble_eq_true rfl) ?_
  intro p e s m below meth c A ls B hA hP hD hS hl
  obtain ⟨hx, hb, hr, hml, hts, hown, hlocks, hin, hK⟩ := B
  have hown : s.vm.findClass RX12 = some m.cls := hown
  have hts := fun w h => hts w (List.mem_cons_of_mem _ h)
  have hl : lv_has ls 4 [(0, .ref m0), (1, .int p0), (2, .int p1)] := hl
  refine lv_aload_n hx hb dX12_shares_0 rfl (lv_at hl 0 rfl) ?_
  refine lv_iconst (v := 0) hx hb dX12_shares_1 (by decide) ?_
  refine va_put (D := D) (own := RX12) (ci := 12) (v := .int 0) (ty := .int) (C := RX12) (T := TX12) (N := 51) hx hb hts inb_X12 tyX12 tyX12_ok nmX12 hown hK.1 hP hD hS 0 rfl rfl 0 (by decide) (hts _ wd_1234) (fun _ h9 => h9) rfl (by decide +kernel) rfl rfl (fn_kl hmn (by decide)) dX12_shares_2 (fun H locs hP hD hS => ?_)
  have hP : va_P D vwCl [(m0, .inr (12, fm.set 0 (.int 0))), (al, .inl (K 0, 5, .inl fl)), (ah, .inl (K 0, 40, .inl fh))] H := hP
  have hD : va_D A [(m0, .inr (12, fm.set 0 (.int 0))), (al, .inl (K 0, 5, .inl fl)), (ah, .inl (K 0, 40, .inl fh))] := hD
  refine lv_aload_n hx hb dX12_shares_5 rfl (lv_at hl 0 rfl) ?_
  refine lv_iload_n hx hb dX12_shares_6 rfl (lv_at hl 1 rfl) ?_
  refine lv_iload_n hx hb dX12_shares_7 rfl (lv_at hl 2 rfl) ?_
  refine fn_goi (wc := [(m0, .inr (12, fm.set 0 (.int 0))), (al, .inl (K 0, 5, .inl fl)), (ah, .inl (K 0, 40, .inl fh))]) (wr := []) hK hP hD hS hA [0, 1, 2] [] rfl rfl (by decide) (fun hp => va_runV (C := RX12) (As := [.int p0, .int p1]) (rest := []) ⟨hx, hb, hml, hown, hts⟩ (c_X12_whyNot (l := l) (D := D) (K := K) (m0 := (m0)) (p0 := (p0)) (p1 := (p1)) (fm := (fm.set 0 (.int 0))) (hmn := (fn_sl hmn)) (al := (al)) (hm16 := (fn_gs (by decide) hm16)) (ah := (ah)) (hm17 := (fn_gs (by decide) hm17)) (fl := (fl)) (hfl := hfl) (fh := (fh)) (hfh := hfh) _) (cwV 2 hts (fn_ginV (fn_gin wd_1795) wd_1792 wd_1794 wp_143 wd_13) rfl rfl rfl (by decide +kernel) ⟨Nat.le_of_ble_eq_true rfl, Nat.le_of_ble_eq_true rfl⟩) ⟨fn_blind, va_recv hK.1 hP (ci := 12) (q0 := 0) rfl rfl, hp⟩ rfl rfl hl.1 rfl (lv_room (Nat.le_of_ble_eq_true rfl)) dX12_shares_8 ⟨Nat.le_of_ble_eq_true rfl, Nat.le_of_ble_eq_true rfl⟩) (fun r2 u1 H locs hwu1 hP hD hS => ?_)
  have r2_e : r2 = (-2) := hwu1
  subst r2_e
  have hP : va_P D vwCl [] H := hP
  have hD : va_D A [] := hD
  refine lv_istore_n (lv' := [(3, .int (-2)), (0, .ref m0), (1, .int p0), (2, .int p1)]) hx hb dX12_shares_11 rfl hl (by decide) rfl (fun ls hl => ?_)
  refine lv_iload_n hx hb dX12_shares_12 rfl (lv_at hl 0 rfl) ?_
  refine lv_if_eq (tgt := 18) hx hb dX12_shares_13 (by decide) (fun h9 => absurd h9 (by decide)) (fun _ => ?_)
  refine lv_iload_n hx hb dX12_shares_16 rfl (lv_at hl 0 rfl) ?_
  exact fn_iret hx hb hr hlocks rfl hP hD hS () (by first | rfl | decide) [] (by decide) rfl dX12_shares_17
theorem dX12_first_0 : decode cX12_first 0 = .ok (.aload_n 0, 1) := by decide +kernel
theorem dX12_first_1 : decode cX12_first 1 = .ok (.iconst 0, 1) := by decide +kernel
theorem dX12_first_2 : decode cX12_first 2 = .ok (.putfield 104, 3) := by decide +kernel
theorem dX12_first_5 : decode cX12_first 5 = .ok (.aload_n 0, 1) := by decide +kernel
theorem dX12_first_6 : decode cX12_first 6 = .ok (.iload_n 1, 1) := by decide +kernel
theorem dX12_first_7 : decode cX12_first 7 = .ok (.iload_n 2, 1) := by decide +kernel
theorem dX12_first_8 : decode cX12_first 8 = .ok (.invokevirtual 370, 3) := by decide +kernel
theorem dX12_first_11 : decode cX12_first 11 = .ok (.istore_n 3, 1) := by decide +kernel
theorem dX12_first_12 : decode cX12_first 12 = .ok (.iload_n 3, 1) := by decide +kernel
theorem dX12_first_13 : decode cX12_first 13 = .ok (.ifCond .eq 5, 3) := by decide +kernel
theorem dX12_first_16 : decode cX12_first 16 = .ok (.iload_n 3, 1) := by decide +kernel
theorem dX12_first_17 : decode cX12_first 17 = .ok (.ireturn, 1) := by decide +kernel
set_option maxHeartbeats 4000000 in
set_option maxRecDepth 100000 in
theorem c_X12_first (l : Launch) (D : va_G) (K : Nat → ClassId) (m0 al ah : Nat) (fm : List Value) (hmn : fm.length = 51) (hm16 : fm[16]? = some (.ref al)) (hm17 : fm[17]? = some (.ref ah)) (fl fh : Nat → Int32) (hfl : ∀ j, fl j = 0) (hfh : ∀ j, fh j = 0) (p0 p1 : Int32) : fn_CI (S := Unit) l D K yX12_first (fn_ws yX12_first cX12_first 4 (some .int)) ({ frames := 16, cells := 0, slots := 0, locals := 400 }) [.ref m0, .int p0, .int p1] [(m0, .inr (12, fm)), (al, .inl (K 0, 5, .inl fl)), (ah, .inl (K 0, 40, .inl fh))] (fun r _ => r = (-2)) (fun _ => []) 0 0 := by
  refine fn_inI (cc := cX12_first) (maxL := 4) (ret := (some .int)) (by decide) rfl (Nat.le_of_ble_eq_true rfl) ?_
  intro p e s m below meth c A ls B hA hP hD hS hl
  obtain ⟨hx, hb, hr, hml, hts, hown, hlocks, hin, hK⟩ := B
  have hown : s.vm.findClass RX12 = some m.cls := hown
  have hts := fun w h => hts w (List.mem_cons_of_mem _ h)
  have hl : lv_has ls 4 [(0, .ref m0), (1, .int p0), (2, .int p1)] := hl
  refine lv_aload_n hx hb dX12_first_0 rfl (lv_at hl 0 rfl) ?_
  refine lv_iconst (v := 0) hx hb dX12_first_1 (by decide) ?_
  refine va_put (D := D) (own := RX12) (ci := 12) (v := .int 0) (ty := .int) (C := RX12) (T := TX12) (N := 51) hx hb hts inb_X12 tyX12 tyX12_ok nmX12 hown hK.1 hP hD hS 0 rfl rfl 0 (by decide) (hts _ wd_1234) (fun _ h9 => h9) rfl (by decide +kernel) rfl rfl (fn_kl hmn (by decide)) dX12_first_2 (fun H locs hP hD hS => ?_)
  have hP : va_P D vwCl [(m0, .inr (12, fm.set 0 (.int 0))), (al, .inl (K 0, 5, .inl fl)), (ah, .inl (K 0, 40, .inl fh))] H := hP
  have hD : va_D A [(m0, .inr (12, fm.set 0 (.int 0))), (al, .inl (K 0, 5, .inl fl)), (ah, .inl (K 0, 40, .inl fh))] := hD
  refine lv_aload_n hx hb dX12_first_5 rfl (lv_at hl 0 rfl) ?_
  refine lv_iload_n hx hb dX12_first_6 rfl (lv_at hl 1 rfl) ?_
  refine lv_iload_n hx hb dX12_first_7 rfl (lv_at hl 2 rfl) ?_
  refine fn_goi (wc := [(m0, .inr (12, fm.set 0 (.int 0))), (al, .inl (K 0, 5, .inl fl)), (ah, .inl (K 0, 40, .inl fh))]) (wr := []) hK hP hD hS hA [0, 1, 2] [] rfl rfl (by decide) (fun hp => va_runV (C := RX12) (As := [.int p0, .int p1]) (rest := []) ⟨hx, hb, hml, hown, hts⟩ (c_X12_whyNot (l := l) (D := D) (K := K) (m0 := (m0)) (p0 := (p0)) (p1 := (p1)) (fm := (fm.set 0 (.int 0))) (hmn := (fn_sl hmn)) (al := (al)) (hm16 := (fn_gs (by decide) hm16)) (ah := (ah)) (hm17 := (fn_gs (by decide) hm17)) (fl := (fl)) (hfl := hfl) (fh := (fh)) (hfh := hfh) _) (cwV 2 hts (fn_ginV (fn_gin wd_1795) wd_1792 wd_1794 wp_143 wd_13) rfl rfl rfl (by decide +kernel) ⟨Nat.le_of_ble_eq_true rfl, Nat.le_of_ble_eq_true rfl⟩) ⟨fn_blind, va_recv hK.1 hP (ci := 12) (q0 := 0) rfl rfl, hp⟩ rfl rfl hl.1 rfl (lv_room (Nat.le_of_ble_eq_true rfl)) dX12_first_8 ⟨Nat.le_of_ble_eq_true rfl, Nat.le_of_ble_eq_true rfl⟩) (fun r2 u1 H locs hwu1 hP hD hS => ?_)
  have r2_e : r2 = (-2) := hwu1
  subst r2_e
  have hP : va_P D vwCl [] H := hP
  have hD : va_D A [] := hD
  refine lv_istore_n (lv' := [(3, .int (-2)), (0, .ref m0), (1, .int p0), (2, .int p1)]) hx hb dX12_first_11 rfl hl (by decide) rfl (fun ls hl => ?_)
  refine lv_iload_n hx hb dX12_first_12 rfl (lv_at hl 0 rfl) ?_
  refine lv_if_eq (tgt := 18) hx hb dX12_first_13 (by decide) (fun h9 => absurd h9 (by decide)) (fun _ => ?_)
  refine lv_iload_n hx hb dX12_first_16 rfl (lv_at hl 0 rfl) ?_
  exact fn_iret hx hb hr hlocks rfl hP hD hS () (by first | rfl | decide) [] (by decide) rfl dX12_first_17
theorem dX12_end_0 : decode cX12_end 0 = .ok (.aload_n 0, 1) := by decide +kernel
theorem dX12_end_1 : decode cX12_end 1 = .ok (.iconst 0, 1) := by decide +kernel
theorem dX12_end_2 : decode cX12_end 2 = .ok (.putfield 104, 3) := by decide +kernel
theorem dX12_end_5 : decode cX12_end 5 = .ok (.iload_n 1, 1) := by decide +kernel
theorem dX12_end_6 : decode cX12_end 6 = .ok (.i2l, 1) := by decide +kernel
theorem dX12_end_7 : decode cX12_end 7 = .ok (.lconst 0, 1) := by decide +kernel
theorem dX12_end_8 : decode cX12_end 8 = .ok (.aload_n 0, 1) := by decide +kernel
theorem dX12_end_9 : decode cX12_end 9 = .ok (.getfield 121, 3) := by decide +kernel
theorem dX12_end_12 : decode cX12_end 12 = .ok (.i2l, 1) := by decide +kernel
theorem dX12_end_13 : decode cX12_end 13 = .ok (.invokestatic 109, 3) := by decide +kernel
theorem dX12_end_16 : decode cX12_end 16 = .ok (.ifCond .ne 5, 3) := by decide +kernel
theorem dX12_end_21 : decode cX12_end 21 = .ok (.aload_n 0, 1) := by decide +kernel
theorem dX12_end_22 : decode cX12_end 22 = .ok (.iload_n 1, 1) := by decide +kernel
theorem dX12_end_23 : decode cX12_end 23 = .ok (.putfield 121, 3) := by decide +kernel
theorem dX12_end_26 : decode cX12_end 26 = .ok (.iload_n 1, 1) := by decide +kernel
theorem dX12_end_27 : decode cX12_end 27 = .ok (.ireturn, 1) := by decide +kernel
theorem dX12_end_19 : decode cX12_end 19 = .ok (.iconst (-1), 1) := by decide +kernel
theorem dX12_end_20 : decode cX12_end 20 = .ok (.ireturn, 1) := by decide +kernel
set_option maxHeartbeats 4000000 in
set_option maxRecDepth 100000 in
theorem c_X12_end (l : Launch) (D : va_G) (K : Nat → ClassId) (m0 : Nat) (fm : List Value) (hmn : fm.length = 51) (hm6 : fm[6]? = some (.int 0)) (p0 : Int32) : fn_CI (S := Unit) l D K yX12_end (fn_ws yX12_end cX12_end 2 (some .int)) ({ frames := 8, cells := 0, slots := 0, locals := 200 }) [.ref m0, .int p0] [(m0, .inr (12, fm))] (fun r _ => r = fn_sEnd p0) (fun _ => []) 0 0 := by
  refine fn_inI (cc := cX12_end) (maxL := 2) (ret := (some .int)) (by decide) rfl (Nat.le_of_ble_eq_true rfl) ?_
  intro p e s m below meth c A ls B hA hP hD hS hl
  obtain ⟨hx, hb, hr, hml, hts, hown, hlocks, hin, hK⟩ := B
  have hown : s.vm.findClass RX12 = some m.cls := hown
  have hts := fun w h => hts w (List.mem_cons_of_mem _ h)
  have hl : lv_has ls 2 [(0, .ref m0), (1, .int p0)] := hl
  refine lv_aload_n hx hb dX12_end_0 rfl (lv_at hl 0 rfl) ?_
  refine lv_iconst (v := 0) hx hb dX12_end_1 (by decide) ?_
  refine va_put (D := D) (own := RX12) (ci := 12) (v := .int 0) (ty := .int) (C := RX12) (T := TX12) (N := 51) hx hb hts inb_X12 tyX12 tyX12_ok nmX12 hown hK.1 hP hD hS 0 rfl rfl 0 (by decide) (hts _ wd_1234) (fun _ h9 => h9) rfl (by decide +kernel) rfl rfl (fn_kl hmn (by decide)) dX12_end_2 (fun H locs hP hD hS => ?_)
  have hP : va_P D vwCl [(m0, .inr (12, fm.set 0 (.int 0)))] H := hP
  have hD : va_D A [(m0, .inr (12, fm.set 0 (.int 0)))] := hD
  refine lv_iload_n hx hb dX12_end_5 rfl (lv_at hl 1 rfl) ?_
  refine lv_i2l hx hb dX12_end_6 rfl ?_
  refine lv_lconst (v := 0) hx hb dX12_end_7 (by decide) ?_
  refine lv_aload_n hx hb dX12_end_8 rfl (lv_at hl 0 rfl) ?_
  refine va_get (D := D) (own := RX12) (ci := 12) (v := .int 0) (C := RX12) (T := TX12) (N := 51) hx hb hts inb_X12 hown hK.1 hP 0 rfl rfl 6 (by decide) (hts _ wd_1240) (fun _ h9 => h9) (fn_gs (by decide) hm6) dX12_end_9 ?_
  refine lv_i2l (v := 0) hx hb dX12_end_12 (by decide) ?_
  refine fn_goi (wc := []) (wr := [(m0, .inr (12, fm.set 0 (.int 0)))]) hK hP hD hS hA [] [0] rfl rfl (by decide) (fun hp => va_runS (As := [.long (Int32.toInt64 p0), .long 0, .long 0]) (rest := []) ⟨hx, hb, hml, hown, hts⟩ (c_X12_in_i0 (l := l) (D := D) (K := K) (p0 := (p0)) _) (va_cwS 3 hts (fn_ginS (fn_gin wd_1398) wd_1396 wd_1397 wd_13) rfl rfl rfl (by decide +kernel) ⟨Nat.le_of_ble_eq_true rfl, Nat.le_of_ble_eq_true rfl⟩) ⟨fn_blind, hp⟩ rfl rfl hl.1 rfl (lv_room (Nat.le_of_ble_eq_true rfl)) dX12_end_13 ⟨Nat.le_of_ble_eq_true rfl, Nat.le_of_ble_eq_true rfl⟩) (fun r2 u1 H locs hwu1 hP hD hS => ?_)
  rcases hwu1 with ⟨rfl, k3⟩ | ⟨rfl, k3⟩
  · have hP : va_P D vwCl [(m0, .inr (12, fm.set 0 (.int 0)))] H := hP
    have hD : va_D A [(m0, .inr (12, fm.set 0 (.int 0)))] := hD
    refine lv_if_ne (tgt := 21) hx hb dX12_end_16 (by decide) (fun _ => ?_) (fun h9 => absurd h9 (by decide))
    refine lv_aload_n hx hb dX12_end_21 rfl (lv_at hl 0 rfl) ?_
    refine lv_iload_n hx hb dX12_end_22 rfl (lv_at hl 1 rfl) ?_
    refine va_put (D := D) (own := RX12) (ci := 12) (v := .int p0) (ty := .int) (C := RX12) (T := TX12) (N := 51) hx hb hts inb_X12 tyX12 tyX12_ok nmX12 hown hK.1 hP hD hS 0 rfl rfl 6 (by decide) (hts _ wd_1240) (fun _ h9 => h9) rfl (by decide +kernel) rfl rfl (fn_kl (fn_sl hmn) (by decide)) dX12_end_23 (fun H locs hP hD hS => ?_)
    have hP : va_P D vwCl [(m0, .inr (12, (fm.set 0 (.int 0)).set 6 (.int p0)))] H := hP
    have hD : va_D A [(m0, .inr (12, (fm.set 0 (.int 0)).set 6 (.int p0)))] := hD
    refine lv_iload_n hx hb dX12_end_26 rfl (lv_at hl 1 rfl) ?_
    exact fn_iret hx hb hr hlocks rfl hP hD hS () (by first | exact fn_ok1n k3 | exact fn_ok1 k3) [] (by decide) rfl dX12_end_27
  · have hP : va_P D vwCl [(m0, .inr (12, fm.set 0 (.int 0)))] H := hP
    have hD : va_D A [(m0, .inr (12, fm.set 0 (.int 0)))] := hD
    refine lv_if_ne (tgt := 21) hx hb dX12_end_16 (by decide) (fun h9 => absurd rfl h9) (fun _ => ?_)
    refine lv_iconst (v := (-1)) hx hb dX12_end_19 (by decide) ?_
    exact fn_iret hx hb hr hlocks rfl hP hD hS () (by first | exact fn_ok1n k3 | exact fn_ok1 k3) [] (by decide) rfl dX12_end_20
theorem dX12_fault_0 : decode cX12_fault 0 = .ok (.aload_n 0, 1) := by decide +kernel
theorem dX12_fault_1 : decode cX12_fault 1 = .ok (.iconst 0, 1) := by decide +kernel
theorem dX12_fault_2 : decode cX12_fault 2 = .ok (.putfield 104, 3) := by decide +kernel
theorem dX12_fault_5 : decode cX12_fault 5 = .ok (.iload_n 1, 1) := by decide +kernel
theorem dX12_fault_6 : decode cX12_fault 6 = .ok (.ifCond .ne 10, 3) := by decide +kernel
theorem dX12_fault_16 : decode cX12_fault 16 = .ok (.iload_n 1, 1) := by decide +kernel
theorem dX12_fault_17 : decode cX12_fault 17 = .ok (.iconst 1, 1) := by decide +kernel
theorem dX12_fault_18 : decode cX12_fault 18 = .ok (.if_icmp .ne 10, 3) := by decide +kernel
theorem dX12_fault_28 : decode cX12_fault 28 = .ok (.iconst (-1), 1) := by decide +kernel
theorem dX12_fault_29 : decode cX12_fault 29 = .ok (.ireturn, 1) := by decide +kernel
theorem dX12_fault_21 : decode cX12_fault 21 = .ok (.aload_n 0, 1) := by decide +kernel
theorem dX12_fault_22 : decode cX12_fault 22 = .ok (.getfield 27, 3) := by decide +kernel
theorem dX12_fault_25 : decode cX12_fault 25 = .ok (.goto 4, 3) := by decide +kernel
theorem dX12_fault_9 : decode cX12_fault 9 = .ok (.aload_n 0, 1) := by decide +kernel
theorem dX12_fault_10 : decode cX12_fault 10 = .ok (.getfield 183, 3) := by decide +kernel
theorem dX12_fault_13 : decode cX12_fault 13 = .ok (.goto 16, 3) := by decide +kernel
set_option maxHeartbeats 4000000 in
set_option maxRecDepth 100000 in
theorem c_X12_fault (l : Launch) (D : va_G) (K : Nat → ClassId) (m0 : Nat) (fm : List Value) (hmn : fm.length = 51) (hm14 : fm[14]? = some (.int 0)) (hm15 : fm[15]? = some (.int (-1))) (p0 : Int32) : fn_CI (S := Unit) l D K yX12_fault (fn_ws yX12_fault cX12_fault 2 (some .int)) ({ frames := 4, cells := 0, slots := 0, locals := 100 }) [.ref m0, .int p0] [(m0, .inr (12, fm))] (fun r _ => r = fn_sEnd p0) (fun _ => []) 0 0 := by
  refine fn_inI (cc := cX12_fault) (maxL := 2) (ret := (some .int)) (by decide) rfl (Nat.le_of_ble_eq_true rfl) ?_
  intro p e s m below meth c A ls B hA hP hD hS hl
  obtain ⟨hx, hb, hr, hml, hts, hown, hlocks, hin, hK⟩ := B
  have hown : s.vm.findClass RX12 = some m.cls := hown
  have hts := fun w h => hts w (List.mem_cons_of_mem _ h)
  have hl : lv_has ls 2 [(0, .ref m0), (1, .int p0)] := hl
  refine lv_aload_n hx hb dX12_fault_0 rfl (lv_at hl 0 rfl) ?_
  refine lv_iconst (v := 0) hx hb dX12_fault_1 (by decide) ?_
  refine va_put (D := D) (own := RX12) (ci := 12) (v := .int 0) (ty := .int) (C := RX12) (T := TX12) (N := 51) hx hb hts inb_X12 tyX12 tyX12_ok nmX12 hown hK.1 hP hD hS 0 rfl rfl 0 (by decide) (hts _ wd_1234) (fun _ h9 => h9) rfl (by decide +kernel) rfl rfl (fn_kl hmn (by decide)) dX12_fault_2 (fun H locs hP hD hS => ?_)
  have hP : va_P D vwCl [(m0, .inr (12, fm.set 0 (.int 0)))] H := hP
  have hD : va_D A [(m0, .inr (12, fm.set 0 (.int 0)))] := hD
  refine lv_iload_n hx hb dX12_fault_5 rfl (lv_at hl 1 rfl) ?_
  refine lv_if_ne (tgt := 16) hx hb dX12_fault_6 (by decide) (fun c6 => ?_) (fun c6 => ?_)
  · refine lv_iload_n hx hb dX12_fault_16 rfl (lv_at hl 1 rfl) ?_
    refine lv_iconst (v := 1) hx hb dX12_fault_17 (by decide) ?_
    refine lv_icmp_ne (tgt := 28) hx hb dX12_fault_18 (by decide) (fun c18 => ?_) (fun c18 => ?_)
    · refine lv_iconst (v := (-1)) hx hb dX12_fault_28 (by decide) ?_
      exact fn_iret hx hb hr hlocks rfl hP hD hS () (by first | exact (if_pos c6).symm | exact (if_neg c6).symm) [] (by decide) rfl dX12_fault_29
    · refine lv_aload_n hx hb dX12_fault_21 rfl (lv_at hl 0 rfl) ?_
      refine va_get (D := D) (own := RX12) (ci := 12) (v := .int (-1)) (C := RX12) (T := TX12) (N := 51) hx hb hts inb_X12 hown hK.1 hP 0 rfl rfl 15 (by decide) (hts _ wd_1249) (fun _ h9 => h9) (fn_gs (by decide) hm15) dX12_fault_22 ?_
      refine lv_goto (tgt := 29) hx hb dX12_fault_25 (by decide) ?_
      exact fn_iret hx hb hr hlocks rfl hP hD hS () (by first | exact (if_pos c6).symm | exact (if_neg c6).symm) [] (by decide) rfl dX12_fault_29
  · refine lv_aload_n hx hb dX12_fault_9 rfl (lv_at hl 0 rfl) ?_
    refine va_get (D := D) (own := RX12) (ci := 12) (v := .int 0) (C := RX12) (T := TX12) (N := 51) hx hb hts inb_X12 hown hK.1 hP 0 rfl rfl 14 (by decide) (hts _ wd_1248) (fun _ h9 => h9) (fn_gs (by decide) hm14) dX12_fault_10 ?_
    refine lv_goto (tgt := 29) hx hb dX12_fault_13 (by decide) ?_
    exact fn_iret hx hb hr hlocks rfl hP hD hS () (by first | exact (if_pos c6).symm | exact (if_neg c6).symm) [] (by decide) rfl dX12_fault_29
theorem dX12_four_0 : decode cX12_four 0 = .ok (.bipush 24, 2) := by decide +kernel
theorem dX12_four_2 : decode cX12_four 2 = .ok (.istore_n 2, 1) := by decide +kernel
theorem dX12_four_3 : decode cX12_four 3 = .ok (.iload_n 2, 1) := by decide +kernel
theorem dX12_four_4 : decode cX12_four 4 = .ok (.ifCond .lt 32, 3) := by decide +kernel
theorem dX12_four_7 : decode cX12_four 7 = .ok (.aload_n 0, 1) := by decide +kernel
theorem dX12_four_8 : decode cX12_four 8 = .ok (.getfield 23, 3) := by decide +kernel
theorem dX12_four_11 : decode cX12_four 11 = .ok (.aload_n 0, 1) := by decide +kernel
theorem dX12_four_12 : decode cX12_four 12 = .ok (.getfield 121, 3) := by decide +kernel
theorem dX12_four_15 : decode cX12_four 15 = .ok (.iload_n 1, 1) := by decide +kernel
theorem dX12_four_16 : decode cX12_four 16 = .ok (.iload_n 2, 1) := by decide +kernel
theorem dX12_four_17 : decode cX12_four 17 = .ok (.ishr, 1) := by decide +kernel
theorem dX12_four_18 : decode cX12_four 18 = .ok (.i2b, 1) := by decide +kernel
theorem dX12_four_19 : decode cX12_four 19 = .ok (.bastore, 1) := by decide +kernel
theorem dX12_four_20 : decode cX12_four 20 = .ok (.aload_n 0, 1) := by decide +kernel
theorem dX12_four_21 : decode cX12_four 21 = .ok (.dup, 1) := by decide +kernel
theorem dX12_four_22 : decode cX12_four 22 = .ok (.getfield 121, 3) := by decide +kernel
theorem dX12_four_25 : decode cX12_four 25 = .ok (.iconst 1, 1) := by decide +kernel
theorem dX12_four_26 : decode cX12_four 26 = .ok (.iadd, 1) := by decide +kernel
theorem dX12_four_27 : decode cX12_four 27 = .ok (.putfield 121, 3) := by decide +kernel
theorem dX12_four_30 : decode cX12_four 30 = .ok (.iinc 2 (-8), 3) := by decide +kernel
theorem dX12_four_33 : decode cX12_four 33 = .ok (.goto (-30), 3) := by decide +kernel
theorem dX12_four_36 : decode cX12_four 36 = .ok (.return_, 1) := by decide +kernel
set_option maxHeartbeats 4000000 in
set_option maxRecDepth 100000 in
theorem c_X12_four_0 (l : Launch) (D : va_G) (K : Nat → ClassId) (m0 at_ : Nat) (fm : List Value) (hmn : fm.length = 51) (hm5 : fm[5]? = some (.ref at_)) (hm6 : fm[6]? = some (.int 0)) (fat_ : Nat → Int32) (p0 : Int32) : fn_CV (S := Nat → Nat → Int32) l D K yX12_four (fn_ws yX12_four cX12_four 3 none) ({ frames := 4, cells := 0, slots := 0, locals := 100 }) [.ref m0, .int p0] [(m0, .inr (12, fm)), (at_, .inl (K 1, 1400, .inl fat_))] (fun u => True) (fun u => [(m0, .inr (12, (((fm.set 6 (.int 1)).set 6 (.int 2)).set 6 (.int 3)).set 6 (.int 4))), (at_, .inl (K 1, 1400, .inl (u 0)))]) 0 0 := by
  refine fn_inV (cc := cX12_four) (maxL := 3) (ret := none) (by decide) rfl (Nat.le_of_ble_eq_true rfl) ?_
  intro p e s m below meth c A ls B hA hP hD hS hl
  obtain ⟨hx, hb, hr, hml, hts, hown, hlocks, hin, hK⟩ := B
  have hown : s.vm.findClass RX12 = some m.cls := hown
  have hts := fun w h => hts w (List.mem_cons_of_mem _ h)
  have hl : lv_has ls 3 [(0, .ref m0), (1, .int p0)] := hl
  refine lv_bipush (v := 24) hx hb dX12_four_0 (by decide) ?_
  refine lv_istore_n (lv' := [(2, .int 24), (0, .ref m0), (1, .int p0)]) hx hb dX12_four_2 rfl hl (by decide) rfl (fun ls hl => ?_)
  refine lv_iload_n hx hb dX12_four_3 rfl (lv_at hl 0 rfl) ?_
  refine lv_if_lt (tgt := 36) hx hb dX12_four_4 (by decide) (fun h9 => absurd h9 (by decide)) (fun _ => ?_)
  refine lv_aload_n hx hb dX12_four_7 rfl (lv_at hl 1 rfl) ?_
  refine va_get (D := D) (own := RX12) (ci := 12) (v := .ref at_) (C := RX12) (T := TX12) (N := 51) hx hb hts inb_X12 hown hK.1 hP 0 rfl rfl 5 (by decide) (hts _ wd_1239) (fun _ h9 => h9) hm5 dX12_four_8 ?_
  refine lv_aload_n hx hb dX12_four_11 rfl (lv_at hl 1 rfl) ?_
  refine va_get (D := D) (own := RX12) (ci := 12) (v := .int 0) (C := RX12) (T := TX12) (N := 51) hx hb hts inb_X12 hown hK.1 hP 0 rfl rfl 6 (by decide) (hts _ wd_1240) (fun _ h9 => h9) hm6 dX12_four_12 ?_
  refine lv_iload_n hx hb dX12_four_15 rfl (lv_at hl 2 rfl) ?_
  refine lv_iload_n hx hb dX12_four_16 rfl (lv_at hl 0 rfl) ?_
  refine lv_ishr hx hb dX12_four_17 ?_
  refine lv_topi (fun v1 ev1 => ?_)
  refine lv_i2b hx hb dX12_four_18 rfl ?_
  refine lv_topi (fun v2 ev2 => ?_)
  refine va_bast hx hb hK.1 hP hD hS 1 1 rfl rfl (by unfold vp_in; decide) dX12_four_19 (fun H locs hP hD hS => ?_)
  obtain ⟨g3, eg3⟩ : ∃ z, z = (upd fat_ (Int32.toNatClampNeg 0) (vp_nar .byte v2)) := ⟨_, rfl⟩
  have hP : va_P D vwCl [(m0, .inr (12, fm)), (at_, .inl (K 1, 1400, .inl g3))] H := by rw [eg3]; exact hP
  have hD : va_D A [(m0, .inr (12, fm)), (at_, .inl (K 1, 1400, .inl g3))] := by rw [eg3]; exact hD
  refine lv_aload_n hx hb dX12_four_20 rfl (lv_at hl 1 rfl) ?_
  refine lv_dup hx hb dX12_four_21 rfl ?_
  refine va_get (D := D) (own := RX12) (ci := 12) (v := .int 0) (C := RX12) (T := TX12) (N := 51) hx hb hts inb_X12 hown hK.1 hP 0 rfl rfl 6 (by decide) (hts _ wd_1240) (fun _ h9 => h9) hm6 dX12_four_22 ?_
  refine lv_iconst (v := 1) hx hb dX12_four_25 (by decide) ?_
  refine lv_iadd hx hb dX12_four_26 ?_
  refine fn_top 1 (by decide) ?_
  refine va_put (D := D) (own := RX12) (ci := 12) (v := .int 1) (ty := .int) (C := RX12) (T := TX12) (N := 51) hx hb hts inb_X12 tyX12 tyX12_ok nmX12 hown hK.1 hP hD hS 0 rfl rfl 6 (by decide) (hts _ wd_1240) (fun _ h9 => h9) rfl (by decide +kernel) rfl rfl (fn_kl hmn (by decide)) dX12_four_27 (fun H locs hP hD hS => ?_)
  have hP : va_P D vwCl [(m0, .inr (12, fm.set 6 (.int 1))), (at_, .inl (K 1, 1400, .inl g3))] H := hP
  have hD : va_D A [(m0, .inr (12, fm.set 6 (.int 1))), (at_, .inl (K 1, 1400, .inl g3))] := hD
  refine fn_at 30 rfl ?_
  refine lv_iinc (v := 16) (lv' := [(2, .int 16), (0, .ref m0), (1, .int p0)]) hx hb dX12_four_30 hl (k := 0) rfl (by decide) (by decide) rfl (fun ls hl => ?_)
  refine lv_goto (tgt := 3) hx hb dX12_four_33 (by decide) ?_
  refine lv_iload_n hx hb dX12_four_3 rfl (lv_at hl 0 rfl) ?_
  refine lv_if_lt (tgt := 36) hx hb dX12_four_4 (by decide) (fun h9 => absurd h9 (by decide)) (fun _ => ?_)
  refine lv_aload_n hx hb dX12_four_7 rfl (lv_at hl 1 rfl) ?_
  refine va_get (D := D) (own := RX12) (ci := 12) (v := .ref at_) (C := RX12) (T := TX12) (N := 51) hx hb hts inb_X12 hown hK.1 hP 0 rfl rfl 5 (by decide) (hts _ wd_1239) (fun _ h9 => h9) (fn_gs (by decide) hm5) dX12_four_8 ?_
  refine lv_aload_n hx hb dX12_four_11 rfl (lv_at hl 1 rfl) ?_
  refine va_get (D := D) (own := RX12) (ci := 12) (v := .int 1) (C := RX12) (T := TX12) (N := 51) hx hb hts inb_X12 hown hK.1 hP 0 rfl rfl 6 (by decide) (hts _ wd_1240) (fun _ h9 => h9) (fn_gss hmn (by decide)) dX12_four_12 ?_
  refine lv_iload_n hx hb dX12_four_15 rfl (lv_at hl 2 rfl) ?_
  refine lv_iload_n hx hb dX12_four_16 rfl (lv_at hl 0 rfl) ?_
  refine lv_ishr hx hb dX12_four_17 ?_
  refine lv_topi (fun v4 ev4 => ?_)
  refine lv_i2b hx hb dX12_four_18 rfl ?_
  refine lv_topi (fun v5 ev5 => ?_)
  refine va_bast hx hb hK.1 hP hD hS 1 1 rfl rfl (by unfold vp_in; decide) dX12_four_19 (fun H locs hP hD hS => ?_)
  obtain ⟨g6, eg6⟩ : ∃ z, z = (upd g3 (Int32.toNatClampNeg 1) (vp_nar .byte v5)) := ⟨_, rfl⟩
  have hP : va_P D vwCl [(m0, .inr (12, fm.set 6 (.int 1))), (at_, .inl (K 1, 1400, .inl g6))] H := by rw [eg6]; exact hP
  have hD : va_D A [(m0, .inr (12, fm.set 6 (.int 1))), (at_, .inl (K 1, 1400, .inl g6))] := by rw [eg6]; exact hD
  refine lv_aload_n hx hb dX12_four_20 rfl (lv_at hl 1 rfl) ?_
  refine lv_dup hx hb dX12_four_21 rfl ?_
  refine va_get (D := D) (own := RX12) (ci := 12) (v := .int 1) (C := RX12) (T := TX12) (N := 51) hx hb hts inb_X12 hown hK.1 hP 0 rfl rfl 6 (by decide) (hts _ wd_1240) (fun _ h9 => h9) (fn_gss hmn (by decide)) dX12_four_22 ?_
  refine lv_iconst (v := 1) hx hb dX12_four_25 (by decide) ?_
  refine lv_iadd hx hb dX12_four_26 ?_
  refine fn_top 2 (by decide) ?_
  refine va_put (D := D) (own := RX12) (ci := 12) (v := .int 2) (ty := .int) (C := RX12) (T := TX12) (N := 51) hx hb hts inb_X12 tyX12 tyX12_ok nmX12 hown hK.1 hP hD hS 0 rfl rfl 6 (by decide) (hts _ wd_1240) (fun _ h9 => h9) rfl (by decide +kernel) rfl rfl (fn_kl (fn_sl hmn) (by decide)) dX12_four_27 (fun H locs hP hD hS => ?_)
  have hP : va_P D vwCl [(m0, .inr (12, (fm.set 6 (.int 1)).set 6 (.int 2))), (at_, .inl (K 1, 1400, .inl g6))] H := hP
  have hD : va_D A [(m0, .inr (12, (fm.set 6 (.int 1)).set 6 (.int 2))), (at_, .inl (K 1, 1400, .inl g6))] := hD
  refine lv_iinc (v := 8) (lv' := [(2, .int 8), (0, .ref m0), (1, .int p0)]) hx hb dX12_four_30 hl (k := 0) rfl (by decide) (by decide) rfl (fun ls hl => ?_)
  refine fn_at 33 rfl ?_
  refine lv_goto (tgt := 3) hx hb dX12_four_33 (by decide) ?_
  refine lv_iload_n hx hb dX12_four_3 rfl (lv_at hl 0 rfl) ?_
  refine lv_if_lt (tgt := 36) hx hb dX12_four_4 (by decide) (fun h9 => absurd h9 (by decide)) (fun _ => ?_)
  refine lv_aload_n hx hb dX12_four_7 rfl (lv_at hl 1 rfl) ?_
  refine va_get (D := D) (own := RX12) (ci := 12) (v := .ref at_) (C := RX12) (T := TX12) (N := 51) hx hb hts inb_X12 hown hK.1 hP 0 rfl rfl 5 (by decide) (hts _ wd_1239) (fun _ h9 => h9) (fn_gs (by decide) (fn_gs (by decide) hm5)) dX12_four_8 ?_
  refine lv_aload_n hx hb dX12_four_11 rfl (lv_at hl 1 rfl) ?_
  refine va_get (D := D) (own := RX12) (ci := 12) (v := .int 2) (C := RX12) (T := TX12) (N := 51) hx hb hts inb_X12 hown hK.1 hP 0 rfl rfl 6 (by decide) (hts _ wd_1240) (fun _ h9 => h9) (fn_gss (fn_sl hmn) (by decide)) dX12_four_12 ?_
  refine lv_iload_n hx hb dX12_four_15 rfl (lv_at hl 2 rfl) ?_
  refine lv_iload_n hx hb dX12_four_16 rfl (lv_at hl 0 rfl) ?_
  refine lv_ishr hx hb dX12_four_17 ?_
  refine lv_topi (fun v7 ev7 => ?_)
  refine lv_i2b hx hb dX12_four_18 rfl ?_
  refine lv_topi (fun v8 ev8 => ?_)
  refine va_bast hx hb hK.1 hP hD hS 1 1 rfl rfl (by unfold vp_in; decide) dX12_four_19 (fun H locs hP hD hS => ?_)
  obtain ⟨g9, eg9⟩ : ∃ z, z = (upd g6 (Int32.toNatClampNeg 2) (vp_nar .byte v8)) := ⟨_, rfl⟩
  have hP : va_P D vwCl [(m0, .inr (12, (fm.set 6 (.int 1)).set 6 (.int 2))), (at_, .inl (K 1, 1400, .inl g9))] H := by rw [eg9]; exact hP
  have hD : va_D A [(m0, .inr (12, (fm.set 6 (.int 1)).set 6 (.int 2))), (at_, .inl (K 1, 1400, .inl g9))] := by rw [eg9]; exact hD
  refine lv_aload_n hx hb dX12_four_20 rfl (lv_at hl 1 rfl) ?_
  refine lv_dup hx hb dX12_four_21 rfl ?_
  refine va_get (D := D) (own := RX12) (ci := 12) (v := .int 2) (C := RX12) (T := TX12) (N := 51) hx hb hts inb_X12 hown hK.1 hP 0 rfl rfl 6 (by decide) (hts _ wd_1240) (fun _ h9 => h9) (fn_gss (fn_sl hmn) (by decide)) dX12_four_22 ?_
  refine lv_iconst (v := 1) hx hb dX12_four_25 (by decide) ?_
  refine lv_iadd hx hb dX12_four_26 ?_
  refine fn_top 3 (by decide) ?_
  refine va_put (D := D) (own := RX12) (ci := 12) (v := .int 3) (ty := .int) (C := RX12) (T := TX12) (N := 51) hx hb hts inb_X12 tyX12 tyX12_ok nmX12 hown hK.1 hP hD hS 0 rfl rfl 6 (by decide) (hts _ wd_1240) (fun _ h9 => h9) rfl (by decide +kernel) rfl rfl (fn_kl (fn_sl (fn_sl hmn)) (by decide)) dX12_four_27 (fun H locs hP hD hS => ?_)
  have hP : va_P D vwCl [(m0, .inr (12, ((fm.set 6 (.int 1)).set 6 (.int 2)).set 6 (.int 3))), (at_, .inl (K 1, 1400, .inl g9))] H := hP
  have hD : va_D A [(m0, .inr (12, ((fm.set 6 (.int 1)).set 6 (.int 2)).set 6 (.int 3))), (at_, .inl (K 1, 1400, .inl g9))] := hD
  refine lv_iinc (v := 0) (lv' := [(2, .int 0), (0, .ref m0), (1, .int p0)]) hx hb dX12_four_30 hl (k := 0) rfl (by decide) (by decide) rfl (fun ls hl => ?_)
  refine lv_goto (tgt := 3) hx hb dX12_four_33 (by decide) ?_
  refine fn_at 3 rfl ?_
  refine lv_iload_n hx hb dX12_four_3 rfl (lv_at hl 0 rfl) ?_
  refine lv_if_lt (tgt := 36) hx hb dX12_four_4 (by decide) (fun h9 => absurd h9 (by decide)) (fun _ => ?_)
  refine lv_aload_n hx hb dX12_four_7 rfl (lv_at hl 1 rfl) ?_
  refine va_get (D := D) (own := RX12) (ci := 12) (v := .ref at_) (C := RX12) (T := TX12) (N := 51) hx hb hts inb_X12 hown hK.1 hP 0 rfl rfl 5 (by decide) (hts _ wd_1239) (fun _ h9 => h9) (fn_gs (by decide) (fn_gs (by decide) (fn_gs (by decide) hm5))) dX12_four_8 ?_
  refine lv_aload_n hx hb dX12_four_11 rfl (lv_at hl 1 rfl) ?_
  refine va_get (D := D) (own := RX12) (ci := 12) (v := .int 3) (C := RX12) (T := TX12) (N := 51) hx hb hts inb_X12 hown hK.1 hP 0 rfl rfl 6 (by decide) (hts _ wd_1240) (fun _ h9 => h9) (fn_gss (fn_sl (fn_sl hmn)) (by decide)) dX12_four_12 ?_
  refine lv_iload_n hx hb dX12_four_15 rfl (lv_at hl 2 rfl) ?_
  refine lv_iload_n hx hb dX12_four_16 rfl (lv_at hl 0 rfl) ?_
  refine lv_ishr hx hb dX12_four_17 ?_
  refine lv_topi (fun v10 ev10 => ?_)
  refine lv_i2b hx hb dX12_four_18 rfl ?_
  refine lv_topi (fun v11 ev11 => ?_)
  refine va_bast hx hb hK.1 hP hD hS 1 1 rfl rfl (by unfold vp_in; decide) dX12_four_19 (fun H locs hP hD hS => ?_)
  obtain ⟨g12, eg12⟩ : ∃ z, z = (upd g9 (Int32.toNatClampNeg 3) (vp_nar .byte v11)) := ⟨_, rfl⟩
  have hP : va_P D vwCl [(m0, .inr (12, ((fm.set 6 (.int 1)).set 6 (.int 2)).set 6 (.int 3))), (at_, .inl (K 1, 1400, .inl g12))] H := by rw [eg12]; exact hP
  have hD : va_D A [(m0, .inr (12, ((fm.set 6 (.int 1)).set 6 (.int 2)).set 6 (.int 3))), (at_, .inl (K 1, 1400, .inl g12))] := by rw [eg12]; exact hD
  refine lv_aload_n hx hb dX12_four_20 rfl (lv_at hl 1 rfl) ?_
  refine lv_dup hx hb dX12_four_21 rfl ?_
  refine va_get (D := D) (own := RX12) (ci := 12) (v := .int 3) (C := RX12) (T := TX12) (N := 51) hx hb hts inb_X12 hown hK.1 hP 0 rfl rfl 6 (by decide) (hts _ wd_1240) (fun _ h9 => h9) (fn_gss (fn_sl (fn_sl hmn)) (by decide)) dX12_four_22 ?_
  refine lv_iconst (v := 1) hx hb dX12_four_25 (by decide) ?_
  refine lv_iadd hx hb dX12_four_26 ?_
  refine fn_top 4 (by decide) ?_
  refine va_put (D := D) (own := RX12) (ci := 12) (v := .int 4) (ty := .int) (C := RX12) (T := TX12) (N := 51) hx hb hts inb_X12 tyX12 tyX12_ok nmX12 hown hK.1 hP hD hS 0 rfl rfl 6 (by decide) (hts _ wd_1240) (fun _ h9 => h9) rfl (by decide +kernel) rfl rfl (fn_kl (fn_sl (fn_sl (fn_sl hmn))) (by decide)) dX12_four_27 (fun H locs hP hD hS => ?_)
  have hP : va_P D vwCl [(m0, .inr (12, (((fm.set 6 (.int 1)).set 6 (.int 2)).set 6 (.int 3)).set 6 (.int 4))), (at_, .inl (K 1, 1400, .inl g12))] H := hP
  have hD : va_D A [(m0, .inr (12, (((fm.set 6 (.int 1)).set 6 (.int 2)).set 6 (.int 3)).set 6 (.int 4))), (at_, .inl (K 1, 1400, .inl g12))] := hD
  refine lv_iinc (v := (-8)) (lv' := [(2, .int (-8)), (0, .ref m0), (1, .int p0)]) hx hb dX12_four_30 hl (k := 0) rfl (by decide) (by decide) rfl (fun ls hl => ?_)
  refine lv_goto (tgt := 3) hx hb dX12_four_33 (by decide) ?_
  refine lv_iload_n hx hb dX12_four_3 rfl (lv_at hl 0 rfl) ?_
  refine fn_at 4 rfl ?_
  refine lv_if_lt (tgt := 36) hx hb dX12_four_4 (by decide) (fun _ => ?_) (fun h9 => absurd (by decide) h9)
  exact fn_vret hx hb hr hlocks hP hD hS (fun k => ([g12] : List (Nat → Int32)).getD k g12) trivial [0, 1] (by decide) rfl dX12_four_36
set_option maxHeartbeats 4000000 in
set_option maxRecDepth 100000 in
theorem c_X12_four_4 (l : Launch) (D : va_G) (K : Nat → ClassId) (m0 at_ : Nat) (fm : List Value) (hmn : fm.length = 51) (hm5 : fm[5]? = some (.ref at_)) (hm6 : fm[6]? = some (.int 4)) (fat_ : Nat → Int32) (p0 : Int32) : fn_CV (S := Nat → Nat → Int32) l D K yX12_four (fn_ws yX12_four cX12_four 3 none) ({ frames := 4, cells := 0, slots := 0, locals := 100 }) [.ref m0, .int p0] [(m0, .inr (12, fm)), (at_, .inl (K 1, 1400, .inl fat_))] (fun u => True) (fun u => [(m0, .inr (12, (((fm.set 6 (.int 5)).set 6 (.int 6)).set 6 (.int 7)).set 6 (.int 8))), (at_, .inl (K 1, 1400, .inl (u 0)))]) 0 0 := by
  refine fn_inV (cc := cX12_four) (maxL := 3) (ret := none) (by decide) rfl (Nat.le_of_ble_eq_true rfl) ?_
  intro p e s m below meth c A ls B hA hP hD hS hl
  obtain ⟨hx, hb, hr, hml, hts, hown, hlocks, hin, hK⟩ := B
  have hown : s.vm.findClass RX12 = some m.cls := hown
  have hts := fun w h => hts w (List.mem_cons_of_mem _ h)
  have hl : lv_has ls 3 [(0, .ref m0), (1, .int p0)] := hl
  refine lv_bipush (v := 24) hx hb dX12_four_0 (by decide) ?_
  refine lv_istore_n (lv' := [(2, .int 24), (0, .ref m0), (1, .int p0)]) hx hb dX12_four_2 rfl hl (by decide) rfl (fun ls hl => ?_)
  refine lv_iload_n hx hb dX12_four_3 rfl (lv_at hl 0 rfl) ?_
  refine lv_if_lt (tgt := 36) hx hb dX12_four_4 (by decide) (fun h9 => absurd h9 (by decide)) (fun _ => ?_)
  refine lv_aload_n hx hb dX12_four_7 rfl (lv_at hl 1 rfl) ?_
  refine va_get (D := D) (own := RX12) (ci := 12) (v := .ref at_) (C := RX12) (T := TX12) (N := 51) hx hb hts inb_X12 hown hK.1 hP 0 rfl rfl 5 (by decide) (hts _ wd_1239) (fun _ h9 => h9) hm5 dX12_four_8 ?_
  refine lv_aload_n hx hb dX12_four_11 rfl (lv_at hl 1 rfl) ?_
  refine va_get (D := D) (own := RX12) (ci := 12) (v := .int 4) (C := RX12) (T := TX12) (N := 51) hx hb hts inb_X12 hown hK.1 hP 0 rfl rfl 6 (by decide) (hts _ wd_1240) (fun _ h9 => h9) hm6 dX12_four_12 ?_
  refine lv_iload_n hx hb dX12_four_15 rfl (lv_at hl 2 rfl) ?_
  refine lv_iload_n hx hb dX12_four_16 rfl (lv_at hl 0 rfl) ?_
  refine lv_ishr hx hb dX12_four_17 ?_
  refine lv_topi (fun v1 ev1 => ?_)
  refine lv_i2b hx hb dX12_four_18 rfl ?_
  refine lv_topi (fun v2 ev2 => ?_)
  refine va_bast hx hb hK.1 hP hD hS 1 1 rfl rfl (by unfold vp_in; decide) dX12_four_19 (fun H locs hP hD hS => ?_)
  obtain ⟨g3, eg3⟩ : ∃ z, z = (upd fat_ (Int32.toNatClampNeg 4) (vp_nar .byte v2)) := ⟨_, rfl⟩
  have hP : va_P D vwCl [(m0, .inr (12, fm)), (at_, .inl (K 1, 1400, .inl g3))] H := by rw [eg3]; exact hP
  have hD : va_D A [(m0, .inr (12, fm)), (at_, .inl (K 1, 1400, .inl g3))] := by rw [eg3]; exact hD
  refine lv_aload_n hx hb dX12_four_20 rfl (lv_at hl 1 rfl) ?_
  refine lv_dup hx hb dX12_four_21 rfl ?_
  refine va_get (D := D) (own := RX12) (ci := 12) (v := .int 4) (C := RX12) (T := TX12) (N := 51) hx hb hts inb_X12 hown hK.1 hP 0 rfl rfl 6 (by decide) (hts _ wd_1240) (fun _ h9 => h9) hm6 dX12_four_22 ?_
  refine lv_iconst (v := 1) hx hb dX12_four_25 (by decide) ?_
  refine lv_iadd hx hb dX12_four_26 ?_
  refine fn_top 5 (by decide) ?_
  refine va_put (D := D) (own := RX12) (ci := 12) (v := .int 5) (ty := .int) (C := RX12) (T := TX12) (N := 51) hx hb hts inb_X12 tyX12 tyX12_ok nmX12 hown hK.1 hP hD hS 0 rfl rfl 6 (by decide) (hts _ wd_1240) (fun _ h9 => h9) rfl (by decide +kernel) rfl rfl (fn_kl hmn (by decide)) dX12_four_27 (fun H locs hP hD hS => ?_)
  have hP : va_P D vwCl [(m0, .inr (12, fm.set 6 (.int 5))), (at_, .inl (K 1, 1400, .inl g3))] H := hP
  have hD : va_D A [(m0, .inr (12, fm.set 6 (.int 5))), (at_, .inl (K 1, 1400, .inl g3))] := hD
  refine fn_at 30 rfl ?_
  refine lv_iinc (v := 16) (lv' := [(2, .int 16), (0, .ref m0), (1, .int p0)]) hx hb dX12_four_30 hl (k := 0) rfl (by decide) (by decide) rfl (fun ls hl => ?_)
  refine lv_goto (tgt := 3) hx hb dX12_four_33 (by decide) ?_
  refine lv_iload_n hx hb dX12_four_3 rfl (lv_at hl 0 rfl) ?_
  refine lv_if_lt (tgt := 36) hx hb dX12_four_4 (by decide) (fun h9 => absurd h9 (by decide)) (fun _ => ?_)
  refine lv_aload_n hx hb dX12_four_7 rfl (lv_at hl 1 rfl) ?_
  refine va_get (D := D) (own := RX12) (ci := 12) (v := .ref at_) (C := RX12) (T := TX12) (N := 51) hx hb hts inb_X12 hown hK.1 hP 0 rfl rfl 5 (by decide) (hts _ wd_1239) (fun _ h9 => h9) (fn_gs (by decide) hm5) dX12_four_8 ?_
  refine lv_aload_n hx hb dX12_four_11 rfl (lv_at hl 1 rfl) ?_
  refine va_get (D := D) (own := RX12) (ci := 12) (v := .int 5) (C := RX12) (T := TX12) (N := 51) hx hb hts inb_X12 hown hK.1 hP 0 rfl rfl 6 (by decide) (hts _ wd_1240) (fun _ h9 => h9) (fn_gss hmn (by decide)) dX12_four_12 ?_
  refine lv_iload_n hx hb dX12_four_15 rfl (lv_at hl 2 rfl) ?_
  refine lv_iload_n hx hb dX12_four_16 rfl (lv_at hl 0 rfl) ?_
  refine lv_ishr hx hb dX12_four_17 ?_
  refine lv_topi (fun v4 ev4 => ?_)
  refine lv_i2b hx hb dX12_four_18 rfl ?_
  refine lv_topi (fun v5 ev5 => ?_)
  refine va_bast hx hb hK.1 hP hD hS 1 1 rfl rfl (by unfold vp_in; decide) dX12_four_19 (fun H locs hP hD hS => ?_)
  obtain ⟨g6, eg6⟩ : ∃ z, z = (upd g3 (Int32.toNatClampNeg 5) (vp_nar .byte v5)) := ⟨_, rfl⟩
  have hP : va_P D vwCl [(m0, .inr (12, fm.set 6 (.int 5))), (at_, .inl (K 1, 1400, .inl g6))] H := by rw [eg6]; exact hP
  have hD : va_D A [(m0, .inr (12, fm.set 6 (.int 5))), (at_, .inl (K 1, 1400, .inl g6))] := by rw [eg6]; exact hD
  refine lv_aload_n hx hb dX12_four_20 rfl (lv_at hl 1 rfl) ?_
  refine lv_dup hx hb dX12_four_21 rfl ?_
  refine va_get (D := D) (own := RX12) (ci := 12) (v := .int 5) (C := RX12) (T := TX12) (N := 51) hx hb hts inb_X12 hown hK.1 hP 0 rfl rfl 6 (by decide) (hts _ wd_1240) (fun _ h9 => h9) (fn_gss hmn (by decide)) dX12_four_22 ?_
  refine lv_iconst (v := 1) hx hb dX12_four_25 (by decide) ?_
  refine lv_iadd hx hb dX12_four_26 ?_
  refine fn_top 6 (by decide) ?_
  refine va_put (D := D) (own := RX12) (ci := 12) (v := .int 6) (ty := .int) (C := RX12) (T := TX12) (N := 51) hx hb hts inb_X12 tyX12 tyX12_ok nmX12 hown hK.1 hP hD hS 0 rfl rfl 6 (by decide) (hts _ wd_1240) (fun _ h9 => h9) rfl (by decide +kernel) rfl rfl (fn_kl (fn_sl hmn) (by decide)) dX12_four_27 (fun H locs hP hD hS => ?_)
  have hP : va_P D vwCl [(m0, .inr (12, (fm.set 6 (.int 5)).set 6 (.int 6))), (at_, .inl (K 1, 1400, .inl g6))] H := hP
  have hD : va_D A [(m0, .inr (12, (fm.set 6 (.int 5)).set 6 (.int 6))), (at_, .inl (K 1, 1400, .inl g6))] := hD
  refine lv_iinc (v := 8) (lv' := [(2, .int 8), (0, .ref m0), (1, .int p0)]) hx hb dX12_four_30 hl (k := 0) rfl (by decide) (by decide) rfl (fun ls hl => ?_)
  refine fn_at 33 rfl ?_
  refine lv_goto (tgt := 3) hx hb dX12_four_33 (by decide) ?_
  refine lv_iload_n hx hb dX12_four_3 rfl (lv_at hl 0 rfl) ?_
  refine lv_if_lt (tgt := 36) hx hb dX12_four_4 (by decide) (fun h9 => absurd h9 (by decide)) (fun _ => ?_)
  refine lv_aload_n hx hb dX12_four_7 rfl (lv_at hl 1 rfl) ?_
  refine va_get (D := D) (own := RX12) (ci := 12) (v := .ref at_) (C := RX12) (T := TX12) (N := 51) hx hb hts inb_X12 hown hK.1 hP 0 rfl rfl 5 (by decide) (hts _ wd_1239) (fun _ h9 => h9) (fn_gs (by decide) (fn_gs (by decide) hm5)) dX12_four_8 ?_
  refine lv_aload_n hx hb dX12_four_11 rfl (lv_at hl 1 rfl) ?_
  refine va_get (D := D) (own := RX12) (ci := 12) (v := .int 6) (C := RX12) (T := TX12) (N := 51) hx hb hts inb_X12 hown hK.1 hP 0 rfl rfl 6 (by decide) (hts _ wd_1240) (fun _ h9 => h9) (fn_gss (fn_sl hmn) (by decide)) dX12_four_12 ?_
  refine lv_iload_n hx hb dX12_four_15 rfl (lv_at hl 2 rfl) ?_
  refine lv_iload_n hx hb dX12_four_16 rfl (lv_at hl 0 rfl) ?_
  refine lv_ishr hx hb dX12_four_17 ?_
  refine lv_topi (fun v7 ev7 => ?_)
  refine lv_i2b hx hb dX12_four_18 rfl ?_
  refine lv_topi (fun v8 ev8 => ?_)
  refine va_bast hx hb hK.1 hP hD hS 1 1 rfl rfl (by unfold vp_in; decide) dX12_four_19 (fun H locs hP hD hS => ?_)
  obtain ⟨g9, eg9⟩ : ∃ z, z = (upd g6 (Int32.toNatClampNeg 6) (vp_nar .byte v8)) := ⟨_, rfl⟩
  have hP : va_P D vwCl [(m0, .inr (12, (fm.set 6 (.int 5)).set 6 (.int 6))), (at_, .inl (K 1, 1400, .inl g9))] H := by rw [eg9]; exact hP
  have hD : va_D A [(m0, .inr (12, (fm.set 6 (.int 5)).set 6 (.int 6))), (at_, .inl (K 1, 1400, .inl g9))] := by rw [eg9]; exact hD
  refine lv_aload_n hx hb dX12_four_20 rfl (lv_at hl 1 rfl) ?_
  refine lv_dup hx hb dX12_four_21 rfl ?_
  refine va_get (D := D) (own := RX12) (ci := 12) (v := .int 6) (C := RX12) (T := TX12) (N := 51) hx hb hts inb_X12 hown hK.1 hP 0 rfl rfl 6 (by decide) (hts _ wd_1240) (fun _ h9 => h9) (fn_gss (fn_sl hmn) (by decide)) dX12_four_22 ?_
  refine lv_iconst (v := 1) hx hb dX12_four_25 (by decide) ?_
  refine lv_iadd hx hb dX12_four_26 ?_
  refine fn_top 7 (by decide) ?_
  refine va_put (D := D) (own := RX12) (ci := 12) (v := .int 7) (ty := .int) (C := RX12) (T := TX12) (N := 51) hx hb hts inb_X12 tyX12 tyX12_ok nmX12 hown hK.1 hP hD hS 0 rfl rfl 6 (by decide) (hts _ wd_1240) (fun _ h9 => h9) rfl (by decide +kernel) rfl rfl (fn_kl (fn_sl (fn_sl hmn)) (by decide)) dX12_four_27 (fun H locs hP hD hS => ?_)
  have hP : va_P D vwCl [(m0, .inr (12, ((fm.set 6 (.int 5)).set 6 (.int 6)).set 6 (.int 7))), (at_, .inl (K 1, 1400, .inl g9))] H := hP
  have hD : va_D A [(m0, .inr (12, ((fm.set 6 (.int 5)).set 6 (.int 6)).set 6 (.int 7))), (at_, .inl (K 1, 1400, .inl g9))] := hD
  refine lv_iinc (v := 0) (lv' := [(2, .int 0), (0, .ref m0), (1, .int p0)]) hx hb dX12_four_30 hl (k := 0) rfl (by decide) (by decide) rfl (fun ls hl => ?_)
  refine lv_goto (tgt := 3) hx hb dX12_four_33 (by decide) ?_
  refine fn_at 3 rfl ?_
  refine lv_iload_n hx hb dX12_four_3 rfl (lv_at hl 0 rfl) ?_
  refine lv_if_lt (tgt := 36) hx hb dX12_four_4 (by decide) (fun h9 => absurd h9 (by decide)) (fun _ => ?_)
  refine lv_aload_n hx hb dX12_four_7 rfl (lv_at hl 1 rfl) ?_
  refine va_get (D := D) (own := RX12) (ci := 12) (v := .ref at_) (C := RX12) (T := TX12) (N := 51) hx hb hts inb_X12 hown hK.1 hP 0 rfl rfl 5 (by decide) (hts _ wd_1239) (fun _ h9 => h9) (fn_gs (by decide) (fn_gs (by decide) (fn_gs (by decide) hm5))) dX12_four_8 ?_
  refine lv_aload_n hx hb dX12_four_11 rfl (lv_at hl 1 rfl) ?_
  refine va_get (D := D) (own := RX12) (ci := 12) (v := .int 7) (C := RX12) (T := TX12) (N := 51) hx hb hts inb_X12 hown hK.1 hP 0 rfl rfl 6 (by decide) (hts _ wd_1240) (fun _ h9 => h9) (fn_gss (fn_sl (fn_sl hmn)) (by decide)) dX12_four_12 ?_
  refine lv_iload_n hx hb dX12_four_15 rfl (lv_at hl 2 rfl) ?_
  refine lv_iload_n hx hb dX12_four_16 rfl (lv_at hl 0 rfl) ?_
  refine lv_ishr hx hb dX12_four_17 ?_
  refine lv_topi (fun v10 ev10 => ?_)
  refine lv_i2b hx hb dX12_four_18 rfl ?_
  refine lv_topi (fun v11 ev11 => ?_)
  refine va_bast hx hb hK.1 hP hD hS 1 1 rfl rfl (by unfold vp_in; decide) dX12_four_19 (fun H locs hP hD hS => ?_)
  obtain ⟨g12, eg12⟩ : ∃ z, z = (upd g9 (Int32.toNatClampNeg 7) (vp_nar .byte v11)) := ⟨_, rfl⟩
  have hP : va_P D vwCl [(m0, .inr (12, ((fm.set 6 (.int 5)).set 6 (.int 6)).set 6 (.int 7))), (at_, .inl (K 1, 1400, .inl g12))] H := by rw [eg12]; exact hP
  have hD : va_D A [(m0, .inr (12, ((fm.set 6 (.int 5)).set 6 (.int 6)).set 6 (.int 7))), (at_, .inl (K 1, 1400, .inl g12))] := by rw [eg12]; exact hD
  refine lv_aload_n hx hb dX12_four_20 rfl (lv_at hl 1 rfl) ?_
  refine lv_dup hx hb dX12_four_21 rfl ?_
  refine va_get (D := D) (own := RX12) (ci := 12) (v := .int 7) (C := RX12) (T := TX12) (N := 51) hx hb hts inb_X12 hown hK.1 hP 0 rfl rfl 6 (by decide) (hts _ wd_1240) (fun _ h9 => h9) (fn_gss (fn_sl (fn_sl hmn)) (by decide)) dX12_four_22 ?_
  refine lv_iconst (v := 1) hx hb dX12_four_25 (by decide) ?_
  refine lv_iadd hx hb dX12_four_26 ?_
  refine fn_top 8 (by decide) ?_
  refine va_put (D := D) (own := RX12) (ci := 12) (v := .int 8) (ty := .int) (C := RX12) (T := TX12) (N := 51) hx hb hts inb_X12 tyX12 tyX12_ok nmX12 hown hK.1 hP hD hS 0 rfl rfl 6 (by decide) (hts _ wd_1240) (fun _ h9 => h9) rfl (by decide +kernel) rfl rfl (fn_kl (fn_sl (fn_sl (fn_sl hmn))) (by decide)) dX12_four_27 (fun H locs hP hD hS => ?_)
  have hP : va_P D vwCl [(m0, .inr (12, (((fm.set 6 (.int 5)).set 6 (.int 6)).set 6 (.int 7)).set 6 (.int 8))), (at_, .inl (K 1, 1400, .inl g12))] H := hP
  have hD : va_D A [(m0, .inr (12, (((fm.set 6 (.int 5)).set 6 (.int 6)).set 6 (.int 7)).set 6 (.int 8))), (at_, .inl (K 1, 1400, .inl g12))] := hD
  refine lv_iinc (v := (-8)) (lv' := [(2, .int (-8)), (0, .ref m0), (1, .int p0)]) hx hb dX12_four_30 hl (k := 0) rfl (by decide) (by decide) rfl (fun ls hl => ?_)
  refine lv_goto (tgt := 3) hx hb dX12_four_33 (by decide) ?_
  refine lv_iload_n hx hb dX12_four_3 rfl (lv_at hl 0 rfl) ?_
  refine fn_at 4 rfl ?_
  refine lv_if_lt (tgt := 36) hx hb dX12_four_4 (by decide) (fun _ => ?_) (fun h9 => absurd (by decide) h9)
  exact fn_vret hx hb hr hlocks hP hD hS (fun k => ([g12] : List (Nat → Int32)).getD k g12) trivial [0, 1] (by decide) rfl dX12_four_36
set_option maxHeartbeats 4000000 in
set_option maxRecDepth 100000 in
theorem c_X12_four_8 (l : Launch) (D : va_G) (K : Nat → ClassId) (m0 at_ : Nat) (fm : List Value) (hmn : fm.length = 51) (hm5 : fm[5]? = some (.ref at_)) (hm6 : fm[6]? = some (.int 8)) (fat_ : Nat → Int32) (p0 : Int32) : fn_CV (S := Nat → Nat → Int32) l D K yX12_four (fn_ws yX12_four cX12_four 3 none) ({ frames := 4, cells := 0, slots := 0, locals := 100 }) [.ref m0, .int p0] [(m0, .inr (12, fm)), (at_, .inl (K 1, 1400, .inl fat_))] (fun u => True) (fun u => [(m0, .inr (12, (((fm.set 6 (.int 9)).set 6 (.int 10)).set 6 (.int 11)).set 6 (.int 12))), (at_, .inl (K 1, 1400, .inl (u 0)))]) 0 0 := by
  refine fn_inV (cc := cX12_four) (maxL := 3) (ret := none) (by decide) rfl (Nat.le_of_ble_eq_true rfl) ?_
  intro p e s m below meth c A ls B hA hP hD hS hl
  obtain ⟨hx, hb, hr, hml, hts, hown, hlocks, hin, hK⟩ := B
  have hown : s.vm.findClass RX12 = some m.cls := hown
  have hts := fun w h => hts w (List.mem_cons_of_mem _ h)
  have hl : lv_has ls 3 [(0, .ref m0), (1, .int p0)] := hl
  refine lv_bipush (v := 24) hx hb dX12_four_0 (by decide) ?_
  refine lv_istore_n (lv' := [(2, .int 24), (0, .ref m0), (1, .int p0)]) hx hb dX12_four_2 rfl hl (by decide) rfl (fun ls hl => ?_)
  refine lv_iload_n hx hb dX12_four_3 rfl (lv_at hl 0 rfl) ?_
  refine lv_if_lt (tgt := 36) hx hb dX12_four_4 (by decide) (fun h9 => absurd h9 (by decide)) (fun _ => ?_)
  refine lv_aload_n hx hb dX12_four_7 rfl (lv_at hl 1 rfl) ?_
  refine va_get (D := D) (own := RX12) (ci := 12) (v := .ref at_) (C := RX12) (T := TX12) (N := 51) hx hb hts inb_X12 hown hK.1 hP 0 rfl rfl 5 (by decide) (hts _ wd_1239) (fun _ h9 => h9) hm5 dX12_four_8 ?_
  refine lv_aload_n hx hb dX12_four_11 rfl (lv_at hl 1 rfl) ?_
  refine va_get (D := D) (own := RX12) (ci := 12) (v := .int 8) (C := RX12) (T := TX12) (N := 51) hx hb hts inb_X12 hown hK.1 hP 0 rfl rfl 6 (by decide) (hts _ wd_1240) (fun _ h9 => h9) hm6 dX12_four_12 ?_
  refine lv_iload_n hx hb dX12_four_15 rfl (lv_at hl 2 rfl) ?_
  refine lv_iload_n hx hb dX12_four_16 rfl (lv_at hl 0 rfl) ?_
  refine lv_ishr hx hb dX12_four_17 ?_
  refine lv_topi (fun v1 ev1 => ?_)
  refine lv_i2b hx hb dX12_four_18 rfl ?_
  refine lv_topi (fun v2 ev2 => ?_)
  refine va_bast hx hb hK.1 hP hD hS 1 1 rfl rfl (by unfold vp_in; decide) dX12_four_19 (fun H locs hP hD hS => ?_)
  obtain ⟨g3, eg3⟩ : ∃ z, z = (upd fat_ (Int32.toNatClampNeg 8) (vp_nar .byte v2)) := ⟨_, rfl⟩
  have hP : va_P D vwCl [(m0, .inr (12, fm)), (at_, .inl (K 1, 1400, .inl g3))] H := by rw [eg3]; exact hP
  have hD : va_D A [(m0, .inr (12, fm)), (at_, .inl (K 1, 1400, .inl g3))] := by rw [eg3]; exact hD
  refine lv_aload_n hx hb dX12_four_20 rfl (lv_at hl 1 rfl) ?_
  refine lv_dup hx hb dX12_four_21 rfl ?_
  refine va_get (D := D) (own := RX12) (ci := 12) (v := .int 8) (C := RX12) (T := TX12) (N := 51) hx hb hts inb_X12 hown hK.1 hP 0 rfl rfl 6 (by decide) (hts _ wd_1240) (fun _ h9 => h9) hm6 dX12_four_22 ?_
  refine lv_iconst (v := 1) hx hb dX12_four_25 (by decide) ?_
  refine lv_iadd hx hb dX12_four_26 ?_
  refine fn_top 9 (by decide) ?_
  refine va_put (D := D) (own := RX12) (ci := 12) (v := .int 9) (ty := .int) (C := RX12) (T := TX12) (N := 51) hx hb hts inb_X12 tyX12 tyX12_ok nmX12 hown hK.1 hP hD hS 0 rfl rfl 6 (by decide) (hts _ wd_1240) (fun _ h9 => h9) rfl (by decide +kernel) rfl rfl (fn_kl hmn (by decide)) dX12_four_27 (fun H locs hP hD hS => ?_)
  have hP : va_P D vwCl [(m0, .inr (12, fm.set 6 (.int 9))), (at_, .inl (K 1, 1400, .inl g3))] H := hP
  have hD : va_D A [(m0, .inr (12, fm.set 6 (.int 9))), (at_, .inl (K 1, 1400, .inl g3))] := hD
  refine fn_at 30 rfl ?_
  refine lv_iinc (v := 16) (lv' := [(2, .int 16), (0, .ref m0), (1, .int p0)]) hx hb dX12_four_30 hl (k := 0) rfl (by decide) (by decide) rfl (fun ls hl => ?_)
  refine lv_goto (tgt := 3) hx hb dX12_four_33 (by decide) ?_
  refine lv_iload_n hx hb dX12_four_3 rfl (lv_at hl 0 rfl) ?_
  refine lv_if_lt (tgt := 36) hx hb dX12_four_4 (by decide) (fun h9 => absurd h9 (by decide)) (fun _ => ?_)
  refine lv_aload_n hx hb dX12_four_7 rfl (lv_at hl 1 rfl) ?_
  refine va_get (D := D) (own := RX12) (ci := 12) (v := .ref at_) (C := RX12) (T := TX12) (N := 51) hx hb hts inb_X12 hown hK.1 hP 0 rfl rfl 5 (by decide) (hts _ wd_1239) (fun _ h9 => h9) (fn_gs (by decide) hm5) dX12_four_8 ?_
  refine lv_aload_n hx hb dX12_four_11 rfl (lv_at hl 1 rfl) ?_
  refine va_get (D := D) (own := RX12) (ci := 12) (v := .int 9) (C := RX12) (T := TX12) (N := 51) hx hb hts inb_X12 hown hK.1 hP 0 rfl rfl 6 (by decide) (hts _ wd_1240) (fun _ h9 => h9) (fn_gss hmn (by decide)) dX12_four_12 ?_
  refine lv_iload_n hx hb dX12_four_15 rfl (lv_at hl 2 rfl) ?_
  refine lv_iload_n hx hb dX12_four_16 rfl (lv_at hl 0 rfl) ?_
  refine lv_ishr hx hb dX12_four_17 ?_
  refine lv_topi (fun v4 ev4 => ?_)
  refine lv_i2b hx hb dX12_four_18 rfl ?_
  refine lv_topi (fun v5 ev5 => ?_)
  refine va_bast hx hb hK.1 hP hD hS 1 1 rfl rfl (by unfold vp_in; decide) dX12_four_19 (fun H locs hP hD hS => ?_)
  obtain ⟨g6, eg6⟩ : ∃ z, z = (upd g3 (Int32.toNatClampNeg 9) (vp_nar .byte v5)) := ⟨_, rfl⟩
  have hP : va_P D vwCl [(m0, .inr (12, fm.set 6 (.int 9))), (at_, .inl (K 1, 1400, .inl g6))] H := by rw [eg6]; exact hP
  have hD : va_D A [(m0, .inr (12, fm.set 6 (.int 9))), (at_, .inl (K 1, 1400, .inl g6))] := by rw [eg6]; exact hD
  refine lv_aload_n hx hb dX12_four_20 rfl (lv_at hl 1 rfl) ?_
  refine lv_dup hx hb dX12_four_21 rfl ?_
  refine va_get (D := D) (own := RX12) (ci := 12) (v := .int 9) (C := RX12) (T := TX12) (N := 51) hx hb hts inb_X12 hown hK.1 hP 0 rfl rfl 6 (by decide) (hts _ wd_1240) (fun _ h9 => h9) (fn_gss hmn (by decide)) dX12_four_22 ?_
  refine lv_iconst (v := 1) hx hb dX12_four_25 (by decide) ?_
  refine lv_iadd hx hb dX12_four_26 ?_
  refine fn_top 10 (by decide) ?_
  refine va_put (D := D) (own := RX12) (ci := 12) (v := .int 10) (ty := .int) (C := RX12) (T := TX12) (N := 51) hx hb hts inb_X12 tyX12 tyX12_ok nmX12 hown hK.1 hP hD hS 0 rfl rfl 6 (by decide) (hts _ wd_1240) (fun _ h9 => h9) rfl (by decide +kernel) rfl rfl (fn_kl (fn_sl hmn) (by decide)) dX12_four_27 (fun H locs hP hD hS => ?_)
  have hP : va_P D vwCl [(m0, .inr (12, (fm.set 6 (.int 9)).set 6 (.int 10))), (at_, .inl (K 1, 1400, .inl g6))] H := hP
  have hD : va_D A [(m0, .inr (12, (fm.set 6 (.int 9)).set 6 (.int 10))), (at_, .inl (K 1, 1400, .inl g6))] := hD
  refine lv_iinc (v := 8) (lv' := [(2, .int 8), (0, .ref m0), (1, .int p0)]) hx hb dX12_four_30 hl (k := 0) rfl (by decide) (by decide) rfl (fun ls hl => ?_)
  refine fn_at 33 rfl ?_
  refine lv_goto (tgt := 3) hx hb dX12_four_33 (by decide) ?_
  refine lv_iload_n hx hb dX12_four_3 rfl (lv_at hl 0 rfl) ?_
  refine lv_if_lt (tgt := 36) hx hb dX12_four_4 (by decide) (fun h9 => absurd h9 (by decide)) (fun _ => ?_)
  refine lv_aload_n hx hb dX12_four_7 rfl (lv_at hl 1 rfl) ?_
  refine va_get (D := D) (own := RX12) (ci := 12) (v := .ref at_) (C := RX12) (T := TX12) (N := 51) hx hb hts inb_X12 hown hK.1 hP 0 rfl rfl 5 (by decide) (hts _ wd_1239) (fun _ h9 => h9) (fn_gs (by decide) (fn_gs (by decide) hm5)) dX12_four_8 ?_
  refine lv_aload_n hx hb dX12_four_11 rfl (lv_at hl 1 rfl) ?_
  refine va_get (D := D) (own := RX12) (ci := 12) (v := .int 10) (C := RX12) (T := TX12) (N := 51) hx hb hts inb_X12 hown hK.1 hP 0 rfl rfl 6 (by decide) (hts _ wd_1240) (fun _ h9 => h9) (fn_gss (fn_sl hmn) (by decide)) dX12_four_12 ?_
  refine lv_iload_n hx hb dX12_four_15 rfl (lv_at hl 2 rfl) ?_
  refine lv_iload_n hx hb dX12_four_16 rfl (lv_at hl 0 rfl) ?_
  refine lv_ishr hx hb dX12_four_17 ?_
  refine lv_topi (fun v7 ev7 => ?_)
  refine lv_i2b hx hb dX12_four_18 rfl ?_
  refine lv_topi (fun v8 ev8 => ?_)
  refine va_bast hx hb hK.1 hP hD hS 1 1 rfl rfl (by unfold vp_in; decide) dX12_four_19 (fun H locs hP hD hS => ?_)
  obtain ⟨g9, eg9⟩ : ∃ z, z = (upd g6 (Int32.toNatClampNeg 10) (vp_nar .byte v8)) := ⟨_, rfl⟩
  have hP : va_P D vwCl [(m0, .inr (12, (fm.set 6 (.int 9)).set 6 (.int 10))), (at_, .inl (K 1, 1400, .inl g9))] H := by rw [eg9]; exact hP
  have hD : va_D A [(m0, .inr (12, (fm.set 6 (.int 9)).set 6 (.int 10))), (at_, .inl (K 1, 1400, .inl g9))] := by rw [eg9]; exact hD
  refine lv_aload_n hx hb dX12_four_20 rfl (lv_at hl 1 rfl) ?_
  refine lv_dup hx hb dX12_four_21 rfl ?_
  refine va_get (D := D) (own := RX12) (ci := 12) (v := .int 10) (C := RX12) (T := TX12) (N := 51) hx hb hts inb_X12 hown hK.1 hP 0 rfl rfl 6 (by decide) (hts _ wd_1240) (fun _ h9 => h9) (fn_gss (fn_sl hmn) (by decide)) dX12_four_22 ?_
  refine lv_iconst (v := 1) hx hb dX12_four_25 (by decide) ?_
  refine lv_iadd hx hb dX12_four_26 ?_
  refine fn_top 11 (by decide) ?_
  refine va_put (D := D) (own := RX12) (ci := 12) (v := .int 11) (ty := .int) (C := RX12) (T := TX12) (N := 51) hx hb hts inb_X12 tyX12 tyX12_ok nmX12 hown hK.1 hP hD hS 0 rfl rfl 6 (by decide) (hts _ wd_1240) (fun _ h9 => h9) rfl (by decide +kernel) rfl rfl (fn_kl (fn_sl (fn_sl hmn)) (by decide)) dX12_four_27 (fun H locs hP hD hS => ?_)
  have hP : va_P D vwCl [(m0, .inr (12, ((fm.set 6 (.int 9)).set 6 (.int 10)).set 6 (.int 11))), (at_, .inl (K 1, 1400, .inl g9))] H := hP
  have hD : va_D A [(m0, .inr (12, ((fm.set 6 (.int 9)).set 6 (.int 10)).set 6 (.int 11))), (at_, .inl (K 1, 1400, .inl g9))] := hD
  refine lv_iinc (v := 0) (lv' := [(2, .int 0), (0, .ref m0), (1, .int p0)]) hx hb dX12_four_30 hl (k := 0) rfl (by decide) (by decide) rfl (fun ls hl => ?_)
  refine lv_goto (tgt := 3) hx hb dX12_four_33 (by decide) ?_
  refine fn_at 3 rfl ?_
  refine lv_iload_n hx hb dX12_four_3 rfl (lv_at hl 0 rfl) ?_
  refine lv_if_lt (tgt := 36) hx hb dX12_four_4 (by decide) (fun h9 => absurd h9 (by decide)) (fun _ => ?_)
  refine lv_aload_n hx hb dX12_four_7 rfl (lv_at hl 1 rfl) ?_
  refine va_get (D := D) (own := RX12) (ci := 12) (v := .ref at_) (C := RX12) (T := TX12) (N := 51) hx hb hts inb_X12 hown hK.1 hP 0 rfl rfl 5 (by decide) (hts _ wd_1239) (fun _ h9 => h9) (fn_gs (by decide) (fn_gs (by decide) (fn_gs (by decide) hm5))) dX12_four_8 ?_
  refine lv_aload_n hx hb dX12_four_11 rfl (lv_at hl 1 rfl) ?_
  refine va_get (D := D) (own := RX12) (ci := 12) (v := .int 11) (C := RX12) (T := TX12) (N := 51) hx hb hts inb_X12 hown hK.1 hP 0 rfl rfl 6 (by decide) (hts _ wd_1240) (fun _ h9 => h9) (fn_gss (fn_sl (fn_sl hmn)) (by decide)) dX12_four_12 ?_
  refine lv_iload_n hx hb dX12_four_15 rfl (lv_at hl 2 rfl) ?_
  refine lv_iload_n hx hb dX12_four_16 rfl (lv_at hl 0 rfl) ?_
  refine lv_ishr hx hb dX12_four_17 ?_
  refine lv_topi (fun v10 ev10 => ?_)
  refine lv_i2b hx hb dX12_four_18 rfl ?_
  refine lv_topi (fun v11 ev11 => ?_)
  refine va_bast hx hb hK.1 hP hD hS 1 1 rfl rfl (by unfold vp_in; decide) dX12_four_19 (fun H locs hP hD hS => ?_)
  obtain ⟨g12, eg12⟩ : ∃ z, z = (upd g9 (Int32.toNatClampNeg 11) (vp_nar .byte v11)) := ⟨_, rfl⟩
  have hP : va_P D vwCl [(m0, .inr (12, ((fm.set 6 (.int 9)).set 6 (.int 10)).set 6 (.int 11))), (at_, .inl (K 1, 1400, .inl g12))] H := by rw [eg12]; exact hP
  have hD : va_D A [(m0, .inr (12, ((fm.set 6 (.int 9)).set 6 (.int 10)).set 6 (.int 11))), (at_, .inl (K 1, 1400, .inl g12))] := by rw [eg12]; exact hD
  refine lv_aload_n hx hb dX12_four_20 rfl (lv_at hl 1 rfl) ?_
  refine lv_dup hx hb dX12_four_21 rfl ?_
  refine va_get (D := D) (own := RX12) (ci := 12) (v := .int 11) (C := RX12) (T := TX12) (N := 51) hx hb hts inb_X12 hown hK.1 hP 0 rfl rfl 6 (by decide) (hts _ wd_1240) (fun _ h9 => h9) (fn_gss (fn_sl (fn_sl hmn)) (by decide)) dX12_four_22 ?_
  refine lv_iconst (v := 1) hx hb dX12_four_25 (by decide) ?_
  refine lv_iadd hx hb dX12_four_26 ?_
  refine fn_top 12 (by decide) ?_
  refine va_put (D := D) (own := RX12) (ci := 12) (v := .int 12) (ty := .int) (C := RX12) (T := TX12) (N := 51) hx hb hts inb_X12 tyX12 tyX12_ok nmX12 hown hK.1 hP hD hS 0 rfl rfl 6 (by decide) (hts _ wd_1240) (fun _ h9 => h9) rfl (by decide +kernel) rfl rfl (fn_kl (fn_sl (fn_sl (fn_sl hmn))) (by decide)) dX12_four_27 (fun H locs hP hD hS => ?_)
  have hP : va_P D vwCl [(m0, .inr (12, (((fm.set 6 (.int 9)).set 6 (.int 10)).set 6 (.int 11)).set 6 (.int 12))), (at_, .inl (K 1, 1400, .inl g12))] H := hP
  have hD : va_D A [(m0, .inr (12, (((fm.set 6 (.int 9)).set 6 (.int 10)).set 6 (.int 11)).set 6 (.int 12))), (at_, .inl (K 1, 1400, .inl g12))] := hD
  refine lv_iinc (v := (-8)) (lv' := [(2, .int (-8)), (0, .ref m0), (1, .int p0)]) hx hb dX12_four_30 hl (k := 0) rfl (by decide) (by decide) rfl (fun ls hl => ?_)
  refine lv_goto (tgt := 3) hx hb dX12_four_33 (by decide) ?_
  refine lv_iload_n hx hb dX12_four_3 rfl (lv_at hl 0 rfl) ?_
  refine fn_at 4 rfl ?_
  refine lv_if_lt (tgt := 36) hx hb dX12_four_4 (by decide) (fun _ => ?_) (fun h9 => absurd (by decide) h9)
  exact fn_vret hx hb hr hlocks hP hD hS (fun k => ([g12] : List (Nat → Int32)).getD k g12) trivial [0, 1] (by decide) rfl dX12_four_36
set_option maxHeartbeats 4000000 in
set_option maxRecDepth 100000 in
theorem c_X12_four_12 (l : Launch) (D : va_G) (K : Nat → ClassId) (m0 at_ : Nat) (fm : List Value) (hmn : fm.length = 51) (hm5 : fm[5]? = some (.ref at_)) (hm6 : fm[6]? = some (.int 12)) (fat_ : Nat → Int32) (p0 : Int32) : fn_CV (S := Nat → Nat → Int32) l D K yX12_four (fn_ws yX12_four cX12_four 3 none) ({ frames := 4, cells := 0, slots := 0, locals := 100 }) [.ref m0, .int p0] [(m0, .inr (12, fm)), (at_, .inl (K 1, 1400, .inl fat_))] (fun u => True) (fun u => [(m0, .inr (12, (((fm.set 6 (.int 13)).set 6 (.int 14)).set 6 (.int 15)).set 6 (.int 16))), (at_, .inl (K 1, 1400, .inl (u 0)))]) 0 0 := by
  refine fn_inV (cc := cX12_four) (maxL := 3) (ret := none) (by decide) rfl (Nat.le_of_ble_eq_true rfl) ?_
  intro p e s m below meth c A ls B hA hP hD hS hl
  obtain ⟨hx, hb, hr, hml, hts, hown, hlocks, hin, hK⟩ := B
  have hown : s.vm.findClass RX12 = some m.cls := hown
  have hts := fun w h => hts w (List.mem_cons_of_mem _ h)
  have hl : lv_has ls 3 [(0, .ref m0), (1, .int p0)] := hl
  refine lv_bipush (v := 24) hx hb dX12_four_0 (by decide) ?_
  refine lv_istore_n (lv' := [(2, .int 24), (0, .ref m0), (1, .int p0)]) hx hb dX12_four_2 rfl hl (by decide) rfl (fun ls hl => ?_)
  refine lv_iload_n hx hb dX12_four_3 rfl (lv_at hl 0 rfl) ?_
  refine lv_if_lt (tgt := 36) hx hb dX12_four_4 (by decide) (fun h9 => absurd h9 (by decide)) (fun _ => ?_)
  refine lv_aload_n hx hb dX12_four_7 rfl (lv_at hl 1 rfl) ?_
  refine va_get (D := D) (own := RX12) (ci := 12) (v := .ref at_) (C := RX12) (T := TX12) (N := 51) hx hb hts inb_X12 hown hK.1 hP 0 rfl rfl 5 (by decide) (hts _ wd_1239) (fun _ h9 => h9) hm5 dX12_four_8 ?_
  refine lv_aload_n hx hb dX12_four_11 rfl (lv_at hl 1 rfl) ?_
  refine va_get (D := D) (own := RX12) (ci := 12) (v := .int 12) (C := RX12) (T := TX12) (N := 51) hx hb hts inb_X12 hown hK.1 hP 0 rfl rfl 6 (by decide) (hts _ wd_1240) (fun _ h9 => h9) hm6 dX12_four_12 ?_
  refine lv_iload_n hx hb dX12_four_15 rfl (lv_at hl 2 rfl) ?_
  refine lv_iload_n hx hb dX12_four_16 rfl (lv_at hl 0 rfl) ?_
  refine lv_ishr hx hb dX12_four_17 ?_
  refine lv_topi (fun v1 ev1 => ?_)
  refine lv_i2b hx hb dX12_four_18 rfl ?_
  refine lv_topi (fun v2 ev2 => ?_)
  refine va_bast hx hb hK.1 hP hD hS 1 1 rfl rfl (by unfold vp_in; decide) dX12_four_19 (fun H locs hP hD hS => ?_)
  obtain ⟨g3, eg3⟩ : ∃ z, z = (upd fat_ (Int32.toNatClampNeg 12) (vp_nar .byte v2)) := ⟨_, rfl⟩
  have hP : va_P D vwCl [(m0, .inr (12, fm)), (at_, .inl (K 1, 1400, .inl g3))] H := by rw [eg3]; exact hP
  have hD : va_D A [(m0, .inr (12, fm)), (at_, .inl (K 1, 1400, .inl g3))] := by rw [eg3]; exact hD
  refine lv_aload_n hx hb dX12_four_20 rfl (lv_at hl 1 rfl) ?_
  refine lv_dup hx hb dX12_four_21 rfl ?_
  refine va_get (D := D) (own := RX12) (ci := 12) (v := .int 12) (C := RX12) (T := TX12) (N := 51) hx hb hts inb_X12 hown hK.1 hP 0 rfl rfl 6 (by decide) (hts _ wd_1240) (fun _ h9 => h9) hm6 dX12_four_22 ?_
  refine lv_iconst (v := 1) hx hb dX12_four_25 (by decide) ?_
  refine lv_iadd hx hb dX12_four_26 ?_
  refine fn_top 13 (by decide) ?_
  refine va_put (D := D) (own := RX12) (ci := 12) (v := .int 13) (ty := .int) (C := RX12) (T := TX12) (N := 51) hx hb hts inb_X12 tyX12 tyX12_ok nmX12 hown hK.1 hP hD hS 0 rfl rfl 6 (by decide) (hts _ wd_1240) (fun _ h9 => h9) rfl (by decide +kernel) rfl rfl (fn_kl hmn (by decide)) dX12_four_27 (fun H locs hP hD hS => ?_)
  have hP : va_P D vwCl [(m0, .inr (12, fm.set 6 (.int 13))), (at_, .inl (K 1, 1400, .inl g3))] H := hP
  have hD : va_D A [(m0, .inr (12, fm.set 6 (.int 13))), (at_, .inl (K 1, 1400, .inl g3))] := hD
  refine fn_at 30 rfl ?_
  refine lv_iinc (v := 16) (lv' := [(2, .int 16), (0, .ref m0), (1, .int p0)]) hx hb dX12_four_30 hl (k := 0) rfl (by decide) (by decide) rfl (fun ls hl => ?_)
  refine lv_goto (tgt := 3) hx hb dX12_four_33 (by decide) ?_
  refine lv_iload_n hx hb dX12_four_3 rfl (lv_at hl 0 rfl) ?_
  refine lv_if_lt (tgt := 36) hx hb dX12_four_4 (by decide) (fun h9 => absurd h9 (by decide)) (fun _ => ?_)
  refine lv_aload_n hx hb dX12_four_7 rfl (lv_at hl 1 rfl) ?_
  refine va_get (D := D) (own := RX12) (ci := 12) (v := .ref at_) (C := RX12) (T := TX12) (N := 51) hx hb hts inb_X12 hown hK.1 hP 0 rfl rfl 5 (by decide) (hts _ wd_1239) (fun _ h9 => h9) (fn_gs (by decide) hm5) dX12_four_8 ?_
  refine lv_aload_n hx hb dX12_four_11 rfl (lv_at hl 1 rfl) ?_
  refine va_get (D := D) (own := RX12) (ci := 12) (v := .int 13) (C := RX12) (T := TX12) (N := 51) hx hb hts inb_X12 hown hK.1 hP 0 rfl rfl 6 (by decide) (hts _ wd_1240) (fun _ h9 => h9) (fn_gss hmn (by decide)) dX12_four_12 ?_
  refine lv_iload_n hx hb dX12_four_15 rfl (lv_at hl 2 rfl) ?_
  refine lv_iload_n hx hb dX12_four_16 rfl (lv_at hl 0 rfl) ?_
  refine lv_ishr hx hb dX12_four_17 ?_
  refine lv_topi (fun v4 ev4 => ?_)
  refine lv_i2b hx hb dX12_four_18 rfl ?_
  refine lv_topi (fun v5 ev5 => ?_)
  refine va_bast hx hb hK.1 hP hD hS 1 1 rfl rfl (by unfold vp_in; decide) dX12_four_19 (fun H locs hP hD hS => ?_)
  obtain ⟨g6, eg6⟩ : ∃ z, z = (upd g3 (Int32.toNatClampNeg 13) (vp_nar .byte v5)) := ⟨_, rfl⟩
  have hP : va_P D vwCl [(m0, .inr (12, fm.set 6 (.int 13))), (at_, .inl (K 1, 1400, .inl g6))] H := by rw [eg6]; exact hP
  have hD : va_D A [(m0, .inr (12, fm.set 6 (.int 13))), (at_, .inl (K 1, 1400, .inl g6))] := by rw [eg6]; exact hD
  refine lv_aload_n hx hb dX12_four_20 rfl (lv_at hl 1 rfl) ?_
  refine lv_dup hx hb dX12_four_21 rfl ?_
  refine va_get (D := D) (own := RX12) (ci := 12) (v := .int 13) (C := RX12) (T := TX12) (N := 51) hx hb hts inb_X12 hown hK.1 hP 0 rfl rfl 6 (by decide) (hts _ wd_1240) (fun _ h9 => h9) (fn_gss hmn (by decide)) dX12_four_22 ?_
  refine lv_iconst (v := 1) hx hb dX12_four_25 (by decide) ?_
  refine lv_iadd hx hb dX12_four_26 ?_
  refine fn_top 14 (by decide) ?_
  refine va_put (D := D) (own := RX12) (ci := 12) (v := .int 14) (ty := .int) (C := RX12) (T := TX12) (N := 51) hx hb hts inb_X12 tyX12 tyX12_ok nmX12 hown hK.1 hP hD hS 0 rfl rfl 6 (by decide) (hts _ wd_1240) (fun _ h9 => h9) rfl (by decide +kernel) rfl rfl (fn_kl (fn_sl hmn) (by decide)) dX12_four_27 (fun H locs hP hD hS => ?_)
  have hP : va_P D vwCl [(m0, .inr (12, (fm.set 6 (.int 13)).set 6 (.int 14))), (at_, .inl (K 1, 1400, .inl g6))] H := hP
  have hD : va_D A [(m0, .inr (12, (fm.set 6 (.int 13)).set 6 (.int 14))), (at_, .inl (K 1, 1400, .inl g6))] := hD
  refine lv_iinc (v := 8) (lv' := [(2, .int 8), (0, .ref m0), (1, .int p0)]) hx hb dX12_four_30 hl (k := 0) rfl (by decide) (by decide) rfl (fun ls hl => ?_)
  refine fn_at 33 rfl ?_
  refine lv_goto (tgt := 3) hx hb dX12_four_33 (by decide) ?_
  refine lv_iload_n hx hb dX12_four_3 rfl (lv_at hl 0 rfl) ?_
  refine lv_if_lt (tgt := 36) hx hb dX12_four_4 (by decide) (fun h9 => absurd h9 (by decide)) (fun _ => ?_)
  refine lv_aload_n hx hb dX12_four_7 rfl (lv_at hl 1 rfl) ?_
  refine va_get (D := D) (own := RX12) (ci := 12) (v := .ref at_) (C := RX12) (T := TX12) (N := 51) hx hb hts inb_X12 hown hK.1 hP 0 rfl rfl 5 (by decide) (hts _ wd_1239) (fun _ h9 => h9) (fn_gs (by decide) (fn_gs (by decide) hm5)) dX12_four_8 ?_
  refine lv_aload_n hx hb dX12_four_11 rfl (lv_at hl 1 rfl) ?_
  refine va_get (D := D) (own := RX12) (ci := 12) (v := .int 14) (C := RX12) (T := TX12) (N := 51) hx hb hts inb_X12 hown hK.1 hP 0 rfl rfl 6 (by decide) (hts _ wd_1240) (fun _ h9 => h9) (fn_gss (fn_sl hmn) (by decide)) dX12_four_12 ?_
  refine lv_iload_n hx hb dX12_four_15 rfl (lv_at hl 2 rfl) ?_
  refine lv_iload_n hx hb dX12_four_16 rfl (lv_at hl 0 rfl) ?_
  refine lv_ishr hx hb dX12_four_17 ?_
  refine lv_topi (fun v7 ev7 => ?_)
  refine lv_i2b hx hb dX12_four_18 rfl ?_
  refine lv_topi (fun v8 ev8 => ?_)
  refine va_bast hx hb hK.1 hP hD hS 1 1 rfl rfl (by unfold vp_in; decide) dX12_four_19 (fun H locs hP hD hS => ?_)
  obtain ⟨g9, eg9⟩ : ∃ z, z = (upd g6 (Int32.toNatClampNeg 14) (vp_nar .byte v8)) := ⟨_, rfl⟩
  have hP : va_P D vwCl [(m0, .inr (12, (fm.set 6 (.int 13)).set 6 (.int 14))), (at_, .inl (K 1, 1400, .inl g9))] H := by rw [eg9]; exact hP
  have hD : va_D A [(m0, .inr (12, (fm.set 6 (.int 13)).set 6 (.int 14))), (at_, .inl (K 1, 1400, .inl g9))] := by rw [eg9]; exact hD
  refine lv_aload_n hx hb dX12_four_20 rfl (lv_at hl 1 rfl) ?_
  refine lv_dup hx hb dX12_four_21 rfl ?_
  refine va_get (D := D) (own := RX12) (ci := 12) (v := .int 14) (C := RX12) (T := TX12) (N := 51) hx hb hts inb_X12 hown hK.1 hP 0 rfl rfl 6 (by decide) (hts _ wd_1240) (fun _ h9 => h9) (fn_gss (fn_sl hmn) (by decide)) dX12_four_22 ?_
  refine lv_iconst (v := 1) hx hb dX12_four_25 (by decide) ?_
  refine lv_iadd hx hb dX12_four_26 ?_
  refine fn_top 15 (by decide) ?_
  refine va_put (D := D) (own := RX12) (ci := 12) (v := .int 15) (ty := .int) (C := RX12) (T := TX12) (N := 51) hx hb hts inb_X12 tyX12 tyX12_ok nmX12 hown hK.1 hP hD hS 0 rfl rfl 6 (by decide) (hts _ wd_1240) (fun _ h9 => h9) rfl (by decide +kernel) rfl rfl (fn_kl (fn_sl (fn_sl hmn)) (by decide)) dX12_four_27 (fun H locs hP hD hS => ?_)
  have hP : va_P D vwCl [(m0, .inr (12, ((fm.set 6 (.int 13)).set 6 (.int 14)).set 6 (.int 15))), (at_, .inl (K 1, 1400, .inl g9))] H := hP
  have hD : va_D A [(m0, .inr (12, ((fm.set 6 (.int 13)).set 6 (.int 14)).set 6 (.int 15))), (at_, .inl (K 1, 1400, .inl g9))] := hD
  refine lv_iinc (v := 0) (lv' := [(2, .int 0), (0, .ref m0), (1, .int p0)]) hx hb dX12_four_30 hl (k := 0) rfl (by decide) (by decide) rfl (fun ls hl => ?_)
  refine lv_goto (tgt := 3) hx hb dX12_four_33 (by decide) ?_
  refine fn_at 3 rfl ?_
  refine lv_iload_n hx hb dX12_four_3 rfl (lv_at hl 0 rfl) ?_
  refine lv_if_lt (tgt := 36) hx hb dX12_four_4 (by decide) (fun h9 => absurd h9 (by decide)) (fun _ => ?_)
  refine lv_aload_n hx hb dX12_four_7 rfl (lv_at hl 1 rfl) ?_
  refine va_get (D := D) (own := RX12) (ci := 12) (v := .ref at_) (C := RX12) (T := TX12) (N := 51) hx hb hts inb_X12 hown hK.1 hP 0 rfl rfl 5 (by decide) (hts _ wd_1239) (fun _ h9 => h9) (fn_gs (by decide) (fn_gs (by decide) (fn_gs (by decide) hm5))) dX12_four_8 ?_
  refine lv_aload_n hx hb dX12_four_11 rfl (lv_at hl 1 rfl) ?_
  refine va_get (D := D) (own := RX12) (ci := 12) (v := .int 15) (C := RX12) (T := TX12) (N := 51) hx hb hts inb_X12 hown hK.1 hP 0 rfl rfl 6 (by decide) (hts _ wd_1240) (fun _ h9 => h9) (fn_gss (fn_sl (fn_sl hmn)) (by decide)) dX12_four_12 ?_
  refine lv_iload_n hx hb dX12_four_15 rfl (lv_at hl 2 rfl) ?_
  refine lv_iload_n hx hb dX12_four_16 rfl (lv_at hl 0 rfl) ?_
  refine lv_ishr hx hb dX12_four_17 ?_
  refine lv_topi (fun v10 ev10 => ?_)
  refine lv_i2b hx hb dX12_four_18 rfl ?_
  refine lv_topi (fun v11 ev11 => ?_)
  refine va_bast hx hb hK.1 hP hD hS 1 1 rfl rfl (by unfold vp_in; decide) dX12_four_19 (fun H locs hP hD hS => ?_)
  obtain ⟨g12, eg12⟩ : ∃ z, z = (upd g9 (Int32.toNatClampNeg 15) (vp_nar .byte v11)) := ⟨_, rfl⟩
  have hP : va_P D vwCl [(m0, .inr (12, ((fm.set 6 (.int 13)).set 6 (.int 14)).set 6 (.int 15))), (at_, .inl (K 1, 1400, .inl g12))] H := by rw [eg12]; exact hP
  have hD : va_D A [(m0, .inr (12, ((fm.set 6 (.int 13)).set 6 (.int 14)).set 6 (.int 15))), (at_, .inl (K 1, 1400, .inl g12))] := by rw [eg12]; exact hD
  refine lv_aload_n hx hb dX12_four_20 rfl (lv_at hl 1 rfl) ?_
  refine lv_dup hx hb dX12_four_21 rfl ?_
  refine va_get (D := D) (own := RX12) (ci := 12) (v := .int 15) (C := RX12) (T := TX12) (N := 51) hx hb hts inb_X12 hown hK.1 hP 0 rfl rfl 6 (by decide) (hts _ wd_1240) (fun _ h9 => h9) (fn_gss (fn_sl (fn_sl hmn)) (by decide)) dX12_four_22 ?_
  refine lv_iconst (v := 1) hx hb dX12_four_25 (by decide) ?_
  refine lv_iadd hx hb dX12_four_26 ?_
  refine fn_top 16 (by decide) ?_
  refine va_put (D := D) (own := RX12) (ci := 12) (v := .int 16) (ty := .int) (C := RX12) (T := TX12) (N := 51) hx hb hts inb_X12 tyX12 tyX12_ok nmX12 hown hK.1 hP hD hS 0 rfl rfl 6 (by decide) (hts _ wd_1240) (fun _ h9 => h9) rfl (by decide +kernel) rfl rfl (fn_kl (fn_sl (fn_sl (fn_sl hmn))) (by decide)) dX12_four_27 (fun H locs hP hD hS => ?_)
  have hP : va_P D vwCl [(m0, .inr (12, (((fm.set 6 (.int 13)).set 6 (.int 14)).set 6 (.int 15)).set 6 (.int 16))), (at_, .inl (K 1, 1400, .inl g12))] H := hP
  have hD : va_D A [(m0, .inr (12, (((fm.set 6 (.int 13)).set 6 (.int 14)).set 6 (.int 15)).set 6 (.int 16))), (at_, .inl (K 1, 1400, .inl g12))] := hD
  refine lv_iinc (v := (-8)) (lv' := [(2, .int (-8)), (0, .ref m0), (1, .int p0)]) hx hb dX12_four_30 hl (k := 0) rfl (by decide) (by decide) rfl (fun ls hl => ?_)
  refine lv_goto (tgt := 3) hx hb dX12_four_33 (by decide) ?_
  refine lv_iload_n hx hb dX12_four_3 rfl (lv_at hl 0 rfl) ?_
  refine fn_at 4 rfl ?_
  refine lv_if_lt (tgt := 36) hx hb dX12_four_4 (by decide) (fun _ => ?_) (fun h9 => absurd (by decide) h9)
  exact fn_vret hx hb hr hlocks hP hD hS (fun k => ([g12] : List (Nat → Int32)).getD k g12) trivial [0, 1] (by decide) rfl dX12_four_36
set_option maxHeartbeats 4000000 in
set_option maxRecDepth 100000 in
theorem c_X12_four_16 (l : Launch) (D : va_G) (K : Nat → ClassId) (m0 at_ : Nat) (fm : List Value) (hmn : fm.length = 51) (hm5 : fm[5]? = some (.ref at_)) (hm6 : fm[6]? = some (.int 16)) (fat_ : Nat → Int32) (p0 : Int32) : fn_CV (S := Nat → Nat → Int32) l D K yX12_four (fn_ws yX12_four cX12_four 3 none) ({ frames := 4, cells := 0, slots := 0, locals := 100 }) [.ref m0, .int p0] [(m0, .inr (12, fm)), (at_, .inl (K 1, 1400, .inl fat_))] (fun u => True) (fun u => [(m0, .inr (12, (((fm.set 6 (.int 17)).set 6 (.int 18)).set 6 (.int 19)).set 6 (.int 20))), (at_, .inl (K 1, 1400, .inl (u 0)))]) 0 0 := by
  refine fn_inV (cc := cX12_four) (maxL := 3) (ret := none) (by decide) rfl (Nat.le_of_ble_eq_true rfl) ?_
  intro p e s m below meth c A ls B hA hP hD hS hl
  obtain ⟨hx, hb, hr, hml, hts, hown, hlocks, hin, hK⟩ := B
  have hown : s.vm.findClass RX12 = some m.cls := hown
  have hts := fun w h => hts w (List.mem_cons_of_mem _ h)
  have hl : lv_has ls 3 [(0, .ref m0), (1, .int p0)] := hl
  refine lv_bipush (v := 24) hx hb dX12_four_0 (by decide) ?_
  refine lv_istore_n (lv' := [(2, .int 24), (0, .ref m0), (1, .int p0)]) hx hb dX12_four_2 rfl hl (by decide) rfl (fun ls hl => ?_)
  refine lv_iload_n hx hb dX12_four_3 rfl (lv_at hl 0 rfl) ?_
  refine lv_if_lt (tgt := 36) hx hb dX12_four_4 (by decide) (fun h9 => absurd h9 (by decide)) (fun _ => ?_)
  refine lv_aload_n hx hb dX12_four_7 rfl (lv_at hl 1 rfl) ?_
  refine va_get (D := D) (own := RX12) (ci := 12) (v := .ref at_) (C := RX12) (T := TX12) (N := 51) hx hb hts inb_X12 hown hK.1 hP 0 rfl rfl 5 (by decide) (hts _ wd_1239) (fun _ h9 => h9) hm5 dX12_four_8 ?_
  refine lv_aload_n hx hb dX12_four_11 rfl (lv_at hl 1 rfl) ?_
  refine va_get (D := D) (own := RX12) (ci := 12) (v := .int 16) (C := RX12) (T := TX12) (N := 51) hx hb hts inb_X12 hown hK.1 hP 0 rfl rfl 6 (by decide) (hts _ wd_1240) (fun _ h9 => h9) hm6 dX12_four_12 ?_
  refine lv_iload_n hx hb dX12_four_15 rfl (lv_at hl 2 rfl) ?_
  refine lv_iload_n hx hb dX12_four_16 rfl (lv_at hl 0 rfl) ?_
  refine lv_ishr hx hb dX12_four_17 ?_
  refine lv_topi (fun v1 ev1 => ?_)
  refine lv_i2b hx hb dX12_four_18 rfl ?_
  refine lv_topi (fun v2 ev2 => ?_)
  refine va_bast hx hb hK.1 hP hD hS 1 1 rfl rfl (by unfold vp_in; decide) dX12_four_19 (fun H locs hP hD hS => ?_)
  obtain ⟨g3, eg3⟩ : ∃ z, z = (upd fat_ (Int32.toNatClampNeg 16) (vp_nar .byte v2)) := ⟨_, rfl⟩
  have hP : va_P D vwCl [(m0, .inr (12, fm)), (at_, .inl (K 1, 1400, .inl g3))] H := by rw [eg3]; exact hP
  have hD : va_D A [(m0, .inr (12, fm)), (at_, .inl (K 1, 1400, .inl g3))] := by rw [eg3]; exact hD
  refine lv_aload_n hx hb dX12_four_20 rfl (lv_at hl 1 rfl) ?_
  refine lv_dup hx hb dX12_four_21 rfl ?_
  refine va_get (D := D) (own := RX12) (ci := 12) (v := .int 16) (C := RX12) (T := TX12) (N := 51) hx hb hts inb_X12 hown hK.1 hP 0 rfl rfl 6 (by decide) (hts _ wd_1240) (fun _ h9 => h9) hm6 dX12_four_22 ?_
  refine lv_iconst (v := 1) hx hb dX12_four_25 (by decide) ?_
  refine lv_iadd hx hb dX12_four_26 ?_
  refine fn_top 17 (by decide) ?_
  refine va_put (D := D) (own := RX12) (ci := 12) (v := .int 17) (ty := .int) (C := RX12) (T := TX12) (N := 51) hx hb hts inb_X12 tyX12 tyX12_ok nmX12 hown hK.1 hP hD hS 0 rfl rfl 6 (by decide) (hts _ wd_1240) (fun _ h9 => h9) rfl (by decide +kernel) rfl rfl (fn_kl hmn (by decide)) dX12_four_27 (fun H locs hP hD hS => ?_)
  have hP : va_P D vwCl [(m0, .inr (12, fm.set 6 (.int 17))), (at_, .inl (K 1, 1400, .inl g3))] H := hP
  have hD : va_D A [(m0, .inr (12, fm.set 6 (.int 17))), (at_, .inl (K 1, 1400, .inl g3))] := hD
  refine fn_at 30 rfl ?_
  refine lv_iinc (v := 16) (lv' := [(2, .int 16), (0, .ref m0), (1, .int p0)]) hx hb dX12_four_30 hl (k := 0) rfl (by decide) (by decide) rfl (fun ls hl => ?_)
  refine lv_goto (tgt := 3) hx hb dX12_four_33 (by decide) ?_
  refine lv_iload_n hx hb dX12_four_3 rfl (lv_at hl 0 rfl) ?_
  refine lv_if_lt (tgt := 36) hx hb dX12_four_4 (by decide) (fun h9 => absurd h9 (by decide)) (fun _ => ?_)
  refine lv_aload_n hx hb dX12_four_7 rfl (lv_at hl 1 rfl) ?_
  refine va_get (D := D) (own := RX12) (ci := 12) (v := .ref at_) (C := RX12) (T := TX12) (N := 51) hx hb hts inb_X12 hown hK.1 hP 0 rfl rfl 5 (by decide) (hts _ wd_1239) (fun _ h9 => h9) (fn_gs (by decide) hm5) dX12_four_8 ?_
  refine lv_aload_n hx hb dX12_four_11 rfl (lv_at hl 1 rfl) ?_
  refine va_get (D := D) (own := RX12) (ci := 12) (v := .int 17) (C := RX12) (T := TX12) (N := 51) hx hb hts inb_X12 hown hK.1 hP 0 rfl rfl 6 (by decide) (hts _ wd_1240) (fun _ h9 => h9) (fn_gss hmn (by decide)) dX12_four_12 ?_
  refine lv_iload_n hx hb dX12_four_15 rfl (lv_at hl 2 rfl) ?_
  refine lv_iload_n hx hb dX12_four_16 rfl (lv_at hl 0 rfl) ?_
  refine lv_ishr hx hb dX12_four_17 ?_
  refine lv_topi (fun v4 ev4 => ?_)
  refine lv_i2b hx hb dX12_four_18 rfl ?_
  refine lv_topi (fun v5 ev5 => ?_)
  refine va_bast hx hb hK.1 hP hD hS 1 1 rfl rfl (by unfold vp_in; decide) dX12_four_19 (fun H locs hP hD hS => ?_)
  obtain ⟨g6, eg6⟩ : ∃ z, z = (upd g3 (Int32.toNatClampNeg 17) (vp_nar .byte v5)) := ⟨_, rfl⟩
  have hP : va_P D vwCl [(m0, .inr (12, fm.set 6 (.int 17))), (at_, .inl (K 1, 1400, .inl g6))] H := by rw [eg6]; exact hP
  have hD : va_D A [(m0, .inr (12, fm.set 6 (.int 17))), (at_, .inl (K 1, 1400, .inl g6))] := by rw [eg6]; exact hD
  refine lv_aload_n hx hb dX12_four_20 rfl (lv_at hl 1 rfl) ?_
  refine lv_dup hx hb dX12_four_21 rfl ?_
  refine va_get (D := D) (own := RX12) (ci := 12) (v := .int 17) (C := RX12) (T := TX12) (N := 51) hx hb hts inb_X12 hown hK.1 hP 0 rfl rfl 6 (by decide) (hts _ wd_1240) (fun _ h9 => h9) (fn_gss hmn (by decide)) dX12_four_22 ?_
  refine lv_iconst (v := 1) hx hb dX12_four_25 (by decide) ?_
  refine lv_iadd hx hb dX12_four_26 ?_
  refine fn_top 18 (by decide) ?_
  refine va_put (D := D) (own := RX12) (ci := 12) (v := .int 18) (ty := .int) (C := RX12) (T := TX12) (N := 51) hx hb hts inb_X12 tyX12 tyX12_ok nmX12 hown hK.1 hP hD hS 0 rfl rfl 6 (by decide) (hts _ wd_1240) (fun _ h9 => h9) rfl (by decide +kernel) rfl rfl (fn_kl (fn_sl hmn) (by decide)) dX12_four_27 (fun H locs hP hD hS => ?_)
  have hP : va_P D vwCl [(m0, .inr (12, (fm.set 6 (.int 17)).set 6 (.int 18))), (at_, .inl (K 1, 1400, .inl g6))] H := hP
  have hD : va_D A [(m0, .inr (12, (fm.set 6 (.int 17)).set 6 (.int 18))), (at_, .inl (K 1, 1400, .inl g6))] := hD
  refine lv_iinc (v := 8) (lv' := [(2, .int 8), (0, .ref m0), (1, .int p0)]) hx hb dX12_four_30 hl (k := 0) rfl (by decide) (by decide) rfl (fun ls hl => ?_)
  refine fn_at 33 rfl ?_
  refine lv_goto (tgt := 3) hx hb dX12_four_33 (by decide) ?_
  refine lv_iload_n hx hb dX12_four_3 rfl (lv_at hl 0 rfl) ?_
  refine lv_if_lt (tgt := 36) hx hb dX12_four_4 (by decide) (fun h9 => absurd h9 (by decide)) (fun _ => ?_)
  refine lv_aload_n hx hb dX12_four_7 rfl (lv_at hl 1 rfl) ?_
  refine va_get (D := D) (own := RX12) (ci := 12) (v := .ref at_) (C := RX12) (T := TX12) (N := 51) hx hb hts inb_X12 hown hK.1 hP 0 rfl rfl 5 (by decide) (hts _ wd_1239) (fun _ h9 => h9) (fn_gs (by decide) (fn_gs (by decide) hm5)) dX12_four_8 ?_
  refine lv_aload_n hx hb dX12_four_11 rfl (lv_at hl 1 rfl) ?_
  refine va_get (D := D) (own := RX12) (ci := 12) (v := .int 18) (C := RX12) (T := TX12) (N := 51) hx hb hts inb_X12 hown hK.1 hP 0 rfl rfl 6 (by decide) (hts _ wd_1240) (fun _ h9 => h9) (fn_gss (fn_sl hmn) (by decide)) dX12_four_12 ?_
  refine lv_iload_n hx hb dX12_four_15 rfl (lv_at hl 2 rfl) ?_
  refine lv_iload_n hx hb dX12_four_16 rfl (lv_at hl 0 rfl) ?_
  refine lv_ishr hx hb dX12_four_17 ?_
  refine lv_topi (fun v7 ev7 => ?_)
  refine lv_i2b hx hb dX12_four_18 rfl ?_
  refine lv_topi (fun v8 ev8 => ?_)
  refine va_bast hx hb hK.1 hP hD hS 1 1 rfl rfl (by unfold vp_in; decide) dX12_four_19 (fun H locs hP hD hS => ?_)
  obtain ⟨g9, eg9⟩ : ∃ z, z = (upd g6 (Int32.toNatClampNeg 18) (vp_nar .byte v8)) := ⟨_, rfl⟩
  have hP : va_P D vwCl [(m0, .inr (12, (fm.set 6 (.int 17)).set 6 (.int 18))), (at_, .inl (K 1, 1400, .inl g9))] H := by rw [eg9]; exact hP
  have hD : va_D A [(m0, .inr (12, (fm.set 6 (.int 17)).set 6 (.int 18))), (at_, .inl (K 1, 1400, .inl g9))] := by rw [eg9]; exact hD
  refine lv_aload_n hx hb dX12_four_20 rfl (lv_at hl 1 rfl) ?_
  refine lv_dup hx hb dX12_four_21 rfl ?_
  refine va_get (D := D) (own := RX12) (ci := 12) (v := .int 18) (C := RX12) (T := TX12) (N := 51) hx hb hts inb_X12 hown hK.1 hP 0 rfl rfl 6 (by decide) (hts _ wd_1240) (fun _ h9 => h9) (fn_gss (fn_sl hmn) (by decide)) dX12_four_22 ?_
  refine lv_iconst (v := 1) hx hb dX12_four_25 (by decide) ?_
  refine lv_iadd hx hb dX12_four_26 ?_
  refine fn_top 19 (by decide) ?_
  refine va_put (D := D) (own := RX12) (ci := 12) (v := .int 19) (ty := .int) (C := RX12) (T := TX12) (N := 51) hx hb hts inb_X12 tyX12 tyX12_ok nmX12 hown hK.1 hP hD hS 0 rfl rfl 6 (by decide) (hts _ wd_1240) (fun _ h9 => h9) rfl (by decide +kernel) rfl rfl (fn_kl (fn_sl (fn_sl hmn)) (by decide)) dX12_four_27 (fun H locs hP hD hS => ?_)
  have hP : va_P D vwCl [(m0, .inr (12, ((fm.set 6 (.int 17)).set 6 (.int 18)).set 6 (.int 19))), (at_, .inl (K 1, 1400, .inl g9))] H := hP
  have hD : va_D A [(m0, .inr (12, ((fm.set 6 (.int 17)).set 6 (.int 18)).set 6 (.int 19))), (at_, .inl (K 1, 1400, .inl g9))] := hD
  refine lv_iinc (v := 0) (lv' := [(2, .int 0), (0, .ref m0), (1, .int p0)]) hx hb dX12_four_30 hl (k := 0) rfl (by decide) (by decide) rfl (fun ls hl => ?_)
  refine lv_goto (tgt := 3) hx hb dX12_four_33 (by decide) ?_
  refine fn_at 3 rfl ?_
  refine lv_iload_n hx hb dX12_four_3 rfl (lv_at hl 0 rfl) ?_
  refine lv_if_lt (tgt := 36) hx hb dX12_four_4 (by decide) (fun h9 => absurd h9 (by decide)) (fun _ => ?_)
  refine lv_aload_n hx hb dX12_four_7 rfl (lv_at hl 1 rfl) ?_
  refine va_get (D := D) (own := RX12) (ci := 12) (v := .ref at_) (C := RX12) (T := TX12) (N := 51) hx hb hts inb_X12 hown hK.1 hP 0 rfl rfl 5 (by decide) (hts _ wd_1239) (fun _ h9 => h9) (fn_gs (by decide) (fn_gs (by decide) (fn_gs (by decide) hm5))) dX12_four_8 ?_
  refine lv_aload_n hx hb dX12_four_11 rfl (lv_at hl 1 rfl) ?_
  refine va_get (D := D) (own := RX12) (ci := 12) (v := .int 19) (C := RX12) (T := TX12) (N := 51) hx hb hts inb_X12 hown hK.1 hP 0 rfl rfl 6 (by decide) (hts _ wd_1240) (fun _ h9 => h9) (fn_gss (fn_sl (fn_sl hmn)) (by decide)) dX12_four_12 ?_
  refine lv_iload_n hx hb dX12_four_15 rfl (lv_at hl 2 rfl) ?_
  refine lv_iload_n hx hb dX12_four_16 rfl (lv_at hl 0 rfl) ?_
  refine lv_ishr hx hb dX12_four_17 ?_
  refine lv_topi (fun v10 ev10 => ?_)
  refine lv_i2b hx hb dX12_four_18 rfl ?_
  refine lv_topi (fun v11 ev11 => ?_)
  refine va_bast hx hb hK.1 hP hD hS 1 1 rfl rfl (by unfold vp_in; decide) dX12_four_19 (fun H locs hP hD hS => ?_)
  obtain ⟨g12, eg12⟩ : ∃ z, z = (upd g9 (Int32.toNatClampNeg 19) (vp_nar .byte v11)) := ⟨_, rfl⟩
  have hP : va_P D vwCl [(m0, .inr (12, ((fm.set 6 (.int 17)).set 6 (.int 18)).set 6 (.int 19))), (at_, .inl (K 1, 1400, .inl g12))] H := by rw [eg12]; exact hP
  have hD : va_D A [(m0, .inr (12, ((fm.set 6 (.int 17)).set 6 (.int 18)).set 6 (.int 19))), (at_, .inl (K 1, 1400, .inl g12))] := by rw [eg12]; exact hD
  refine lv_aload_n hx hb dX12_four_20 rfl (lv_at hl 1 rfl) ?_
  refine lv_dup hx hb dX12_four_21 rfl ?_
  refine va_get (D := D) (own := RX12) (ci := 12) (v := .int 19) (C := RX12) (T := TX12) (N := 51) hx hb hts inb_X12 hown hK.1 hP 0 rfl rfl 6 (by decide) (hts _ wd_1240) (fun _ h9 => h9) (fn_gss (fn_sl (fn_sl hmn)) (by decide)) dX12_four_22 ?_
  refine lv_iconst (v := 1) hx hb dX12_four_25 (by decide) ?_
  refine lv_iadd hx hb dX12_four_26 ?_
  refine fn_top 20 (by decide) ?_
  refine va_put (D := D) (own := RX12) (ci := 12) (v := .int 20) (ty := .int) (C := RX12) (T := TX12) (N := 51) hx hb hts inb_X12 tyX12 tyX12_ok nmX12 hown hK.1 hP hD hS 0 rfl rfl 6 (by decide) (hts _ wd_1240) (fun _ h9 => h9) rfl (by decide +kernel) rfl rfl (fn_kl (fn_sl (fn_sl (fn_sl hmn))) (by decide)) dX12_four_27 (fun H locs hP hD hS => ?_)
  have hP : va_P D vwCl [(m0, .inr (12, (((fm.set 6 (.int 17)).set 6 (.int 18)).set 6 (.int 19)).set 6 (.int 20))), (at_, .inl (K 1, 1400, .inl g12))] H := hP
  have hD : va_D A [(m0, .inr (12, (((fm.set 6 (.int 17)).set 6 (.int 18)).set 6 (.int 19)).set 6 (.int 20))), (at_, .inl (K 1, 1400, .inl g12))] := hD
  refine lv_iinc (v := (-8)) (lv' := [(2, .int (-8)), (0, .ref m0), (1, .int p0)]) hx hb dX12_four_30 hl (k := 0) rfl (by decide) (by decide) rfl (fun ls hl => ?_)
  refine lv_goto (tgt := 3) hx hb dX12_four_33 (by decide) ?_
  refine lv_iload_n hx hb dX12_four_3 rfl (lv_at hl 0 rfl) ?_
  refine fn_at 4 rfl ?_
  refine lv_if_lt (tgt := 36) hx hb dX12_four_4 (by decide) (fun _ => ?_) (fun h9 => absurd (by decide) h9)
  exact fn_vret hx hb hr hlocks hP hD hS (fun k => ([g12] : List (Nat → Int32)).getD k g12) trivial [0, 1] (by decide) rfl dX12_four_36
theorem dX12_feed_0 : decode cX12_feed 0 = .ok (.aload_n 0, 1) := by decide +kernel
theorem dX12_feed_1 : decode cX12_feed 1 = .ok (.iconst 0, 1) := by decide +kernel
theorem dX12_feed_2 : decode cX12_feed 2 = .ok (.putfield 104, 3) := by decide +kernel
theorem dX12_feed_5 : decode cX12_feed 5 = .ok (.aload_n 0, 1) := by decide +kernel
theorem dX12_feed_6 : decode cX12_feed 6 = .ok (.getfield 121, 3) := by decide +kernel
theorem dX12_feed_9 : decode cX12_feed 9 = .ok (.bipush 20, 2) := by decide +kernel
theorem dX12_feed_11 : decode cX12_feed 11 = .ok (.iadd, 1) := by decide +kernel
theorem dX12_feed_12 : decode cX12_feed 12 = .ok (.sipush 1400, 3) := by decide +kernel
theorem dX12_feed_15 : decode cX12_feed 15 = .ok (.if_icmp .le 5, 3) := by decide +kernel
theorem dX12_feed_20 : decode cX12_feed 20 = .ok (.aload_n 0, 1) := by decide +kernel
theorem dX12_feed_21 : decode cX12_feed 21 = .ok (.iload_n 1, 1) := by decide +kernel
theorem dX12_feed_22 : decode cX12_feed 22 = .ok (.invokevirtual 124, 3) := by decide +kernel
theorem dX12_feed_25 : decode cX12_feed 25 = .ok (.aload_n 0, 1) := by decide +kernel
theorem dX12_feed_26 : decode cX12_feed 26 = .ok (.iload_n 2, 1) := by decide +kernel
theorem dX12_feed_27 : decode cX12_feed 27 = .ok (.invokevirtual 124, 3) := by decide +kernel
theorem dX12_feed_30 : decode cX12_feed 30 = .ok (.aload_n 0, 1) := by decide +kernel
theorem dX12_feed_31 : decode cX12_feed 31 = .ok (.iload_n 3, 1) := by decide +kernel
theorem dX12_feed_32 : decode cX12_feed 32 = .ok (.invokevirtual 124, 3) := by decide +kernel
theorem dX12_feed_35 : decode cX12_feed 35 = .ok (.aload_n 0, 1) := by decide +kernel
theorem dX12_feed_36 : decode cX12_feed 36 = .ok (.iload 4, 2) := by decide +kernel
theorem dX12_feed_38 : decode cX12_feed 38 = .ok (.invokevirtual 124, 3) := by decide +kernel
theorem dX12_feed_41 : decode cX12_feed 41 = .ok (.aload_n 0, 1) := by decide +kernel
theorem dX12_feed_42 : decode cX12_feed 42 = .ok (.iload 5, 2) := by decide +kernel
theorem dX12_feed_44 : decode cX12_feed 44 = .ok (.invokevirtual 124, 3) := by decide +kernel
theorem dX12_feed_47 : decode cX12_feed 47 = .ok (.aload_n 0, 1) := by decide +kernel
theorem dX12_feed_48 : decode cX12_feed 48 = .ok (.getfield 121, 3) := by decide +kernel
theorem dX12_feed_51 : decode cX12_feed 51 = .ok (.ireturn, 1) := by decide +kernel
set_option maxHeartbeats 4000000 in
set_option maxRecDepth 100000 in
theorem c_X12_feed (l : Launch) (D : va_G) (K : Nat → ClassId) (m0 at_ : Nat) (fm : List Value) (hmn : fm.length = 51) (hm5 : fm[5]? = some (.ref at_)) (hm6 : fm[6]? = some (.int 0)) (fat_ : Nat → Int32) (p0 p1 p2 p3 p4 : Int32) : fn_CI (S := Unit) l D K yX12_feed (fn_ws yX12_feed cX12_feed 6 (some .int)) ({ frames := 8, cells := 0, slots := 0, locals := 200 }) [.ref m0, .int p0, .int p1, .int p2, .int p3, .int p4] [(m0, .inr (12, fm)), (at_, .inl (K 1, 1400, .inl fat_))] (fun r _ => r = 20) (fun _ => []) 0 0 := by
  refine fn_inI (cc := cX12_feed) (maxL := 6) (ret := (some .int)) (by decide) rfl (Nat.le_of_ble_eq_true rfl) ?_
  intro p e s m below meth c A ls B hA hP hD hS hl
  obtain ⟨hx, hb, hr, hml, hts, hown, hlocks, hin, hK⟩ := B
  have hown : s.vm.findClass RX12 = some m.cls := hown
  have hts := fun w h => hts w (List.mem_cons_of_mem _ h)
  have hl : lv_has ls 6 [(0, .ref m0), (1, .int p0), (2, .int p1), (3, .int p2), (4, .int p3), (5, .int p4)] := hl
  refine lv_aload_n hx hb dX12_feed_0 rfl (lv_at hl 0 rfl) ?_
  refine lv_iconst (v := 0) hx hb dX12_feed_1 (by decide) ?_
  refine va_put (D := D) (own := RX12) (ci := 12) (v := .int 0) (ty := .int) (C := RX12) (T := TX12) (N := 51) hx hb hts inb_X12 tyX12 tyX12_ok nmX12 hown hK.1 hP hD hS 0 rfl rfl 0 (by decide) (hts _ wd_1234) (fun _ h9 => h9) rfl (by decide +kernel) rfl rfl (fn_kl hmn (by decide)) dX12_feed_2 (fun H locs hP hD hS => ?_)
  have hP : va_P D vwCl [(m0, .inr (12, fm.set 0 (.int 0))), (at_, .inl (K 1, 1400, .inl fat_))] H := hP
  have hD : va_D A [(m0, .inr (12, fm.set 0 (.int 0))), (at_, .inl (K 1, 1400, .inl fat_))] := hD
  refine lv_aload_n hx hb dX12_feed_5 rfl (lv_at hl 0 rfl) ?_
  refine va_get (D := D) (own := RX12) (ci := 12) (v := .int 0) (C := RX12) (T := TX12) (N := 51) hx hb hts inb_X12 hown hK.1 hP 0 rfl rfl 6 (by decide) (hts _ wd_1240) (fun _ h9 => h9) (fn_gs (by decide) hm6) dX12_feed_6 ?_
  refine lv_bipush (v := 20) hx hb dX12_feed_9 (by decide) ?_
  refine lv_iadd hx hb dX12_feed_11 ?_
  refine fn_top 20 (by decide) ?_
  refine lv_sipush (v := 1400) hx hb dX12_feed_12 (by decide) ?_
  refine lv_icmp_le (tgt := 20) hx hb dX12_feed_15 (by decide) (fun _ => ?_) (fun h9 => absurd (by decide) h9)
  refine lv_aload_n hx hb dX12_feed_20 rfl (lv_at hl 0 rfl) ?_
  refine lv_iload_n hx hb dX12_feed_21 rfl (lv_at hl 1 rfl) ?_
  refine fn_gov (wc := [(m0, .inr (12, fm.set 0 (.int 0))), (at_, .inl (K 1, 1400, .inl fat_))]) (wr := []) hK hP hD hS hA [0, 1] [] rfl rfl (by decide) (fun hp => va_runV (C := RX12) (As := [.int p0]) (rest := []) ⟨hx, hb, hml, hown, hts⟩ (c_X12_four_0 (l := l) (D := D) (K := K) (m0 := (m0)) (p0 := (p0)) (fm := (fm.set 0 (.int 0))) (hmn := (fn_sl hmn)) (at_ := (at_)) (hm5 := (fn_gs (by decide) hm5)) (hm6 := (fn_gs (by decide) hm6)) (fat_ := (fat_)) _) (cwV 1 hts (fn_ginV (fn_gin wd_1417) wd_1414 wd_1416 wp_94 wd_13) rfl rfl rfl (by decide +kernel) ⟨Nat.le_of_ble_eq_true rfl, Nat.le_of_ble_eq_true rfl⟩) ⟨fn_blind, va_recv hK.1 hP (ci := 12) (q0 := 0) rfl rfl, hp⟩ rfl rfl hl.1 rfl (lv_room (Nat.le_of_ble_eq_true rfl)) dX12_feed_22 ⟨Nat.le_of_ble_eq_true rfl, Nat.le_of_ble_eq_true rfl⟩) (fun u1 H locs hwu1 hP hD hS => ?_)
  have hP : va_P D vwCl [(m0, .inr (12, ((((fm.set 0 (.int 0)).set 6 (.int 1)).set 6 (.int 2)).set 6 (.int 3)).set 6 (.int 4))), (at_, .inl (K 1, 1400, .inl (u1 0)))] H := hP
  have hD : va_D A [(m0, .inr (12, ((((fm.set 0 (.int 0)).set 6 (.int 1)).set 6 (.int 2)).set 6 (.int 3)).set 6 (.int 4))), (at_, .inl (K 1, 1400, .inl (u1 0)))] := hD
  refine lv_aload_n hx hb dX12_feed_25 rfl (lv_at hl 0 rfl) ?_
  refine lv_iload_n hx hb dX12_feed_26 rfl (lv_at hl 2 rfl) ?_
  refine fn_gov (wc := [(m0, .inr (12, ((((fm.set 0 (.int 0)).set 6 (.int 1)).set 6 (.int 2)).set 6 (.int 3)).set 6 (.int 4))), (at_, .inl (K 1, 1400, .inl (u1 0)))]) (wr := []) hK hP hD hS hA [0, 1] [] rfl rfl (by decide) (fun hp => va_runV (C := RX12) (As := [.int p1]) (rest := []) ⟨hx, hb, hml, hown, hts⟩ (c_X12_four_4 (l := l) (D := D) (K := K) (m0 := (m0)) (p0 := (p1)) (fm := (((((fm.set 0 (.int 0)).set 6 (.int 1)).set 6 (.int 2)).set 6 (.int 3)).set 6 (.int 4))) (hmn := (fn_sl (fn_sl (fn_sl (fn_sl (fn_sl hmn)))))) (at_ := (at_)) (hm5 := (fn_gs (by decide) (fn_gs (by decide) (fn_gs (by decide) (fn_gs (by decide) (fn_gs (by decide) hm5)))))) (hm6 := (fn_gss (fn_sl (fn_sl (fn_sl (fn_sl hmn)))) (by decide))) (fat_ := (u1 0)) _) (cwV 1 hts (fn_ginV (fn_gin wd_1417) wd_1414 wd_1416 wp_94 wd_13) rfl rfl rfl (by decide +kernel) ⟨Nat.le_of_ble_eq_true rfl, Nat.le_of_ble_eq_true rfl⟩) ⟨fn_blind, va_recv hK.1 hP (ci := 12) (q0 := 0) rfl rfl, hp⟩ rfl rfl hl.1 rfl (lv_room (Nat.le_of_ble_eq_true rfl)) dX12_feed_27 ⟨Nat.le_of_ble_eq_true rfl, Nat.le_of_ble_eq_true rfl⟩) (fun u3 H locs hwu3 hP hD hS => ?_)
  have hP : va_P D vwCl [(m0, .inr (12, ((((((((fm.set 0 (.int 0)).set 6 (.int 1)).set 6 (.int 2)).set 6 (.int 3)).set 6 (.int 4)).set 6 (.int 5)).set 6 (.int 6)).set 6 (.int 7)).set 6 (.int 8))), (at_, .inl (K 1, 1400, .inl (u3 0)))] H := hP
  have hD : va_D A [(m0, .inr (12, ((((((((fm.set 0 (.int 0)).set 6 (.int 1)).set 6 (.int 2)).set 6 (.int 3)).set 6 (.int 4)).set 6 (.int 5)).set 6 (.int 6)).set 6 (.int 7)).set 6 (.int 8))), (at_, .inl (K 1, 1400, .inl (u3 0)))] := hD
  refine lv_aload_n hx hb dX12_feed_30 rfl (lv_at hl 0 rfl) ?_
  refine lv_iload_n hx hb dX12_feed_31 rfl (lv_at hl 3 rfl) ?_
  refine fn_gov (wc := [(m0, .inr (12, ((((((((fm.set 0 (.int 0)).set 6 (.int 1)).set 6 (.int 2)).set 6 (.int 3)).set 6 (.int 4)).set 6 (.int 5)).set 6 (.int 6)).set 6 (.int 7)).set 6 (.int 8))), (at_, .inl (K 1, 1400, .inl (u3 0)))]) (wr := []) hK hP hD hS hA [0, 1] [] rfl rfl (by decide) (fun hp => va_runV (C := RX12) (As := [.int p2]) (rest := []) ⟨hx, hb, hml, hown, hts⟩ (c_X12_four_8 (l := l) (D := D) (K := K) (m0 := (m0)) (p0 := (p2)) (fm := (((((((((fm.set 0 (.int 0)).set 6 (.int 1)).set 6 (.int 2)).set 6 (.int 3)).set 6 (.int 4)).set 6 (.int 5)).set 6 (.int 6)).set 6 (.int 7)).set 6 (.int 8))) (hmn := (fn_sl (fn_sl (fn_sl (fn_sl (fn_sl (fn_sl (fn_sl (fn_sl (fn_sl hmn)))))))))) (at_ := (at_)) (hm5 := (fn_gs (by decide) (fn_gs (by decide) (fn_gs (by decide) (fn_gs (by decide) (fn_gs (by decide) (fn_gs (by decide) (fn_gs (by decide) (fn_gs (by decide) (fn_gs (by decide) hm5)))))))))) (hm6 := (fn_gss (fn_sl (fn_sl (fn_sl (fn_sl (fn_sl (fn_sl (fn_sl (fn_sl hmn)))))))) (by decide))) (fat_ := (u3 0)) _) (cwV 1 hts (fn_ginV (fn_gin wd_1417) wd_1414 wd_1416 wp_94 wd_13) rfl rfl rfl (by decide +kernel) ⟨Nat.le_of_ble_eq_true rfl, Nat.le_of_ble_eq_true rfl⟩) ⟨fn_blind, va_recv hK.1 hP (ci := 12) (q0 := 0) rfl rfl, hp⟩ rfl rfl hl.1 rfl (lv_room (Nat.le_of_ble_eq_true rfl)) dX12_feed_32 ⟨Nat.le_of_ble_eq_true rfl, Nat.le_of_ble_eq_true rfl⟩) (fun u5 H locs hwu5 hP hD hS => ?_)
  have hP : va_P D vwCl [(m0, .inr (12, ((((((((((((fm.set 0 (.int 0)).set 6 (.int 1)).set 6 (.int 2)).set 6 (.int 3)).set 6 (.int 4)).set 6 (.int 5)).set 6 (.int 6)).set 6 (.int 7)).set 6 (.int 8)).set 6 (.int 9)).set 6 (.int 10)).set 6 (.int 11)).set 6 (.int 12))), (at_, .inl (K 1, 1400, .inl (u5 0)))] H := hP
  have hD : va_D A [(m0, .inr (12, ((((((((((((fm.set 0 (.int 0)).set 6 (.int 1)).set 6 (.int 2)).set 6 (.int 3)).set 6 (.int 4)).set 6 (.int 5)).set 6 (.int 6)).set 6 (.int 7)).set 6 (.int 8)).set 6 (.int 9)).set 6 (.int 10)).set 6 (.int 11)).set 6 (.int 12))), (at_, .inl (K 1, 1400, .inl (u5 0)))] := hD
  refine lv_aload_n hx hb dX12_feed_35 rfl (lv_at hl 0 rfl) ?_
  refine fn_at 36 rfl ?_
  refine lv_iload hx hb dX12_feed_36 (lv_at hl 4 rfl) ?_
  refine fn_gov (wc := [(m0, .inr (12, ((((((((((((fm.set 0 (.int 0)).set 6 (.int 1)).set 6 (.int 2)).set 6 (.int 3)).set 6 (.int 4)).set 6 (.int 5)).set 6 (.int 6)).set 6 (.int 7)).set 6 (.int 8)).set 6 (.int 9)).set 6 (.int 10)).set 6 (.int 11)).set 6 (.int 12))), (at_, .inl (K 1, 1400, .inl (u5 0)))]) (wr := []) hK hP hD hS hA [0, 1] [] rfl rfl (by decide) (fun hp => va_runV (C := RX12) (As := [.int p3]) (rest := []) ⟨hx, hb, hml, hown, hts⟩ (c_X12_four_12 (l := l) (D := D) (K := K) (m0 := (m0)) (p0 := (p3)) (fm := (((((((((((((fm.set 0 (.int 0)).set 6 (.int 1)).set 6 (.int 2)).set 6 (.int 3)).set 6 (.int 4)).set 6 (.int 5)).set 6 (.int 6)).set 6 (.int 7)).set 6 (.int 8)).set 6 (.int 9)).set 6 (.int 10)).set 6 (.int 11)).set 6 (.int 12))) (hmn := (fn_sl (fn_sl (fn_sl (fn_sl (fn_sl (fn_sl (fn_sl (fn_sl (fn_sl (fn_sl (fn_sl (fn_sl (fn_sl hmn)))))))))))))) (at_ := (at_)) (hm5 := (fn_gs (by decide) (fn_gs (by decide) (fn_gs (by decide) (fn_gs (by decide) (fn_gs (by decide) (fn_gs (by decide) (fn_gs (by decide) (fn_gs (by decide) (fn_gs (by decide) (fn_gs (by decide) (fn_gs (by decide) (fn_gs (by decide) (fn_gs (by decide) hm5)))))))))))))) (hm6 := (fn_gss (fn_sl (fn_sl (fn_sl (fn_sl (fn_sl (fn_sl (fn_sl (fn_sl (fn_sl (fn_sl (fn_sl (fn_sl hmn)))))))))))) (by decide))) (fat_ := (u5 0)) _) (cwV 1 hts (fn_ginV (fn_gin wd_1417) wd_1414 wd_1416 wp_94 wd_13) rfl rfl rfl (by decide +kernel) ⟨Nat.le_of_ble_eq_true rfl, Nat.le_of_ble_eq_true rfl⟩) ⟨fn_blind, va_recv hK.1 hP (ci := 12) (q0 := 0) rfl rfl, hp⟩ rfl rfl hl.1 rfl (lv_room (Nat.le_of_ble_eq_true rfl)) dX12_feed_38 ⟨Nat.le_of_ble_eq_true rfl, Nat.le_of_ble_eq_true rfl⟩) (fun u7 H locs hwu7 hP hD hS => ?_)
  have hP : va_P D vwCl [(m0, .inr (12, ((((((((((((((((fm.set 0 (.int 0)).set 6 (.int 1)).set 6 (.int 2)).set 6 (.int 3)).set 6 (.int 4)).set 6 (.int 5)).set 6 (.int 6)).set 6 (.int 7)).set 6 (.int 8)).set 6 (.int 9)).set 6 (.int 10)).set 6 (.int 11)).set 6 (.int 12)).set 6 (.int 13)).set 6 (.int 14)).set 6 (.int 15)).set 6 (.int 16))), (at_, .inl (K 1, 1400, .inl (u7 0)))] H := hP
  have hD : va_D A [(m0, .inr (12, ((((((((((((((((fm.set 0 (.int 0)).set 6 (.int 1)).set 6 (.int 2)).set 6 (.int 3)).set 6 (.int 4)).set 6 (.int 5)).set 6 (.int 6)).set 6 (.int 7)).set 6 (.int 8)).set 6 (.int 9)).set 6 (.int 10)).set 6 (.int 11)).set 6 (.int 12)).set 6 (.int 13)).set 6 (.int 14)).set 6 (.int 15)).set 6 (.int 16))), (at_, .inl (K 1, 1400, .inl (u7 0)))] := hD
  refine lv_aload_n hx hb dX12_feed_41 rfl (lv_at hl 0 rfl) ?_
  refine lv_iload hx hb dX12_feed_42 (lv_at hl 5 rfl) ?_
  refine fn_gov (wc := [(m0, .inr (12, ((((((((((((((((fm.set 0 (.int 0)).set 6 (.int 1)).set 6 (.int 2)).set 6 (.int 3)).set 6 (.int 4)).set 6 (.int 5)).set 6 (.int 6)).set 6 (.int 7)).set 6 (.int 8)).set 6 (.int 9)).set 6 (.int 10)).set 6 (.int 11)).set 6 (.int 12)).set 6 (.int 13)).set 6 (.int 14)).set 6 (.int 15)).set 6 (.int 16))), (at_, .inl (K 1, 1400, .inl (u7 0)))]) (wr := []) hK hP hD hS hA [0, 1] [] rfl rfl (by decide) (fun hp => va_runV (C := RX12) (As := [.int p4]) (rest := []) ⟨hx, hb, hml, hown, hts⟩ (c_X12_four_16 (l := l) (D := D) (K := K) (m0 := (m0)) (p0 := (p4)) (fm := (((((((((((((((((fm.set 0 (.int 0)).set 6 (.int 1)).set 6 (.int 2)).set 6 (.int 3)).set 6 (.int 4)).set 6 (.int 5)).set 6 (.int 6)).set 6 (.int 7)).set 6 (.int 8)).set 6 (.int 9)).set 6 (.int 10)).set 6 (.int 11)).set 6 (.int 12)).set 6 (.int 13)).set 6 (.int 14)).set 6 (.int 15)).set 6 (.int 16))) (hmn := (fn_sl (fn_sl (fn_sl (fn_sl (fn_sl (fn_sl (fn_sl (fn_sl (fn_sl (fn_sl (fn_sl (fn_sl (fn_sl (fn_sl (fn_sl (fn_sl (fn_sl hmn)))))))))))))))))) (at_ := (at_)) (hm5 := (fn_gs (by decide) (fn_gs (by decide) (fn_gs (by decide) (fn_gs (by decide) (fn_gs (by decide) (fn_gs (by decide) (fn_gs (by decide) (fn_gs (by decide) (fn_gs (by decide) (fn_gs (by decide) (fn_gs (by decide) (fn_gs (by decide) (fn_gs (by decide) (fn_gs (by decide) (fn_gs (by decide) (fn_gs (by decide) (fn_gs (by decide) hm5)))))))))))))))))) (hm6 := (fn_gss (fn_sl (fn_sl (fn_sl (fn_sl (fn_sl (fn_sl (fn_sl (fn_sl (fn_sl (fn_sl (fn_sl (fn_sl (fn_sl (fn_sl (fn_sl (fn_sl hmn)))))))))))))))) (by decide))) (fat_ := (u7 0)) _) (cwV 1 hts (fn_ginV (fn_gin wd_1417) wd_1414 wd_1416 wp_94 wd_13) rfl rfl rfl (by decide +kernel) ⟨Nat.le_of_ble_eq_true rfl, Nat.le_of_ble_eq_true rfl⟩) ⟨fn_blind, va_recv hK.1 hP (ci := 12) (q0 := 0) rfl rfl, hp⟩ rfl rfl hl.1 rfl (lv_room (Nat.le_of_ble_eq_true rfl)) dX12_feed_44 ⟨Nat.le_of_ble_eq_true rfl, Nat.le_of_ble_eq_true rfl⟩) (fun u9 H locs hwu9 hP hD hS => ?_)
  have hP : va_P D vwCl [(m0, .inr (12, ((((((((((((((((((((fm.set 0 (.int 0)).set 6 (.int 1)).set 6 (.int 2)).set 6 (.int 3)).set 6 (.int 4)).set 6 (.int 5)).set 6 (.int 6)).set 6 (.int 7)).set 6 (.int 8)).set 6 (.int 9)).set 6 (.int 10)).set 6 (.int 11)).set 6 (.int 12)).set 6 (.int 13)).set 6 (.int 14)).set 6 (.int 15)).set 6 (.int 16)).set 6 (.int 17)).set 6 (.int 18)).set 6 (.int 19)).set 6 (.int 20))), (at_, .inl (K 1, 1400, .inl (u9 0)))] H := hP
  have hD : va_D A [(m0, .inr (12, ((((((((((((((((((((fm.set 0 (.int 0)).set 6 (.int 1)).set 6 (.int 2)).set 6 (.int 3)).set 6 (.int 4)).set 6 (.int 5)).set 6 (.int 6)).set 6 (.int 7)).set 6 (.int 8)).set 6 (.int 9)).set 6 (.int 10)).set 6 (.int 11)).set 6 (.int 12)).set 6 (.int 13)).set 6 (.int 14)).set 6 (.int 15)).set 6 (.int 16)).set 6 (.int 17)).set 6 (.int 18)).set 6 (.int 19)).set 6 (.int 20))), (at_, .inl (K 1, 1400, .inl (u9 0)))] := hD
  refine lv_aload_n hx hb dX12_feed_47 rfl (lv_at hl 0 rfl) ?_
  refine va_get (D := D) (own := RX12) (ci := 12) (v := .int 20) (C := RX12) (T := TX12) (N := 51) hx hb hts inb_X12 hown hK.1 hP 0 rfl rfl 6 (by decide) (hts _ wd_1240) (fun _ h9 => h9) (fn_gss (fn_sl (fn_sl (fn_sl (fn_sl (fn_sl (fn_sl (fn_sl (fn_sl (fn_sl (fn_sl (fn_sl (fn_sl (fn_sl (fn_sl (fn_sl (fn_sl (fn_sl (fn_sl (fn_sl (fn_sl hmn)))))))))))))))))))) (by decide)) dX12_feed_48 ?_
  exact fn_iret hx hb hr hlocks rfl hP hD hS () (by first | rfl | decide) [] (by decide) rfl dX12_feed_51
theorem dX12_tells_0 : decode cX12_tells 0 = .ok (.aload_n 0, 1) := by decide +kernel
theorem dX12_tells_1 : decode cX12_tells 1 = .ok (.getfield 34, 3) := by decide +kernel
theorem dX12_tells_4 : decode cX12_tells 4 = .ok (.bipush 32, 2) := by decide +kernel
theorem dX12_tells_6 : decode cX12_tells 6 = .ok (.iload_n 1, 1) := by decide +kernel
theorem dX12_tells_7 : decode cX12_tells 7 = .ok (.iadd, 1) := by decide +kernel
theorem dX12_tells_8 : decode cX12_tells 8 = .ok (.iload_n 2, 1) := by decide +kernel
theorem dX12_tells_9 : decode cX12_tells 9 = .ok (.iastore, 1) := by decide +kernel
theorem dX12_tells_10 : decode cX12_tells 10 = .ok (.return_, 1) := by decide +kernel
set_option maxHeartbeats 4000000 in
set_option maxRecDepth 100000 in
theorem c_X12_tells_0 (l : Launch) (D : va_G) (K : Nat → ClassId) (m0 ah : Nat) (fm : List Value) (hmn : fm.length = 51) (hm17 : fm[17]? = some (.ref ah)) (fah : Nat → Int32) (hfah : ∀ j, fah j = 0) : fn_CV (S := Nat → Nat → Int32) l D K yX12_tells (fn_ws yX12_tells cX12_tells 3 none) ({ frames := 4, cells := 0, slots := 0, locals := 100 }) [.ref m0, .int 0, .int 0] [(m0, .inr (12, fm)), (ah, .inl (K 0, 40, .inl fah))] (fun u => (∀ j, u 0 j = 0) ∧ True) (fun u => [(m0, .inr (12, fm)), (ah, .inl (K 0, 40, .inl (u 0)))]) 0 0 := by
  refine fn_inV (cc := cX12_tells) (maxL := 3) (ret := none) (by decide) rfl (Nat.le_of_ble_eq_true rfl) ?_
  intro p e s m below meth c A ls B hA hP hD hS hl
  obtain ⟨hx, hb, hr, hml, hts, hown, hlocks, hin, hK⟩ := B
  have hown : s.vm.findClass RX12 = some m.cls := hown
  have hts := fun w h => hts w (List.mem_cons_of_mem _ h)
  have hl : lv_has ls 3 [(0, .ref m0), (1, .int 0), (2, .int 0)] := hl
  refine lv_aload_n hx hb dX12_tells_0 rfl (lv_at hl 0 rfl) ?_
  refine va_get (D := D) (own := RX12) (ci := 12) (v := .ref ah) (C := RX12) (T := TX12) (N := 51) hx hb hts inb_X12 hown hK.1 hP 0 rfl rfl 17 (by decide) (hts _ wd_1251) (fun _ h9 => h9) hm17 dX12_tells_1 ?_
  refine lv_bipush (v := 32) hx hb dX12_tells_4 (by decide) ?_
  refine lv_iload_n hx hb dX12_tells_6 rfl (lv_at hl 1 rfl) ?_
  refine lv_iadd hx hb dX12_tells_7 ?_
  refine fn_top 32 (by decide) ?_
  refine lv_iload_n hx hb dX12_tells_8 rfl (lv_at hl 2 rfl) ?_
  refine va_iast hx hb hK.1 hP hD hS 1 0 rfl rfl (by unfold vp_in; decide) dX12_tells_9 (fun H locs hP hD hS => ?_)
  obtain ⟨g1, eg1⟩ : ∃ z, z = (upd fah (Int32.toNatClampNeg 32) 0) := ⟨_, rfl⟩
  have hg1 : ∀ j, g1 j = 0 := by rw [eg1]; exact fn_upd_all hfah
  have hP : va_P D vwCl [(m0, .inr (12, fm)), (ah, .inl (K 0, 40, .inl g1))] H := by rw [eg1]; exact hP
  have hD : va_D A [(m0, .inr (12, fm)), (ah, .inl (K 0, 40, .inl g1))] := by rw [eg1]; exact hD
  exact fn_vret hx hb hr hlocks hP hD hS (fun k => ([g1] : List (Nat → Int32)).getD k g1) ⟨hg1, trivial⟩ [0, 1] (by decide) rfl dX12_tells_10
set_option maxHeartbeats 4000000 in
set_option maxRecDepth 100000 in
theorem c_X12_tells_1 (l : Launch) (D : va_G) (K : Nat → ClassId) (m0 ah : Nat) (fm : List Value) (hmn : fm.length = 51) (hm17 : fm[17]? = some (.ref ah)) (fah : Nat → Int32) (hfah : ∀ j, fah j = 0) : fn_CV (S := Nat → Nat → Int32) l D K yX12_tells (fn_ws yX12_tells cX12_tells 3 none) ({ frames := 4, cells := 0, slots := 0, locals := 100 }) [.ref m0, .int 1, .int 0] [(m0, .inr (12, fm)), (ah, .inl (K 0, 40, .inl fah))] (fun u => (∀ j, u 0 j = 0) ∧ True) (fun u => [(m0, .inr (12, fm)), (ah, .inl (K 0, 40, .inl (u 0)))]) 0 0 := by
  refine fn_inV (cc := cX12_tells) (maxL := 3) (ret := none) (by decide) rfl (Nat.le_of_ble_eq_true rfl) ?_
  intro p e s m below meth c A ls B hA hP hD hS hl
  obtain ⟨hx, hb, hr, hml, hts, hown, hlocks, hin, hK⟩ := B
  have hown : s.vm.findClass RX12 = some m.cls := hown
  have hts := fun w h => hts w (List.mem_cons_of_mem _ h)
  have hl : lv_has ls 3 [(0, .ref m0), (1, .int 1), (2, .int 0)] := hl
  refine lv_aload_n hx hb dX12_tells_0 rfl (lv_at hl 0 rfl) ?_
  refine va_get (D := D) (own := RX12) (ci := 12) (v := .ref ah) (C := RX12) (T := TX12) (N := 51) hx hb hts inb_X12 hown hK.1 hP 0 rfl rfl 17 (by decide) (hts _ wd_1251) (fun _ h9 => h9) hm17 dX12_tells_1 ?_
  refine lv_bipush (v := 32) hx hb dX12_tells_4 (by decide) ?_
  refine lv_iload_n hx hb dX12_tells_6 rfl (lv_at hl 1 rfl) ?_
  refine lv_iadd hx hb dX12_tells_7 ?_
  refine fn_top 33 (by decide) ?_
  refine lv_iload_n hx hb dX12_tells_8 rfl (lv_at hl 2 rfl) ?_
  refine va_iast hx hb hK.1 hP hD hS 1 0 rfl rfl (by unfold vp_in; decide) dX12_tells_9 (fun H locs hP hD hS => ?_)
  obtain ⟨g1, eg1⟩ : ∃ z, z = (upd fah (Int32.toNatClampNeg 33) 0) := ⟨_, rfl⟩
  have hg1 : ∀ j, g1 j = 0 := by rw [eg1]; exact fn_upd_all hfah
  have hP : va_P D vwCl [(m0, .inr (12, fm)), (ah, .inl (K 0, 40, .inl g1))] H := by rw [eg1]; exact hP
  have hD : va_D A [(m0, .inr (12, fm)), (ah, .inl (K 0, 40, .inl g1))] := by rw [eg1]; exact hD
  exact fn_vret hx hb hr hlocks hP hD hS (fun k => ([g1] : List (Nat → Int32)).getD k g1) ⟨hg1, trivial⟩ [0, 1] (by decide) rfl dX12_tells_10
set_option maxHeartbeats 4000000 in
set_option maxRecDepth 100000 in
theorem c_X12_tells_2 (l : Launch) (D : va_G) (K : Nat → ClassId) (m0 ah : Nat) (fm : List Value) (hmn : fm.length = 51) (hm17 : fm[17]? = some (.ref ah)) (fah : Nat → Int32) (hfah : ∀ j, fah j = 0) : fn_CV (S := Nat → Nat → Int32) l D K yX12_tells (fn_ws yX12_tells cX12_tells 3 none) ({ frames := 4, cells := 0, slots := 0, locals := 100 }) [.ref m0, .int 2, .int 0] [(m0, .inr (12, fm)), (ah, .inl (K 0, 40, .inl fah))] (fun u => (∀ j, u 0 j = 0) ∧ True) (fun u => [(m0, .inr (12, fm)), (ah, .inl (K 0, 40, .inl (u 0)))]) 0 0 := by
  refine fn_inV (cc := cX12_tells) (maxL := 3) (ret := none) (by decide) rfl (Nat.le_of_ble_eq_true rfl) ?_
  intro p e s m below meth c A ls B hA hP hD hS hl
  obtain ⟨hx, hb, hr, hml, hts, hown, hlocks, hin, hK⟩ := B
  have hown : s.vm.findClass RX12 = some m.cls := hown
  have hts := fun w h => hts w (List.mem_cons_of_mem _ h)
  have hl : lv_has ls 3 [(0, .ref m0), (1, .int 2), (2, .int 0)] := hl
  refine lv_aload_n hx hb dX12_tells_0 rfl (lv_at hl 0 rfl) ?_
  refine va_get (D := D) (own := RX12) (ci := 12) (v := .ref ah) (C := RX12) (T := TX12) (N := 51) hx hb hts inb_X12 hown hK.1 hP 0 rfl rfl 17 (by decide) (hts _ wd_1251) (fun _ h9 => h9) hm17 dX12_tells_1 ?_
  refine lv_bipush (v := 32) hx hb dX12_tells_4 (by decide) ?_
  refine lv_iload_n hx hb dX12_tells_6 rfl (lv_at hl 1 rfl) ?_
  refine lv_iadd hx hb dX12_tells_7 ?_
  refine fn_top 34 (by decide) ?_
  refine lv_iload_n hx hb dX12_tells_8 rfl (lv_at hl 2 rfl) ?_
  refine va_iast hx hb hK.1 hP hD hS 1 0 rfl rfl (by unfold vp_in; decide) dX12_tells_9 (fun H locs hP hD hS => ?_)
  obtain ⟨g1, eg1⟩ : ∃ z, z = (upd fah (Int32.toNatClampNeg 34) 0) := ⟨_, rfl⟩
  have hg1 : ∀ j, g1 j = 0 := by rw [eg1]; exact fn_upd_all hfah
  have hP : va_P D vwCl [(m0, .inr (12, fm)), (ah, .inl (K 0, 40, .inl g1))] H := by rw [eg1]; exact hP
  have hD : va_D A [(m0, .inr (12, fm)), (ah, .inl (K 0, 40, .inl g1))] := by rw [eg1]; exact hD
  exact fn_vret hx hb hr hlocks hP hD hS (fun k => ([g1] : List (Nat → Int32)).getD k g1) ⟨hg1, trivial⟩ [0, 1] (by decide) rfl dX12_tells_10
set_option maxHeartbeats 4000000 in
set_option maxRecDepth 100000 in
theorem c_X12_tells_3 (l : Launch) (D : va_G) (K : Nat → ClassId) (m0 ah : Nat) (fm : List Value) (hmn : fm.length = 51) (hm17 : fm[17]? = some (.ref ah)) (fah : Nat → Int32) (hfah : ∀ j, fah j = 0) : fn_CV (S := Nat → Nat → Int32) l D K yX12_tells (fn_ws yX12_tells cX12_tells 3 none) ({ frames := 4, cells := 0, slots := 0, locals := 100 }) [.ref m0, .int 3, .int 0] [(m0, .inr (12, fm)), (ah, .inl (K 0, 40, .inl fah))] (fun u => (∀ j, u 0 j = 0) ∧ True) (fun u => [(m0, .inr (12, fm)), (ah, .inl (K 0, 40, .inl (u 0)))]) 0 0 := by
  refine fn_inV (cc := cX12_tells) (maxL := 3) (ret := none) (by decide) rfl (Nat.le_of_ble_eq_true rfl) ?_
  intro p e s m below meth c A ls B hA hP hD hS hl
  obtain ⟨hx, hb, hr, hml, hts, hown, hlocks, hin, hK⟩ := B
  have hown : s.vm.findClass RX12 = some m.cls := hown
  have hts := fun w h => hts w (List.mem_cons_of_mem _ h)
  have hl : lv_has ls 3 [(0, .ref m0), (1, .int 3), (2, .int 0)] := hl
  refine lv_aload_n hx hb dX12_tells_0 rfl (lv_at hl 0 rfl) ?_
  refine va_get (D := D) (own := RX12) (ci := 12) (v := .ref ah) (C := RX12) (T := TX12) (N := 51) hx hb hts inb_X12 hown hK.1 hP 0 rfl rfl 17 (by decide) (hts _ wd_1251) (fun _ h9 => h9) hm17 dX12_tells_1 ?_
  refine lv_bipush (v := 32) hx hb dX12_tells_4 (by decide) ?_
  refine lv_iload_n hx hb dX12_tells_6 rfl (lv_at hl 1 rfl) ?_
  refine lv_iadd hx hb dX12_tells_7 ?_
  refine fn_top 35 (by decide) ?_
  refine lv_iload_n hx hb dX12_tells_8 rfl (lv_at hl 2 rfl) ?_
  refine va_iast hx hb hK.1 hP hD hS 1 0 rfl rfl (by unfold vp_in; decide) dX12_tells_9 (fun H locs hP hD hS => ?_)
  obtain ⟨g1, eg1⟩ : ∃ z, z = (upd fah (Int32.toNatClampNeg 35) 0) := ⟨_, rfl⟩
  have hg1 : ∀ j, g1 j = 0 := by rw [eg1]; exact fn_upd_all hfah
  have hP : va_P D vwCl [(m0, .inr (12, fm)), (ah, .inl (K 0, 40, .inl g1))] H := by rw [eg1]; exact hP
  have hD : va_D A [(m0, .inr (12, fm)), (ah, .inl (K 0, 40, .inl g1))] := by rw [eg1]; exact hD
  exact fn_vret hx hb hr hlocks hP hD hS (fun k => ([g1] : List (Nat → Int32)).getD k g1) ⟨hg1, trivial⟩ [0, 1] (by decide) rfl dX12_tells_10
set_option maxHeartbeats 4000000 in
set_option maxRecDepth 100000 in
theorem c_X12_tells_4 (l : Launch) (D : va_G) (K : Nat → ClassId) (m0 ah : Nat) (fm : List Value) (hmn : fm.length = 51) (hm17 : fm[17]? = some (.ref ah)) (fah : Nat → Int32) (hfah : ∀ j, fah j = 0) : fn_CV (S := Nat → Nat → Int32) l D K yX12_tells (fn_ws yX12_tells cX12_tells 3 none) ({ frames := 4, cells := 0, slots := 0, locals := 100 }) [.ref m0, .int 4, .int 0] [(m0, .inr (12, fm)), (ah, .inl (K 0, 40, .inl fah))] (fun u => (∀ j, u 0 j = 0) ∧ True) (fun u => [(m0, .inr (12, fm)), (ah, .inl (K 0, 40, .inl (u 0)))]) 0 0 := by
  refine fn_inV (cc := cX12_tells) (maxL := 3) (ret := none) (by decide) rfl (Nat.le_of_ble_eq_true rfl) ?_
  intro p e s m below meth c A ls B hA hP hD hS hl
  obtain ⟨hx, hb, hr, hml, hts, hown, hlocks, hin, hK⟩ := B
  have hown : s.vm.findClass RX12 = some m.cls := hown
  have hts := fun w h => hts w (List.mem_cons_of_mem _ h)
  have hl : lv_has ls 3 [(0, .ref m0), (1, .int 4), (2, .int 0)] := hl
  refine lv_aload_n hx hb dX12_tells_0 rfl (lv_at hl 0 rfl) ?_
  refine va_get (D := D) (own := RX12) (ci := 12) (v := .ref ah) (C := RX12) (T := TX12) (N := 51) hx hb hts inb_X12 hown hK.1 hP 0 rfl rfl 17 (by decide) (hts _ wd_1251) (fun _ h9 => h9) hm17 dX12_tells_1 ?_
  refine lv_bipush (v := 32) hx hb dX12_tells_4 (by decide) ?_
  refine lv_iload_n hx hb dX12_tells_6 rfl (lv_at hl 1 rfl) ?_
  refine lv_iadd hx hb dX12_tells_7 ?_
  refine fn_top 36 (by decide) ?_
  refine lv_iload_n hx hb dX12_tells_8 rfl (lv_at hl 2 rfl) ?_
  refine va_iast hx hb hK.1 hP hD hS 1 0 rfl rfl (by unfold vp_in; decide) dX12_tells_9 (fun H locs hP hD hS => ?_)
  obtain ⟨g1, eg1⟩ : ∃ z, z = (upd fah (Int32.toNatClampNeg 36) 0) := ⟨_, rfl⟩
  have hg1 : ∀ j, g1 j = 0 := by rw [eg1]; exact fn_upd_all hfah
  have hP : va_P D vwCl [(m0, .inr (12, fm)), (ah, .inl (K 0, 40, .inl g1))] H := by rw [eg1]; exact hP
  have hD : va_D A [(m0, .inr (12, fm)), (ah, .inl (K 0, 40, .inl g1))] := by rw [eg1]; exact hD
  exact fn_vret hx hb hr hlocks hP hD hS (fun k => ([g1] : List (Nat → Int32)).getD k g1) ⟨hg1, trivial⟩ [0, 1] (by decide) rfl dX12_tells_10
set_option maxHeartbeats 4000000 in
set_option maxRecDepth 100000 in
theorem c_X12_tells_5 (l : Launch) (D : va_G) (K : Nat → ClassId) (m0 ah : Nat) (fm : List Value) (hmn : fm.length = 51) (hm17 : fm[17]? = some (.ref ah)) (fah : Nat → Int32) (hfah : ∀ j, fah j = 0) : fn_CV (S := Nat → Nat → Int32) l D K yX12_tells (fn_ws yX12_tells cX12_tells 3 none) ({ frames := 4, cells := 0, slots := 0, locals := 100 }) [.ref m0, .int 5, .int 0] [(m0, .inr (12, fm)), (ah, .inl (K 0, 40, .inl fah))] (fun u => (∀ j, u 0 j = 0) ∧ True) (fun u => [(m0, .inr (12, fm)), (ah, .inl (K 0, 40, .inl (u 0)))]) 0 0 := by
  refine fn_inV (cc := cX12_tells) (maxL := 3) (ret := none) (by decide) rfl (Nat.le_of_ble_eq_true rfl) ?_
  intro p e s m below meth c A ls B hA hP hD hS hl
  obtain ⟨hx, hb, hr, hml, hts, hown, hlocks, hin, hK⟩ := B
  have hown : s.vm.findClass RX12 = some m.cls := hown
  have hts := fun w h => hts w (List.mem_cons_of_mem _ h)
  have hl : lv_has ls 3 [(0, .ref m0), (1, .int 5), (2, .int 0)] := hl
  refine lv_aload_n hx hb dX12_tells_0 rfl (lv_at hl 0 rfl) ?_
  refine va_get (D := D) (own := RX12) (ci := 12) (v := .ref ah) (C := RX12) (T := TX12) (N := 51) hx hb hts inb_X12 hown hK.1 hP 0 rfl rfl 17 (by decide) (hts _ wd_1251) (fun _ h9 => h9) hm17 dX12_tells_1 ?_
  refine lv_bipush (v := 32) hx hb dX12_tells_4 (by decide) ?_
  refine lv_iload_n hx hb dX12_tells_6 rfl (lv_at hl 1 rfl) ?_
  refine lv_iadd hx hb dX12_tells_7 ?_
  refine fn_top 37 (by decide) ?_
  refine lv_iload_n hx hb dX12_tells_8 rfl (lv_at hl 2 rfl) ?_
  refine va_iast hx hb hK.1 hP hD hS 1 0 rfl rfl (by unfold vp_in; decide) dX12_tells_9 (fun H locs hP hD hS => ?_)
  obtain ⟨g1, eg1⟩ : ∃ z, z = (upd fah (Int32.toNatClampNeg 37) 0) := ⟨_, rfl⟩
  have hg1 : ∀ j, g1 j = 0 := by rw [eg1]; exact fn_upd_all hfah
  have hP : va_P D vwCl [(m0, .inr (12, fm)), (ah, .inl (K 0, 40, .inl g1))] H := by rw [eg1]; exact hP
  have hD : va_D A [(m0, .inr (12, fm)), (ah, .inl (K 0, 40, .inl g1))] := by rw [eg1]; exact hD
  exact fn_vret hx hb hr hlocks hP hD hS (fun k => ([g1] : List (Nat → Int32)).getD k g1) ⟨hg1, trivial⟩ [0, 1] (by decide) rfl dX12_tells_10
set_option maxHeartbeats 4000000 in
set_option maxRecDepth 100000 in
theorem c_X12_tells_6 (l : Launch) (D : va_G) (K : Nat → ClassId) (m0 ah : Nat) (fm : List Value) (hmn : fm.length = 51) (hm17 : fm[17]? = some (.ref ah)) (fah : Nat → Int32) (hfah : ∀ j, fah j = 0) : fn_CV (S := Nat → Nat → Int32) l D K yX12_tells (fn_ws yX12_tells cX12_tells 3 none) ({ frames := 4, cells := 0, slots := 0, locals := 100 }) [.ref m0, .int 6, .int 0] [(m0, .inr (12, fm)), (ah, .inl (K 0, 40, .inl fah))] (fun u => (∀ j, u 0 j = 0) ∧ True) (fun u => [(m0, .inr (12, fm)), (ah, .inl (K 0, 40, .inl (u 0)))]) 0 0 := by
  refine fn_inV (cc := cX12_tells) (maxL := 3) (ret := none) (by decide) rfl (Nat.le_of_ble_eq_true rfl) ?_
  intro p e s m below meth c A ls B hA hP hD hS hl
  obtain ⟨hx, hb, hr, hml, hts, hown, hlocks, hin, hK⟩ := B
  have hown : s.vm.findClass RX12 = some m.cls := hown
  have hts := fun w h => hts w (List.mem_cons_of_mem _ h)
  have hl : lv_has ls 3 [(0, .ref m0), (1, .int 6), (2, .int 0)] := hl
  refine lv_aload_n hx hb dX12_tells_0 rfl (lv_at hl 0 rfl) ?_
  refine va_get (D := D) (own := RX12) (ci := 12) (v := .ref ah) (C := RX12) (T := TX12) (N := 51) hx hb hts inb_X12 hown hK.1 hP 0 rfl rfl 17 (by decide) (hts _ wd_1251) (fun _ h9 => h9) hm17 dX12_tells_1 ?_
  refine lv_bipush (v := 32) hx hb dX12_tells_4 (by decide) ?_
  refine lv_iload_n hx hb dX12_tells_6 rfl (lv_at hl 1 rfl) ?_
  refine lv_iadd hx hb dX12_tells_7 ?_
  refine fn_top 38 (by decide) ?_
  refine lv_iload_n hx hb dX12_tells_8 rfl (lv_at hl 2 rfl) ?_
  refine va_iast hx hb hK.1 hP hD hS 1 0 rfl rfl (by unfold vp_in; decide) dX12_tells_9 (fun H locs hP hD hS => ?_)
  obtain ⟨g1, eg1⟩ : ∃ z, z = (upd fah (Int32.toNatClampNeg 38) 0) := ⟨_, rfl⟩
  have hg1 : ∀ j, g1 j = 0 := by rw [eg1]; exact fn_upd_all hfah
  have hP : va_P D vwCl [(m0, .inr (12, fm)), (ah, .inl (K 0, 40, .inl g1))] H := by rw [eg1]; exact hP
  have hD : va_D A [(m0, .inr (12, fm)), (ah, .inl (K 0, 40, .inl g1))] := by rw [eg1]; exact hD
  exact fn_vret hx hb hr hlocks hP hD hS (fun k => ([g1] : List (Nat → Int32)).getD k g1) ⟨hg1, trivial⟩ [0, 1] (by decide) rfl dX12_tells_10
set_option maxHeartbeats 4000000 in
set_option maxRecDepth 100000 in
theorem c_X12_tells_7 (l : Launch) (D : va_G) (K : Nat → ClassId) (m0 ah : Nat) (fm : List Value) (hmn : fm.length = 51) (hm17 : fm[17]? = some (.ref ah)) (fah : Nat → Int32) (hfah : ∀ j, fah j = 0) : fn_CV (S := Nat → Nat → Int32) l D K yX12_tells (fn_ws yX12_tells cX12_tells 3 none) ({ frames := 4, cells := 0, slots := 0, locals := 100 }) [.ref m0, .int 7, .int 0] [(m0, .inr (12, fm)), (ah, .inl (K 0, 40, .inl fah))] (fun u => (∀ j, u 0 j = 0) ∧ True) (fun u => [(m0, .inr (12, fm)), (ah, .inl (K 0, 40, .inl (u 0)))]) 0 0 := by
  refine fn_inV (cc := cX12_tells) (maxL := 3) (ret := none) (by decide) rfl (Nat.le_of_ble_eq_true rfl) ?_
  intro p e s m below meth c A ls B hA hP hD hS hl
  obtain ⟨hx, hb, hr, hml, hts, hown, hlocks, hin, hK⟩ := B
  have hown : s.vm.findClass RX12 = some m.cls := hown
  have hts := fun w h => hts w (List.mem_cons_of_mem _ h)
  have hl : lv_has ls 3 [(0, .ref m0), (1, .int 7), (2, .int 0)] := hl
  refine lv_aload_n hx hb dX12_tells_0 rfl (lv_at hl 0 rfl) ?_
  refine va_get (D := D) (own := RX12) (ci := 12) (v := .ref ah) (C := RX12) (T := TX12) (N := 51) hx hb hts inb_X12 hown hK.1 hP 0 rfl rfl 17 (by decide) (hts _ wd_1251) (fun _ h9 => h9) hm17 dX12_tells_1 ?_
  refine lv_bipush (v := 32) hx hb dX12_tells_4 (by decide) ?_
  refine lv_iload_n hx hb dX12_tells_6 rfl (lv_at hl 1 rfl) ?_
  refine lv_iadd hx hb dX12_tells_7 ?_
  refine fn_top 39 (by decide) ?_
  refine lv_iload_n hx hb dX12_tells_8 rfl (lv_at hl 2 rfl) ?_
  refine va_iast hx hb hK.1 hP hD hS 1 0 rfl rfl (by unfold vp_in; decide) dX12_tells_9 (fun H locs hP hD hS => ?_)
  obtain ⟨g1, eg1⟩ : ∃ z, z = (upd fah (Int32.toNatClampNeg 39) 0) := ⟨_, rfl⟩
  have hg1 : ∀ j, g1 j = 0 := by rw [eg1]; exact fn_upd_all hfah
  have hP : va_P D vwCl [(m0, .inr (12, fm)), (ah, .inl (K 0, 40, .inl g1))] H := by rw [eg1]; exact hP
  have hD : va_D A [(m0, .inr (12, fm)), (ah, .inl (K 0, 40, .inl g1))] := by rw [eg1]; exact hD
  exact fn_vret hx hb hr hlocks hP hD hS (fun k => ([g1] : List (Nat → Int32)).getD k g1) ⟨hg1, trivial⟩ [0, 1] (by decide) rfl dX12_tells_10
theorem dX12_clears_0 : decode cX12_clears 0 = .ok (.aload_n 0, 1) := by decide +kernel
theorem dX12_clears_1 : decode cX12_clears 1 = .ok (.getfield 31, 3) := by decide +kernel
theorem dX12_clears_4 : decode cX12_clears 4 = .ok (.iconst 4, 1) := by decide +kernel
theorem dX12_clears_5 : decode cX12_clears 5 = .ok (.iconst 0, 1) := by decide +kernel
theorem dX12_clears_6 : decode cX12_clears 6 = .ok (.iastore, 1) := by decide +kernel
theorem dX12_clears_7 : decode cX12_clears 7 = .ok (.iconst 0, 1) := by decide +kernel
theorem dX12_clears_8 : decode cX12_clears 8 = .ok (.istore_n 1, 1) := by decide +kernel
theorem dX12_clears_9 : decode cX12_clears 9 = .ok (.iload_n 1, 1) := by decide +kernel
theorem dX12_clears_10 : decode cX12_clears 10 = .ok (.bipush 8, 2) := by decide +kernel
theorem dX12_clears_12 : decode cX12_clears 12 = .ok (.if_icmp .ge 15, 3) := by decide +kernel
theorem dX12_clears_15 : decode cX12_clears 15 = .ok (.aload_n 0, 1) := by decide +kernel
theorem dX12_clears_16 : decode cX12_clears 16 = .ok (.iload_n 1, 1) := by decide +kernel
theorem dX12_clears_17 : decode cX12_clears 17 = .ok (.iconst 0, 1) := by decide +kernel
theorem dX12_clears_18 : decode cX12_clears 18 = .ok (.invokevirtual 197, 3) := by decide +kernel
theorem dX12_clears_21 : decode cX12_clears 21 = .ok (.iinc 1 1, 3) := by decide +kernel
theorem dX12_clears_24 : decode cX12_clears 24 = .ok (.goto (-15), 3) := by decide +kernel
theorem dX12_clears_27 : decode cX12_clears 27 = .ok (.return_, 1) := by decide +kernel
set_option maxHeartbeats 4000000 in
set_option maxRecDepth 100000 in
theorem c_X12_clears (l : Launch) (D : va_G) (K : Nat → ClassId) (m0 al ah : Nat) (fm : List Value) (hmn : fm.length = 51) (hm16 : fm[16]? = some (.ref al)) (hm17 : fm[17]? = some (.ref ah)) (fal fah : Nat → Int32) (hfal : ∀ j, fal j = 0) (hfah : ∀ j, fah j = 0) : fn_CV (S := Nat → Nat → Int32) l D K yX12_clears (fn_ws yX12_clears cX12_clears 2 none) ({ frames := 8, cells := 0, slots := 0, locals := 200 }) [.ref m0] [(m0, .inr (12, fm)), (al, .inl (K 0, 5, .inl fal)), (ah, .inl (K 0, 40, .inl fah))] (fun u => (∀ j, u 0 j = 0) ∧ (∀ j, u 1 j = 0) ∧ True) (fun u => [(m0, .inr (12, fm)), (al, .inl (K 0, 5, .inl (u 0))), (ah, .inl (K 0, 40, .inl (u 1)))]) 0 0 := by
  refine fn_inV (cc := cX12_clears) (maxL := 2) (ret := none) (by decide) rfl (Nat.le_of_ble_eq_true rfl) ?_
  intro p e s m below meth c A ls B hA hP hD hS hl
  obtain ⟨hx, hb, hr, hml, hts, hown, hlocks, hin, hK⟩ := B
  have hown : s.vm.findClass RX12 = some m.cls := hown
  have hts := fun w h => hts w (List.mem_cons_of_mem _ h)
  have hl : lv_has ls 2 [(0, .ref m0)] := hl
  refine lv_aload_n hx hb dX12_clears_0 rfl (lv_at hl 0 rfl) ?_
  refine va_get (D := D) (own := RX12) (ci := 12) (v := .ref al) (C := RX12) (T := TX12) (N := 51) hx hb hts inb_X12 hown hK.1 hP 0 rfl rfl 16 (by decide) (hts _ wd_1250) (fun _ h9 => h9) hm16 dX12_clears_1 ?_
  refine lv_iconst (v := 4) hx hb dX12_clears_4 (by decide) ?_
  refine lv_iconst (v := 0) hx hb dX12_clears_5 (by decide) ?_
  refine va_iast hx hb hK.1 hP hD hS 1 0 rfl rfl (by unfold vp_in; decide) dX12_clears_6 (fun H locs hP hD hS => ?_)
  obtain ⟨g1, eg1⟩ : ∃ z, z = (upd fal (Int32.toNatClampNeg 4) 0) := ⟨_, rfl⟩
  have hg1 : ∀ j, g1 j = 0 := by rw [eg1]; exact fn_upd_all hfal
  have hP : va_P D vwCl [(m0, .inr (12, fm)), (al, .inl (K 0, 5, .inl g1)), (ah, .inl (K 0, 40, .inl fah))] H := by rw [eg1]; exact hP
  have hD : va_D A [(m0, .inr (12, fm)), (al, .inl (K 0, 5, .inl g1)), (ah, .inl (K 0, 40, .inl fah))] := by rw [eg1]; exact hD
  refine lv_iconst (v := 0) hx hb dX12_clears_7 (by decide) ?_
  refine lv_istore_n (lv' := [(1, .int 0), (0, .ref m0)]) hx hb dX12_clears_8 rfl hl (by decide) rfl (fun ls hl => ?_)
  refine lv_iload_n hx hb dX12_clears_9 rfl (lv_at hl 0 rfl) ?_
  refine lv_bipush (v := 8) hx hb dX12_clears_10 (by decide) ?_
  refine lv_icmp_ge (tgt := 27) hx hb dX12_clears_12 (by decide) (fun h9 => absurd h9 (by decide)) (fun _ => ?_)
  refine lv_aload_n hx hb dX12_clears_15 rfl (lv_at hl 1 rfl) ?_
  refine lv_iload_n hx hb dX12_clears_16 rfl (lv_at hl 0 rfl) ?_
  refine lv_iconst (v := 0) hx hb dX12_clears_17 (by decide) ?_
  refine fn_gov (wc := [(m0, .inr (12, fm)), (ah, .inl (K 0, 40, .inl fah))]) (wr := [(al, .inl (K 0, 5, .inl g1))]) hK hP hD hS hA [0, 2] [1] rfl rfl (by decide) (fun hp => va_runV (C := RX12) (As := [.int 0, .int 0]) (rest := []) ⟨hx, hb, hml, hown, hts⟩ (c_X12_tells_0 (l := l) (D := D) (K := K) (m0 := (m0)) (fm := (fm)) (hmn := hmn) (ah := (ah)) (hm17 := hm17) (fah := (fah)) (hfah := hfah) _) (cwV 2 hts (fn_ginV (fn_gin wd_1437) wd_1434 wd_1436 wp_96 wd_13) rfl rfl rfl (by decide +kernel) ⟨Nat.le_of_ble_eq_true rfl, Nat.le_of_ble_eq_true rfl⟩) ⟨fn_blind, va_recv hK.1 hP (ci := 12) (q0 := 0) rfl rfl, hp⟩ rfl rfl hl.1 rfl (lv_room (Nat.le_of_ble_eq_true rfl)) dX12_clears_18 ⟨Nat.le_of_ble_eq_true rfl, Nat.le_of_ble_eq_true rfl⟩) (fun u2 H locs hwu2 hP hD hS => ?_)
  have hP : va_P D vwCl [(al, .inl (K 0, 5, .inl g1)), (m0, .inr (12, fm)), (ah, .inl (K 0, 40, .inl (u2 0)))] H := hP
  have hD : va_D A [(al, .inl (K 0, 5, .inl g1)), (m0, .inr (12, fm)), (ah, .inl (K 0, 40, .inl (u2 0)))] := hD
  refine lv_iinc (v := 1) (lv' := [(1, .int 1), (0, .ref m0)]) hx hb dX12_clears_21 hl (k := 0) rfl (by decide) (by decide) rfl (fun ls hl => ?_)
  refine lv_goto (tgt := 9) hx hb dX12_clears_24 (by decide) ?_
  refine lv_iload_n hx hb dX12_clears_9 rfl (lv_at hl 0 rfl) ?_
  refine lv_bipush (v := 8) hx hb dX12_clears_10 (by decide) ?_
  refine lv_icmp_ge (tgt := 27) hx hb dX12_clears_12 (by decide) (fun h9 => absurd h9 (by decide)) (fun _ => ?_)
  refine fn_at 15 rfl ?_
  refine lv_aload_n hx hb dX12_clears_15 rfl (lv_at hl 1 rfl) ?_
  refine lv_iload_n hx hb dX12_clears_16 rfl (lv_at hl 0 rfl) ?_
  refine lv_iconst (v := 0) hx hb dX12_clears_17 (by decide) ?_
  refine fn_gov (wc := [(m0, .inr (12, fm)), (ah, .inl (K 0, 40, .inl (u2 0)))]) (wr := [(al, .inl (K 0, 5, .inl g1))]) hK hP hD hS hA [1, 2] [0] rfl rfl (by decide) (fun hp => va_runV (C := RX12) (As := [.int 1, .int 0]) (rest := []) ⟨hx, hb, hml, hown, hts⟩ (c_X12_tells_1 (l := l) (D := D) (K := K) (m0 := (m0)) (fm := (fm)) (hmn := hmn) (ah := (ah)) (hm17 := hm17) (fah := (u2 0)) (hfah := (hwu2.1)) _) (cwV 2 hts (fn_ginV (fn_gin wd_1437) wd_1434 wd_1436 wp_96 wd_13) rfl rfl rfl (by decide +kernel) ⟨Nat.le_of_ble_eq_true rfl, Nat.le_of_ble_eq_true rfl⟩) ⟨fn_blind, va_recv hK.1 hP (ci := 12) (q0 := 1) rfl rfl, hp⟩ rfl rfl hl.1 rfl (lv_room (Nat.le_of_ble_eq_true rfl)) dX12_clears_18 ⟨Nat.le_of_ble_eq_true rfl, Nat.le_of_ble_eq_true rfl⟩) (fun u4 H locs hwu4 hP hD hS => ?_)
  have hP : va_P D vwCl [(al, .inl (K 0, 5, .inl g1)), (m0, .inr (12, fm)), (ah, .inl (K 0, 40, .inl (u4 0)))] H := hP
  have hD : va_D A [(al, .inl (K 0, 5, .inl g1)), (m0, .inr (12, fm)), (ah, .inl (K 0, 40, .inl (u4 0)))] := hD
  refine lv_iinc (v := 2) (lv' := [(1, .int 2), (0, .ref m0)]) hx hb dX12_clears_21 hl (k := 0) rfl (by decide) (by decide) rfl (fun ls hl => ?_)
  refine lv_goto (tgt := 9) hx hb dX12_clears_24 (by decide) ?_
  refine lv_iload_n hx hb dX12_clears_9 rfl (lv_at hl 0 rfl) ?_
  refine lv_bipush (v := 8) hx hb dX12_clears_10 (by decide) ?_
  refine lv_icmp_ge (tgt := 27) hx hb dX12_clears_12 (by decide) (fun h9 => absurd h9 (by decide)) (fun _ => ?_)
  refine lv_aload_n hx hb dX12_clears_15 rfl (lv_at hl 1 rfl) ?_
  refine lv_iload_n hx hb dX12_clears_16 rfl (lv_at hl 0 rfl) ?_
  refine lv_iconst (v := 0) hx hb dX12_clears_17 (by decide) ?_
  refine fn_gov (wc := [(m0, .inr (12, fm)), (ah, .inl (K 0, 40, .inl (u4 0)))]) (wr := [(al, .inl (K 0, 5, .inl g1))]) hK hP hD hS hA [1, 2] [0] rfl rfl (by decide) (fun hp => va_runV (C := RX12) (As := [.int 2, .int 0]) (rest := []) ⟨hx, hb, hml, hown, hts⟩ (c_X12_tells_2 (l := l) (D := D) (K := K) (m0 := (m0)) (fm := (fm)) (hmn := hmn) (ah := (ah)) (hm17 := hm17) (fah := (u4 0)) (hfah := (hwu4.1)) _) (cwV 2 hts (fn_ginV (fn_gin wd_1437) wd_1434 wd_1436 wp_96 wd_13) rfl rfl rfl (by decide +kernel) ⟨Nat.le_of_ble_eq_true rfl, Nat.le_of_ble_eq_true rfl⟩) ⟨fn_blind, va_recv hK.1 hP (ci := 12) (q0 := 1) rfl rfl, hp⟩ rfl rfl hl.1 rfl (lv_room (Nat.le_of_ble_eq_true rfl)) dX12_clears_18 ⟨Nat.le_of_ble_eq_true rfl, Nat.le_of_ble_eq_true rfl⟩) (fun u6 H locs hwu6 hP hD hS => ?_)
  have hP : va_P D vwCl [(al, .inl (K 0, 5, .inl g1)), (m0, .inr (12, fm)), (ah, .inl (K 0, 40, .inl (u6 0)))] H := hP
  have hD : va_D A [(al, .inl (K 0, 5, .inl g1)), (m0, .inr (12, fm)), (ah, .inl (K 0, 40, .inl (u6 0)))] := hD
  refine lv_iinc (v := 3) (lv' := [(1, .int 3), (0, .ref m0)]) hx hb dX12_clears_21 hl (k := 0) rfl (by decide) (by decide) rfl (fun ls hl => ?_)
  refine lv_goto (tgt := 9) hx hb dX12_clears_24 (by decide) ?_
  refine lv_iload_n hx hb dX12_clears_9 rfl (lv_at hl 0 rfl) ?_
  refine lv_bipush (v := 8) hx hb dX12_clears_10 (by decide) ?_
  refine lv_icmp_ge (tgt := 27) hx hb dX12_clears_12 (by decide) (fun h9 => absurd h9 (by decide)) (fun _ => ?_)
  refine lv_aload_n hx hb dX12_clears_15 rfl (lv_at hl 1 rfl) ?_
  refine lv_iload_n hx hb dX12_clears_16 rfl (lv_at hl 0 rfl) ?_
  refine fn_at 17 rfl ?_
  refine lv_iconst (v := 0) hx hb dX12_clears_17 (by decide) ?_
  refine fn_gov (wc := [(m0, .inr (12, fm)), (ah, .inl (K 0, 40, .inl (u6 0)))]) (wr := [(al, .inl (K 0, 5, .inl g1))]) hK hP hD hS hA [1, 2] [0] rfl rfl (by decide) (fun hp => va_runV (C := RX12) (As := [.int 3, .int 0]) (rest := []) ⟨hx, hb, hml, hown, hts⟩ (c_X12_tells_3 (l := l) (D := D) (K := K) (m0 := (m0)) (fm := (fm)) (hmn := hmn) (ah := (ah)) (hm17 := hm17) (fah := (u6 0)) (hfah := (hwu6.1)) _) (cwV 2 hts (fn_ginV (fn_gin wd_1437) wd_1434 wd_1436 wp_96 wd_13) rfl rfl rfl (by decide +kernel) ⟨Nat.le_of_ble_eq_true rfl, Nat.le_of_ble_eq_true rfl⟩) ⟨fn_blind, va_recv hK.1 hP (ci := 12) (q0 := 1) rfl rfl, hp⟩ rfl rfl hl.1 rfl (lv_room (Nat.le_of_ble_eq_true rfl)) dX12_clears_18 ⟨Nat.le_of_ble_eq_true rfl, Nat.le_of_ble_eq_true rfl⟩) (fun u8 H locs hwu8 hP hD hS => ?_)
  have hP : va_P D vwCl [(al, .inl (K 0, 5, .inl g1)), (m0, .inr (12, fm)), (ah, .inl (K 0, 40, .inl (u8 0)))] H := hP
  have hD : va_D A [(al, .inl (K 0, 5, .inl g1)), (m0, .inr (12, fm)), (ah, .inl (K 0, 40, .inl (u8 0)))] := hD
  refine lv_iinc (v := 4) (lv' := [(1, .int 4), (0, .ref m0)]) hx hb dX12_clears_21 hl (k := 0) rfl (by decide) (by decide) rfl (fun ls hl => ?_)
  refine lv_goto (tgt := 9) hx hb dX12_clears_24 (by decide) ?_
  refine lv_iload_n hx hb dX12_clears_9 rfl (lv_at hl 0 rfl) ?_
  refine lv_bipush (v := 8) hx hb dX12_clears_10 (by decide) ?_
  refine lv_icmp_ge (tgt := 27) hx hb dX12_clears_12 (by decide) (fun h9 => absurd h9 (by decide)) (fun _ => ?_)
  refine lv_aload_n hx hb dX12_clears_15 rfl (lv_at hl 1 rfl) ?_
  refine lv_iload_n hx hb dX12_clears_16 rfl (lv_at hl 0 rfl) ?_
  refine lv_iconst (v := 0) hx hb dX12_clears_17 (by decide) ?_
  refine fn_gov (wc := [(m0, .inr (12, fm)), (ah, .inl (K 0, 40, .inl (u8 0)))]) (wr := [(al, .inl (K 0, 5, .inl g1))]) hK hP hD hS hA [1, 2] [0] rfl rfl (by decide) (fun hp => va_runV (C := RX12) (As := [.int 4, .int 0]) (rest := []) ⟨hx, hb, hml, hown, hts⟩ (c_X12_tells_4 (l := l) (D := D) (K := K) (m0 := (m0)) (fm := (fm)) (hmn := hmn) (ah := (ah)) (hm17 := hm17) (fah := (u8 0)) (hfah := (hwu8.1)) _) (cwV 2 hts (fn_ginV (fn_gin wd_1437) wd_1434 wd_1436 wp_96 wd_13) rfl rfl rfl (by decide +kernel) ⟨Nat.le_of_ble_eq_true rfl, Nat.le_of_ble_eq_true rfl⟩) ⟨fn_blind, va_recv hK.1 hP (ci := 12) (q0 := 1) rfl rfl, hp⟩ rfl rfl hl.1 rfl (lv_room (Nat.le_of_ble_eq_true rfl)) dX12_clears_18 ⟨Nat.le_of_ble_eq_true rfl, Nat.le_of_ble_eq_true rfl⟩) (fun u10 H locs hwu10 hP hD hS => ?_)
  have hP : va_P D vwCl [(al, .inl (K 0, 5, .inl g1)), (m0, .inr (12, fm)), (ah, .inl (K 0, 40, .inl (u10 0)))] H := hP
  have hD : va_D A [(al, .inl (K 0, 5, .inl g1)), (m0, .inr (12, fm)), (ah, .inl (K 0, 40, .inl (u10 0)))] := hD
  refine lv_iinc (v := 5) (lv' := [(1, .int 5), (0, .ref m0)]) hx hb dX12_clears_21 hl (k := 0) rfl (by decide) (by decide) rfl (fun ls hl => ?_)
  refine lv_goto (tgt := 9) hx hb dX12_clears_24 (by decide) ?_
  refine lv_iload_n hx hb dX12_clears_9 rfl (lv_at hl 0 rfl) ?_
  refine lv_bipush (v := 8) hx hb dX12_clears_10 (by decide) ?_
  refine lv_icmp_ge (tgt := 27) hx hb dX12_clears_12 (by decide) (fun h9 => absurd h9 (by decide)) (fun _ => ?_)
  refine lv_aload_n hx hb dX12_clears_15 rfl (lv_at hl 1 rfl) ?_
  refine lv_iload_n hx hb dX12_clears_16 rfl (lv_at hl 0 rfl) ?_
  refine lv_iconst (v := 0) hx hb dX12_clears_17 (by decide) ?_
  refine fn_gov (wc := [(m0, .inr (12, fm)), (ah, .inl (K 0, 40, .inl (u10 0)))]) (wr := [(al, .inl (K 0, 5, .inl g1))]) hK hP hD hS hA [1, 2] [0] rfl rfl (by decide) (fun hp => va_runV (C := RX12) (As := [.int 5, .int 0]) (rest := []) ⟨hx, hb, hml, hown, hts⟩ (c_X12_tells_5 (l := l) (D := D) (K := K) (m0 := (m0)) (fm := (fm)) (hmn := hmn) (ah := (ah)) (hm17 := hm17) (fah := (u10 0)) (hfah := (hwu10.1)) _) (cwV 2 hts (fn_ginV (fn_gin wd_1437) wd_1434 wd_1436 wp_96 wd_13) rfl rfl rfl (by decide +kernel) ⟨Nat.le_of_ble_eq_true rfl, Nat.le_of_ble_eq_true rfl⟩) ⟨fn_blind, va_recv hK.1 hP (ci := 12) (q0 := 1) rfl rfl, hp⟩ rfl rfl hl.1 rfl (lv_room (Nat.le_of_ble_eq_true rfl)) dX12_clears_18 ⟨Nat.le_of_ble_eq_true rfl, Nat.le_of_ble_eq_true rfl⟩) (fun u12 H locs hwu12 hP hD hS => ?_)
  have hP : va_P D vwCl [(al, .inl (K 0, 5, .inl g1)), (m0, .inr (12, fm)), (ah, .inl (K 0, 40, .inl (u12 0)))] H := hP
  have hD : va_D A [(al, .inl (K 0, 5, .inl g1)), (m0, .inr (12, fm)), (ah, .inl (K 0, 40, .inl (u12 0)))] := hD
  refine fn_at 21 rfl ?_
  refine lv_iinc (v := 6) (lv' := [(1, .int 6), (0, .ref m0)]) hx hb dX12_clears_21 hl (k := 0) rfl (by decide) (by decide) rfl (fun ls hl => ?_)
  refine lv_goto (tgt := 9) hx hb dX12_clears_24 (by decide) ?_
  refine lv_iload_n hx hb dX12_clears_9 rfl (lv_at hl 0 rfl) ?_
  refine lv_bipush (v := 8) hx hb dX12_clears_10 (by decide) ?_
  refine lv_icmp_ge (tgt := 27) hx hb dX12_clears_12 (by decide) (fun h9 => absurd h9 (by decide)) (fun _ => ?_)
  refine lv_aload_n hx hb dX12_clears_15 rfl (lv_at hl 1 rfl) ?_
  refine lv_iload_n hx hb dX12_clears_16 rfl (lv_at hl 0 rfl) ?_
  refine lv_iconst (v := 0) hx hb dX12_clears_17 (by decide) ?_
  refine fn_gov (wc := [(m0, .inr (12, fm)), (ah, .inl (K 0, 40, .inl (u12 0)))]) (wr := [(al, .inl (K 0, 5, .inl g1))]) hK hP hD hS hA [1, 2] [0] rfl rfl (by decide) (fun hp => va_runV (C := RX12) (As := [.int 6, .int 0]) (rest := []) ⟨hx, hb, hml, hown, hts⟩ (c_X12_tells_6 (l := l) (D := D) (K := K) (m0 := (m0)) (fm := (fm)) (hmn := hmn) (ah := (ah)) (hm17 := hm17) (fah := (u12 0)) (hfah := (hwu12.1)) _) (cwV 2 hts (fn_ginV (fn_gin wd_1437) wd_1434 wd_1436 wp_96 wd_13) rfl rfl rfl (by decide +kernel) ⟨Nat.le_of_ble_eq_true rfl, Nat.le_of_ble_eq_true rfl⟩) ⟨fn_blind, va_recv hK.1 hP (ci := 12) (q0 := 1) rfl rfl, hp⟩ rfl rfl hl.1 rfl (lv_room (Nat.le_of_ble_eq_true rfl)) dX12_clears_18 ⟨Nat.le_of_ble_eq_true rfl, Nat.le_of_ble_eq_true rfl⟩) (fun u14 H locs hwu14 hP hD hS => ?_)
  have hP : va_P D vwCl [(al, .inl (K 0, 5, .inl g1)), (m0, .inr (12, fm)), (ah, .inl (K 0, 40, .inl (u14 0)))] H := hP
  have hD : va_D A [(al, .inl (K 0, 5, .inl g1)), (m0, .inr (12, fm)), (ah, .inl (K 0, 40, .inl (u14 0)))] := hD
  refine lv_iinc (v := 7) (lv' := [(1, .int 7), (0, .ref m0)]) hx hb dX12_clears_21 hl (k := 0) rfl (by decide) (by decide) rfl (fun ls hl => ?_)
  refine lv_goto (tgt := 9) hx hb dX12_clears_24 (by decide) ?_
  refine lv_iload_n hx hb dX12_clears_9 rfl (lv_at hl 0 rfl) ?_
  refine lv_bipush (v := 8) hx hb dX12_clears_10 (by decide) ?_
  refine lv_icmp_ge (tgt := 27) hx hb dX12_clears_12 (by decide) (fun h9 => absurd h9 (by decide)) (fun _ => ?_)
  refine lv_aload_n hx hb dX12_clears_15 rfl (lv_at hl 1 rfl) ?_
  refine lv_iload_n hx hb dX12_clears_16 rfl (lv_at hl 0 rfl) ?_
  refine lv_iconst (v := 0) hx hb dX12_clears_17 (by decide) ?_
  refine fn_gov (wc := [(m0, .inr (12, fm)), (ah, .inl (K 0, 40, .inl (u14 0)))]) (wr := [(al, .inl (K 0, 5, .inl g1))]) hK hP hD hS hA [1, 2] [0] rfl rfl (by decide) (fun hp => va_runV (C := RX12) (As := [.int 7, .int 0]) (rest := []) ⟨hx, hb, hml, hown, hts⟩ (c_X12_tells_7 (l := l) (D := D) (K := K) (m0 := (m0)) (fm := (fm)) (hmn := hmn) (ah := (ah)) (hm17 := hm17) (fah := (u14 0)) (hfah := (hwu14.1)) _) (cwV 2 hts (fn_ginV (fn_gin wd_1437) wd_1434 wd_1436 wp_96 wd_13) rfl rfl rfl (by decide +kernel) ⟨Nat.le_of_ble_eq_true rfl, Nat.le_of_ble_eq_true rfl⟩) ⟨fn_blind, va_recv hK.1 hP (ci := 12) (q0 := 1) rfl rfl, hp⟩ rfl rfl hl.1 rfl (lv_room (Nat.le_of_ble_eq_true rfl)) dX12_clears_18 ⟨Nat.le_of_ble_eq_true rfl, Nat.le_of_ble_eq_true rfl⟩) (fun u16 H locs hwu16 hP hD hS => ?_)
  have hP : va_P D vwCl [(al, .inl (K 0, 5, .inl g1)), (m0, .inr (12, fm)), (ah, .inl (K 0, 40, .inl (u16 0)))] H := hP
  have hD : va_D A [(al, .inl (K 0, 5, .inl g1)), (m0, .inr (12, fm)), (ah, .inl (K 0, 40, .inl (u16 0)))] := hD
  refine lv_iinc (v := 8) (lv' := [(1, .int 8), (0, .ref m0)]) hx hb dX12_clears_21 hl (k := 0) rfl (by decide) (by decide) rfl (fun ls hl => ?_)
  refine lv_goto (tgt := 9) hx hb dX12_clears_24 (by decide) ?_
  refine fn_at 9 rfl ?_
  refine lv_iload_n hx hb dX12_clears_9 rfl (lv_at hl 0 rfl) ?_
  refine lv_bipush (v := 8) hx hb dX12_clears_10 (by decide) ?_
  refine lv_icmp_ge (tgt := 27) hx hb dX12_clears_12 (by decide) (fun _ => ?_) (fun h9 => absurd (by decide) h9)
  exact fn_vret hx hb hr hlocks hP hD hS (fun k => ([g1, (u16 0)] : List (Nat → Int32)).getD k g1) ⟨hg1, (hwu16.1), trivial⟩ [1, 0, 2] (by decide) rfl dX12_clears_27
theorem dX12_isByte_0 : decode cX12_isByte 0 = .ok (.iload_n 1, 1) := by decide +kernel
theorem dX12_isByte_1 : decode cX12_isByte 1 = .ok (.aload_n 0, 1) := by decide +kernel
theorem dX12_isByte_2 : decode cX12_isByte 2 = .ok (.getfield 121, 3) := by decide +kernel
theorem dX12_isByte_5 : decode cX12_isByte 5 = .ok (.if_icmp .ge 27, 3) := by decide +kernel
theorem dX12_isByte_32 : decode cX12_isByte 32 = .ok (.iconst 0, 1) := by decide +kernel
theorem dX12_isByte_33 : decode cX12_isByte 33 = .ok (.ireturn, 1) := by decide +kernel
set_option maxHeartbeats 4000000 in
set_option maxRecDepth 100000 in
theorem c_X12_isByte (l : Launch) (D : va_G) (K : Nat → ClassId) (m0 : Nat) (fm : List Value) (hmn : fm.length = 51) (hm6 : fm[6]? = some (.int 0)) (p1 p2 : Int32) : fn_CI (S := Unit) l D K yX12_isByte (fn_ws yX12_isByte cX12_isByte 4 (some .boolean)) ({ frames := 4, cells := 0, slots := 0, locals := 100 }) [.ref m0, .int 0, .int p1, .int p2] [(m0, .inr (12, fm))] (fun r u => r = 0 ∧ True) (fun u => [(m0, .inr (12, fm))]) 0 0 := by
  refine fn_inI (cc := cX12_isByte) (maxL := 4) (ret := (some .boolean)) (by decide) rfl (Nat.le_of_ble_eq_true rfl) ?_
  intro p e s m below meth c A ls B hA hP hD hS hl
  obtain ⟨hx, hb, hr, hml, hts, hown, hlocks, hin, hK⟩ := B
  have hown : s.vm.findClass RX12 = some m.cls := hown
  have hts := fun w h => hts w (List.mem_cons_of_mem _ h)
  have hl : lv_has ls 4 [(0, .ref m0), (1, .int 0), (2, .int p1), (3, .int p2)] := hl
  refine lv_iload_n hx hb dX12_isByte_0 rfl (lv_at hl 1 rfl) ?_
  refine lv_aload_n hx hb dX12_isByte_1 rfl (lv_at hl 0 rfl) ?_
  refine va_get (D := D) (own := RX12) (ci := 12) (v := .int 0) (C := RX12) (T := TX12) (N := 51) hx hb hts inb_X12 hown hK.1 hP 0 rfl rfl 6 (by decide) (hts _ wd_1240) (fun _ h9 => h9) hm6 dX12_isByte_2 ?_
  refine lv_icmp_ge (tgt := 32) hx hb dX12_isByte_5 (by decide) (fun _ => ?_) (fun h9 => absurd (by decide) h9)
  refine lv_iconst (v := 0) hx hb dX12_isByte_32 (by decide) ?_
  exact fn_iret hx hb hr hlocks rfl hP hD hS () ⟨rfl, trivial⟩ [0] (by decide) rfl dX12_isByte_33
theorem dX12_next_0 : decode cX12_next 0 = .ok (.aload_n 0, 1) := by decide +kernel
theorem dX12_next_1 : decode cX12_next 1 = .ok (.aload_n 0, 1) := by decide +kernel
theorem dX12_next_2 : decode cX12_next 2 = .ok (.getfield 128, 3) := by decide +kernel
theorem dX12_next_5 : decode cX12_next 5 = .ok (.bipush 32, 2) := by decide +kernel
theorem dX12_next_7 : decode cX12_next 7 = .ok (.bipush 32, 2) := by decide +kernel
theorem dX12_next_9 : decode cX12_next 9 = .ok (.invokevirtual 131, 3) := by decide +kernel
theorem dX12_next_12 : decode cX12_next 12 = .ok (.ifCond .ne 18, 3) := by decide +kernel
theorem dX12_next_15 : decode cX12_next 15 = .ok (.aload_n 0, 1) := by decide +kernel
theorem dX12_next_16 : decode cX12_next 16 = .ok (.aload_n 0, 1) := by decide +kernel
theorem dX12_next_17 : decode cX12_next 17 = .ok (.getfield 128, 3) := by decide +kernel
theorem dX12_next_20 : decode cX12_next 20 = .ok (.bipush 10, 2) := by decide +kernel
theorem dX12_next_22 : decode cX12_next 22 = .ok (.bipush 10, 2) := by decide +kernel
theorem dX12_next_24 : decode cX12_next 24 = .ok (.invokevirtual 131, 3) := by decide +kernel
theorem dX12_next_27 : decode cX12_next 27 = .ok (.ifCond .eq 16, 3) := by decide +kernel
theorem dX12_next_43 : decode cX12_next 43 = .ok (.aload_n 0, 1) := by decide +kernel
theorem dX12_next_44 : decode cX12_next 44 = .ok (.aload_n 0, 1) := by decide +kernel
theorem dX12_next_45 : decode cX12_next 45 = .ok (.getfield 128, 3) := by decide +kernel
theorem dX12_next_48 : decode cX12_next 48 = .ok (.putfield 135, 3) := by decide +kernel
theorem dX12_next_51 : decode cX12_next 51 = .ok (.aload_n 0, 1) := by decide +kernel
theorem dX12_next_52 : decode cX12_next 52 = .ok (.iconst 0, 1) := by decide +kernel
theorem dX12_next_53 : decode cX12_next 53 = .ok (.putfield 138, 3) := by decide +kernel
theorem dX12_next_56 : decode cX12_next 56 = .ok (.aload_n 0, 1) := by decide +kernel
theorem dX12_next_57 : decode cX12_next 57 = .ok (.lconst 0, 1) := by decide +kernel
theorem dX12_next_58 : decode cX12_next 58 = .ok (.putfield 141, 3) := by decide +kernel
theorem dX12_next_61 : decode cX12_next 61 = .ok (.aload_n 0, 1) := by decide +kernel
theorem dX12_next_62 : decode cX12_next 62 = .ok (.getfield 128, 3) := by decide +kernel
theorem dX12_next_65 : decode cX12_next 65 = .ok (.aload_n 0, 1) := by decide +kernel
theorem dX12_next_66 : decode cX12_next 66 = .ok (.getfield 121, 3) := by decide +kernel
theorem dX12_next_69 : decode cX12_next 69 = .ok (.if_icmp .ne 11, 3) := by decide +kernel
theorem dX12_next_72 : decode cX12_next 72 = .ok (.aload_n 0, 1) := by decide +kernel
theorem dX12_next_73 : decode cX12_next 73 = .ok (.iconst 0, 1) := by decide +kernel
theorem dX12_next_74 : decode cX12_next 74 = .ok (.putfield 145, 3) := by decide +kernel
theorem dX12_next_77 : decode cX12_next 77 = .ok (.goto 230, 3) := by decide +kernel
theorem dX12_next_307 : decode cX12_next 307 = .ok (.return_, 1) := by decide +kernel
set_option maxHeartbeats 4000000 in
set_option maxRecDepth 100000 in
theorem c_X12_next (l : Launch) (D : va_G) (K : Nat → ClassId) (m0 : Nat) (fm : List Value) (hmn : fm.length = 51) (hm6 : fm[6]? = some (.int 0)) (hm7 : fm[7]? = some (.int 0)) : fn_CV (S := Unit) l D K yX12_next (fn_ws yX12_next cX12_next 2 none) ({ frames := 8, cells := 0, slots := 0, locals := 200 }) [.ref m0] [(m0, .inr (12, fm))] (fun u => True) (fun u => [(m0, .inr (12, (((fm.set 9 (.int 0)).set 10 (.int 0)).set 11 (.long 0)).set 8 (.int 0)))]) 0 0 := by
  refine fn_inV (cc := cX12_next) (maxL := 2) (ret := none) (by decide) rfl (Nat.le_of_ble_eq_true rfl) ?_
  intro p e s m below meth c A ls B hA hP hD hS hl
  obtain ⟨hx, hb, hr, hml, hts, hown, hlocks, hin, hK⟩ := B
  have hown : s.vm.findClass RX12 = some m.cls := hown
  have hts := fun w h => hts w (List.mem_cons_of_mem _ h)
  have hl : lv_has ls 2 [(0, .ref m0)] := hl
  refine lv_aload_n hx hb dX12_next_0 rfl (lv_at hl 0 rfl) ?_
  refine lv_aload_n hx hb dX12_next_1 rfl (lv_at hl 0 rfl) ?_
  refine va_get (D := D) (own := RX12) (ci := 12) (v := .int 0) (C := RX12) (T := TX12) (N := 51) hx hb hts inb_X12 hown hK.1 hP 0 rfl rfl 7 (by decide) (hts _ wd_1241) (fun _ h9 => h9) hm7 dX12_next_2 ?_
  refine lv_bipush (v := 32) hx hb dX12_next_5 (by decide) ?_
  refine lv_bipush (v := 32) hx hb dX12_next_7 (by decide) ?_
  refine fn_goi (wc := [(m0, .inr (12, fm))]) (wr := []) hK hP hD hS hA [0] [] rfl rfl (by decide) (fun hp => va_runV (C := RX12) (As := [.int 0, .int 32, .int 32]) (rest := []) ⟨hx, hb, hml, hown, hts⟩ (c_X12_isByte (l := l) (D := D) (K := K) (m0 := (m0)) (p1 := (32)) (p2 := (32)) (fm := (fm)) (hmn := hmn) (hm6 := hm6) _) (cwV 3 hts (fn_ginV (fn_gin wd_1449) wd_1446 wd_1448 wp_99 wd_13) rfl rfl rfl (by decide +kernel) ⟨Nat.le_of_ble_eq_true rfl, Nat.le_of_ble_eq_true rfl⟩) ⟨fn_blind, va_recv hK.1 hP (ci := 12) (q0 := 0) rfl rfl, hp⟩ rfl rfl hl.1 rfl (lv_room (Nat.le_of_ble_eq_true rfl)) dX12_next_9 ⟨Nat.le_of_ble_eq_true rfl, Nat.le_of_ble_eq_true rfl⟩) (fun r2 u1 H locs hwu1 hP hD hS => ?_)
  have r2_e : r2 = 0 := hwu1.1
  subst r2_e
  have hP : va_P D vwCl [(m0, .inr (12, fm))] H := hP
  have hD : va_D A [(m0, .inr (12, fm))] := hD
  refine lv_if_ne (tgt := 30) hx hb dX12_next_12 (by decide) (fun h9 => absurd rfl h9) (fun _ => ?_)
  refine lv_aload_n hx hb dX12_next_15 rfl (lv_at hl 0 rfl) ?_
  refine lv_aload_n hx hb dX12_next_16 rfl (lv_at hl 0 rfl) ?_
  refine va_get (D := D) (own := RX12) (ci := 12) (v := .int 0) (C := RX12) (T := TX12) (N := 51) hx hb hts inb_X12 hown hK.1 hP 0 rfl rfl 7 (by decide) (hts _ wd_1241) (fun _ h9 => h9) hm7 dX12_next_17 ?_
  refine lv_bipush (v := 10) hx hb dX12_next_20 (by decide) ?_
  refine lv_bipush (v := 10) hx hb dX12_next_22 (by decide) ?_
  refine fn_goi (wc := [(m0, .inr (12, fm))]) (wr := []) hK hP hD hS hA [0] [] rfl rfl (by decide) (fun hp => va_runV (C := RX12) (As := [.int 0, .int 10, .int 10]) (rest := []) ⟨hx, hb, hml, hown, hts⟩ (c_X12_isByte (l := l) (D := D) (K := K) (m0 := (m0)) (p1 := (10)) (p2 := (10)) (fm := (fm)) (hmn := hmn) (hm6 := hm6) _) (cwV 3 hts (fn_ginV (fn_gin wd_1449) wd_1446 wd_1448 wp_99 wd_13) rfl rfl rfl (by decide +kernel) ⟨Nat.le_of_ble_eq_true rfl, Nat.le_of_ble_eq_true rfl⟩) ⟨fn_blind, va_recv hK.1 hP (ci := 12) (q0 := 0) rfl rfl, hp⟩ rfl rfl hl.1 rfl (lv_room (Nat.le_of_ble_eq_true rfl)) dX12_next_24 ⟨Nat.le_of_ble_eq_true rfl, Nat.le_of_ble_eq_true rfl⟩) (fun r4 u3 H locs hwu3 hP hD hS => ?_)
  have r4_e : r4 = 0 := hwu3.1
  subst r4_e
  have hP : va_P D vwCl [(m0, .inr (12, fm))] H := hP
  have hD : va_D A [(m0, .inr (12, fm))] := hD
  refine lv_if_eq (tgt := 43) hx hb dX12_next_27 (by decide) (fun _ => ?_) (fun h9 => absurd (by decide) h9)
  refine lv_aload_n hx hb dX12_next_43 rfl (lv_at hl 0 rfl) ?_
  refine lv_aload_n hx hb dX12_next_44 rfl (lv_at hl 0 rfl) ?_
  refine va_get (D := D) (own := RX12) (ci := 12) (v := .int 0) (C := RX12) (T := TX12) (N := 51) hx hb hts inb_X12 hown hK.1 hP 0 rfl rfl 7 (by decide) (hts _ wd_1241) (fun _ h9 => h9) hm7 dX12_next_45 ?_
  refine va_put (D := D) (own := RX12) (ci := 12) (v := .int 0) (ty := .int) (C := RX12) (T := TX12) (N := 51) hx hb hts inb_X12 tyX12 tyX12_ok nmX12 hown hK.1 hP hD hS 0 rfl rfl 9 (by decide) (hts _ wd_1243) (fun _ h9 => h9) rfl (by decide +kernel) rfl rfl (fn_kl hmn (by decide)) dX12_next_48 (fun H locs hP hD hS => ?_)
  have hP : va_P D vwCl [(m0, .inr (12, fm.set 9 (.int 0)))] H := hP
  have hD : va_D A [(m0, .inr (12, fm.set 9 (.int 0)))] := hD
  refine lv_aload_n hx hb dX12_next_51 rfl (lv_at hl 0 rfl) ?_
  refine fn_at 52 rfl ?_
  refine lv_iconst (v := 0) hx hb dX12_next_52 (by decide) ?_
  refine va_put (D := D) (own := RX12) (ci := 12) (v := .int 0) (ty := .int) (C := RX12) (T := TX12) (N := 51) hx hb hts inb_X12 tyX12 tyX12_ok nmX12 hown hK.1 hP hD hS 0 rfl rfl 10 (by decide) (hts _ wd_1244) (fun _ h9 => h9) rfl (by decide +kernel) rfl rfl (fn_kl (fn_sl hmn) (by decide)) dX12_next_53 (fun H locs hP hD hS => ?_)
  have hP : va_P D vwCl [(m0, .inr (12, (fm.set 9 (.int 0)).set 10 (.int 0)))] H := hP
  have hD : va_D A [(m0, .inr (12, (fm.set 9 (.int 0)).set 10 (.int 0)))] := hD
  refine lv_aload_n hx hb dX12_next_56 rfl (lv_at hl 0 rfl) ?_
  refine lv_lconst (v := 0) hx hb dX12_next_57 (by decide) ?_
  refine va_put (D := D) (own := RX12) (ci := 12) (v := .long 0) (ty := .long) (C := RX12) (T := TX12) (N := 51) hx hb hts inb_X12 tyX12 tyX12_ok nmX12 hown hK.1 hP hD hS 0 rfl rfl 11 (by decide) (hts _ wd_1245) (fun _ h9 => h9) rfl (by decide +kernel) rfl rfl (fn_kl (fn_sl (fn_sl hmn)) (by decide)) dX12_next_58 (fun H locs hP hD hS => ?_)
  have hP : va_P D vwCl [(m0, .inr (12, ((fm.set 9 (.int 0)).set 10 (.int 0)).set 11 (.long 0)))] H := hP
  have hD : va_D A [(m0, .inr (12, ((fm.set 9 (.int 0)).set 10 (.int 0)).set 11 (.long 0)))] := hD
  refine lv_aload_n hx hb dX12_next_61 rfl (lv_at hl 0 rfl) ?_
  refine va_get (D := D) (own := RX12) (ci := 12) (v := .int 0) (C := RX12) (T := TX12) (N := 51) hx hb hts inb_X12 hown hK.1 hP 0 rfl rfl 7 (by decide) (hts _ wd_1241) (fun _ h9 => h9) (fn_gs (by decide) (fn_gs (by decide) (fn_gs (by decide) hm7))) dX12_next_62 ?_
  refine lv_aload_n hx hb dX12_next_65 rfl (lv_at hl 0 rfl) ?_
  refine va_get (D := D) (own := RX12) (ci := 12) (v := .int 0) (C := RX12) (T := TX12) (N := 51) hx hb hts inb_X12 hown hK.1 hP 0 rfl rfl 6 (by decide) (hts _ wd_1240) (fun _ h9 => h9) (fn_gs (by decide) (fn_gs (by decide) (fn_gs (by decide) hm6))) dX12_next_66 ?_
  refine lv_icmp_ne (tgt := 80) hx hb dX12_next_69 (by decide) (fun h9 => absurd rfl h9) (fun _ => ?_)
  refine lv_aload_n hx hb dX12_next_72 rfl (lv_at hl 0 rfl) ?_
  refine lv_iconst (v := 0) hx hb dX12_next_73 (by decide) ?_
  refine va_put (D := D) (own := RX12) (ci := 12) (v := .int 0) (ty := .int) (C := RX12) (T := TX12) (N := 51) hx hb hts inb_X12 tyX12 tyX12_ok nmX12 hown hK.1 hP hD hS 0 rfl rfl 8 (by decide) (hts _ wd_1242) (fun _ h9 => h9) rfl (by decide +kernel) rfl rfl (fn_kl (fn_sl (fn_sl (fn_sl hmn))) (by decide)) dX12_next_74 (fun H locs hP hD hS => ?_)
  have hP : va_P D vwCl [(m0, .inr (12, (((fm.set 9 (.int 0)).set 10 (.int 0)).set 11 (.long 0)).set 8 (.int 0)))] H := hP
  have hD : va_D A [(m0, .inr (12, (((fm.set 9 (.int 0)).set 10 (.int 0)).set 11 (.long 0)).set 8 (.int 0)))] := hD
  refine lv_goto (tgt := 307) hx hb dX12_next_77 (by decide) ?_
  exact fn_vret hx hb hr hlocks hP hD hS () trivial [0] (by decide) rfl dX12_next_307
theorem dX12_begins_0 : decode cX12_begins 0 = .ok (.aload_n 0, 1) := by decide +kernel
theorem dX12_begins_1 : decode cX12_begins 1 = .ok (.iconst 0, 1) := by decide +kernel
theorem dX12_begins_2 : decode cX12_begins 2 = .ok (.putfield 156, 3) := by decide +kernel
theorem dX12_begins_5 : decode cX12_begins 5 = .ok (.aload_n 0, 1) := by decide +kernel
theorem dX12_begins_6 : decode cX12_begins 6 = .ok (.iconst (-1), 1) := by decide +kernel
theorem dX12_begins_7 : decode cX12_begins 7 = .ok (.putfield 159, 3) := by decide +kernel
theorem dX12_begins_10 : decode cX12_begins 10 = .ok (.aload_n 0, 1) := by decide +kernel
theorem dX12_begins_11 : decode cX12_begins 11 = .ok (.iconst 0, 1) := by decide +kernel
theorem dX12_begins_12 : decode cX12_begins 12 = .ok (.putfield 128, 3) := by decide +kernel
theorem dX12_begins_15 : decode cX12_begins 15 = .ok (.aload_n 0, 1) := by decide +kernel
theorem dX12_begins_16 : decode cX12_begins 16 = .ok (.invokevirtual 166, 3) := by decide +kernel
theorem dX12_begins_19 : decode cX12_begins 19 = .ok (.return_, 1) := by decide +kernel
set_option maxHeartbeats 4000000 in
set_option maxRecDepth 100000 in
theorem c_X12_begins (l : Launch) (D : va_G) (K : Nat → ClassId) (m0 : Nat) (fm : List Value) (hmn : fm.length = 51) (hm6 : fm[6]? = some (.int 0)) : fn_CV (S := Unit) l D K yX12_begins (fn_ws yX12_begins cX12_begins 1 none) ({ frames := 12, cells := 0, slots := 0, locals := 300 }) [.ref m0] [(m0, .inr (12, fm))] (fun u => True) (fun u => [(m0, .inr (12, ((((((fm.set 12 (.int 0)).set 13 (.int (-1))).set 7 (.int 0)).set 9 (.int 0)).set 10 (.int 0)).set 11 (.long 0)).set 8 (.int 0)))]) 0 0 := by
  refine fn_inV (cc := cX12_begins) (maxL := 1) (ret := none) (by decide) rfl (Nat.le_of_ble_eq_true rfl) ?_
  intro p e s m below meth c A ls B hA hP hD hS hl
  obtain ⟨hx, hb, hr, hml, hts, hown, hlocks, hin, hK⟩ := B
  have hown : s.vm.findClass RX12 = some m.cls := hown
  have hts := fun w h => hts w (List.mem_cons_of_mem _ h)
  have hl : lv_has ls 1 [(0, .ref m0)] := hl
  refine lv_aload_n hx hb dX12_begins_0 rfl (lv_at hl 0 rfl) ?_
  refine lv_iconst (v := 0) hx hb dX12_begins_1 (by decide) ?_
  refine va_put (D := D) (own := RX12) (ci := 12) (v := .int 0) (ty := .int) (C := RX12) (T := TX12) (N := 51) hx hb hts inb_X12 tyX12 tyX12_ok nmX12 hown hK.1 hP hD hS 0 rfl rfl 12 (by decide) (hts _ wd_1246) (fun _ h9 => h9) rfl (by decide +kernel) rfl rfl (fn_kl hmn (by decide)) dX12_begins_2 (fun H locs hP hD hS => ?_)
  have hP : va_P D vwCl [(m0, .inr (12, fm.set 12 (.int 0)))] H := hP
  have hD : va_D A [(m0, .inr (12, fm.set 12 (.int 0)))] := hD
  refine lv_aload_n hx hb dX12_begins_5 rfl (lv_at hl 0 rfl) ?_
  refine lv_iconst (v := (-1)) hx hb dX12_begins_6 (by decide) ?_
  refine va_put (D := D) (own := RX12) (ci := 12) (v := .int (-1)) (ty := .int) (C := RX12) (T := TX12) (N := 51) hx hb hts inb_X12 tyX12 tyX12_ok nmX12 hown hK.1 hP hD hS 0 rfl rfl 13 (by decide) (hts _ wd_1247) (fun _ h9 => h9) rfl (by decide +kernel) rfl rfl (fn_kl (fn_sl hmn) (by decide)) dX12_begins_7 (fun H locs hP hD hS => ?_)
  have hP : va_P D vwCl [(m0, .inr (12, (fm.set 12 (.int 0)).set 13 (.int (-1))))] H := hP
  have hD : va_D A [(m0, .inr (12, (fm.set 12 (.int 0)).set 13 (.int (-1))))] := hD
  refine lv_aload_n hx hb dX12_begins_10 rfl (lv_at hl 0 rfl) ?_
  refine lv_iconst (v := 0) hx hb dX12_begins_11 (by decide) ?_
  refine va_put (D := D) (own := RX12) (ci := 12) (v := .int 0) (ty := .int) (C := RX12) (T := TX12) (N := 51) hx hb hts inb_X12 tyX12 tyX12_ok nmX12 hown hK.1 hP hD hS 0 rfl rfl 7 (by decide) (hts _ wd_1241) (fun _ h9 => h9) rfl (by decide +kernel) rfl rfl (fn_kl (fn_sl (fn_sl hmn)) (by decide)) dX12_begins_12 (fun H locs hP hD hS => ?_)
  have hP : va_P D vwCl [(m0, .inr (12, ((fm.set 12 (.int 0)).set 13 (.int (-1))).set 7 (.int 0)))] H := hP
  have hD : va_D A [(m0, .inr (12, ((fm.set 12 (.int 0)).set 13 (.int (-1))).set 7 (.int 0)))] := hD
  refine lv_aload_n hx hb dX12_begins_15 rfl (lv_at hl 0 rfl) ?_
  refine fn_gov (wc := [(m0, .inr (12, ((fm.set 12 (.int 0)).set 13 (.int (-1))).set 7 (.int 0)))]) (wr := []) hK hP hD hS hA [0] [] rfl rfl (by decide) (fun hp => va_runV (C := RX12) (As := []) (rest := []) ⟨hx, hb, hml, hown, hts⟩ (c_X12_next (l := l) (D := D) (K := K) (m0 := (m0)) (fm := (((fm.set 12 (.int 0)).set 13 (.int (-1))).set 7 (.int 0))) (hmn := (fn_sl (fn_sl (fn_sl hmn)))) (hm6 := (fn_gs (by decide) (fn_gs (by decide) (fn_gs (by decide) hm6)))) (hm7 := (fn_gss (fn_sl (fn_sl hmn)) (by decide))) _) (cwV 0 hts (fn_ginV (fn_gin wd_1445) wd_1442 wd_1444 wp_98 wd_13) rfl rfl rfl (by decide +kernel) ⟨Nat.le_of_ble_eq_true rfl, Nat.le_of_ble_eq_true rfl⟩) ⟨fn_blind, va_recv hK.1 hP (ci := 12) (q0 := 0) rfl rfl, hp⟩ rfl rfl hl.1 rfl (lv_room (Nat.le_of_ble_eq_true rfl)) dX12_begins_16 ⟨Nat.le_of_ble_eq_true rfl, Nat.le_of_ble_eq_true rfl⟩) (fun u1 H locs hwu1 hP hD hS => ?_)
  have hP : va_P D vwCl [(m0, .inr (12, ((((((fm.set 12 (.int 0)).set 13 (.int (-1))).set 7 (.int 0)).set 9 (.int 0)).set 10 (.int 0)).set 11 (.long 0)).set 8 (.int 0)))] H := hP
  have hD : va_D A [(m0, .inr (12, ((((((fm.set 12 (.int 0)).set 13 (.int (-1))).set 7 (.int 0)).set 9 (.int 0)).set 10 (.int 0)).set 11 (.long 0)).set 8 (.int 0)))] := hD
  exact fn_vret hx hb hr hlocks hP hD hS () trivial [0] (by decide) rfl dX12_begins_19
theorem dX12_isGood_0 : decode cX12_isGood 0 = .ok (.aload_n 0, 1) := by decide +kernel
theorem dX12_isGood_1 : decode cX12_isGood 1 = .ok (.getfield 156, 3) := by decide +kernel
theorem dX12_isGood_4 : decode cX12_isGood 4 = .ok (.ifCond .ne 7, 3) := by decide +kernel
theorem dX12_isGood_7 : decode cX12_isGood 7 = .ok (.iconst 1, 1) := by decide +kernel
theorem dX12_isGood_8 : decode cX12_isGood 8 = .ok (.goto 4, 3) := by decide +kernel
theorem dX12_isGood_12 : decode cX12_isGood 12 = .ok (.ireturn, 1) := by decide +kernel
set_option maxHeartbeats 4000000 in
set_option maxRecDepth 100000 in
theorem c_X12_isGood (l : Launch) (D : va_G) (K : Nat → ClassId) (m0 : Nat) (fm : List Value) (hmn : fm.length = 51) (hm12 : fm[12]? = some (.int 0)) : fn_CI (S := Unit) l D K yX12_isGood (fn_ws yX12_isGood cX12_isGood 1 (some .boolean)) ({ frames := 4, cells := 0, slots := 0, locals := 100 }) [.ref m0] [(m0, .inr (12, fm))] (fun r u => r = 1 ∧ True) (fun u => [(m0, .inr (12, fm))]) 0 0 := by
  refine fn_inI (cc := cX12_isGood) (maxL := 1) (ret := (some .boolean)) (by decide) rfl (Nat.le_of_ble_eq_true rfl) ?_
  intro p e s m below meth c A ls B hA hP hD hS hl
  obtain ⟨hx, hb, hr, hml, hts, hown, hlocks, hin, hK⟩ := B
  have hown : s.vm.findClass RX12 = some m.cls := hown
  have hts := fun w h => hts w (List.mem_cons_of_mem _ h)
  have hl : lv_has ls 1 [(0, .ref m0)] := hl
  refine lv_aload_n hx hb dX12_isGood_0 rfl (lv_at hl 0 rfl) ?_
  refine va_get (D := D) (own := RX12) (ci := 12) (v := .int 0) (C := RX12) (T := TX12) (N := 51) hx hb hts inb_X12 hown hK.1 hP 0 rfl rfl 12 (by decide) (hts _ wd_1246) (fun _ h9 => h9) hm12 dX12_isGood_1 ?_
  refine lv_if_ne (tgt := 11) hx hb dX12_isGood_4 (by decide) (fun h9 => absurd rfl h9) (fun _ => ?_)
  refine lv_iconst (v := 1) hx hb dX12_isGood_7 (by decide) ?_
  refine lv_goto (tgt := 12) hx hb dX12_isGood_8 (by decide) ?_
  exact fn_iret hx hb hr hlocks rfl hP hD hS () ⟨rfl, trivial⟩ [0] (by decide) rfl dX12_isGood_12
theorem dX12_isOver_0 : decode cX12_isOver 0 = .ok (.aload_n 0, 1) := by decide +kernel
theorem dX12_isOver_1 : decode cX12_isOver 1 = .ok (.iconst 0, 1) := by decide +kernel
theorem dX12_isOver_2 : decode cX12_isOver 2 = .ok (.putfield 121, 3) := by decide +kernel
theorem dX12_isOver_5 : decode cX12_isOver 5 = .ok (.aload_n 0, 1) := by decide +kernel
theorem dX12_isOver_6 : decode cX12_isOver 6 = .ok (.aload_n 0, 1) := by decide +kernel
theorem dX12_isOver_7 : decode cX12_isOver 7 = .ok (.getfield 156, 3) := by decide +kernel
theorem dX12_isOver_10 : decode cX12_isOver 10 = .ok (.putfield 183, 3) := by decide +kernel
theorem dX12_isOver_13 : decode cX12_isOver 13 = .ok (.aload_n 0, 1) := by decide +kernel
theorem dX12_isOver_14 : decode cX12_isOver 14 = .ok (.aload_n 0, 1) := by decide +kernel
theorem dX12_isOver_15 : decode cX12_isOver 15 = .ok (.getfield 156, 3) := by decide +kernel
theorem dX12_isOver_18 : decode cX12_isOver 18 = .ok (.ifCond .ne 7, 3) := by decide +kernel
theorem dX12_isOver_21 : decode cX12_isOver 21 = .ok (.iconst (-1), 1) := by decide +kernel
theorem dX12_isOver_22 : decode cX12_isOver 22 = .ok (.goto 7, 3) := by decide +kernel
theorem dX12_isOver_29 : decode cX12_isOver 29 = .ok (.putfield 27, 3) := by decide +kernel
theorem dX12_isOver_32 : decode cX12_isOver 32 = .ok (.return_, 1) := by decide +kernel
set_option maxHeartbeats 4000000 in
set_option maxRecDepth 100000 in
theorem c_X12_isOver (l : Launch) (D : va_G) (K : Nat → ClassId) (m0 : Nat) (fm : List Value) (hmn : fm.length = 51) (hm12 : fm[12]? = some (.int 0)) : fn_CV (S := Unit) l D K yX12_isOver (fn_ws yX12_isOver cX12_isOver 1 none) ({ frames := 4, cells := 0, slots := 0, locals := 100 }) [.ref m0] [(m0, .inr (12, fm))] (fun u => True) (fun u => [(m0, .inr (12, ((fm.set 6 (.int 0)).set 14 (.int 0)).set 15 (.int (-1))))]) 0 0 := by
  refine fn_inV (cc := cX12_isOver) (maxL := 1) (ret := none) (by decide) rfl (Nat.le_of_ble_eq_true rfl) ?_
  intro p e s m below meth c A ls B hA hP hD hS hl
  obtain ⟨hx, hb, hr, hml, hts, hown, hlocks, hin, hK⟩ := B
  have hown : s.vm.findClass RX12 = some m.cls := hown
  have hts := fun w h => hts w (List.mem_cons_of_mem _ h)
  have hl : lv_has ls 1 [(0, .ref m0)] := hl
  refine lv_aload_n hx hb dX12_isOver_0 rfl (lv_at hl 0 rfl) ?_
  refine lv_iconst (v := 0) hx hb dX12_isOver_1 (by decide) ?_
  refine va_put (D := D) (own := RX12) (ci := 12) (v := .int 0) (ty := .int) (C := RX12) (T := TX12) (N := 51) hx hb hts inb_X12 tyX12 tyX12_ok nmX12 hown hK.1 hP hD hS 0 rfl rfl 6 (by decide) (hts _ wd_1240) (fun _ h9 => h9) rfl (by decide +kernel) rfl rfl (fn_kl hmn (by decide)) dX12_isOver_2 (fun H locs hP hD hS => ?_)
  have hP : va_P D vwCl [(m0, .inr (12, fm.set 6 (.int 0)))] H := hP
  have hD : va_D A [(m0, .inr (12, fm.set 6 (.int 0)))] := hD
  refine lv_aload_n hx hb dX12_isOver_5 rfl (lv_at hl 0 rfl) ?_
  refine lv_aload_n hx hb dX12_isOver_6 rfl (lv_at hl 0 rfl) ?_
  refine va_get (D := D) (own := RX12) (ci := 12) (v := .int 0) (C := RX12) (T := TX12) (N := 51) hx hb hts inb_X12 hown hK.1 hP 0 rfl rfl 12 (by decide) (hts _ wd_1246) (fun _ h9 => h9) (fn_gs (by decide) hm12) dX12_isOver_7 ?_
  refine va_put (D := D) (own := RX12) (ci := 12) (v := .int 0) (ty := .int) (C := RX12) (T := TX12) (N := 51) hx hb hts inb_X12 tyX12 tyX12_ok nmX12 hown hK.1 hP hD hS 0 rfl rfl 14 (by decide) (hts _ wd_1248) (fun _ h9 => h9) rfl (by decide +kernel) rfl rfl (fn_kl (fn_sl hmn) (by decide)) dX12_isOver_10 (fun H locs hP hD hS => ?_)
  have hP : va_P D vwCl [(m0, .inr (12, (fm.set 6 (.int 0)).set 14 (.int 0)))] H := hP
  have hD : va_D A [(m0, .inr (12, (fm.set 6 (.int 0)).set 14 (.int 0)))] := hD
  refine lv_aload_n hx hb dX12_isOver_13 rfl (lv_at hl 0 rfl) ?_
  refine lv_aload_n hx hb dX12_isOver_14 rfl (lv_at hl 0 rfl) ?_
  refine va_get (D := D) (own := RX12) (ci := 12) (v := .int 0) (C := RX12) (T := TX12) (N := 51) hx hb hts inb_X12 hown hK.1 hP 0 rfl rfl 12 (by decide) (hts _ wd_1246) (fun _ h9 => h9) (fn_gs (by decide) (fn_gs (by decide) hm12)) dX12_isOver_15 ?_
  refine lv_if_ne (tgt := 25) hx hb dX12_isOver_18 (by decide) (fun h9 => absurd rfl h9) (fun _ => ?_)
  refine lv_iconst (v := (-1)) hx hb dX12_isOver_21 (by decide) ?_
  refine lv_goto (tgt := 29) hx hb dX12_isOver_22 (by decide) ?_
  refine va_put (D := D) (own := RX12) (ci := 12) (v := .int (-1)) (ty := .int) (C := RX12) (T := TX12) (N := 51) hx hb hts inb_X12 tyX12 tyX12_ok nmX12 hown hK.1 hP hD hS 0 rfl rfl 15 (by decide) (hts _ wd_1249) (fun _ h9 => h9) rfl (by decide +kernel) rfl rfl (fn_kl (fn_sl (fn_sl hmn)) (by decide)) dX12_isOver_29 (fun H locs hP hD hS => ?_)
  have hP : va_P D vwCl [(m0, .inr (12, ((fm.set 6 (.int 0)).set 14 (.int 0)).set 15 (.int (-1))))] H := hP
  have hD : va_D A [(m0, .inr (12, ((fm.set 6 (.int 0)).set 14 (.int 0)).set 15 (.int (-1))))] := hD
  exact fn_vret hx hb hr hlocks hP hD hS () trivial [0] (by decide) rfl dX12_isOver_32
theorem dX12_copyRow_0 : decode cX12_copyRow 0 = .ok (.iconst 0, 1) := by decide +kernel
theorem dX12_copyRow_1 : decode cX12_copyRow 1 = .ok (.istore 4, 2) := by decide +kernel
theorem dX12_copyRow_3 : decode cX12_copyRow 3 = .ok (.iload 4, 2) := by decide +kernel
theorem dX12_copyRow_5 : decode cX12_copyRow 5 = .ok (.iload_n 1, 1) := by decide +kernel
theorem dX12_copyRow_6 : decode cX12_copyRow 6 = .ok (.if_icmp .ge 25, 3) := by decide +kernel
theorem dX12_copyRow_31 : decode cX12_copyRow 31 = .ok (.return_, 1) := by decide +kernel
theorem dX12_copyRow_9 : decode cX12_copyRow 9 = .ok (.aload_n 0, 1) := by decide +kernel
theorem dX12_copyRow_10 : decode cX12_copyRow 10 = .ok (.iload_n 1, 1) := by decide +kernel
theorem dX12_copyRow_11 : decode cX12_copyRow 11 = .ok (.iload_n 3, 1) := by decide +kernel
theorem dX12_copyRow_12 : decode cX12_copyRow 12 = .ok (.imul, 1) := by decide +kernel
theorem dX12_copyRow_13 : decode cX12_copyRow 13 = .ok (.iload 4, 2) := by decide +kernel
theorem dX12_copyRow_15 : decode cX12_copyRow 15 = .ok (.iadd, 1) := by decide +kernel
theorem dX12_copyRow_16 : decode cX12_copyRow 16 = .ok (.aload_n 0, 1) := by decide +kernel
theorem dX12_copyRow_17 : decode cX12_copyRow 17 = .ok (.iload_n 1, 1) := by decide +kernel
theorem dX12_copyRow_18 : decode cX12_copyRow 18 = .ok (.iload_n 2, 1) := by decide +kernel
theorem dX12_copyRow_19 : decode cX12_copyRow 19 = .ok (.imul, 1) := by decide +kernel
theorem dX12_copyRow_20 : decode cX12_copyRow 20 = .ok (.iload 4, 2) := by decide +kernel
theorem dX12_copyRow_22 : decode cX12_copyRow 22 = .ok (.iadd, 1) := by decide +kernel
theorem dX12_copyRow_23 : decode cX12_copyRow 23 = .ok (.iaload, 1) := by decide +kernel
theorem dX12_copyRow_24 : decode cX12_copyRow 24 = .ok (.iastore, 1) := by decide +kernel
theorem dX12_copyRow_25 : decode cX12_copyRow 25 = .ok (.iinc 4 1, 3) := by decide +kernel
theorem dX12_copyRow_28 : decode cX12_copyRow 28 = .ok (.goto (-25), 3) := by decide +kernel
set_option maxHeartbeats 4000000 in
set_option maxRecDepth 100000 in
theorem c_X12_copyRow (l : Launch) (D : va_G) (K : Nat → ClassId) (a0 n mn ma mb : Nat) (f : Nat → Int32) (hf : ∀ j, f j = 0) (hn : n < 2 ^ 30) (h1 : mn * ma + mn ≤ n) (h2 : mn * mb + mn ≤ n) : fn_CV (S := Nat → Int32) l D K yX12_copyRow (fn_ws yX12_copyRow cX12_copyRow 5 none) ({ frames := 4, cells := 0, slots := 0, locals := 100 }) [.ref a0, .int (nI mn), .int (nI ma), .int (nI mb)] [(a0, .inl (K 0, n, .inl f))] (fun g => ∀ j, g j = 0) (fun g => [(a0, .inl (K 0, n, .inl g))]) 0 0 := by
  refine fn_inV (cc := cX12_copyRow) (maxL := 5) (ret := none) (by decide) rfl (Nat.le_of_ble_eq_true rfl) ?_
  intro p e s m below meth c A ls B hA hP hD hS hl
  obtain ⟨hx, hb, hr, hml, hts, hown, hlocks, hin, hK⟩ := B
  have hown : s.vm.findClass RX12 = some m.cls := hown
  have hts := fun w h => hts w (List.mem_cons_of_mem _ h)
  have hl : lv_has ls 5 [(0, .ref a0), (1, .int (nI mn)), (2, .int (nI ma)), (3, .int (nI mb))] := hl
  refine lv_iconst (v := 0) hx hb dX12_copyRow_0 (by decide) ?_
  refine lv_istore (lv' := [(4, .int 0), (0, .ref a0), (1, .int (nI mn)), (2, .int (nI ma)), (3, .int (nI mb))]) hx hb dX12_copyRow_1 hl (by decide) rfl (fun ls hl => ?_)
  have loop : ∀ (k i : Nat) (g : Nat → Int32) (H : Heap) (locs : List Loc) (ls : Array Slot), mn ≤ i + k → i ≤ mn → (∀ j, g j = 0) → va_P D vwCl [(a0, .inl (K 0, n, .inl g))] H → va_D A [(a0, .inl (K 0, n, .inl g))] → va_S A s.heap H locs → lv_has ls 5 [(4, .int (nI i)), (0, .ref a0), (1, .int (nI mn)), (2, .int (nI ma)), (3, .int (nI mb))] → W p l e (headSpec (fn_ws yX12_copyRow cX12_copyRow 5 none) ({ frames := 4, cells := 0, slots := 0, locals := 100 })).room s m ([.ref a0, .int (nI mn), .int (nI ma), .int (nI mb)] : List Value).toArray below meth c H locs 0 0 (MQ below (va_Qv (S := Nat → Int32) (fun g => ∀ j, g j = 0) (fun u t => va_P D vwCl ((fun g => [(a0, .inl (K 0, n, .inl g))]) u) t.heap ∧ va_D A ((fun g => [(a0, .inl (K 0, n, .inl g))]) u)) A) ([.ref a0, .int (nI mn), .int (nI ma), .int (nI mb)] : List Value).toArray s 0 0 A) (F0 m 3 ls []) := by
    intro k
    induction k with
    | zero =>
      intro i g H locs ls hk hi hg hP hD hS hl
      refine lv_iload hx hb dX12_copyRow_3 (lv_at hl 0 rfl) ?_
      refine lv_iload_n hx hb dX12_copyRow_5 rfl (lv_at hl 2 rfl) ?_
      refine lv_icmp_ge (tgt := 31) hx hb dX12_copyRow_6 (by decide) (fun c6 => ?_) (fun h9 => absurd (nI_le (by omega) (by omega)) h9)
      exact fn_vret hx hb hr hlocks hP hD hS g hg [0] (by decide) rfl dX12_copyRow_31
    | succ k ih =>
      intro i g H locs ls hk hi hg hP hD hS hl
      rcases Nat.lt_or_ge i mn with hlt | hge
      · refine lv_iload hx hb dX12_copyRow_3 (lv_at hl 0 rfl) ?_
        refine lv_iload_n hx hb dX12_copyRow_5 rfl (lv_at hl 2 rfl) ?_
        refine lv_icmp_ge (tgt := 31) hx hb dX12_copyRow_6 (by decide) (fun h9 => absurd h9 (nI_ge hlt (by omega))) (fun c6 => ?_)
        refine lv_aload_n hx hb dX12_copyRow_9 rfl (lv_at hl 1 rfl) ?_
        refine lv_iload_n hx hb dX12_copyRow_10 rfl (lv_at hl 2 rfl) ?_
        refine lv_iload_n hx hb dX12_copyRow_11 rfl (lv_at hl 4 rfl) ?_
        refine lv_imul hx hb dX12_copyRow_12 ?_
        refine fn_top (nI (mn * mb)) (pk_mul mn mb) ?_
        refine lv_iload hx hb dX12_copyRow_13 (lv_at hl 0 rfl) ?_
        refine lv_iadd hx hb dX12_copyRow_15 ?_
        refine fn_top (nI (mn * mb + i)) (nI_add _ _) ?_
        refine lv_aload_n hx hb dX12_copyRow_16 rfl (lv_at hl 1 rfl) ?_
        refine lv_iload_n hx hb dX12_copyRow_17 rfl (lv_at hl 2 rfl) ?_
        refine lv_iload_n hx hb dX12_copyRow_18 rfl (lv_at hl 3 rfl) ?_
        refine lv_imul hx hb dX12_copyRow_19 ?_
        refine fn_top (nI (mn * ma)) (pk_mul mn ma) ?_
        refine lv_iload hx hb dX12_copyRow_20 (lv_at hl 0 rfl) ?_
        refine lv_iadd hx hb dX12_copyRow_22 ?_
        refine fn_top (nI (mn * ma + i)) (nI_add _ _) ?_
        refine va_iald hx hb hK.1 hP 0 0 rfl rfl (vp_in_nI (by omega) (by omega)) dX12_copyRow_23 ?_
        refine fn_top 0 (hg _) ?_
        refine va_iast hx hb hK.1 hP hD hS 0 0 rfl rfl (vp_in_nI (by omega) (by omega)) dX12_copyRow_24 (fun H locs hP hD hS => ?_)
        obtain ⟨g1, eg1⟩ : ∃ z, z = (upd g (Int32.toNatClampNeg (nI (mn * mb + i))) 0) := ⟨_, rfl⟩
        have hg1 : ∀ j, g1 j = 0 := by rw [eg1]; exact fn_upd_all hg
        have hP : va_P D vwCl [(a0, .inl (K 0, n, .inl g1))] H := by rw [eg1]; exact hP
        have hD : va_D A [(a0, .inl (K 0, n, .inl g1))] := by rw [eg1]; exact hD
        refine fn_at 25 rfl ?_
        refine lv_iinc (v := (nI (i + 1))) (lv' := [(4, .int (nI (i + 1))), (0, .ref a0), (1, .int (nI mn)), (2, .int (nI ma)), (3, .int (nI mb))]) hx hb dX12_copyRow_25 hl (k := 0) rfl (nI_1 i) (by decide) rfl (fun ls hl => ?_)
        refine lv_goto (tgt := 3) hx hb dX12_copyRow_28 (by decide) ?_
        exact ih (i + 1) g1 H locs ls (by omega) (by omega) hg1 hP hD hS (lv_sub hl [0, 1, 2, 3, 4] rfl)
      · refine lv_iload hx hb dX12_copyRow_3 (lv_at hl 0 rfl) ?_
        refine lv_iload_n hx hb dX12_copyRow_5 rfl (lv_at hl 2 rfl) ?_
        refine lv_icmp_ge (tgt := 31) hx hb dX12_copyRow_6 (by decide) (fun c6 => ?_) (fun h9 => absurd (nI_le (by omega) (by omega)) h9)
        exact fn_vret hx hb hr hlocks hP hD hS g hg [0] (by decide) rfl dX12_copyRow_31
  exact loop mn 0 _ _ _ ls (by omega) (by omega) hf hP hD hS hl
theorem dX12_copyTown_0 : decode cX12_copyTown 0 = .ok (.aload_n 0, 1) := by decide +kernel
theorem dX12_copyTown_1 : decode cX12_copyTown 1 = .ok (.getfield 31, 3) := by decide +kernel
theorem dX12_copyTown_4 : decode cX12_copyTown 4 = .ok (.iconst 1, 1) := by decide +kernel
theorem dX12_copyTown_5 : decode cX12_copyTown 5 = .ok (.iload_n 1, 1) := by decide +kernel
theorem dX12_copyTown_6 : decode cX12_copyTown 6 = .ok (.iload_n 2, 1) := by decide +kernel
theorem dX12_copyTown_7 : decode cX12_copyTown 7 = .ok (.invokestatic 258, 3) := by decide +kernel
theorem dX12_copyTown_10 : decode cX12_copyTown 10 = .ok (.aload_n 0, 1) := by decide +kernel
theorem dX12_copyTown_11 : decode cX12_copyTown 11 = .ok (.getfield 34, 3) := by decide +kernel
theorem dX12_copyTown_14 : decode cX12_copyTown 14 = .ok (.bipush 8, 2) := by decide +kernel
theorem dX12_copyTown_16 : decode cX12_copyTown 16 = .ok (.iload_n 1, 1) := by decide +kernel
theorem dX12_copyTown_17 : decode cX12_copyTown 17 = .ok (.iload_n 2, 1) := by decide +kernel
theorem dX12_copyTown_18 : decode cX12_copyTown 18 = .ok (.invokestatic 258, 3) := by decide +kernel
theorem dX12_copyTown_21 : decode cX12_copyTown 21 = .ok (.aload_n 0, 1) := by decide +kernel
theorem dX12_copyTown_22 : decode cX12_copyTown 22 = .ok (.getfield 37, 3) := by decide +kernel
theorem dX12_copyTown_25 : decode cX12_copyTown 25 = .ok (.bipush 10, 2) := by decide +kernel
theorem dX12_copyTown_27 : decode cX12_copyTown 27 = .ok (.iload_n 1, 1) := by decide +kernel
theorem dX12_copyTown_28 : decode cX12_copyTown 28 = .ok (.iload_n 2, 1) := by decide +kernel
theorem dX12_copyTown_29 : decode cX12_copyTown 29 = .ok (.invokestatic 258, 3) := by decide +kernel
theorem dX12_copyTown_32 : decode cX12_copyTown 32 = .ok (.aload_n 0, 1) := by decide +kernel
theorem dX12_copyTown_33 : decode cX12_copyTown 33 = .ok (.getfield 40, 3) := by decide +kernel
theorem dX12_copyTown_36 : decode cX12_copyTown 36 = .ok (.bipush 12, 2) := by decide +kernel
theorem dX12_copyTown_38 : decode cX12_copyTown 38 = .ok (.iload_n 1, 1) := by decide +kernel
theorem dX12_copyTown_39 : decode cX12_copyTown 39 = .ok (.iload_n 2, 1) := by decide +kernel
theorem dX12_copyTown_40 : decode cX12_copyTown 40 = .ok (.invokestatic 258, 3) := by decide +kernel
theorem dX12_copyTown_43 : decode cX12_copyTown 43 = .ok (.aload_n 0, 1) := by decide +kernel
theorem dX12_copyTown_44 : decode cX12_copyTown 44 = .ok (.getfield 43, 3) := by decide +kernel
theorem dX12_copyTown_47 : decode cX12_copyTown 47 = .ok (.bipush 96, 2) := by decide +kernel
theorem dX12_copyTown_49 : decode cX12_copyTown 49 = .ok (.iload_n 1, 1) := by decide +kernel
theorem dX12_copyTown_50 : decode cX12_copyTown 50 = .ok (.iload_n 2, 1) := by decide +kernel
theorem dX12_copyTown_51 : decode cX12_copyTown 51 = .ok (.invokestatic 258, 3) := by decide +kernel
theorem dX12_copyTown_54 : decode cX12_copyTown 54 = .ok (.aload_n 0, 1) := by decide +kernel
theorem dX12_copyTown_55 : decode cX12_copyTown 55 = .ok (.getfield 46, 3) := by decide +kernel
theorem dX12_copyTown_58 : decode cX12_copyTown 58 = .ok (.bipush 120, 2) := by decide +kernel
theorem dX12_copyTown_60 : decode cX12_copyTown 60 = .ok (.iload_n 1, 1) := by decide +kernel
theorem dX12_copyTown_61 : decode cX12_copyTown 61 = .ok (.iload_n 2, 1) := by decide +kernel
theorem dX12_copyTown_62 : decode cX12_copyTown 62 = .ok (.invokestatic 258, 3) := by decide +kernel
theorem dX12_copyTown_65 : decode cX12_copyTown 65 = .ok (.return_, 1) := by decide +kernel
set_option maxHeartbeats 4000000 in
set_option maxRecDepth 100000 in
theorem c_X12_copyTown_40 (l : Launch) (D : va_G) (K : Nat → ClassId) (m0 al ah ab ao an aa : Nat) (fm : List Value) (hmn : fm.length = 51) (hm16 : fm[16]? = some (.ref al)) (hm17 : fm[17]? = some (.ref ah)) (hm18 : fm[18]? = some (.ref ab)) (hm19 : fm[19]? = some (.ref ao)) (hm20 : fm[20]? = some (.ref an)) (hm21 : fm[21]? = some (.ref aa)) (fal fah fab fao fan faa : Nat → Int32) (hfal : ∀ j, fal j = 0) (hfah : ∀ j, fah j = 0) (hfab : ∀ j, fab j = 0) (hfao : ∀ j, fao j = 0) (hfan : ∀ j, fan j = 0) (hfaa : ∀ j, faa j = 0) : fn_CV (S := Nat → Nat → Int32) l D K yX12_copyTown (fn_ws yX12_copyTown cX12_copyTown 3 none) ({ frames := 8, cells := 0, slots := 0, locals := 200 }) [.ref m0, .int 4, .int 0] [(m0, .inr (12, fm)), (al, .inl (K 0, 5, .inl fal)), (ah, .inl (K 0, 40, .inl fah)), (ab, .inl (K 0, 50, .inl fab)), (ao, .inl (K 0, 60, .inl fao)), (an, .inl (K 0, 480, .inl fan)), (aa, .inl (K 0, 600, .inl faa))] (fun u => (∀ j, u 0 j = 0) ∧ (∀ j, u 1 j = 0) ∧ (∀ j, u 2 j = 0) ∧ (∀ j, u 3 j = 0) ∧ (∀ j, u 4 j = 0) ∧ (∀ j, u 5 j = 0) ∧ True) (fun u => [(m0, .inr (12, fm)), (al, .inl (K 0, 5, .inl (u 0))), (ah, .inl (K 0, 40, .inl (u 1))), (ab, .inl (K 0, 50, .inl (u 2))), (ao, .inl (K 0, 60, .inl (u 3))), (an, .inl (K 0, 480, .inl (u 4))), (aa, .inl (K 0, 600, .inl (u 5)))]) 0 0 := by
  refine fn_inV (cc := cX12_copyTown) (maxL := 3) (ret := none) (by decide) rfl (Nat.le_of_ble_eq_true rfl) ?_
  intro p e s m below meth c A ls B hA hP hD hS hl
  obtain ⟨hx, hb, hr, hml, hts, hown, hlocks, hin, hK⟩ := B
  have hown : s.vm.findClass RX12 = some m.cls := hown
  have hts := fun w h => hts w (List.mem_cons_of_mem _ h)
  have hl : lv_has ls 3 [(0, .ref m0), (1, .int 4), (2, .int 0)] := hl
  refine lv_aload_n hx hb dX12_copyTown_0 rfl (lv_at hl 0 rfl) ?_
  refine va_get (D := D) (own := RX12) (ci := 12) (v := .ref al) (C := RX12) (T := TX12) (N := 51) hx hb hts inb_X12 hown hK.1 hP 0 rfl rfl 16 (by decide) (hts _ wd_1250) (fun _ h9 => h9) hm16 dX12_copyTown_1 ?_
  refine lv_iconst (v := 1) hx hb dX12_copyTown_4 (by decide) ?_
  refine lv_iload_n hx hb dX12_copyTown_5 rfl (lv_at hl 1 rfl) ?_
  refine lv_iload_n hx hb dX12_copyTown_6 rfl (lv_at hl 2 rfl) ?_
  refine fn_gov (wc := [(al, .inl (K 0, 5, .inl fal))]) (wr := [(m0, .inr (12, fm)), (ah, .inl (K 0, 40, .inl fah)), (ab, .inl (K 0, 50, .inl fab)), (ao, .inl (K 0, 60, .inl fao)), (an, .inl (K 0, 480, .inl fan)), (aa, .inl (K 0, 600, .inl faa))]) hK hP hD hS hA [1] [0, 2, 3, 4, 5, 6] rfl rfl (by decide) (fun hp => va_runS (As := [.ref al, .int 1, .int 4, .int 0]) (rest := []) ⟨hx, hb, hml, hown, hts⟩ (c_X12_copyRow (l := l) (D := D) (K := K) (a0 := (al)) (mn := 1) (ma := 4) (mb := 0) (n := 5) (f := (fal)) (hf := hfal) (hn := (by decide)) (h1 := (by decide)) (h2 := (by decide)) _) (va_cwS 4 hts (fn_ginS (fn_gin wd_1535) wd_1533 wd_1534 wd_13) rfl rfl rfl (by decide +kernel) ⟨Nat.le_of_ble_eq_true rfl, Nat.le_of_ble_eq_true rfl⟩) ⟨fn_blind, hp⟩ rfl rfl hl.1 rfl (lv_room (Nat.le_of_ble_eq_true rfl)) dX12_copyTown_7 ⟨Nat.le_of_ble_eq_true rfl, Nat.le_of_ble_eq_true rfl⟩) (fun u1 H locs hwu1 hP hD hS => ?_)
  have hP : va_P D vwCl [(m0, .inr (12, fm)), (ah, .inl (K 0, 40, .inl fah)), (ab, .inl (K 0, 50, .inl fab)), (ao, .inl (K 0, 60, .inl fao)), (an, .inl (K 0, 480, .inl fan)), (aa, .inl (K 0, 600, .inl faa)), (al, .inl (K 0, 5, .inl u1))] H := hP
  have hD : va_D A [(m0, .inr (12, fm)), (ah, .inl (K 0, 40, .inl fah)), (ab, .inl (K 0, 50, .inl fab)), (ao, .inl (K 0, 60, .inl fao)), (an, .inl (K 0, 480, .inl fan)), (aa, .inl (K 0, 600, .inl faa)), (al, .inl (K 0, 5, .inl u1))] := hD
  refine lv_aload_n hx hb dX12_copyTown_10 rfl (lv_at hl 0 rfl) ?_
  refine va_get (D := D) (own := RX12) (ci := 12) (v := .ref ah) (C := RX12) (T := TX12) (N := 51) hx hb hts inb_X12 hown hK.1 hP 0 rfl rfl 17 (by decide) (hts _ wd_1251) (fun _ h9 => h9) hm17 dX12_copyTown_11 ?_
  refine lv_bipush (v := 8) hx hb dX12_copyTown_14 (by decide) ?_
  refine lv_iload_n hx hb dX12_copyTown_16 rfl (lv_at hl 1 rfl) ?_
  refine lv_iload_n hx hb dX12_copyTown_17 rfl (lv_at hl 2 rfl) ?_
  refine fn_gov (wc := [(ah, .inl (K 0, 40, .inl fah))]) (wr := [(m0, .inr (12, fm)), (ab, .inl (K 0, 50, .inl fab)), (ao, .inl (K 0, 60, .inl fao)), (an, .inl (K 0, 480, .inl fan)), (aa, .inl (K 0, 600, .inl faa)), (al, .inl (K 0, 5, .inl u1))]) hK hP hD hS hA [1] [0, 2, 3, 4, 5, 6] rfl rfl (by decide) (fun hp => va_runS (As := [.ref ah, .int 8, .int 4, .int 0]) (rest := []) ⟨hx, hb, hml, hown, hts⟩ (c_X12_copyRow (l := l) (D := D) (K := K) (a0 := (ah)) (mn := 8) (ma := 4) (mb := 0) (n := 40) (f := (fah)) (hf := hfah) (hn := (by decide)) (h1 := (by decide)) (h2 := (by decide)) _) (va_cwS 4 hts (fn_ginS (fn_gin wd_1535) wd_1533 wd_1534 wd_13) rfl rfl rfl (by decide +kernel) ⟨Nat.le_of_ble_eq_true rfl, Nat.le_of_ble_eq_true rfl⟩) ⟨fn_blind, hp⟩ rfl rfl hl.1 rfl (lv_room (Nat.le_of_ble_eq_true rfl)) dX12_copyTown_18 ⟨Nat.le_of_ble_eq_true rfl, Nat.le_of_ble_eq_true rfl⟩) (fun u3 H locs hwu3 hP hD hS => ?_)
  have hP : va_P D vwCl [(m0, .inr (12, fm)), (ab, .inl (K 0, 50, .inl fab)), (ao, .inl (K 0, 60, .inl fao)), (an, .inl (K 0, 480, .inl fan)), (aa, .inl (K 0, 600, .inl faa)), (al, .inl (K 0, 5, .inl u1)), (ah, .inl (K 0, 40, .inl u3))] H := hP
  have hD : va_D A [(m0, .inr (12, fm)), (ab, .inl (K 0, 50, .inl fab)), (ao, .inl (K 0, 60, .inl fao)), (an, .inl (K 0, 480, .inl fan)), (aa, .inl (K 0, 600, .inl faa)), (al, .inl (K 0, 5, .inl u1)), (ah, .inl (K 0, 40, .inl u3))] := hD
  refine lv_aload_n hx hb dX12_copyTown_21 rfl (lv_at hl 0 rfl) ?_
  refine va_get (D := D) (own := RX12) (ci := 12) (v := .ref ab) (C := RX12) (T := TX12) (N := 51) hx hb hts inb_X12 hown hK.1 hP 0 rfl rfl 18 (by decide) (hts _ wd_1252) (fun _ h9 => h9) hm18 dX12_copyTown_22 ?_
  refine lv_bipush (v := 10) hx hb dX12_copyTown_25 (by decide) ?_
  refine lv_iload_n hx hb dX12_copyTown_27 rfl (lv_at hl 1 rfl) ?_
  refine lv_iload_n hx hb dX12_copyTown_28 rfl (lv_at hl 2 rfl) ?_
  refine fn_gov (wc := [(ab, .inl (K 0, 50, .inl fab))]) (wr := [(m0, .inr (12, fm)), (ao, .inl (K 0, 60, .inl fao)), (an, .inl (K 0, 480, .inl fan)), (aa, .inl (K 0, 600, .inl faa)), (al, .inl (K 0, 5, .inl u1)), (ah, .inl (K 0, 40, .inl u3))]) hK hP hD hS hA [1] [0, 2, 3, 4, 5, 6] rfl rfl (by decide) (fun hp => va_runS (As := [.ref ab, .int 10, .int 4, .int 0]) (rest := []) ⟨hx, hb, hml, hown, hts⟩ (c_X12_copyRow (l := l) (D := D) (K := K) (a0 := (ab)) (mn := 10) (ma := 4) (mb := 0) (n := 50) (f := (fab)) (hf := hfab) (hn := (by decide)) (h1 := (by decide)) (h2 := (by decide)) _) (va_cwS 4 hts (fn_ginS (fn_gin wd_1535) wd_1533 wd_1534 wd_13) rfl rfl rfl (by decide +kernel) ⟨Nat.le_of_ble_eq_true rfl, Nat.le_of_ble_eq_true rfl⟩) ⟨fn_blind, hp⟩ rfl rfl hl.1 rfl (lv_room (Nat.le_of_ble_eq_true rfl)) dX12_copyTown_29 ⟨Nat.le_of_ble_eq_true rfl, Nat.le_of_ble_eq_true rfl⟩) (fun u5 H locs hwu5 hP hD hS => ?_)
  have hP : va_P D vwCl [(m0, .inr (12, fm)), (ao, .inl (K 0, 60, .inl fao)), (an, .inl (K 0, 480, .inl fan)), (aa, .inl (K 0, 600, .inl faa)), (al, .inl (K 0, 5, .inl u1)), (ah, .inl (K 0, 40, .inl u3)), (ab, .inl (K 0, 50, .inl u5))] H := hP
  have hD : va_D A [(m0, .inr (12, fm)), (ao, .inl (K 0, 60, .inl fao)), (an, .inl (K 0, 480, .inl fan)), (aa, .inl (K 0, 600, .inl faa)), (al, .inl (K 0, 5, .inl u1)), (ah, .inl (K 0, 40, .inl u3)), (ab, .inl (K 0, 50, .inl u5))] := hD
  refine lv_aload_n hx hb dX12_copyTown_32 rfl (lv_at hl 0 rfl) ?_
  refine fn_at 33 rfl ?_
  refine va_get (D := D) (own := RX12) (ci := 12) (v := .ref ao) (C := RX12) (T := TX12) (N := 51) hx hb hts inb_X12 hown hK.1 hP 0 rfl rfl 19 (by decide) (hts _ wd_1253) (fun _ h9 => h9) hm19 dX12_copyTown_33 ?_
  refine lv_bipush (v := 12) hx hb dX12_copyTown_36 (by decide) ?_
  refine lv_iload_n hx hb dX12_copyTown_38 rfl (lv_at hl 1 rfl) ?_
  refine lv_iload_n hx hb dX12_copyTown_39 rfl (lv_at hl 2 rfl) ?_
  refine fn_gov (wc := [(ao, .inl (K 0, 60, .inl fao))]) (wr := [(m0, .inr (12, fm)), (an, .inl (K 0, 480, .inl fan)), (aa, .inl (K 0, 600, .inl faa)), (al, .inl (K 0, 5, .inl u1)), (ah, .inl (K 0, 40, .inl u3)), (ab, .inl (K 0, 50, .inl u5))]) hK hP hD hS hA [1] [0, 2, 3, 4, 5, 6] rfl rfl (by decide) (fun hp => va_runS (As := [.ref ao, .int 12, .int 4, .int 0]) (rest := []) ⟨hx, hb, hml, hown, hts⟩ (c_X12_copyRow (l := l) (D := D) (K := K) (a0 := (ao)) (mn := 12) (ma := 4) (mb := 0) (n := 60) (f := (fao)) (hf := hfao) (hn := (by decide)) (h1 := (by decide)) (h2 := (by decide)) _) (va_cwS 4 hts (fn_ginS (fn_gin wd_1535) wd_1533 wd_1534 wd_13) rfl rfl rfl (by decide +kernel) ⟨Nat.le_of_ble_eq_true rfl, Nat.le_of_ble_eq_true rfl⟩) ⟨fn_blind, hp⟩ rfl rfl hl.1 rfl (lv_room (Nat.le_of_ble_eq_true rfl)) dX12_copyTown_40 ⟨Nat.le_of_ble_eq_true rfl, Nat.le_of_ble_eq_true rfl⟩) (fun u7 H locs hwu7 hP hD hS => ?_)
  have hP : va_P D vwCl [(m0, .inr (12, fm)), (an, .inl (K 0, 480, .inl fan)), (aa, .inl (K 0, 600, .inl faa)), (al, .inl (K 0, 5, .inl u1)), (ah, .inl (K 0, 40, .inl u3)), (ab, .inl (K 0, 50, .inl u5)), (ao, .inl (K 0, 60, .inl u7))] H := hP
  have hD : va_D A [(m0, .inr (12, fm)), (an, .inl (K 0, 480, .inl fan)), (aa, .inl (K 0, 600, .inl faa)), (al, .inl (K 0, 5, .inl u1)), (ah, .inl (K 0, 40, .inl u3)), (ab, .inl (K 0, 50, .inl u5)), (ao, .inl (K 0, 60, .inl u7))] := hD
  refine lv_aload_n hx hb dX12_copyTown_43 rfl (lv_at hl 0 rfl) ?_
  refine va_get (D := D) (own := RX12) (ci := 12) (v := .ref an) (C := RX12) (T := TX12) (N := 51) hx hb hts inb_X12 hown hK.1 hP 0 rfl rfl 20 (by decide) (hts _ wd_1254) (fun _ h9 => h9) hm20 dX12_copyTown_44 ?_
  refine lv_bipush (v := 96) hx hb dX12_copyTown_47 (by decide) ?_
  refine lv_iload_n hx hb dX12_copyTown_49 rfl (lv_at hl 1 rfl) ?_
  refine lv_iload_n hx hb dX12_copyTown_50 rfl (lv_at hl 2 rfl) ?_
  refine fn_gov (wc := [(an, .inl (K 0, 480, .inl fan))]) (wr := [(m0, .inr (12, fm)), (aa, .inl (K 0, 600, .inl faa)), (al, .inl (K 0, 5, .inl u1)), (ah, .inl (K 0, 40, .inl u3)), (ab, .inl (K 0, 50, .inl u5)), (ao, .inl (K 0, 60, .inl u7))]) hK hP hD hS hA [1] [0, 2, 3, 4, 5, 6] rfl rfl (by decide) (fun hp => va_runS (As := [.ref an, .int 96, .int 4, .int 0]) (rest := []) ⟨hx, hb, hml, hown, hts⟩ (c_X12_copyRow (l := l) (D := D) (K := K) (a0 := (an)) (mn := 96) (ma := 4) (mb := 0) (n := 480) (f := (fan)) (hf := hfan) (hn := (by decide)) (h1 := (by decide)) (h2 := (by decide)) _) (va_cwS 4 hts (fn_ginS (fn_gin wd_1535) wd_1533 wd_1534 wd_13) rfl rfl rfl (by decide +kernel) ⟨Nat.le_of_ble_eq_true rfl, Nat.le_of_ble_eq_true rfl⟩) ⟨fn_blind, hp⟩ rfl rfl hl.1 rfl (lv_room (Nat.le_of_ble_eq_true rfl)) dX12_copyTown_51 ⟨Nat.le_of_ble_eq_true rfl, Nat.le_of_ble_eq_true rfl⟩) (fun u9 H locs hwu9 hP hD hS => ?_)
  have hP : va_P D vwCl [(m0, .inr (12, fm)), (aa, .inl (K 0, 600, .inl faa)), (al, .inl (K 0, 5, .inl u1)), (ah, .inl (K 0, 40, .inl u3)), (ab, .inl (K 0, 50, .inl u5)), (ao, .inl (K 0, 60, .inl u7)), (an, .inl (K 0, 480, .inl u9))] H := hP
  have hD : va_D A [(m0, .inr (12, fm)), (aa, .inl (K 0, 600, .inl faa)), (al, .inl (K 0, 5, .inl u1)), (ah, .inl (K 0, 40, .inl u3)), (ab, .inl (K 0, 50, .inl u5)), (ao, .inl (K 0, 60, .inl u7)), (an, .inl (K 0, 480, .inl u9))] := hD
  refine lv_aload_n hx hb dX12_copyTown_54 rfl (lv_at hl 0 rfl) ?_
  refine va_get (D := D) (own := RX12) (ci := 12) (v := .ref aa) (C := RX12) (T := TX12) (N := 51) hx hb hts inb_X12 hown hK.1 hP 0 rfl rfl 21 (by decide) (hts _ wd_1255) (fun _ h9 => h9) hm21 dX12_copyTown_55 ?_
  refine lv_bipush (v := 120) hx hb dX12_copyTown_58 (by decide) ?_
  refine lv_iload_n hx hb dX12_copyTown_60 rfl (lv_at hl 1 rfl) ?_
  refine lv_iload_n hx hb dX12_copyTown_61 rfl (lv_at hl 2 rfl) ?_
  refine fn_gov (wc := [(aa, .inl (K 0, 600, .inl faa))]) (wr := [(m0, .inr (12, fm)), (al, .inl (K 0, 5, .inl u1)), (ah, .inl (K 0, 40, .inl u3)), (ab, .inl (K 0, 50, .inl u5)), (ao, .inl (K 0, 60, .inl u7)), (an, .inl (K 0, 480, .inl u9))]) hK hP hD hS hA [1] [0, 2, 3, 4, 5, 6] rfl rfl (by decide) (fun hp => va_runS (As := [.ref aa, .int 120, .int 4, .int 0]) (rest := []) ⟨hx, hb, hml, hown, hts⟩ (c_X12_copyRow (l := l) (D := D) (K := K) (a0 := (aa)) (mn := 120) (ma := 4) (mb := 0) (n := 600) (f := (faa)) (hf := hfaa) (hn := (by decide)) (h1 := (by decide)) (h2 := (by decide)) _) (va_cwS 4 hts (fn_ginS (fn_gin wd_1535) wd_1533 wd_1534 wd_13) rfl rfl rfl (by decide +kernel) ⟨Nat.le_of_ble_eq_true rfl, Nat.le_of_ble_eq_true rfl⟩) ⟨fn_blind, hp⟩ rfl rfl hl.1 rfl (lv_room (Nat.le_of_ble_eq_true rfl)) dX12_copyTown_62 ⟨Nat.le_of_ble_eq_true rfl, Nat.le_of_ble_eq_true rfl⟩) (fun u11 H locs hwu11 hP hD hS => ?_)
  have hP : va_P D vwCl [(m0, .inr (12, fm)), (al, .inl (K 0, 5, .inl u1)), (ah, .inl (K 0, 40, .inl u3)), (ab, .inl (K 0, 50, .inl u5)), (ao, .inl (K 0, 60, .inl u7)), (an, .inl (K 0, 480, .inl u9)), (aa, .inl (K 0, 600, .inl u11))] H := hP
  have hD : va_D A [(m0, .inr (12, fm)), (al, .inl (K 0, 5, .inl u1)), (ah, .inl (K 0, 40, .inl u3)), (ab, .inl (K 0, 50, .inl u5)), (ao, .inl (K 0, 60, .inl u7)), (an, .inl (K 0, 480, .inl u9)), (aa, .inl (K 0, 600, .inl u11))] := hD
  exact fn_vret hx hb hr hlocks hP hD hS (fun k => ([u1, u3, u5, u7, u9, u11] : List (Nat → Int32)).getD k u1) ⟨hwu1, hwu3, hwu5, hwu7, hwu9, hwu11, trivial⟩ [0, 1, 2, 3, 4, 5, 6] (by decide) rfl dX12_copyTown_65
set_option maxHeartbeats 4000000 in
set_option maxRecDepth 100000 in
theorem c_X12_copyTown_01 (l : Launch) (D : va_G) (K : Nat → ClassId) (m0 al ah ab ao an aa : Nat) (fm : List Value) (hmn : fm.length = 51) (hm16 : fm[16]? = some (.ref al)) (hm17 : fm[17]? = some (.ref ah)) (hm18 : fm[18]? = some (.ref ab)) (hm19 : fm[19]? = some (.ref ao)) (hm20 : fm[20]? = some (.ref an)) (hm21 : fm[21]? = some (.ref aa)) (fal fah fab fao fan faa : Nat → Int32) (hfal : ∀ j, fal j = 0) (hfah : ∀ j, fah j = 0) (hfab : ∀ j, fab j = 0) (hfao : ∀ j, fao j = 0) (hfan : ∀ j, fan j = 0) (hfaa : ∀ j, faa j = 0) : fn_CV (S := Nat → Nat → Int32) l D K yX12_copyTown (fn_ws yX12_copyTown cX12_copyTown 3 none) ({ frames := 8, cells := 0, slots := 0, locals := 200 }) [.ref m0, .int 0, .int 1] [(m0, .inr (12, fm)), (al, .inl (K 0, 5, .inl fal)), (ah, .inl (K 0, 40, .inl fah)), (ab, .inl (K 0, 50, .inl fab)), (ao, .inl (K 0, 60, .inl fao)), (an, .inl (K 0, 480, .inl fan)), (aa, .inl (K 0, 600, .inl faa))] (fun u => (∀ j, u 0 j = 0) ∧ (∀ j, u 1 j = 0) ∧ (∀ j, u 2 j = 0) ∧ (∀ j, u 3 j = 0) ∧ (∀ j, u 4 j = 0) ∧ (∀ j, u 5 j = 0) ∧ True) (fun u => [(m0, .inr (12, fm)), (al, .inl (K 0, 5, .inl (u 0))), (ah, .inl (K 0, 40, .inl (u 1))), (ab, .inl (K 0, 50, .inl (u 2))), (ao, .inl (K 0, 60, .inl (u 3))), (an, .inl (K 0, 480, .inl (u 4))), (aa, .inl (K 0, 600, .inl (u 5)))]) 0 0 := by
  refine fn_inV (cc := cX12_copyTown) (maxL := 3) (ret := none) (by decide) rfl (Nat.le_of_ble_eq_true rfl) ?_
  intro p e s m below meth c A ls B hA hP hD hS hl
  obtain ⟨hx, hb, hr, hml, hts, hown, hlocks, hin, hK⟩ := B
  have hown : s.vm.findClass RX12 = some m.cls := hown
  have hts := fun w h => hts w (List.mem_cons_of_mem _ h)
  have hl : lv_has ls 3 [(0, .ref m0), (1, .int 0), (2, .int 1)] := hl
  refine lv_aload_n hx hb dX12_copyTown_0 rfl (lv_at hl 0 rfl) ?_
  refine va_get (D := D) (own := RX12) (ci := 12) (v := .ref al) (C := RX12) (T := TX12) (N := 51) hx hb hts inb_X12 hown hK.1 hP 0 rfl rfl 16 (by decide) (hts _ wd_1250) (fun _ h9 => h9) hm16 dX12_copyTown_1 ?_
  refine lv_iconst (v := 1) hx hb dX12_copyTown_4 (by decide) ?_
  refine lv_iload_n hx hb dX12_copyTown_5 rfl (lv_at hl 1 rfl) ?_
  refine lv_iload_n hx hb dX12_copyTown_6 rfl (lv_at hl 2 rfl) ?_
  refine fn_gov (wc := [(al, .inl (K 0, 5, .inl fal))]) (wr := [(m0, .inr (12, fm)), (ah, .inl (K 0, 40, .inl fah)), (ab, .inl (K 0, 50, .inl fab)), (ao, .inl (K 0, 60, .inl fao)), (an, .inl (K 0, 480, .inl fan)), (aa, .inl (K 0, 600, .inl faa))]) hK hP hD hS hA [1] [0, 2, 3, 4, 5, 6] rfl rfl (by decide) (fun hp => va_runS (As := [.ref al, .int 1, .int 0, .int 1]) (rest := []) ⟨hx, hb, hml, hown, hts⟩ (c_X12_copyRow (l := l) (D := D) (K := K) (a0 := (al)) (mn := 1) (ma := 0) (mb := 1) (n := 5) (f := (fal)) (hf := hfal) (hn := (by decide)) (h1 := (by decide)) (h2 := (by decide)) _) (va_cwS 4 hts (fn_ginS (fn_gin wd_1535) wd_1533 wd_1534 wd_13) rfl rfl rfl (by decide +kernel) ⟨Nat.le_of_ble_eq_true rfl, Nat.le_of_ble_eq_true rfl⟩) ⟨fn_blind, hp⟩ rfl rfl hl.1 rfl (lv_room (Nat.le_of_ble_eq_true rfl)) dX12_copyTown_7 ⟨Nat.le_of_ble_eq_true rfl, Nat.le_of_ble_eq_true rfl⟩) (fun u1 H locs hwu1 hP hD hS => ?_)
  have hP : va_P D vwCl [(m0, .inr (12, fm)), (ah, .inl (K 0, 40, .inl fah)), (ab, .inl (K 0, 50, .inl fab)), (ao, .inl (K 0, 60, .inl fao)), (an, .inl (K 0, 480, .inl fan)), (aa, .inl (K 0, 600, .inl faa)), (al, .inl (K 0, 5, .inl u1))] H := hP
  have hD : va_D A [(m0, .inr (12, fm)), (ah, .inl (K 0, 40, .inl fah)), (ab, .inl (K 0, 50, .inl fab)), (ao, .inl (K 0, 60, .inl fao)), (an, .inl (K 0, 480, .inl fan)), (aa, .inl (K 0, 600, .inl faa)), (al, .inl (K 0, 5, .inl u1))] := hD
  refine lv_aload_n hx hb dX12_copyTown_10 rfl (lv_at hl 0 rfl) ?_
  refine va_get (D := D) (own := RX12) (ci := 12) (v := .ref ah) (C := RX12) (T := TX12) (N := 51) hx hb hts inb_X12 hown hK.1 hP 0 rfl rfl 17 (by decide) (hts _ wd_1251) (fun _ h9 => h9) hm17 dX12_copyTown_11 ?_
  refine lv_bipush (v := 8) hx hb dX12_copyTown_14 (by decide) ?_
  refine lv_iload_n hx hb dX12_copyTown_16 rfl (lv_at hl 1 rfl) ?_
  refine lv_iload_n hx hb dX12_copyTown_17 rfl (lv_at hl 2 rfl) ?_
  refine fn_gov (wc := [(ah, .inl (K 0, 40, .inl fah))]) (wr := [(m0, .inr (12, fm)), (ab, .inl (K 0, 50, .inl fab)), (ao, .inl (K 0, 60, .inl fao)), (an, .inl (K 0, 480, .inl fan)), (aa, .inl (K 0, 600, .inl faa)), (al, .inl (K 0, 5, .inl u1))]) hK hP hD hS hA [1] [0, 2, 3, 4, 5, 6] rfl rfl (by decide) (fun hp => va_runS (As := [.ref ah, .int 8, .int 0, .int 1]) (rest := []) ⟨hx, hb, hml, hown, hts⟩ (c_X12_copyRow (l := l) (D := D) (K := K) (a0 := (ah)) (mn := 8) (ma := 0) (mb := 1) (n := 40) (f := (fah)) (hf := hfah) (hn := (by decide)) (h1 := (by decide)) (h2 := (by decide)) _) (va_cwS 4 hts (fn_ginS (fn_gin wd_1535) wd_1533 wd_1534 wd_13) rfl rfl rfl (by decide +kernel) ⟨Nat.le_of_ble_eq_true rfl, Nat.le_of_ble_eq_true rfl⟩) ⟨fn_blind, hp⟩ rfl rfl hl.1 rfl (lv_room (Nat.le_of_ble_eq_true rfl)) dX12_copyTown_18 ⟨Nat.le_of_ble_eq_true rfl, Nat.le_of_ble_eq_true rfl⟩) (fun u3 H locs hwu3 hP hD hS => ?_)
  have hP : va_P D vwCl [(m0, .inr (12, fm)), (ab, .inl (K 0, 50, .inl fab)), (ao, .inl (K 0, 60, .inl fao)), (an, .inl (K 0, 480, .inl fan)), (aa, .inl (K 0, 600, .inl faa)), (al, .inl (K 0, 5, .inl u1)), (ah, .inl (K 0, 40, .inl u3))] H := hP
  have hD : va_D A [(m0, .inr (12, fm)), (ab, .inl (K 0, 50, .inl fab)), (ao, .inl (K 0, 60, .inl fao)), (an, .inl (K 0, 480, .inl fan)), (aa, .inl (K 0, 600, .inl faa)), (al, .inl (K 0, 5, .inl u1)), (ah, .inl (K 0, 40, .inl u3))] := hD
  refine lv_aload_n hx hb dX12_copyTown_21 rfl (lv_at hl 0 rfl) ?_
  refine va_get (D := D) (own := RX12) (ci := 12) (v := .ref ab) (C := RX12) (T := TX12) (N := 51) hx hb hts inb_X12 hown hK.1 hP 0 rfl rfl 18 (by decide) (hts _ wd_1252) (fun _ h9 => h9) hm18 dX12_copyTown_22 ?_
  refine lv_bipush (v := 10) hx hb dX12_copyTown_25 (by decide) ?_
  refine lv_iload_n hx hb dX12_copyTown_27 rfl (lv_at hl 1 rfl) ?_
  refine lv_iload_n hx hb dX12_copyTown_28 rfl (lv_at hl 2 rfl) ?_
  refine fn_gov (wc := [(ab, .inl (K 0, 50, .inl fab))]) (wr := [(m0, .inr (12, fm)), (ao, .inl (K 0, 60, .inl fao)), (an, .inl (K 0, 480, .inl fan)), (aa, .inl (K 0, 600, .inl faa)), (al, .inl (K 0, 5, .inl u1)), (ah, .inl (K 0, 40, .inl u3))]) hK hP hD hS hA [1] [0, 2, 3, 4, 5, 6] rfl rfl (by decide) (fun hp => va_runS (As := [.ref ab, .int 10, .int 0, .int 1]) (rest := []) ⟨hx, hb, hml, hown, hts⟩ (c_X12_copyRow (l := l) (D := D) (K := K) (a0 := (ab)) (mn := 10) (ma := 0) (mb := 1) (n := 50) (f := (fab)) (hf := hfab) (hn := (by decide)) (h1 := (by decide)) (h2 := (by decide)) _) (va_cwS 4 hts (fn_ginS (fn_gin wd_1535) wd_1533 wd_1534 wd_13) rfl rfl rfl (by decide +kernel) ⟨Nat.le_of_ble_eq_true rfl, Nat.le_of_ble_eq_true rfl⟩) ⟨fn_blind, hp⟩ rfl rfl hl.1 rfl (lv_room (Nat.le_of_ble_eq_true rfl)) dX12_copyTown_29 ⟨Nat.le_of_ble_eq_true rfl, Nat.le_of_ble_eq_true rfl⟩) (fun u5 H locs hwu5 hP hD hS => ?_)
  have hP : va_P D vwCl [(m0, .inr (12, fm)), (ao, .inl (K 0, 60, .inl fao)), (an, .inl (K 0, 480, .inl fan)), (aa, .inl (K 0, 600, .inl faa)), (al, .inl (K 0, 5, .inl u1)), (ah, .inl (K 0, 40, .inl u3)), (ab, .inl (K 0, 50, .inl u5))] H := hP
  have hD : va_D A [(m0, .inr (12, fm)), (ao, .inl (K 0, 60, .inl fao)), (an, .inl (K 0, 480, .inl fan)), (aa, .inl (K 0, 600, .inl faa)), (al, .inl (K 0, 5, .inl u1)), (ah, .inl (K 0, 40, .inl u3)), (ab, .inl (K 0, 50, .inl u5))] := hD
  refine lv_aload_n hx hb dX12_copyTown_32 rfl (lv_at hl 0 rfl) ?_
  refine fn_at 33 rfl ?_
  refine va_get (D := D) (own := RX12) (ci := 12) (v := .ref ao) (C := RX12) (T := TX12) (N := 51) hx hb hts inb_X12 hown hK.1 hP 0 rfl rfl 19 (by decide) (hts _ wd_1253) (fun _ h9 => h9) hm19 dX12_copyTown_33 ?_
  refine lv_bipush (v := 12) hx hb dX12_copyTown_36 (by decide) ?_
  refine lv_iload_n hx hb dX12_copyTown_38 rfl (lv_at hl 1 rfl) ?_
  refine lv_iload_n hx hb dX12_copyTown_39 rfl (lv_at hl 2 rfl) ?_
  refine fn_gov (wc := [(ao, .inl (K 0, 60, .inl fao))]) (wr := [(m0, .inr (12, fm)), (an, .inl (K 0, 480, .inl fan)), (aa, .inl (K 0, 600, .inl faa)), (al, .inl (K 0, 5, .inl u1)), (ah, .inl (K 0, 40, .inl u3)), (ab, .inl (K 0, 50, .inl u5))]) hK hP hD hS hA [1] [0, 2, 3, 4, 5, 6] rfl rfl (by decide) (fun hp => va_runS (As := [.ref ao, .int 12, .int 0, .int 1]) (rest := []) ⟨hx, hb, hml, hown, hts⟩ (c_X12_copyRow (l := l) (D := D) (K := K) (a0 := (ao)) (mn := 12) (ma := 0) (mb := 1) (n := 60) (f := (fao)) (hf := hfao) (hn := (by decide)) (h1 := (by decide)) (h2 := (by decide)) _) (va_cwS 4 hts (fn_ginS (fn_gin wd_1535) wd_1533 wd_1534 wd_13) rfl rfl rfl (by decide +kernel) ⟨Nat.le_of_ble_eq_true rfl, Nat.le_of_ble_eq_true rfl⟩) ⟨fn_blind, hp⟩ rfl rfl hl.1 rfl (lv_room (Nat.le_of_ble_eq_true rfl)) dX12_copyTown_40 ⟨Nat.le_of_ble_eq_true rfl, Nat.le_of_ble_eq_true rfl⟩) (fun u7 H locs hwu7 hP hD hS => ?_)
  have hP : va_P D vwCl [(m0, .inr (12, fm)), (an, .inl (K 0, 480, .inl fan)), (aa, .inl (K 0, 600, .inl faa)), (al, .inl (K 0, 5, .inl u1)), (ah, .inl (K 0, 40, .inl u3)), (ab, .inl (K 0, 50, .inl u5)), (ao, .inl (K 0, 60, .inl u7))] H := hP
  have hD : va_D A [(m0, .inr (12, fm)), (an, .inl (K 0, 480, .inl fan)), (aa, .inl (K 0, 600, .inl faa)), (al, .inl (K 0, 5, .inl u1)), (ah, .inl (K 0, 40, .inl u3)), (ab, .inl (K 0, 50, .inl u5)), (ao, .inl (K 0, 60, .inl u7))] := hD
  refine lv_aload_n hx hb dX12_copyTown_43 rfl (lv_at hl 0 rfl) ?_
  refine va_get (D := D) (own := RX12) (ci := 12) (v := .ref an) (C := RX12) (T := TX12) (N := 51) hx hb hts inb_X12 hown hK.1 hP 0 rfl rfl 20 (by decide) (hts _ wd_1254) (fun _ h9 => h9) hm20 dX12_copyTown_44 ?_
  refine lv_bipush (v := 96) hx hb dX12_copyTown_47 (by decide) ?_
  refine lv_iload_n hx hb dX12_copyTown_49 rfl (lv_at hl 1 rfl) ?_
  refine lv_iload_n hx hb dX12_copyTown_50 rfl (lv_at hl 2 rfl) ?_
  refine fn_gov (wc := [(an, .inl (K 0, 480, .inl fan))]) (wr := [(m0, .inr (12, fm)), (aa, .inl (K 0, 600, .inl faa)), (al, .inl (K 0, 5, .inl u1)), (ah, .inl (K 0, 40, .inl u3)), (ab, .inl (K 0, 50, .inl u5)), (ao, .inl (K 0, 60, .inl u7))]) hK hP hD hS hA [1] [0, 2, 3, 4, 5, 6] rfl rfl (by decide) (fun hp => va_runS (As := [.ref an, .int 96, .int 0, .int 1]) (rest := []) ⟨hx, hb, hml, hown, hts⟩ (c_X12_copyRow (l := l) (D := D) (K := K) (a0 := (an)) (mn := 96) (ma := 0) (mb := 1) (n := 480) (f := (fan)) (hf := hfan) (hn := (by decide)) (h1 := (by decide)) (h2 := (by decide)) _) (va_cwS 4 hts (fn_ginS (fn_gin wd_1535) wd_1533 wd_1534 wd_13) rfl rfl rfl (by decide +kernel) ⟨Nat.le_of_ble_eq_true rfl, Nat.le_of_ble_eq_true rfl⟩) ⟨fn_blind, hp⟩ rfl rfl hl.1 rfl (lv_room (Nat.le_of_ble_eq_true rfl)) dX12_copyTown_51 ⟨Nat.le_of_ble_eq_true rfl, Nat.le_of_ble_eq_true rfl⟩) (fun u9 H locs hwu9 hP hD hS => ?_)
  have hP : va_P D vwCl [(m0, .inr (12, fm)), (aa, .inl (K 0, 600, .inl faa)), (al, .inl (K 0, 5, .inl u1)), (ah, .inl (K 0, 40, .inl u3)), (ab, .inl (K 0, 50, .inl u5)), (ao, .inl (K 0, 60, .inl u7)), (an, .inl (K 0, 480, .inl u9))] H := hP
  have hD : va_D A [(m0, .inr (12, fm)), (aa, .inl (K 0, 600, .inl faa)), (al, .inl (K 0, 5, .inl u1)), (ah, .inl (K 0, 40, .inl u3)), (ab, .inl (K 0, 50, .inl u5)), (ao, .inl (K 0, 60, .inl u7)), (an, .inl (K 0, 480, .inl u9))] := hD
  refine lv_aload_n hx hb dX12_copyTown_54 rfl (lv_at hl 0 rfl) ?_
  refine va_get (D := D) (own := RX12) (ci := 12) (v := .ref aa) (C := RX12) (T := TX12) (N := 51) hx hb hts inb_X12 hown hK.1 hP 0 rfl rfl 21 (by decide) (hts _ wd_1255) (fun _ h9 => h9) hm21 dX12_copyTown_55 ?_
  refine lv_bipush (v := 120) hx hb dX12_copyTown_58 (by decide) ?_
  refine lv_iload_n hx hb dX12_copyTown_60 rfl (lv_at hl 1 rfl) ?_
  refine lv_iload_n hx hb dX12_copyTown_61 rfl (lv_at hl 2 rfl) ?_
  refine fn_gov (wc := [(aa, .inl (K 0, 600, .inl faa))]) (wr := [(m0, .inr (12, fm)), (al, .inl (K 0, 5, .inl u1)), (ah, .inl (K 0, 40, .inl u3)), (ab, .inl (K 0, 50, .inl u5)), (ao, .inl (K 0, 60, .inl u7)), (an, .inl (K 0, 480, .inl u9))]) hK hP hD hS hA [1] [0, 2, 3, 4, 5, 6] rfl rfl (by decide) (fun hp => va_runS (As := [.ref aa, .int 120, .int 0, .int 1]) (rest := []) ⟨hx, hb, hml, hown, hts⟩ (c_X12_copyRow (l := l) (D := D) (K := K) (a0 := (aa)) (mn := 120) (ma := 0) (mb := 1) (n := 600) (f := (faa)) (hf := hfaa) (hn := (by decide)) (h1 := (by decide)) (h2 := (by decide)) _) (va_cwS 4 hts (fn_ginS (fn_gin wd_1535) wd_1533 wd_1534 wd_13) rfl rfl rfl (by decide +kernel) ⟨Nat.le_of_ble_eq_true rfl, Nat.le_of_ble_eq_true rfl⟩) ⟨fn_blind, hp⟩ rfl rfl hl.1 rfl (lv_room (Nat.le_of_ble_eq_true rfl)) dX12_copyTown_62 ⟨Nat.le_of_ble_eq_true rfl, Nat.le_of_ble_eq_true rfl⟩) (fun u11 H locs hwu11 hP hD hS => ?_)
  have hP : va_P D vwCl [(m0, .inr (12, fm)), (al, .inl (K 0, 5, .inl u1)), (ah, .inl (K 0, 40, .inl u3)), (ab, .inl (K 0, 50, .inl u5)), (ao, .inl (K 0, 60, .inl u7)), (an, .inl (K 0, 480, .inl u9)), (aa, .inl (K 0, 600, .inl u11))] H := hP
  have hD : va_D A [(m0, .inr (12, fm)), (al, .inl (K 0, 5, .inl u1)), (ah, .inl (K 0, 40, .inl u3)), (ab, .inl (K 0, 50, .inl u5)), (ao, .inl (K 0, 60, .inl u7)), (an, .inl (K 0, 480, .inl u9)), (aa, .inl (K 0, 600, .inl u11))] := hD
  exact fn_vret hx hb hr hlocks hP hD hS (fun k => ([u1, u3, u5, u7, u9, u11] : List (Nat → Int32)).getD k u1) ⟨hwu1, hwu3, hwu5, hwu7, hwu9, hwu11, trivial⟩ [0, 1, 2, 3, 4, 5, 6] (by decide) rfl dX12_copyTown_65
set_option maxHeartbeats 4000000 in
set_option maxRecDepth 100000 in
theorem c_X12_copyTown_02 (l : Launch) (D : va_G) (K : Nat → ClassId) (m0 al ah ab ao an aa : Nat) (fm : List Value) (hmn : fm.length = 51) (hm16 : fm[16]? = some (.ref al)) (hm17 : fm[17]? = some (.ref ah)) (hm18 : fm[18]? = some (.ref ab)) (hm19 : fm[19]? = some (.ref ao)) (hm20 : fm[20]? = some (.ref an)) (hm21 : fm[21]? = some (.ref aa)) (fal fah fab fao fan faa : Nat → Int32) (hfal : ∀ j, fal j = 0) (hfah : ∀ j, fah j = 0) (hfab : ∀ j, fab j = 0) (hfao : ∀ j, fao j = 0) (hfan : ∀ j, fan j = 0) (hfaa : ∀ j, faa j = 0) : fn_CV (S := Nat → Nat → Int32) l D K yX12_copyTown (fn_ws yX12_copyTown cX12_copyTown 3 none) ({ frames := 8, cells := 0, slots := 0, locals := 200 }) [.ref m0, .int 0, .int 2] [(m0, .inr (12, fm)), (al, .inl (K 0, 5, .inl fal)), (ah, .inl (K 0, 40, .inl fah)), (ab, .inl (K 0, 50, .inl fab)), (ao, .inl (K 0, 60, .inl fao)), (an, .inl (K 0, 480, .inl fan)), (aa, .inl (K 0, 600, .inl faa))] (fun u => (∀ j, u 0 j = 0) ∧ (∀ j, u 1 j = 0) ∧ (∀ j, u 2 j = 0) ∧ (∀ j, u 3 j = 0) ∧ (∀ j, u 4 j = 0) ∧ (∀ j, u 5 j = 0) ∧ True) (fun u => [(m0, .inr (12, fm)), (al, .inl (K 0, 5, .inl (u 0))), (ah, .inl (K 0, 40, .inl (u 1))), (ab, .inl (K 0, 50, .inl (u 2))), (ao, .inl (K 0, 60, .inl (u 3))), (an, .inl (K 0, 480, .inl (u 4))), (aa, .inl (K 0, 600, .inl (u 5)))]) 0 0 := by
  refine fn_inV (cc := cX12_copyTown) (maxL := 3) (ret := none) (by decide) rfl (Nat.le_of_ble_eq_true rfl) ?_
  intro p e s m below meth c A ls B hA hP hD hS hl
  obtain ⟨hx, hb, hr, hml, hts, hown, hlocks, hin, hK⟩ := B
  have hown : s.vm.findClass RX12 = some m.cls := hown
  have hts := fun w h => hts w (List.mem_cons_of_mem _ h)
  have hl : lv_has ls 3 [(0, .ref m0), (1, .int 0), (2, .int 2)] := hl
  refine lv_aload_n hx hb dX12_copyTown_0 rfl (lv_at hl 0 rfl) ?_
  refine va_get (D := D) (own := RX12) (ci := 12) (v := .ref al) (C := RX12) (T := TX12) (N := 51) hx hb hts inb_X12 hown hK.1 hP 0 rfl rfl 16 (by decide) (hts _ wd_1250) (fun _ h9 => h9) hm16 dX12_copyTown_1 ?_
  refine lv_iconst (v := 1) hx hb dX12_copyTown_4 (by decide) ?_
  refine lv_iload_n hx hb dX12_copyTown_5 rfl (lv_at hl 1 rfl) ?_
  refine lv_iload_n hx hb dX12_copyTown_6 rfl (lv_at hl 2 rfl) ?_
  refine fn_gov (wc := [(al, .inl (K 0, 5, .inl fal))]) (wr := [(m0, .inr (12, fm)), (ah, .inl (K 0, 40, .inl fah)), (ab, .inl (K 0, 50, .inl fab)), (ao, .inl (K 0, 60, .inl fao)), (an, .inl (K 0, 480, .inl fan)), (aa, .inl (K 0, 600, .inl faa))]) hK hP hD hS hA [1] [0, 2, 3, 4, 5, 6] rfl rfl (by decide) (fun hp => va_runS (As := [.ref al, .int 1, .int 0, .int 2]) (rest := []) ⟨hx, hb, hml, hown, hts⟩ (c_X12_copyRow (l := l) (D := D) (K := K) (a0 := (al)) (mn := 1) (ma := 0) (mb := 2) (n := 5) (f := (fal)) (hf := hfal) (hn := (by decide)) (h1 := (by decide)) (h2 := (by decide)) _) (va_cwS 4 hts (fn_ginS (fn_gin wd_1535) wd_1533 wd_1534 wd_13) rfl rfl rfl (by decide +kernel) ⟨Nat.le_of_ble_eq_true rfl, Nat.le_of_ble_eq_true rfl⟩) ⟨fn_blind, hp⟩ rfl rfl hl.1 rfl (lv_room (Nat.le_of_ble_eq_true rfl)) dX12_copyTown_7 ⟨Nat.le_of_ble_eq_true rfl, Nat.le_of_ble_eq_true rfl⟩) (fun u1 H locs hwu1 hP hD hS => ?_)
  have hP : va_P D vwCl [(m0, .inr (12, fm)), (ah, .inl (K 0, 40, .inl fah)), (ab, .inl (K 0, 50, .inl fab)), (ao, .inl (K 0, 60, .inl fao)), (an, .inl (K 0, 480, .inl fan)), (aa, .inl (K 0, 600, .inl faa)), (al, .inl (K 0, 5, .inl u1))] H := hP
  have hD : va_D A [(m0, .inr (12, fm)), (ah, .inl (K 0, 40, .inl fah)), (ab, .inl (K 0, 50, .inl fab)), (ao, .inl (K 0, 60, .inl fao)), (an, .inl (K 0, 480, .inl fan)), (aa, .inl (K 0, 600, .inl faa)), (al, .inl (K 0, 5, .inl u1))] := hD
  refine lv_aload_n hx hb dX12_copyTown_10 rfl (lv_at hl 0 rfl) ?_
  refine va_get (D := D) (own := RX12) (ci := 12) (v := .ref ah) (C := RX12) (T := TX12) (N := 51) hx hb hts inb_X12 hown hK.1 hP 0 rfl rfl 17 (by decide) (hts _ wd_1251) (fun _ h9 => h9) hm17 dX12_copyTown_11 ?_
  refine lv_bipush (v := 8) hx hb dX12_copyTown_14 (by decide) ?_
  refine lv_iload_n hx hb dX12_copyTown_16 rfl (lv_at hl 1 rfl) ?_
  refine lv_iload_n hx hb dX12_copyTown_17 rfl (lv_at hl 2 rfl) ?_
  refine fn_gov (wc := [(ah, .inl (K 0, 40, .inl fah))]) (wr := [(m0, .inr (12, fm)), (ab, .inl (K 0, 50, .inl fab)), (ao, .inl (K 0, 60, .inl fao)), (an, .inl (K 0, 480, .inl fan)), (aa, .inl (K 0, 600, .inl faa)), (al, .inl (K 0, 5, .inl u1))]) hK hP hD hS hA [1] [0, 2, 3, 4, 5, 6] rfl rfl (by decide) (fun hp => va_runS (As := [.ref ah, .int 8, .int 0, .int 2]) (rest := []) ⟨hx, hb, hml, hown, hts⟩ (c_X12_copyRow (l := l) (D := D) (K := K) (a0 := (ah)) (mn := 8) (ma := 0) (mb := 2) (n := 40) (f := (fah)) (hf := hfah) (hn := (by decide)) (h1 := (by decide)) (h2 := (by decide)) _) (va_cwS 4 hts (fn_ginS (fn_gin wd_1535) wd_1533 wd_1534 wd_13) rfl rfl rfl (by decide +kernel) ⟨Nat.le_of_ble_eq_true rfl, Nat.le_of_ble_eq_true rfl⟩) ⟨fn_blind, hp⟩ rfl rfl hl.1 rfl (lv_room (Nat.le_of_ble_eq_true rfl)) dX12_copyTown_18 ⟨Nat.le_of_ble_eq_true rfl, Nat.le_of_ble_eq_true rfl⟩) (fun u3 H locs hwu3 hP hD hS => ?_)
  have hP : va_P D vwCl [(m0, .inr (12, fm)), (ab, .inl (K 0, 50, .inl fab)), (ao, .inl (K 0, 60, .inl fao)), (an, .inl (K 0, 480, .inl fan)), (aa, .inl (K 0, 600, .inl faa)), (al, .inl (K 0, 5, .inl u1)), (ah, .inl (K 0, 40, .inl u3))] H := hP
  have hD : va_D A [(m0, .inr (12, fm)), (ab, .inl (K 0, 50, .inl fab)), (ao, .inl (K 0, 60, .inl fao)), (an, .inl (K 0, 480, .inl fan)), (aa, .inl (K 0, 600, .inl faa)), (al, .inl (K 0, 5, .inl u1)), (ah, .inl (K 0, 40, .inl u3))] := hD
  refine lv_aload_n hx hb dX12_copyTown_21 rfl (lv_at hl 0 rfl) ?_
  refine va_get (D := D) (own := RX12) (ci := 12) (v := .ref ab) (C := RX12) (T := TX12) (N := 51) hx hb hts inb_X12 hown hK.1 hP 0 rfl rfl 18 (by decide) (hts _ wd_1252) (fun _ h9 => h9) hm18 dX12_copyTown_22 ?_
  refine lv_bipush (v := 10) hx hb dX12_copyTown_25 (by decide) ?_
  refine lv_iload_n hx hb dX12_copyTown_27 rfl (lv_at hl 1 rfl) ?_
  refine lv_iload_n hx hb dX12_copyTown_28 rfl (lv_at hl 2 rfl) ?_
  refine fn_gov (wc := [(ab, .inl (K 0, 50, .inl fab))]) (wr := [(m0, .inr (12, fm)), (ao, .inl (K 0, 60, .inl fao)), (an, .inl (K 0, 480, .inl fan)), (aa, .inl (K 0, 600, .inl faa)), (al, .inl (K 0, 5, .inl u1)), (ah, .inl (K 0, 40, .inl u3))]) hK hP hD hS hA [1] [0, 2, 3, 4, 5, 6] rfl rfl (by decide) (fun hp => va_runS (As := [.ref ab, .int 10, .int 0, .int 2]) (rest := []) ⟨hx, hb, hml, hown, hts⟩ (c_X12_copyRow (l := l) (D := D) (K := K) (a0 := (ab)) (mn := 10) (ma := 0) (mb := 2) (n := 50) (f := (fab)) (hf := hfab) (hn := (by decide)) (h1 := (by decide)) (h2 := (by decide)) _) (va_cwS 4 hts (fn_ginS (fn_gin wd_1535) wd_1533 wd_1534 wd_13) rfl rfl rfl (by decide +kernel) ⟨Nat.le_of_ble_eq_true rfl, Nat.le_of_ble_eq_true rfl⟩) ⟨fn_blind, hp⟩ rfl rfl hl.1 rfl (lv_room (Nat.le_of_ble_eq_true rfl)) dX12_copyTown_29 ⟨Nat.le_of_ble_eq_true rfl, Nat.le_of_ble_eq_true rfl⟩) (fun u5 H locs hwu5 hP hD hS => ?_)
  have hP : va_P D vwCl [(m0, .inr (12, fm)), (ao, .inl (K 0, 60, .inl fao)), (an, .inl (K 0, 480, .inl fan)), (aa, .inl (K 0, 600, .inl faa)), (al, .inl (K 0, 5, .inl u1)), (ah, .inl (K 0, 40, .inl u3)), (ab, .inl (K 0, 50, .inl u5))] H := hP
  have hD : va_D A [(m0, .inr (12, fm)), (ao, .inl (K 0, 60, .inl fao)), (an, .inl (K 0, 480, .inl fan)), (aa, .inl (K 0, 600, .inl faa)), (al, .inl (K 0, 5, .inl u1)), (ah, .inl (K 0, 40, .inl u3)), (ab, .inl (K 0, 50, .inl u5))] := hD
  refine lv_aload_n hx hb dX12_copyTown_32 rfl (lv_at hl 0 rfl) ?_
  refine fn_at 33 rfl ?_
  refine va_get (D := D) (own := RX12) (ci := 12) (v := .ref ao) (C := RX12) (T := TX12) (N := 51) hx hb hts inb_X12 hown hK.1 hP 0 rfl rfl 19 (by decide) (hts _ wd_1253) (fun _ h9 => h9) hm19 dX12_copyTown_33 ?_
  refine lv_bipush (v := 12) hx hb dX12_copyTown_36 (by decide) ?_
  refine lv_iload_n hx hb dX12_copyTown_38 rfl (lv_at hl 1 rfl) ?_
  refine lv_iload_n hx hb dX12_copyTown_39 rfl (lv_at hl 2 rfl) ?_
  refine fn_gov (wc := [(ao, .inl (K 0, 60, .inl fao))]) (wr := [(m0, .inr (12, fm)), (an, .inl (K 0, 480, .inl fan)), (aa, .inl (K 0, 600, .inl faa)), (al, .inl (K 0, 5, .inl u1)), (ah, .inl (K 0, 40, .inl u3)), (ab, .inl (K 0, 50, .inl u5))]) hK hP hD hS hA [1] [0, 2, 3, 4, 5, 6] rfl rfl (by decide) (fun hp => va_runS (As := [.ref ao, .int 12, .int 0, .int 2]) (rest := []) ⟨hx, hb, hml, hown, hts⟩ (c_X12_copyRow (l := l) (D := D) (K := K) (a0 := (ao)) (mn := 12) (ma := 0) (mb := 2) (n := 60) (f := (fao)) (hf := hfao) (hn := (by decide)) (h1 := (by decide)) (h2 := (by decide)) _) (va_cwS 4 hts (fn_ginS (fn_gin wd_1535) wd_1533 wd_1534 wd_13) rfl rfl rfl (by decide +kernel) ⟨Nat.le_of_ble_eq_true rfl, Nat.le_of_ble_eq_true rfl⟩) ⟨fn_blind, hp⟩ rfl rfl hl.1 rfl (lv_room (Nat.le_of_ble_eq_true rfl)) dX12_copyTown_40 ⟨Nat.le_of_ble_eq_true rfl, Nat.le_of_ble_eq_true rfl⟩) (fun u7 H locs hwu7 hP hD hS => ?_)
  have hP : va_P D vwCl [(m0, .inr (12, fm)), (an, .inl (K 0, 480, .inl fan)), (aa, .inl (K 0, 600, .inl faa)), (al, .inl (K 0, 5, .inl u1)), (ah, .inl (K 0, 40, .inl u3)), (ab, .inl (K 0, 50, .inl u5)), (ao, .inl (K 0, 60, .inl u7))] H := hP
  have hD : va_D A [(m0, .inr (12, fm)), (an, .inl (K 0, 480, .inl fan)), (aa, .inl (K 0, 600, .inl faa)), (al, .inl (K 0, 5, .inl u1)), (ah, .inl (K 0, 40, .inl u3)), (ab, .inl (K 0, 50, .inl u5)), (ao, .inl (K 0, 60, .inl u7))] := hD
  refine lv_aload_n hx hb dX12_copyTown_43 rfl (lv_at hl 0 rfl) ?_
  refine va_get (D := D) (own := RX12) (ci := 12) (v := .ref an) (C := RX12) (T := TX12) (N := 51) hx hb hts inb_X12 hown hK.1 hP 0 rfl rfl 20 (by decide) (hts _ wd_1254) (fun _ h9 => h9) hm20 dX12_copyTown_44 ?_
  refine lv_bipush (v := 96) hx hb dX12_copyTown_47 (by decide) ?_
  refine lv_iload_n hx hb dX12_copyTown_49 rfl (lv_at hl 1 rfl) ?_
  refine lv_iload_n hx hb dX12_copyTown_50 rfl (lv_at hl 2 rfl) ?_
  refine fn_gov (wc := [(an, .inl (K 0, 480, .inl fan))]) (wr := [(m0, .inr (12, fm)), (aa, .inl (K 0, 600, .inl faa)), (al, .inl (K 0, 5, .inl u1)), (ah, .inl (K 0, 40, .inl u3)), (ab, .inl (K 0, 50, .inl u5)), (ao, .inl (K 0, 60, .inl u7))]) hK hP hD hS hA [1] [0, 2, 3, 4, 5, 6] rfl rfl (by decide) (fun hp => va_runS (As := [.ref an, .int 96, .int 0, .int 2]) (rest := []) ⟨hx, hb, hml, hown, hts⟩ (c_X12_copyRow (l := l) (D := D) (K := K) (a0 := (an)) (mn := 96) (ma := 0) (mb := 2) (n := 480) (f := (fan)) (hf := hfan) (hn := (by decide)) (h1 := (by decide)) (h2 := (by decide)) _) (va_cwS 4 hts (fn_ginS (fn_gin wd_1535) wd_1533 wd_1534 wd_13) rfl rfl rfl (by decide +kernel) ⟨Nat.le_of_ble_eq_true rfl, Nat.le_of_ble_eq_true rfl⟩) ⟨fn_blind, hp⟩ rfl rfl hl.1 rfl (lv_room (Nat.le_of_ble_eq_true rfl)) dX12_copyTown_51 ⟨Nat.le_of_ble_eq_true rfl, Nat.le_of_ble_eq_true rfl⟩) (fun u9 H locs hwu9 hP hD hS => ?_)
  have hP : va_P D vwCl [(m0, .inr (12, fm)), (aa, .inl (K 0, 600, .inl faa)), (al, .inl (K 0, 5, .inl u1)), (ah, .inl (K 0, 40, .inl u3)), (ab, .inl (K 0, 50, .inl u5)), (ao, .inl (K 0, 60, .inl u7)), (an, .inl (K 0, 480, .inl u9))] H := hP
  have hD : va_D A [(m0, .inr (12, fm)), (aa, .inl (K 0, 600, .inl faa)), (al, .inl (K 0, 5, .inl u1)), (ah, .inl (K 0, 40, .inl u3)), (ab, .inl (K 0, 50, .inl u5)), (ao, .inl (K 0, 60, .inl u7)), (an, .inl (K 0, 480, .inl u9))] := hD
  refine lv_aload_n hx hb dX12_copyTown_54 rfl (lv_at hl 0 rfl) ?_
  refine va_get (D := D) (own := RX12) (ci := 12) (v := .ref aa) (C := RX12) (T := TX12) (N := 51) hx hb hts inb_X12 hown hK.1 hP 0 rfl rfl 21 (by decide) (hts _ wd_1255) (fun _ h9 => h9) hm21 dX12_copyTown_55 ?_
  refine lv_bipush (v := 120) hx hb dX12_copyTown_58 (by decide) ?_
  refine lv_iload_n hx hb dX12_copyTown_60 rfl (lv_at hl 1 rfl) ?_
  refine lv_iload_n hx hb dX12_copyTown_61 rfl (lv_at hl 2 rfl) ?_
  refine fn_gov (wc := [(aa, .inl (K 0, 600, .inl faa))]) (wr := [(m0, .inr (12, fm)), (al, .inl (K 0, 5, .inl u1)), (ah, .inl (K 0, 40, .inl u3)), (ab, .inl (K 0, 50, .inl u5)), (ao, .inl (K 0, 60, .inl u7)), (an, .inl (K 0, 480, .inl u9))]) hK hP hD hS hA [1] [0, 2, 3, 4, 5, 6] rfl rfl (by decide) (fun hp => va_runS (As := [.ref aa, .int 120, .int 0, .int 2]) (rest := []) ⟨hx, hb, hml, hown, hts⟩ (c_X12_copyRow (l := l) (D := D) (K := K) (a0 := (aa)) (mn := 120) (ma := 0) (mb := 2) (n := 600) (f := (faa)) (hf := hfaa) (hn := (by decide)) (h1 := (by decide)) (h2 := (by decide)) _) (va_cwS 4 hts (fn_ginS (fn_gin wd_1535) wd_1533 wd_1534 wd_13) rfl rfl rfl (by decide +kernel) ⟨Nat.le_of_ble_eq_true rfl, Nat.le_of_ble_eq_true rfl⟩) ⟨fn_blind, hp⟩ rfl rfl hl.1 rfl (lv_room (Nat.le_of_ble_eq_true rfl)) dX12_copyTown_62 ⟨Nat.le_of_ble_eq_true rfl, Nat.le_of_ble_eq_true rfl⟩) (fun u11 H locs hwu11 hP hD hS => ?_)
  have hP : va_P D vwCl [(m0, .inr (12, fm)), (al, .inl (K 0, 5, .inl u1)), (ah, .inl (K 0, 40, .inl u3)), (ab, .inl (K 0, 50, .inl u5)), (ao, .inl (K 0, 60, .inl u7)), (an, .inl (K 0, 480, .inl u9)), (aa, .inl (K 0, 600, .inl u11))] H := hP
  have hD : va_D A [(m0, .inr (12, fm)), (al, .inl (K 0, 5, .inl u1)), (ah, .inl (K 0, 40, .inl u3)), (ab, .inl (K 0, 50, .inl u5)), (ao, .inl (K 0, 60, .inl u7)), (an, .inl (K 0, 480, .inl u9)), (aa, .inl (K 0, 600, .inl u11))] := hD
  exact fn_vret hx hb hr hlocks hP hD hS (fun k => ([u1, u3, u5, u7, u9, u11] : List (Nat → Int32)).getD k u1) ⟨hwu1, hwu3, hwu5, hwu7, hwu9, hwu11, trivial⟩ [0, 1, 2, 3, 4, 5, 6] (by decide) rfl dX12_copyTown_65
set_option maxHeartbeats 4000000 in
set_option maxRecDepth 100000 in
theorem c_X12_copyTown_03 (l : Launch) (D : va_G) (K : Nat → ClassId) (m0 al ah ab ao an aa : Nat) (fm : List Value) (hmn : fm.length = 51) (hm16 : fm[16]? = some (.ref al)) (hm17 : fm[17]? = some (.ref ah)) (hm18 : fm[18]? = some (.ref ab)) (hm19 : fm[19]? = some (.ref ao)) (hm20 : fm[20]? = some (.ref an)) (hm21 : fm[21]? = some (.ref aa)) (fal fah fab fao fan faa : Nat → Int32) (hfal : ∀ j, fal j = 0) (hfah : ∀ j, fah j = 0) (hfab : ∀ j, fab j = 0) (hfao : ∀ j, fao j = 0) (hfan : ∀ j, fan j = 0) (hfaa : ∀ j, faa j = 0) : fn_CV (S := Nat → Nat → Int32) l D K yX12_copyTown (fn_ws yX12_copyTown cX12_copyTown 3 none) ({ frames := 8, cells := 0, slots := 0, locals := 200 }) [.ref m0, .int 0, .int 3] [(m0, .inr (12, fm)), (al, .inl (K 0, 5, .inl fal)), (ah, .inl (K 0, 40, .inl fah)), (ab, .inl (K 0, 50, .inl fab)), (ao, .inl (K 0, 60, .inl fao)), (an, .inl (K 0, 480, .inl fan)), (aa, .inl (K 0, 600, .inl faa))] (fun u => (∀ j, u 0 j = 0) ∧ (∀ j, u 1 j = 0) ∧ (∀ j, u 2 j = 0) ∧ (∀ j, u 3 j = 0) ∧ (∀ j, u 4 j = 0) ∧ (∀ j, u 5 j = 0) ∧ True) (fun u => [(m0, .inr (12, fm)), (al, .inl (K 0, 5, .inl (u 0))), (ah, .inl (K 0, 40, .inl (u 1))), (ab, .inl (K 0, 50, .inl (u 2))), (ao, .inl (K 0, 60, .inl (u 3))), (an, .inl (K 0, 480, .inl (u 4))), (aa, .inl (K 0, 600, .inl (u 5)))]) 0 0 := by
  refine fn_inV (cc := cX12_copyTown) (maxL := 3) (ret := none) (by decide) rfl (Nat.le_of_ble_eq_true rfl) ?_
  intro p e s m below meth c A ls B hA hP hD hS hl
  obtain ⟨hx, hb, hr, hml, hts, hown, hlocks, hin, hK⟩ := B
  have hown : s.vm.findClass RX12 = some m.cls := hown
  have hts := fun w h => hts w (List.mem_cons_of_mem _ h)
  have hl : lv_has ls 3 [(0, .ref m0), (1, .int 0), (2, .int 3)] := hl
  refine lv_aload_n hx hb dX12_copyTown_0 rfl (lv_at hl 0 rfl) ?_
  refine va_get (D := D) (own := RX12) (ci := 12) (v := .ref al) (C := RX12) (T := TX12) (N := 51) hx hb hts inb_X12 hown hK.1 hP 0 rfl rfl 16 (by decide) (hts _ wd_1250) (fun _ h9 => h9) hm16 dX12_copyTown_1 ?_
  refine lv_iconst (v := 1) hx hb dX12_copyTown_4 (by decide) ?_
  refine lv_iload_n hx hb dX12_copyTown_5 rfl (lv_at hl 1 rfl) ?_
  refine lv_iload_n hx hb dX12_copyTown_6 rfl (lv_at hl 2 rfl) ?_
  refine fn_gov (wc := [(al, .inl (K 0, 5, .inl fal))]) (wr := [(m0, .inr (12, fm)), (ah, .inl (K 0, 40, .inl fah)), (ab, .inl (K 0, 50, .inl fab)), (ao, .inl (K 0, 60, .inl fao)), (an, .inl (K 0, 480, .inl fan)), (aa, .inl (K 0, 600, .inl faa))]) hK hP hD hS hA [1] [0, 2, 3, 4, 5, 6] rfl rfl (by decide) (fun hp => va_runS (As := [.ref al, .int 1, .int 0, .int 3]) (rest := []) ⟨hx, hb, hml, hown, hts⟩ (c_X12_copyRow (l := l) (D := D) (K := K) (a0 := (al)) (mn := 1) (ma := 0) (mb := 3) (n := 5) (f := (fal)) (hf := hfal) (hn := (by decide)) (h1 := (by decide)) (h2 := (by decide)) _) (va_cwS 4 hts (fn_ginS (fn_gin wd_1535) wd_1533 wd_1534 wd_13) rfl rfl rfl (by decide +kernel) ⟨Nat.le_of_ble_eq_true rfl, Nat.le_of_ble_eq_true rfl⟩) ⟨fn_blind, hp⟩ rfl rfl hl.1 rfl (lv_room (Nat.le_of_ble_eq_true rfl)) dX12_copyTown_7 ⟨Nat.le_of_ble_eq_true rfl, Nat.le_of_ble_eq_true rfl⟩) (fun u1 H locs hwu1 hP hD hS => ?_)
  have hP : va_P D vwCl [(m0, .inr (12, fm)), (ah, .inl (K 0, 40, .inl fah)), (ab, .inl (K 0, 50, .inl fab)), (ao, .inl (K 0, 60, .inl fao)), (an, .inl (K 0, 480, .inl fan)), (aa, .inl (K 0, 600, .inl faa)), (al, .inl (K 0, 5, .inl u1))] H := hP
  have hD : va_D A [(m0, .inr (12, fm)), (ah, .inl (K 0, 40, .inl fah)), (ab, .inl (K 0, 50, .inl fab)), (ao, .inl (K 0, 60, .inl fao)), (an, .inl (K 0, 480, .inl fan)), (aa, .inl (K 0, 600, .inl faa)), (al, .inl (K 0, 5, .inl u1))] := hD
  refine lv_aload_n hx hb dX12_copyTown_10 rfl (lv_at hl 0 rfl) ?_
  refine va_get (D := D) (own := RX12) (ci := 12) (v := .ref ah) (C := RX12) (T := TX12) (N := 51) hx hb hts inb_X12 hown hK.1 hP 0 rfl rfl 17 (by decide) (hts _ wd_1251) (fun _ h9 => h9) hm17 dX12_copyTown_11 ?_
  refine lv_bipush (v := 8) hx hb dX12_copyTown_14 (by decide) ?_
  refine lv_iload_n hx hb dX12_copyTown_16 rfl (lv_at hl 1 rfl) ?_
  refine lv_iload_n hx hb dX12_copyTown_17 rfl (lv_at hl 2 rfl) ?_
  refine fn_gov (wc := [(ah, .inl (K 0, 40, .inl fah))]) (wr := [(m0, .inr (12, fm)), (ab, .inl (K 0, 50, .inl fab)), (ao, .inl (K 0, 60, .inl fao)), (an, .inl (K 0, 480, .inl fan)), (aa, .inl (K 0, 600, .inl faa)), (al, .inl (K 0, 5, .inl u1))]) hK hP hD hS hA [1] [0, 2, 3, 4, 5, 6] rfl rfl (by decide) (fun hp => va_runS (As := [.ref ah, .int 8, .int 0, .int 3]) (rest := []) ⟨hx, hb, hml, hown, hts⟩ (c_X12_copyRow (l := l) (D := D) (K := K) (a0 := (ah)) (mn := 8) (ma := 0) (mb := 3) (n := 40) (f := (fah)) (hf := hfah) (hn := (by decide)) (h1 := (by decide)) (h2 := (by decide)) _) (va_cwS 4 hts (fn_ginS (fn_gin wd_1535) wd_1533 wd_1534 wd_13) rfl rfl rfl (by decide +kernel) ⟨Nat.le_of_ble_eq_true rfl, Nat.le_of_ble_eq_true rfl⟩) ⟨fn_blind, hp⟩ rfl rfl hl.1 rfl (lv_room (Nat.le_of_ble_eq_true rfl)) dX12_copyTown_18 ⟨Nat.le_of_ble_eq_true rfl, Nat.le_of_ble_eq_true rfl⟩) (fun u3 H locs hwu3 hP hD hS => ?_)
  have hP : va_P D vwCl [(m0, .inr (12, fm)), (ab, .inl (K 0, 50, .inl fab)), (ao, .inl (K 0, 60, .inl fao)), (an, .inl (K 0, 480, .inl fan)), (aa, .inl (K 0, 600, .inl faa)), (al, .inl (K 0, 5, .inl u1)), (ah, .inl (K 0, 40, .inl u3))] H := hP
  have hD : va_D A [(m0, .inr (12, fm)), (ab, .inl (K 0, 50, .inl fab)), (ao, .inl (K 0, 60, .inl fao)), (an, .inl (K 0, 480, .inl fan)), (aa, .inl (K 0, 600, .inl faa)), (al, .inl (K 0, 5, .inl u1)), (ah, .inl (K 0, 40, .inl u3))] := hD
  refine lv_aload_n hx hb dX12_copyTown_21 rfl (lv_at hl 0 rfl) ?_
  refine va_get (D := D) (own := RX12) (ci := 12) (v := .ref ab) (C := RX12) (T := TX12) (N := 51) hx hb hts inb_X12 hown hK.1 hP 0 rfl rfl 18 (by decide) (hts _ wd_1252) (fun _ h9 => h9) hm18 dX12_copyTown_22 ?_
  refine lv_bipush (v := 10) hx hb dX12_copyTown_25 (by decide) ?_
  refine lv_iload_n hx hb dX12_copyTown_27 rfl (lv_at hl 1 rfl) ?_
  refine lv_iload_n hx hb dX12_copyTown_28 rfl (lv_at hl 2 rfl) ?_
  refine fn_gov (wc := [(ab, .inl (K 0, 50, .inl fab))]) (wr := [(m0, .inr (12, fm)), (ao, .inl (K 0, 60, .inl fao)), (an, .inl (K 0, 480, .inl fan)), (aa, .inl (K 0, 600, .inl faa)), (al, .inl (K 0, 5, .inl u1)), (ah, .inl (K 0, 40, .inl u3))]) hK hP hD hS hA [1] [0, 2, 3, 4, 5, 6] rfl rfl (by decide) (fun hp => va_runS (As := [.ref ab, .int 10, .int 0, .int 3]) (rest := []) ⟨hx, hb, hml, hown, hts⟩ (c_X12_copyRow (l := l) (D := D) (K := K) (a0 := (ab)) (mn := 10) (ma := 0) (mb := 3) (n := 50) (f := (fab)) (hf := hfab) (hn := (by decide)) (h1 := (by decide)) (h2 := (by decide)) _) (va_cwS 4 hts (fn_ginS (fn_gin wd_1535) wd_1533 wd_1534 wd_13) rfl rfl rfl (by decide +kernel) ⟨Nat.le_of_ble_eq_true rfl, Nat.le_of_ble_eq_true rfl⟩) ⟨fn_blind, hp⟩ rfl rfl hl.1 rfl (lv_room (Nat.le_of_ble_eq_true rfl)) dX12_copyTown_29 ⟨Nat.le_of_ble_eq_true rfl, Nat.le_of_ble_eq_true rfl⟩) (fun u5 H locs hwu5 hP hD hS => ?_)
  have hP : va_P D vwCl [(m0, .inr (12, fm)), (ao, .inl (K 0, 60, .inl fao)), (an, .inl (K 0, 480, .inl fan)), (aa, .inl (K 0, 600, .inl faa)), (al, .inl (K 0, 5, .inl u1)), (ah, .inl (K 0, 40, .inl u3)), (ab, .inl (K 0, 50, .inl u5))] H := hP
  have hD : va_D A [(m0, .inr (12, fm)), (ao, .inl (K 0, 60, .inl fao)), (an, .inl (K 0, 480, .inl fan)), (aa, .inl (K 0, 600, .inl faa)), (al, .inl (K 0, 5, .inl u1)), (ah, .inl (K 0, 40, .inl u3)), (ab, .inl (K 0, 50, .inl u5))] := hD
  refine lv_aload_n hx hb dX12_copyTown_32 rfl (lv_at hl 0 rfl) ?_
  refine fn_at 33 rfl ?_
  refine va_get (D := D) (own := RX12) (ci := 12) (v := .ref ao) (C := RX12) (T := TX12) (N := 51) hx hb hts inb_X12 hown hK.1 hP 0 rfl rfl 19 (by decide) (hts _ wd_1253) (fun _ h9 => h9) hm19 dX12_copyTown_33 ?_
  refine lv_bipush (v := 12) hx hb dX12_copyTown_36 (by decide) ?_
  refine lv_iload_n hx hb dX12_copyTown_38 rfl (lv_at hl 1 rfl) ?_
  refine lv_iload_n hx hb dX12_copyTown_39 rfl (lv_at hl 2 rfl) ?_
  refine fn_gov (wc := [(ao, .inl (K 0, 60, .inl fao))]) (wr := [(m0, .inr (12, fm)), (an, .inl (K 0, 480, .inl fan)), (aa, .inl (K 0, 600, .inl faa)), (al, .inl (K 0, 5, .inl u1)), (ah, .inl (K 0, 40, .inl u3)), (ab, .inl (K 0, 50, .inl u5))]) hK hP hD hS hA [1] [0, 2, 3, 4, 5, 6] rfl rfl (by decide) (fun hp => va_runS (As := [.ref ao, .int 12, .int 0, .int 3]) (rest := []) ⟨hx, hb, hml, hown, hts⟩ (c_X12_copyRow (l := l) (D := D) (K := K) (a0 := (ao)) (mn := 12) (ma := 0) (mb := 3) (n := 60) (f := (fao)) (hf := hfao) (hn := (by decide)) (h1 := (by decide)) (h2 := (by decide)) _) (va_cwS 4 hts (fn_ginS (fn_gin wd_1535) wd_1533 wd_1534 wd_13) rfl rfl rfl (by decide +kernel) ⟨Nat.le_of_ble_eq_true rfl, Nat.le_of_ble_eq_true rfl⟩) ⟨fn_blind, hp⟩ rfl rfl hl.1 rfl (lv_room (Nat.le_of_ble_eq_true rfl)) dX12_copyTown_40 ⟨Nat.le_of_ble_eq_true rfl, Nat.le_of_ble_eq_true rfl⟩) (fun u7 H locs hwu7 hP hD hS => ?_)
  have hP : va_P D vwCl [(m0, .inr (12, fm)), (an, .inl (K 0, 480, .inl fan)), (aa, .inl (K 0, 600, .inl faa)), (al, .inl (K 0, 5, .inl u1)), (ah, .inl (K 0, 40, .inl u3)), (ab, .inl (K 0, 50, .inl u5)), (ao, .inl (K 0, 60, .inl u7))] H := hP
  have hD : va_D A [(m0, .inr (12, fm)), (an, .inl (K 0, 480, .inl fan)), (aa, .inl (K 0, 600, .inl faa)), (al, .inl (K 0, 5, .inl u1)), (ah, .inl (K 0, 40, .inl u3)), (ab, .inl (K 0, 50, .inl u5)), (ao, .inl (K 0, 60, .inl u7))] := hD
  refine lv_aload_n hx hb dX12_copyTown_43 rfl (lv_at hl 0 rfl) ?_
  refine va_get (D := D) (own := RX12) (ci := 12) (v := .ref an) (C := RX12) (T := TX12) (N := 51) hx hb hts inb_X12 hown hK.1 hP 0 rfl rfl 20 (by decide) (hts _ wd_1254) (fun _ h9 => h9) hm20 dX12_copyTown_44 ?_
  refine lv_bipush (v := 96) hx hb dX12_copyTown_47 (by decide) ?_
  refine lv_iload_n hx hb dX12_copyTown_49 rfl (lv_at hl 1 rfl) ?_
  refine lv_iload_n hx hb dX12_copyTown_50 rfl (lv_at hl 2 rfl) ?_
  refine fn_gov (wc := [(an, .inl (K 0, 480, .inl fan))]) (wr := [(m0, .inr (12, fm)), (aa, .inl (K 0, 600, .inl faa)), (al, .inl (K 0, 5, .inl u1)), (ah, .inl (K 0, 40, .inl u3)), (ab, .inl (K 0, 50, .inl u5)), (ao, .inl (K 0, 60, .inl u7))]) hK hP hD hS hA [1] [0, 2, 3, 4, 5, 6] rfl rfl (by decide) (fun hp => va_runS (As := [.ref an, .int 96, .int 0, .int 3]) (rest := []) ⟨hx, hb, hml, hown, hts⟩ (c_X12_copyRow (l := l) (D := D) (K := K) (a0 := (an)) (mn := 96) (ma := 0) (mb := 3) (n := 480) (f := (fan)) (hf := hfan) (hn := (by decide)) (h1 := (by decide)) (h2 := (by decide)) _) (va_cwS 4 hts (fn_ginS (fn_gin wd_1535) wd_1533 wd_1534 wd_13) rfl rfl rfl (by decide +kernel) ⟨Nat.le_of_ble_eq_true rfl, Nat.le_of_ble_eq_true rfl⟩) ⟨fn_blind, hp⟩ rfl rfl hl.1 rfl (lv_room (Nat.le_of_ble_eq_true rfl)) dX12_copyTown_51 ⟨Nat.le_of_ble_eq_true rfl, Nat.le_of_ble_eq_true rfl⟩) (fun u9 H locs hwu9 hP hD hS => ?_)
  have hP : va_P D vwCl [(m0, .inr (12, fm)), (aa, .inl (K 0, 600, .inl faa)), (al, .inl (K 0, 5, .inl u1)), (ah, .inl (K 0, 40, .inl u3)), (ab, .inl (K 0, 50, .inl u5)), (ao, .inl (K 0, 60, .inl u7)), (an, .inl (K 0, 480, .inl u9))] H := hP
  have hD : va_D A [(m0, .inr (12, fm)), (aa, .inl (K 0, 600, .inl faa)), (al, .inl (K 0, 5, .inl u1)), (ah, .inl (K 0, 40, .inl u3)), (ab, .inl (K 0, 50, .inl u5)), (ao, .inl (K 0, 60, .inl u7)), (an, .inl (K 0, 480, .inl u9))] := hD
  refine lv_aload_n hx hb dX12_copyTown_54 rfl (lv_at hl 0 rfl) ?_
  refine va_get (D := D) (own := RX12) (ci := 12) (v := .ref aa) (C := RX12) (T := TX12) (N := 51) hx hb hts inb_X12 hown hK.1 hP 0 rfl rfl 21 (by decide) (hts _ wd_1255) (fun _ h9 => h9) hm21 dX12_copyTown_55 ?_
  refine lv_bipush (v := 120) hx hb dX12_copyTown_58 (by decide) ?_
  refine lv_iload_n hx hb dX12_copyTown_60 rfl (lv_at hl 1 rfl) ?_
  refine lv_iload_n hx hb dX12_copyTown_61 rfl (lv_at hl 2 rfl) ?_
  refine fn_gov (wc := [(aa, .inl (K 0, 600, .inl faa))]) (wr := [(m0, .inr (12, fm)), (al, .inl (K 0, 5, .inl u1)), (ah, .inl (K 0, 40, .inl u3)), (ab, .inl (K 0, 50, .inl u5)), (ao, .inl (K 0, 60, .inl u7)), (an, .inl (K 0, 480, .inl u9))]) hK hP hD hS hA [1] [0, 2, 3, 4, 5, 6] rfl rfl (by decide) (fun hp => va_runS (As := [.ref aa, .int 120, .int 0, .int 3]) (rest := []) ⟨hx, hb, hml, hown, hts⟩ (c_X12_copyRow (l := l) (D := D) (K := K) (a0 := (aa)) (mn := 120) (ma := 0) (mb := 3) (n := 600) (f := (faa)) (hf := hfaa) (hn := (by decide)) (h1 := (by decide)) (h2 := (by decide)) _) (va_cwS 4 hts (fn_ginS (fn_gin wd_1535) wd_1533 wd_1534 wd_13) rfl rfl rfl (by decide +kernel) ⟨Nat.le_of_ble_eq_true rfl, Nat.le_of_ble_eq_true rfl⟩) ⟨fn_blind, hp⟩ rfl rfl hl.1 rfl (lv_room (Nat.le_of_ble_eq_true rfl)) dX12_copyTown_62 ⟨Nat.le_of_ble_eq_true rfl, Nat.le_of_ble_eq_true rfl⟩) (fun u11 H locs hwu11 hP hD hS => ?_)
  have hP : va_P D vwCl [(m0, .inr (12, fm)), (al, .inl (K 0, 5, .inl u1)), (ah, .inl (K 0, 40, .inl u3)), (ab, .inl (K 0, 50, .inl u5)), (ao, .inl (K 0, 60, .inl u7)), (an, .inl (K 0, 480, .inl u9)), (aa, .inl (K 0, 600, .inl u11))] H := hP
  have hD : va_D A [(m0, .inr (12, fm)), (al, .inl (K 0, 5, .inl u1)), (ah, .inl (K 0, 40, .inl u3)), (ab, .inl (K 0, 50, .inl u5)), (ao, .inl (K 0, 60, .inl u7)), (an, .inl (K 0, 480, .inl u9)), (aa, .inl (K 0, 600, .inl u11))] := hD
  exact fn_vret hx hb hr hlocks hP hD hS (fun k => ([u1, u3, u5, u7, u9, u11] : List (Nat → Int32)).getD k u1) ⟨hwu1, hwu3, hwu5, hwu7, hwu9, hwu11, trivial⟩ [0, 1, 2, 3, 4, 5, 6] (by decide) rfl dX12_copyTown_65
theorem dX12_town_0 : decode cX12_town 0 = .ok (.aload_n 0, 1) := by decide +kernel
theorem dX12_town_1 : decode cX12_town 1 = .ok (.iconst 0, 1) := by decide +kernel
theorem dX12_town_2 : decode cX12_town 2 = .ok (.putfield 104, 3) := by decide +kernel
theorem dX12_town_5 : decode cX12_town 5 = .ok (.aload_n 0, 1) := by decide +kernel
theorem dX12_town_6 : decode cX12_town 6 = .ok (.invokevirtual 234, 3) := by decide +kernel
theorem dX12_town_9 : decode cX12_town 9 = .ok (.aload_n 0, 1) := by decide +kernel
theorem dX12_town_10 : decode cX12_town 10 = .ok (.invokevirtual 237, 3) := by decide +kernel
theorem dX12_town_13 : decode cX12_town 13 = .ok (.aload_n 0, 1) := by decide +kernel
theorem dX12_town_14 : decode cX12_town 14 = .ok (.invokevirtual 225, 3) := by decide +kernel
theorem dX12_town_17 : decode cX12_town 17 = .ok (.ifCond .eq 87, 3) := by decide +kernel
theorem dX12_town_20 : decode cX12_town 20 = .ok (.aload_n 0, 1) := by decide +kernel
theorem dX12_town_21 : decode cX12_town 21 = .ok (.getfield 145, 3) := by decide +kernel
theorem dX12_town_24 : decode cX12_town 24 = .ok (.ifCond .eq 80, 3) := by decide +kernel
theorem dX12_town_104 : decode cX12_town 104 = .ok (.aload_n 0, 1) := by decide +kernel
theorem dX12_town_105 : decode cX12_town 105 = .ok (.invokevirtual 252, 3) := by decide +kernel
theorem dX12_town_108 : decode cX12_town 108 = .ok (.aload_n 0, 1) := by decide +kernel
theorem dX12_town_109 : decode cX12_town 109 = .ok (.getfield 156, 3) := by decide +kernel
theorem dX12_town_112 : decode cX12_town 112 = .ok (.ifCond .eq 6, 3) := by decide +kernel
theorem dX12_town_118 : decode cX12_town 118 = .ok (.aload_n 0, 1) := by decide +kernel
theorem dX12_town_119 : decode cX12_town 119 = .ok (.iconst 4, 1) := by decide +kernel
theorem dX12_town_120 : decode cX12_town 120 = .ok (.iconst 0, 1) := by decide +kernel
theorem dX12_town_121 : decode cX12_town 121 = .ok (.invokevirtual 255, 3) := by decide +kernel
theorem dX12_town_124 : decode cX12_town 124 = .ok (.aload_n 0, 1) := by decide +kernel
theorem dX12_town_125 : decode cX12_town 125 = .ok (.getfield 31, 3) := by decide +kernel
theorem dX12_town_128 : decode cX12_town 128 = .ok (.iconst 0, 1) := by decide +kernel
theorem dX12_town_129 : decode cX12_town 129 = .ok (.iaload, 1) := by decide +kernel
theorem dX12_town_130 : decode cX12_town 130 = .ok (.ireturn, 1) := by decide +kernel
set_option maxHeartbeats 4000000 in
set_option maxRecDepth 100000 in
theorem c_X12_town (l : Launch) (D : va_G) (K : Nat → ClassId) (m0 al ah ab ao an aa : Nat) (fm : List Value) (hmn : fm.length = 51) (hm6 : fm[6]? = some (.int 0)) (hm16 : fm[16]? = some (.ref al)) (hm17 : fm[17]? = some (.ref ah)) (hm18 : fm[18]? = some (.ref ab)) (hm19 : fm[19]? = some (.ref ao)) (hm20 : fm[20]? = some (.ref an)) (hm21 : fm[21]? = some (.ref aa)) (fal fah fab fao fan faa : Nat → Int32) (hfal : ∀ j, fal j = 0) (hfah : ∀ j, fah j = 0) (hfab : ∀ j, fab j = 0) (hfao : ∀ j, fao j = 0) (hfan : ∀ j, fan j = 0) (hfaa : ∀ j, faa j = 0) : fn_CI (S := Unit) l D K yX12_town (fn_ws yX12_town cX12_town 1 (some .int)) ({ frames := 16, cells := 0, slots := 0, locals := 400 }) [.ref m0] [(m0, .inr (12, fm)), (al, .inl (K 0, 5, .inl fal)), (ah, .inl (K 0, 40, .inl fah)), (ab, .inl (K 0, 50, .inl fab)), (ao, .inl (K 0, 60, .inl fao)), (an, .inl (K 0, 480, .inl fan)), (aa, .inl (K 0, 600, .inl faa))] (fun r _ => r = 0) (fun _ => []) 0 0 := by
  refine fn_inI (cc := cX12_town) (maxL := 1) (ret := (some .int)) (by decide) rfl (Nat.le_of_ble_eq_true rfl) ?_
  intro p e s m below meth c A ls B hA hP hD hS hl
  obtain ⟨hx, hb, hr, hml, hts, hown, hlocks, hin, hK⟩ := B
  have hown : s.vm.findClass RX12 = some m.cls := hown
  have hts := fun w h => hts w (List.mem_cons_of_mem _ h)
  have hl : lv_has ls 1 [(0, .ref m0)] := hl
  refine lv_aload_n hx hb dX12_town_0 rfl (lv_at hl 0 rfl) ?_
  refine lv_iconst (v := 0) hx hb dX12_town_1 (by decide) ?_
  refine va_put (D := D) (own := RX12) (ci := 12) (v := .int 0) (ty := .int) (C := RX12) (T := TX12) (N := 51) hx hb hts inb_X12 tyX12 tyX12_ok nmX12 hown hK.1 hP hD hS 0 rfl rfl 0 (by decide) (hts _ wd_1234) (fun _ h9 => h9) rfl (by decide +kernel) rfl rfl (fn_kl hmn (by decide)) dX12_town_2 (fun H locs hP hD hS => ?_)
  have hP : va_P D vwCl [(m0, .inr (12, fm.set 0 (.int 0))), (al, .inl (K 0, 5, .inl fal)), (ah, .inl (K 0, 40, .inl fah)), (ab, .inl (K 0, 50, .inl fab)), (ao, .inl (K 0, 60, .inl fao)), (an, .inl (K 0, 480, .inl fan)), (aa, .inl (K 0, 600, .inl faa))] H := hP
  have hD : va_D A [(m0, .inr (12, fm.set 0 (.int 0))), (al, .inl (K 0, 5, .inl fal)), (ah, .inl (K 0, 40, .inl fah)), (ab, .inl (K 0, 50, .inl fab)), (ao, .inl (K 0, 60, .inl fao)), (an, .inl (K 0, 480, .inl fan)), (aa, .inl (K 0, 600, .inl faa))] := hD
  refine lv_aload_n hx hb dX12_town_5 rfl (lv_at hl 0 rfl) ?_
  refine fn_gov (wc := [(m0, .inr (12, fm.set 0 (.int 0))), (al, .inl (K 0, 5, .inl fal)), (ah, .inl (K 0, 40, .inl fah))]) (wr := [(ab, .inl (K 0, 50, .inl fab)), (ao, .inl (K 0, 60, .inl fao)), (an, .inl (K 0, 480, .inl fan)), (aa, .inl (K 0, 600, .inl faa))]) hK hP hD hS hA [0, 1, 2] [3, 4, 5, 6] rfl rfl (by decide) (fun hp => va_runV (C := RX12) (As := []) (rest := []) ⟨hx, hb, hml, hown, hts⟩ (c_X12_clears (l := l) (D := D) (K := K) (m0 := (m0)) (fm := (fm.set 0 (.int 0))) (hmn := (fn_sl hmn)) (al := (al)) (hm16 := (fn_gs (by decide) hm16)) (ah := (ah)) (hm17 := (fn_gs (by decide) hm17)) (fal := (fal)) (hfal := hfal) (fah := (fah)) (hfah := hfah) _) (cwV 0 hts (fn_ginV (fn_gin wd_1433) wd_1430 wd_1432 wp_95 wd_13) rfl rfl rfl (by decide +kernel) ⟨Nat.le_of_ble_eq_true rfl, Nat.le_of_ble_eq_true rfl⟩) ⟨fn_blind, va_recv hK.1 hP (ci := 12) (q0 := 0) rfl rfl, hp⟩ rfl rfl hl.1 rfl (lv_room (Nat.le_of_ble_eq_true rfl)) dX12_town_6 ⟨Nat.le_of_ble_eq_true rfl, Nat.le_of_ble_eq_true rfl⟩) (fun u1 H locs hwu1 hP hD hS => ?_)
  have hP : va_P D vwCl [(ab, .inl (K 0, 50, .inl fab)), (ao, .inl (K 0, 60, .inl fao)), (an, .inl (K 0, 480, .inl fan)), (aa, .inl (K 0, 600, .inl faa)), (m0, .inr (12, fm.set 0 (.int 0))), (al, .inl (K 0, 5, .inl (u1 0))), (ah, .inl (K 0, 40, .inl (u1 1)))] H := hP
  have hD : va_D A [(ab, .inl (K 0, 50, .inl fab)), (ao, .inl (K 0, 60, .inl fao)), (an, .inl (K 0, 480, .inl fan)), (aa, .inl (K 0, 600, .inl faa)), (m0, .inr (12, fm.set 0 (.int 0))), (al, .inl (K 0, 5, .inl (u1 0))), (ah, .inl (K 0, 40, .inl (u1 1)))] := hD
  refine lv_aload_n hx hb dX12_town_9 rfl (lv_at hl 0 rfl) ?_
  refine fn_gov (wc := [(m0, .inr (12, fm.set 0 (.int 0)))]) (wr := [(ab, .inl (K 0, 50, .inl fab)), (ao, .inl (K 0, 60, .inl fao)), (an, .inl (K 0, 480, .inl fan)), (aa, .inl (K 0, 600, .inl faa)), (al, .inl (K 0, 5, .inl (u1 0))), (ah, .inl (K 0, 40, .inl (u1 1)))]) hK hP hD hS hA [4] [0, 1, 2, 3, 5, 6] rfl rfl (by decide) (fun hp => va_runV (C := RX12) (As := []) (rest := []) ⟨hx, hb, hml, hown, hts⟩ (c_X12_begins (l := l) (D := D) (K := K) (m0 := (m0)) (fm := (fm.set 0 (.int 0))) (hmn := (fn_sl hmn)) (hm6 := (fn_gs (by decide) hm6)) _) (cwV 0 hts (fn_ginV (fn_gin wd_1441) wd_1438 wd_1440 wp_97 wd_13) rfl rfl rfl (by decide +kernel) ⟨Nat.le_of_ble_eq_true rfl, Nat.le_of_ble_eq_true rfl⟩) ⟨fn_blind, va_recv hK.1 hP (ci := 12) (q0 := 4) rfl rfl, hp⟩ rfl rfl hl.1 rfl (lv_room (Nat.le_of_ble_eq_true rfl)) dX12_town_10 ⟨Nat.le_of_ble_eq_true rfl, Nat.le_of_ble_eq_true rfl⟩) (fun u3 H locs hwu3 hP hD hS => ?_)
  have hP : va_P D vwCl [(ab, .inl (K 0, 50, .inl fab)), (ao, .inl (K 0, 60, .inl fao)), (an, .inl (K 0, 480, .inl fan)), (aa, .inl (K 0, 600, .inl faa)), (al, .inl (K 0, 5, .inl (u1 0))), (ah, .inl (K 0, 40, .inl (u1 1))), (m0, .inr (12, (((((((fm.set 0 (.int 0)).set 12 (.int 0)).set 13 (.int (-1))).set 7 (.int 0)).set 9 (.int 0)).set 10 (.int 0)).set 11 (.long 0)).set 8 (.int 0)))] H := hP
  have hD : va_D A [(ab, .inl (K 0, 50, .inl fab)), (ao, .inl (K 0, 60, .inl fao)), (an, .inl (K 0, 480, .inl fan)), (aa, .inl (K 0, 600, .inl faa)), (al, .inl (K 0, 5, .inl (u1 0))), (ah, .inl (K 0, 40, .inl (u1 1))), (m0, .inr (12, (((((((fm.set 0 (.int 0)).set 12 (.int 0)).set 13 (.int (-1))).set 7 (.int 0)).set 9 (.int 0)).set 10 (.int 0)).set 11 (.long 0)).set 8 (.int 0)))] := hD
  refine lv_aload_n hx hb dX12_town_13 rfl (lv_at hl 0 rfl) ?_
  refine fn_goi (wc := [(m0, .inr (12, (((((((fm.set 0 (.int 0)).set 12 (.int 0)).set 13 (.int (-1))).set 7 (.int 0)).set 9 (.int 0)).set 10 (.int 0)).set 11 (.long 0)).set 8 (.int 0)))]) (wr := [(ab, .inl (K 0, 50, .inl fab)), (ao, .inl (K 0, 60, .inl fao)), (an, .inl (K 0, 480, .inl fan)), (aa, .inl (K 0, 600, .inl faa)), (al, .inl (K 0, 5, .inl (u1 0))), (ah, .inl (K 0, 40, .inl (u1 1)))]) hK hP hD hS hA [6] [0, 1, 2, 3, 4, 5] rfl rfl (by decide) (fun hp => va_runV (C := RX12) (As := []) (rest := []) ⟨hx, hb, hml, hown, hts⟩ (c_X12_isGood (l := l) (D := D) (K := K) (m0 := (m0)) (fm := ((((((((fm.set 0 (.int 0)).set 12 (.int 0)).set 13 (.int (-1))).set 7 (.int 0)).set 9 (.int 0)).set 10 (.int 0)).set 11 (.long 0)).set 8 (.int 0))) (hmn := (fn_sl (fn_sl (fn_sl (fn_sl (fn_sl (fn_sl (fn_sl (fn_sl hmn))))))))) (hm12 := (fn_gs (by decide) (fn_gs (by decide) (fn_gs (by decide) (fn_gs (by decide) (fn_gs (by decide) (fn_gs (by decide) (fn_gss (fn_sl hmn) (by decide))))))))) _) (cwV 0 hts (fn_ginV (fn_gin wd_1458) wd_1455 wd_1457 wp_100 wd_13) rfl rfl rfl (by decide +kernel) ⟨Nat.le_of_ble_eq_true rfl, Nat.le_of_ble_eq_true rfl⟩) ⟨fn_blind, va_recv hK.1 hP (ci := 12) (q0 := 6) rfl rfl, hp⟩ rfl rfl hl.1 rfl (lv_room (Nat.le_of_ble_eq_true rfl)) dX12_town_14 ⟨Nat.le_of_ble_eq_true rfl, Nat.le_of_ble_eq_true rfl⟩) (fun r6 u5 H locs hwu5 hP hD hS => ?_)
  have r6_e : r6 = 1 := hwu5.1
  subst r6_e
  have hP : va_P D vwCl [(ab, .inl (K 0, 50, .inl fab)), (ao, .inl (K 0, 60, .inl fao)), (an, .inl (K 0, 480, .inl fan)), (aa, .inl (K 0, 600, .inl faa)), (al, .inl (K 0, 5, .inl (u1 0))), (ah, .inl (K 0, 40, .inl (u1 1))), (m0, .inr (12, (((((((fm.set 0 (.int 0)).set 12 (.int 0)).set 13 (.int (-1))).set 7 (.int 0)).set 9 (.int 0)).set 10 (.int 0)).set 11 (.long 0)).set 8 (.int 0)))] H := hP
  have hD : va_D A [(ab, .inl (K 0, 50, .inl fab)), (ao, .inl (K 0, 60, .inl fao)), (an, .inl (K 0, 480, .inl fan)), (aa, .inl (K 0, 600, .inl faa)), (al, .inl (K 0, 5, .inl (u1 0))), (ah, .inl (K 0, 40, .inl (u1 1))), (m0, .inr (12, (((((((fm.set 0 (.int 0)).set 12 (.int 0)).set 13 (.int (-1))).set 7 (.int 0)).set 9 (.int 0)).set 10 (.int 0)).set 11 (.long 0)).set 8 (.int 0)))] := hD
  refine lv_if_eq (tgt := 104) hx hb dX12_town_17 (by decide) (fun h9 => absurd h9 (by decide)) (fun _ => ?_)
  refine lv_aload_n hx hb dX12_town_20 rfl (lv_at hl 0 rfl) ?_
  refine va_get (D := D) (own := RX12) (ci := 12) (v := .int 0) (C := RX12) (T := TX12) (N := 51) hx hb hts inb_X12 hown hK.1 hP 6 rfl rfl 8 (by decide) (hts _ wd_1242) (fun _ h9 => h9) (fn_gss (fn_sl (fn_sl (fn_sl (fn_sl (fn_sl (fn_sl (fn_sl hmn))))))) (by decide)) dX12_town_21 ?_
  refine lv_if_eq (tgt := 104) hx hb dX12_town_24 (by decide) (fun _ => ?_) (fun h9 => absurd (by decide) h9)
  refine lv_aload_n hx hb dX12_town_104 rfl (lv_at hl 0 rfl) ?_
  refine fn_gov (wc := [(m0, .inr (12, (((((((fm.set 0 (.int 0)).set 12 (.int 0)).set 13 (.int (-1))).set 7 (.int 0)).set 9 (.int 0)).set 10 (.int 0)).set 11 (.long 0)).set 8 (.int 0)))]) (wr := [(ab, .inl (K 0, 50, .inl fab)), (ao, .inl (K 0, 60, .inl fao)), (an, .inl (K 0, 480, .inl fan)), (aa, .inl (K 0, 600, .inl faa)), (al, .inl (K 0, 5, .inl (u1 0))), (ah, .inl (K 0, 40, .inl (u1 1)))]) hK hP hD hS hA [6] [0, 1, 2, 3, 4, 5] rfl rfl (by decide) (fun hp => va_runV (C := RX12) (As := []) (rest := []) ⟨hx, hb, hml, hown, hts⟩ (c_X12_isOver (l := l) (D := D) (K := K) (m0 := (m0)) (fm := ((((((((fm.set 0 (.int 0)).set 12 (.int 0)).set 13 (.int (-1))).set 7 (.int 0)).set 9 (.int 0)).set 10 (.int 0)).set 11 (.long 0)).set 8 (.int 0))) (hmn := (fn_sl (fn_sl (fn_sl (fn_sl (fn_sl (fn_sl (fn_sl (fn_sl hmn))))))))) (hm12 := (fn_gs (by decide) (fn_gs (by decide) (fn_gs (by decide) (fn_gs (by decide) (fn_gs (by decide) (fn_gs (by decide) (fn_gss (fn_sl hmn) (by decide))))))))) _) (cwV 0 hts (fn_ginV (fn_gin wd_1528) wd_1525 wd_1527 wp_114 wd_13) rfl rfl rfl (by decide +kernel) ⟨Nat.le_of_ble_eq_true rfl, Nat.le_of_ble_eq_true rfl⟩) ⟨fn_blind, va_recv hK.1 hP (ci := 12) (q0 := 6) rfl rfl, hp⟩ rfl rfl hl.1 rfl (lv_room (Nat.le_of_ble_eq_true rfl)) dX12_town_105 ⟨Nat.le_of_ble_eq_true rfl, Nat.le_of_ble_eq_true rfl⟩) (fun u7 H locs hwu7 hP hD hS => ?_)
  have hP : va_P D vwCl [(ab, .inl (K 0, 50, .inl fab)), (ao, .inl (K 0, 60, .inl fao)), (an, .inl (K 0, 480, .inl fan)), (aa, .inl (K 0, 600, .inl faa)), (al, .inl (K 0, 5, .inl (u1 0))), (ah, .inl (K 0, 40, .inl (u1 1))), (m0, .inr (12, ((((((((((fm.set 0 (.int 0)).set 12 (.int 0)).set 13 (.int (-1))).set 7 (.int 0)).set 9 (.int 0)).set 10 (.int 0)).set 11 (.long 0)).set 8 (.int 0)).set 6 (.int 0)).set 14 (.int 0)).set 15 (.int (-1))))] H := hP
  have hD : va_D A [(ab, .inl (K 0, 50, .inl fab)), (ao, .inl (K 0, 60, .inl fao)), (an, .inl (K 0, 480, .inl fan)), (aa, .inl (K 0, 600, .inl faa)), (al, .inl (K 0, 5, .inl (u1 0))), (ah, .inl (K 0, 40, .inl (u1 1))), (m0, .inr (12, ((((((((((fm.set 0 (.int 0)).set 12 (.int 0)).set 13 (.int (-1))).set 7 (.int 0)).set 9 (.int 0)).set 10 (.int 0)).set 11 (.long 0)).set 8 (.int 0)).set 6 (.int 0)).set 14 (.int 0)).set 15 (.int (-1))))] := hD
  refine lv_aload_n hx hb dX12_town_108 rfl (lv_at hl 0 rfl) ?_
  refine va_get (D := D) (own := RX12) (ci := 12) (v := .int 0) (C := RX12) (T := TX12) (N := 51) hx hb hts inb_X12 hown hK.1 hP 6 rfl rfl 12 (by decide) (hts _ wd_1246) (fun _ h9 => h9) (fn_gs (by decide) (fn_gs (by decide) (fn_gs (by decide) (fn_gs (by decide) (fn_gs (by decide) (fn_gs (by decide) (fn_gs (by decide) (fn_gs (by decide) (fn_gs (by decide) (fn_gss (fn_sl hmn) (by decide))))))))))) dX12_town_109 ?_
  refine lv_if_eq (tgt := 118) hx hb dX12_town_112 (by decide) (fun _ => ?_) (fun h9 => absurd (by decide) h9)
  refine lv_aload_n hx hb dX12_town_118 rfl (lv_at hl 0 rfl) ?_
  refine fn_at 119 rfl ?_
  refine lv_iconst (v := 4) hx hb dX12_town_119 (by decide) ?_
  refine lv_iconst (v := 0) hx hb dX12_town_120 (by decide) ?_
  refine fn_gov (wc := [(m0, .inr (12, ((((((((((fm.set 0 (.int 0)).set 12 (.int 0)).set 13 (.int (-1))).set 7 (.int 0)).set 9 (.int 0)).set 10 (.int 0)).set 11 (.long 0)).set 8 (.int 0)).set 6 (.int 0)).set 14 (.int 0)).set 15 (.int (-1)))), (al, .inl (K 0, 5, .inl (u1 0))), (ah, .inl (K 0, 40, .inl (u1 1))), (ab, .inl (K 0, 50, .inl fab)), (ao, .inl (K 0, 60, .inl fao)), (an, .inl (K 0, 480, .inl fan)), (aa, .inl (K 0, 600, .inl faa))]) (wr := []) hK hP hD hS hA [6, 4, 5, 0, 1, 2, 3] [] rfl rfl (by decide) (fun hp => va_runV (C := RX12) (As := [.int 4, .int 0]) (rest := []) ⟨hx, hb, hml, hown, hts⟩ (c_X12_copyTown_40 (l := l) (D := D) (K := K) (m0 := (m0)) (fm := (((((((((((fm.set 0 (.int 0)).set 12 (.int 0)).set 13 (.int (-1))).set 7 (.int 0)).set 9 (.int 0)).set 10 (.int 0)).set 11 (.long 0)).set 8 (.int 0)).set 6 (.int 0)).set 14 (.int 0)).set 15 (.int (-1)))) (hmn := (fn_sl (fn_sl (fn_sl (fn_sl (fn_sl (fn_sl (fn_sl (fn_sl (fn_sl (fn_sl (fn_sl hmn)))))))))))) (al := (al)) (hm16 := (fn_gs (by decide) (fn_gs (by decide) (fn_gs (by decide) (fn_gs (by decide) (fn_gs (by decide) (fn_gs (by decide) (fn_gs (by decide) (fn_gs (by decide) (fn_gs (by decide) (fn_gs (by decide) (fn_gs (by decide) hm16)))))))))))) (ah := (ah)) (hm17 := (fn_gs (by decide) (fn_gs (by decide) (fn_gs (by decide) (fn_gs (by decide) (fn_gs (by decide) (fn_gs (by decide) (fn_gs (by decide) (fn_gs (by decide) (fn_gs (by decide) (fn_gs (by decide) (fn_gs (by decide) hm17)))))))))))) (ab := (ab)) (hm18 := (fn_gs (by decide) (fn_gs (by decide) (fn_gs (by decide) (fn_gs (by decide) (fn_gs (by decide) (fn_gs (by decide) (fn_gs (by decide) (fn_gs (by decide) (fn_gs (by decide) (fn_gs (by decide) (fn_gs (by decide) hm18)))))))))))) (ao := (ao)) (hm19 := (fn_gs (by decide) (fn_gs (by decide) (fn_gs (by decide) (fn_gs (by decide) (fn_gs (by decide) (fn_gs (by decide) (fn_gs (by decide) (fn_gs (by decide) (fn_gs (by decide) (fn_gs (by decide) (fn_gs (by decide) hm19)))))))))))) (an := (an)) (hm20 := (fn_gs (by decide) (fn_gs (by decide) (fn_gs (by decide) (fn_gs (by decide) (fn_gs (by decide) (fn_gs (by decide) (fn_gs (by decide) (fn_gs (by decide) (fn_gs (by decide) (fn_gs (by decide) (fn_gs (by decide) hm20)))))))))))) (aa := (aa)) (hm21 := (fn_gs (by decide) (fn_gs (by decide) (fn_gs (by decide) (fn_gs (by decide) (fn_gs (by decide) (fn_gs (by decide) (fn_gs (by decide) (fn_gs (by decide) (fn_gs (by decide) (fn_gs (by decide) (fn_gs (by decide) hm21)))))))))))) (fal := (u1 0)) (hfal := (hwu1.1)) (fah := (u1 1)) (hfah := (hwu1.2.1)) (fab := (fab)) (hfab := hfab) (fao := (fao)) (hfao := hfao) (fan := (fan)) (hfan := hfan) (faa := (faa)) (hfaa := hfaa) _) (cwV 2 hts (fn_ginV (fn_gin wd_1532) wd_1529 wd_1531 wp_115 wd_13) rfl rfl rfl (by decide +kernel) ⟨Nat.le_of_ble_eq_true rfl, Nat.le_of_ble_eq_true rfl⟩) ⟨fn_blind, va_recv hK.1 hP (ci := 12) (q0 := 6) rfl rfl, hp⟩ rfl rfl hl.1 rfl (lv_room (Nat.le_of_ble_eq_true rfl)) dX12_town_121 ⟨Nat.le_of_ble_eq_true rfl, Nat.le_of_ble_eq_true rfl⟩) (fun u9 H locs hwu9 hP hD hS => ?_)
  have hP : va_P D vwCl [(m0, .inr (12, ((((((((((fm.set 0 (.int 0)).set 12 (.int 0)).set 13 (.int (-1))).set 7 (.int 0)).set 9 (.int 0)).set 10 (.int 0)).set 11 (.long 0)).set 8 (.int 0)).set 6 (.int 0)).set 14 (.int 0)).set 15 (.int (-1)))), (al, .inl (K 0, 5, .inl (u9 0))), (ah, .inl (K 0, 40, .inl (u9 1))), (ab, .inl (K 0, 50, .inl (u9 2))), (ao, .inl (K 0, 60, .inl (u9 3))), (an, .inl (K 0, 480, .inl (u9 4))), (aa, .inl (K 0, 600, .inl (u9 5)))] H := hP
  have hD : va_D A [(m0, .inr (12, ((((((((((fm.set 0 (.int 0)).set 12 (.int 0)).set 13 (.int (-1))).set 7 (.int 0)).set 9 (.int 0)).set 10 (.int 0)).set 11 (.long 0)).set 8 (.int 0)).set 6 (.int 0)).set 14 (.int 0)).set 15 (.int (-1)))), (al, .inl (K 0, 5, .inl (u9 0))), (ah, .inl (K 0, 40, .inl (u9 1))), (ab, .inl (K 0, 50, .inl (u9 2))), (ao, .inl (K 0, 60, .inl (u9 3))), (an, .inl (K 0, 480, .inl (u9 4))), (aa, .inl (K 0, 600, .inl (u9 5)))] := hD
  refine lv_aload_n hx hb dX12_town_124 rfl (lv_at hl 0 rfl) ?_
  refine va_get (D := D) (own := RX12) (ci := 12) (v := .ref al) (C := RX12) (T := TX12) (N := 51) hx hb hts inb_X12 hown hK.1 hP 0 rfl rfl 16 (by decide) (hts _ wd_1250) (fun _ h9 => h9) (fn_gs (by decide) (fn_gs (by decide) (fn_gs (by decide) (fn_gs (by decide) (fn_gs (by decide) (fn_gs (by decide) (fn_gs (by decide) (fn_gs (by decide) (fn_gs (by decide) (fn_gs (by decide) (fn_gs (by decide) hm16))))))))))) dX12_town_125 ?_
  refine lv_iconst (v := 0) hx hb dX12_town_128 (by decide) ?_
  refine va_iald hx hb hK.1 hP 1 0 rfl rfl (by unfold vp_in; decide) dX12_town_129 ?_
  refine fn_top 0 ((hwu9.1) _) ?_
  exact fn_iret hx hb hr hlocks rfl hP hD hS () (by first | rfl | decide) [] (by decide) rfl dX12_town_130
theorem dX12_image_0 : decode cX12_image 0 = .ok (.aload_n 0, 1) := by decide +kernel
theorem dX12_image_1 : decode cX12_image 1 = .ok (.iconst 0, 1) := by decide +kernel
theorem dX12_image_2 : decode cX12_image 2 = .ok (.putfield 104, 3) := by decide +kernel
theorem dX12_image_5 : decode cX12_image 5 = .ok (.iload_n 1, 1) := by decide +kernel
theorem dX12_image_6 : decode cX12_image 6 = .ok (.i2l, 1) := by decide +kernel
theorem dX12_image_7 : decode cX12_image 7 = .ok (.lconst 0, 1) := by decide +kernel
theorem dX12_image_8 : decode cX12_image 8 = .ok (.ldc2_w 453, 3) := by decide +kernel
theorem dX12_image_11 : decode cX12_image 11 = .ok (.invokestatic 109, 3) := by decide +kernel
theorem dX12_image_14 : decode cX12_image 14 = .ok (.ifCond .ne 6, 3) := by decide +kernel
theorem dX12_image_20 : decode cX12_image 20 = .ok (.aload_n 0, 1) := by decide +kernel
theorem dX12_image_21 : decode cX12_image 21 = .ok (.iconst 0, 1) := by decide +kernel
theorem dX12_image_22 : decode cX12_image 22 = .ok (.iconst 1, 1) := by decide +kernel
theorem dX12_image_23 : decode cX12_image 23 = .ok (.iload_n 1, 1) := by decide +kernel
theorem dX12_image_24 : decode cX12_image 24 = .ok (.iadd, 1) := by decide +kernel
theorem dX12_image_25 : decode cX12_image 25 = .ok (.invokevirtual 255, 3) := by decide +kernel
theorem dX12_image_28 : decode cX12_image 28 = .ok (.aload_n 0, 1) := by decide +kernel
theorem dX12_image_29 : decode cX12_image 29 = .ok (.getfield 49, 3) := by decide +kernel
theorem dX12_image_32 : decode cX12_image 32 = .ok (.iload_n 1, 1) := by decide +kernel
theorem dX12_image_33 : decode cX12_image 33 = .ok (.iconst 1, 1) := by decide +kernel
theorem dX12_image_34 : decode cX12_image 34 = .ok (.bastore, 1) := by decide +kernel
theorem dX12_image_35 : decode cX12_image 35 = .ok (.iconst 0, 1) := by decide +kernel
theorem dX12_image_36 : decode cX12_image 36 = .ok (.ireturn, 1) := by decide +kernel
theorem dX12_image_17 : decode cX12_image 17 = .ok (.bipush (-2), 2) := by decide +kernel
theorem dX12_image_19 : decode cX12_image 19 = .ok (.ireturn, 1) := by decide +kernel
set_option maxHeartbeats 4000000 in
set_option maxRecDepth 100000 in
theorem c_X12_image (l : Launch) (D : va_G) (K : Nat → ClassId) (m0 al ah ab ao an aa ak : Nat) (fm : List Value) (hmn : fm.length = 51) (hm16 : fm[16]? = some (.ref al)) (hm17 : fm[17]? = some (.ref ah)) (hm18 : fm[18]? = some (.ref ab)) (hm19 : fm[19]? = some (.ref ao)) (hm20 : fm[20]? = some (.ref an)) (hm21 : fm[21]? = some (.ref aa)) (hm22 : fm[22]? = some (.ref ak)) (fal fah fab fao fan faa fak : Nat → Int32) (hfal : ∀ j, fal j = 0) (hfah : ∀ j, fah j = 0) (hfab : ∀ j, fab j = 0) (hfao : ∀ j, fao j = 0) (hfan : ∀ j, fan j = 0) (hfaa : ∀ j, faa j = 0) (hfak : ∀ j, fak j = 0) (p0 : Int32) : fn_CI (S := Unit) l D K yX12_image (fn_ws yX12_image cX12_image 2 (some .int)) ({ frames := 12, cells := 0, slots := 0, locals := 300 }) [.ref m0, .int p0] [(m0, .inr (12, fm)), (al, .inl (K 0, 5, .inl fal)), (ah, .inl (K 0, 40, .inl fah)), (ab, .inl (K 0, 50, .inl fab)), (ao, .inl (K 0, 60, .inl fao)), (an, .inl (K 0, 480, .inl fan)), (aa, .inl (K 0, 600, .inl faa)), (ak, .inl (K 2, 3, .inl fak))] (fun r _ => r = fn_sImg p0) (fun _ => []) 0 0 := by
  refine fn_inI (cc := cX12_image) (maxL := 2) (ret := (some .int)) (by decide) rfl (Nat.le_of_ble_eq_true rfl) ?_
  intro p e s m below meth c A ls B hA hP hD hS hl
  obtain ⟨hx, hb, hr, hml, hts, hown, hlocks, hin, hK⟩ := B
  have hown : s.vm.findClass RX12 = some m.cls := hown
  have hts := fun w h => hts w (List.mem_cons_of_mem _ h)
  have hl : lv_has ls 2 [(0, .ref m0), (1, .int p0)] := hl
  refine lv_aload_n hx hb dX12_image_0 rfl (lv_at hl 0 rfl) ?_
  refine lv_iconst (v := 0) hx hb dX12_image_1 (by decide) ?_
  refine va_put (D := D) (own := RX12) (ci := 12) (v := .int 0) (ty := .int) (C := RX12) (T := TX12) (N := 51) hx hb hts inb_X12 tyX12 tyX12_ok nmX12 hown hK.1 hP hD hS 0 rfl rfl 0 (by decide) (hts _ wd_1234) (fun _ h9 => h9) rfl (by decide +kernel) rfl rfl (fn_kl hmn (by decide)) dX12_image_2 (fun H locs hP hD hS => ?_)
  have hP : va_P D vwCl [(m0, .inr (12, fm.set 0 (.int 0))), (al, .inl (K 0, 5, .inl fal)), (ah, .inl (K 0, 40, .inl fah)), (ab, .inl (K 0, 50, .inl fab)), (ao, .inl (K 0, 60, .inl fao)), (an, .inl (K 0, 480, .inl fan)), (aa, .inl (K 0, 600, .inl faa)), (ak, .inl (K 2, 3, .inl fak))] H := hP
  have hD : va_D A [(m0, .inr (12, fm.set 0 (.int 0))), (al, .inl (K 0, 5, .inl fal)), (ah, .inl (K 0, 40, .inl fah)), (ab, .inl (K 0, 50, .inl fab)), (ao, .inl (K 0, 60, .inl fao)), (an, .inl (K 0, 480, .inl fan)), (aa, .inl (K 0, 600, .inl faa)), (ak, .inl (K 2, 3, .inl fak))] := hD
  refine lv_iload_n hx hb dX12_image_5 rfl (lv_at hl 1 rfl) ?_
  refine lv_i2l hx hb dX12_image_6 rfl ?_
  refine lv_lconst (v := 0) hx hb dX12_image_7 (by decide) ?_
  refine lv_ldc2 (own := RX12) (v := 2) hx hb hown (hts _ wd_1948) dX12_image_8 ?_
  refine fn_goi (wc := []) (wr := [(m0, .inr (12, fm.set 0 (.int 0))), (al, .inl (K 0, 5, .inl fal)), (ah, .inl (K 0, 40, .inl fah)), (ab, .inl (K 0, 50, .inl fab)), (ao, .inl (K 0, 60, .inl fao)), (an, .inl (K 0, 480, .inl fan)), (aa, .inl (K 0, 600, .inl faa)), (ak, .inl (K 2, 3, .inl fak))]) hK hP hD hS hA [] [0, 1, 2, 3, 4, 5, 6, 7] rfl rfl (by decide) (fun hp => va_runS (As := [.long (Int32.toInt64 p0), .long 0, .long 2]) (rest := []) ⟨hx, hb, hml, hown, hts⟩ (c_X12_in_i2 (l := l) (D := D) (K := K) (p0 := (p0)) _) (va_cwS 3 hts (fn_ginS (fn_gin wd_1398) wd_1396 wd_1397 wd_13) rfl rfl rfl (by decide +kernel) ⟨Nat.le_of_ble_eq_true rfl, Nat.le_of_ble_eq_true rfl⟩) ⟨fn_blind, hp⟩ rfl rfl hl.1 rfl (lv_room (Nat.le_of_ble_eq_true rfl)) dX12_image_11 ⟨Nat.le_of_ble_eq_true rfl, Nat.le_of_ble_eq_true rfl⟩) (fun r2 u1 H locs hwu1 hP hD hS => ?_)
  rcases hwu1 with ⟨rfl, k3⟩ | ⟨rfl, k3⟩
  · have hP : va_P D vwCl [(m0, .inr (12, fm.set 0 (.int 0))), (al, .inl (K 0, 5, .inl fal)), (ah, .inl (K 0, 40, .inl fah)), (ab, .inl (K 0, 50, .inl fab)), (ao, .inl (K 0, 60, .inl fao)), (an, .inl (K 0, 480, .inl fan)), (aa, .inl (K 0, 600, .inl faa)), (ak, .inl (K 2, 3, .inl fak))] H := hP
    have hD : va_D A [(m0, .inr (12, fm.set 0 (.int 0))), (al, .inl (K 0, 5, .inl fal)), (ah, .inl (K 0, 40, .inl fah)), (ab, .inl (K 0, 50, .inl fab)), (ao, .inl (K 0, 60, .inl fao)), (an, .inl (K 0, 480, .inl fan)), (aa, .inl (K 0, 600, .inl faa)), (ak, .inl (K 2, 3, .inl fak))] := hD
    refine lv_if_ne (tgt := 20) hx hb dX12_image_14 (by decide) (fun _ => ?_) (fun h9 => absurd h9 (by decide))
    rcases (fn_c3 k3) with rfl | rfl | rfl
    · refine lv_aload_n hx hb dX12_image_20 rfl (lv_at hl 0 rfl) ?_
      refine lv_iconst (v := 0) hx hb dX12_image_21 (by decide) ?_
      refine lv_iconst (v := 1) hx hb dX12_image_22 (by decide) ?_
      refine lv_iload_n hx hb dX12_image_23 rfl (lv_at hl 1 rfl) ?_
      refine lv_iadd hx hb dX12_image_24 ?_
      refine fn_top 1 (by decide) ?_
      refine fn_gov (wc := [(m0, .inr (12, fm.set 0 (.int 0))), (al, .inl (K 0, 5, .inl fal)), (ah, .inl (K 0, 40, .inl fah)), (ab, .inl (K 0, 50, .inl fab)), (ao, .inl (K 0, 60, .inl fao)), (an, .inl (K 0, 480, .inl fan)), (aa, .inl (K 0, 600, .inl faa))]) (wr := [(ak, .inl (K 2, 3, .inl fak))]) hK hP hD hS hA [0, 1, 2, 3, 4, 5, 6] [7] rfl rfl (by decide) (fun hp => va_runV (C := RX12) (As := [.int 0, .int 1]) (rest := []) ⟨hx, hb, hml, hown, hts⟩ (c_X12_copyTown_01 (l := l) (D := D) (K := K) (m0 := (m0)) (fm := (fm.set 0 (.int 0))) (hmn := (fn_sl hmn)) (al := (al)) (hm16 := (fn_gs (by decide) hm16)) (ah := (ah)) (hm17 := (fn_gs (by decide) hm17)) (ab := (ab)) (hm18 := (fn_gs (by decide) hm18)) (ao := (ao)) (hm19 := (fn_gs (by decide) hm19)) (an := (an)) (hm20 := (fn_gs (by decide) hm20)) (aa := (aa)) (hm21 := (fn_gs (by decide) hm21)) (fal := (fal)) (hfal := hfal) (fah := (fah)) (hfah := hfah) (fab := (fab)) (hfab := hfab) (fao := (fao)) (hfao := hfao) (fan := (fan)) (hfan := hfan) (faa := (faa)) (hfaa := hfaa) _) (cwV 2 hts (fn_ginV (fn_gin wd_1532) wd_1529 wd_1531 wp_115 wd_13) rfl rfl rfl (by decide +kernel) ⟨Nat.le_of_ble_eq_true rfl, Nat.le_of_ble_eq_true rfl⟩) ⟨fn_blind, va_recv hK.1 hP (ci := 12) (q0 := 0) rfl rfl, hp⟩ rfl rfl hl.1 rfl (lv_room (Nat.le_of_ble_eq_true rfl)) dX12_image_25 ⟨Nat.le_of_ble_eq_true rfl, Nat.le_of_ble_eq_true rfl⟩) (fun u4 H locs hwu4 hP hD hS => ?_)
      have hP : va_P D vwCl [(ak, .inl (K 2, 3, .inl fak)), (m0, .inr (12, fm.set 0 (.int 0))), (al, .inl (K 0, 5, .inl (u4 0))), (ah, .inl (K 0, 40, .inl (u4 1))), (ab, .inl (K 0, 50, .inl (u4 2))), (ao, .inl (K 0, 60, .inl (u4 3))), (an, .inl (K 0, 480, .inl (u4 4))), (aa, .inl (K 0, 600, .inl (u4 5)))] H := hP
      have hD : va_D A [(ak, .inl (K 2, 3, .inl fak)), (m0, .inr (12, fm.set 0 (.int 0))), (al, .inl (K 0, 5, .inl (u4 0))), (ah, .inl (K 0, 40, .inl (u4 1))), (ab, .inl (K 0, 50, .inl (u4 2))), (ao, .inl (K 0, 60, .inl (u4 3))), (an, .inl (K 0, 480, .inl (u4 4))), (aa, .inl (K 0, 600, .inl (u4 5)))] := hD
      refine lv_aload_n hx hb dX12_image_28 rfl (lv_at hl 0 rfl) ?_
      refine va_get (D := D) (own := RX12) (ci := 12) (v := .ref ak) (C := RX12) (T := TX12) (N := 51) hx hb hts inb_X12 hown hK.1 hP 1 rfl rfl 22 (by decide) (hts _ wd_1256) (fun _ h9 => h9) (fn_gs (by decide) hm22) dX12_image_29 ?_
      refine lv_iload_n hx hb dX12_image_32 rfl (lv_at hl 1 rfl) ?_
      refine lv_iconst (v := 1) hx hb dX12_image_33 (by decide) ?_
      refine fn_at 34 rfl ?_
      refine va_zast hx hb hK.1 hP hD hS 0 2 rfl rfl (by unfold vp_in; decide) dX12_image_34 (fun H locs hP hD hS => ?_)
      obtain ⟨g6, eg6⟩ : ∃ z, z = (upd fak (Int32.toNatClampNeg 0) (vp_nar .boolean 1)) := ⟨_, rfl⟩
      have hP : va_P D vwCl [(ak, .inl (K 2, 3, .inl g6)), (m0, .inr (12, fm.set 0 (.int 0))), (al, .inl (K 0, 5, .inl (u4 0))), (ah, .inl (K 0, 40, .inl (u4 1))), (ab, .inl (K 0, 50, .inl (u4 2))), (ao, .inl (K 0, 60, .inl (u4 3))), (an, .inl (K 0, 480, .inl (u4 4))), (aa, .inl (K 0, 600, .inl (u4 5)))] H := by rw [eg6]; exact hP
      have hD : va_D A [(ak, .inl (K 2, 3, .inl g6)), (m0, .inr (12, fm.set 0 (.int 0))), (al, .inl (K 0, 5, .inl (u4 0))), (ah, .inl (K 0, 40, .inl (u4 1))), (ab, .inl (K 0, 50, .inl (u4 2))), (ao, .inl (K 0, 60, .inl (u4 3))), (an, .inl (K 0, 480, .inl (u4 4))), (aa, .inl (K 0, 600, .inl (u4 5)))] := by rw [eg6]; exact hD
      refine lv_iconst (v := 0) hx hb dX12_image_35 (by decide) ?_
      exact fn_iret hx hb hr hlocks rfl hP hD hS () (by first | exact (if_neg k3).symm | decide) [] (by decide) rfl dX12_image_36
    · refine lv_aload_n hx hb dX12_image_20 rfl (lv_at hl 0 rfl) ?_
      refine lv_iconst (v := 0) hx hb dX12_image_21 (by decide) ?_
      refine lv_iconst (v := 1) hx hb dX12_image_22 (by decide) ?_
      refine lv_iload_n hx hb dX12_image_23 rfl (lv_at hl 1 rfl) ?_
      refine lv_iadd hx hb dX12_image_24 ?_
      refine fn_top 2 (by decide) ?_
      refine fn_gov (wc := [(m0, .inr (12, fm.set 0 (.int 0))), (al, .inl (K 0, 5, .inl fal)), (ah, .inl (K 0, 40, .inl fah)), (ab, .inl (K 0, 50, .inl fab)), (ao, .inl (K 0, 60, .inl fao)), (an, .inl (K 0, 480, .inl fan)), (aa, .inl (K 0, 600, .inl faa))]) (wr := [(ak, .inl (K 2, 3, .inl fak))]) hK hP hD hS hA [0, 1, 2, 3, 4, 5, 6] [7] rfl rfl (by decide) (fun hp => va_runV (C := RX12) (As := [.int 0, .int 2]) (rest := []) ⟨hx, hb, hml, hown, hts⟩ (c_X12_copyTown_02 (l := l) (D := D) (K := K) (m0 := (m0)) (fm := (fm.set 0 (.int 0))) (hmn := (fn_sl hmn)) (al := (al)) (hm16 := (fn_gs (by decide) hm16)) (ah := (ah)) (hm17 := (fn_gs (by decide) hm17)) (ab := (ab)) (hm18 := (fn_gs (by decide) hm18)) (ao := (ao)) (hm19 := (fn_gs (by decide) hm19)) (an := (an)) (hm20 := (fn_gs (by decide) hm20)) (aa := (aa)) (hm21 := (fn_gs (by decide) hm21)) (fal := (fal)) (hfal := hfal) (fah := (fah)) (hfah := hfah) (fab := (fab)) (hfab := hfab) (fao := (fao)) (hfao := hfao) (fan := (fan)) (hfan := hfan) (faa := (faa)) (hfaa := hfaa) _) (cwV 2 hts (fn_ginV (fn_gin wd_1532) wd_1529 wd_1531 wp_115 wd_13) rfl rfl rfl (by decide +kernel) ⟨Nat.le_of_ble_eq_true rfl, Nat.le_of_ble_eq_true rfl⟩) ⟨fn_blind, va_recv hK.1 hP (ci := 12) (q0 := 0) rfl rfl, hp⟩ rfl rfl hl.1 rfl (lv_room (Nat.le_of_ble_eq_true rfl)) dX12_image_25 ⟨Nat.le_of_ble_eq_true rfl, Nat.le_of_ble_eq_true rfl⟩) (fun u7 H locs hwu7 hP hD hS => ?_)
      have hP : va_P D vwCl [(ak, .inl (K 2, 3, .inl fak)), (m0, .inr (12, fm.set 0 (.int 0))), (al, .inl (K 0, 5, .inl (u7 0))), (ah, .inl (K 0, 40, .inl (u7 1))), (ab, .inl (K 0, 50, .inl (u7 2))), (ao, .inl (K 0, 60, .inl (u7 3))), (an, .inl (K 0, 480, .inl (u7 4))), (aa, .inl (K 0, 600, .inl (u7 5)))] H := hP
      have hD : va_D A [(ak, .inl (K 2, 3, .inl fak)), (m0, .inr (12, fm.set 0 (.int 0))), (al, .inl (K 0, 5, .inl (u7 0))), (ah, .inl (K 0, 40, .inl (u7 1))), (ab, .inl (K 0, 50, .inl (u7 2))), (ao, .inl (K 0, 60, .inl (u7 3))), (an, .inl (K 0, 480, .inl (u7 4))), (aa, .inl (K 0, 600, .inl (u7 5)))] := hD
      refine lv_aload_n hx hb dX12_image_28 rfl (lv_at hl 0 rfl) ?_
      refine va_get (D := D) (own := RX12) (ci := 12) (v := .ref ak) (C := RX12) (T := TX12) (N := 51) hx hb hts inb_X12 hown hK.1 hP 1 rfl rfl 22 (by decide) (hts _ wd_1256) (fun _ h9 => h9) (fn_gs (by decide) hm22) dX12_image_29 ?_
      refine lv_iload_n hx hb dX12_image_32 rfl (lv_at hl 1 rfl) ?_
      refine lv_iconst (v := 1) hx hb dX12_image_33 (by decide) ?_
      refine fn_at 34 rfl ?_
      refine va_zast hx hb hK.1 hP hD hS 0 2 rfl rfl (by unfold vp_in; decide) dX12_image_34 (fun H locs hP hD hS => ?_)
      obtain ⟨g9, eg9⟩ : ∃ z, z = (upd fak (Int32.toNatClampNeg 1) (vp_nar .boolean 1)) := ⟨_, rfl⟩
      have hP : va_P D vwCl [(ak, .inl (K 2, 3, .inl g9)), (m0, .inr (12, fm.set 0 (.int 0))), (al, .inl (K 0, 5, .inl (u7 0))), (ah, .inl (K 0, 40, .inl (u7 1))), (ab, .inl (K 0, 50, .inl (u7 2))), (ao, .inl (K 0, 60, .inl (u7 3))), (an, .inl (K 0, 480, .inl (u7 4))), (aa, .inl (K 0, 600, .inl (u7 5)))] H := by rw [eg9]; exact hP
      have hD : va_D A [(ak, .inl (K 2, 3, .inl g9)), (m0, .inr (12, fm.set 0 (.int 0))), (al, .inl (K 0, 5, .inl (u7 0))), (ah, .inl (K 0, 40, .inl (u7 1))), (ab, .inl (K 0, 50, .inl (u7 2))), (ao, .inl (K 0, 60, .inl (u7 3))), (an, .inl (K 0, 480, .inl (u7 4))), (aa, .inl (K 0, 600, .inl (u7 5)))] := by rw [eg9]; exact hD
      refine lv_iconst (v := 0) hx hb dX12_image_35 (by decide) ?_
      exact fn_iret hx hb hr hlocks rfl hP hD hS () (by first | exact (if_neg k3).symm | decide) [] (by decide) rfl dX12_image_36
    · refine lv_aload_n hx hb dX12_image_20 rfl (lv_at hl 0 rfl) ?_
      refine lv_iconst (v := 0) hx hb dX12_image_21 (by decide) ?_
      refine lv_iconst (v := 1) hx hb dX12_image_22 (by decide) ?_
      refine lv_iload_n hx hb dX12_image_23 rfl (lv_at hl 1 rfl) ?_
      refine lv_iadd hx hb dX12_image_24 ?_
      refine fn_top 3 (by decide) ?_
      refine fn_gov (wc := [(m0, .inr (12, fm.set 0 (.int 0))), (al, .inl (K 0, 5, .inl fal)), (ah, .inl (K 0, 40, .inl fah)), (ab, .inl (K 0, 50, .inl fab)), (ao, .inl (K 0, 60, .inl fao)), (an, .inl (K 0, 480, .inl fan)), (aa, .inl (K 0, 600, .inl faa))]) (wr := [(ak, .inl (K 2, 3, .inl fak))]) hK hP hD hS hA [0, 1, 2, 3, 4, 5, 6] [7] rfl rfl (by decide) (fun hp => va_runV (C := RX12) (As := [.int 0, .int 3]) (rest := []) ⟨hx, hb, hml, hown, hts⟩ (c_X12_copyTown_03 (l := l) (D := D) (K := K) (m0 := (m0)) (fm := (fm.set 0 (.int 0))) (hmn := (fn_sl hmn)) (al := (al)) (hm16 := (fn_gs (by decide) hm16)) (ah := (ah)) (hm17 := (fn_gs (by decide) hm17)) (ab := (ab)) (hm18 := (fn_gs (by decide) hm18)) (ao := (ao)) (hm19 := (fn_gs (by decide) hm19)) (an := (an)) (hm20 := (fn_gs (by decide) hm20)) (aa := (aa)) (hm21 := (fn_gs (by decide) hm21)) (fal := (fal)) (hfal := hfal) (fah := (fah)) (hfah := hfah) (fab := (fab)) (hfab := hfab) (fao := (fao)) (hfao := hfao) (fan := (fan)) (hfan := hfan) (faa := (faa)) (hfaa := hfaa) _) (cwV 2 hts (fn_ginV (fn_gin wd_1532) wd_1529 wd_1531 wp_115 wd_13) rfl rfl rfl (by decide +kernel) ⟨Nat.le_of_ble_eq_true rfl, Nat.le_of_ble_eq_true rfl⟩) ⟨fn_blind, va_recv hK.1 hP (ci := 12) (q0 := 0) rfl rfl, hp⟩ rfl rfl hl.1 rfl (lv_room (Nat.le_of_ble_eq_true rfl)) dX12_image_25 ⟨Nat.le_of_ble_eq_true rfl, Nat.le_of_ble_eq_true rfl⟩) (fun u10 H locs hwu10 hP hD hS => ?_)
      have hP : va_P D vwCl [(ak, .inl (K 2, 3, .inl fak)), (m0, .inr (12, fm.set 0 (.int 0))), (al, .inl (K 0, 5, .inl (u10 0))), (ah, .inl (K 0, 40, .inl (u10 1))), (ab, .inl (K 0, 50, .inl (u10 2))), (ao, .inl (K 0, 60, .inl (u10 3))), (an, .inl (K 0, 480, .inl (u10 4))), (aa, .inl (K 0, 600, .inl (u10 5)))] H := hP
      have hD : va_D A [(ak, .inl (K 2, 3, .inl fak)), (m0, .inr (12, fm.set 0 (.int 0))), (al, .inl (K 0, 5, .inl (u10 0))), (ah, .inl (K 0, 40, .inl (u10 1))), (ab, .inl (K 0, 50, .inl (u10 2))), (ao, .inl (K 0, 60, .inl (u10 3))), (an, .inl (K 0, 480, .inl (u10 4))), (aa, .inl (K 0, 600, .inl (u10 5)))] := hD
      refine lv_aload_n hx hb dX12_image_28 rfl (lv_at hl 0 rfl) ?_
      refine va_get (D := D) (own := RX12) (ci := 12) (v := .ref ak) (C := RX12) (T := TX12) (N := 51) hx hb hts inb_X12 hown hK.1 hP 1 rfl rfl 22 (by decide) (hts _ wd_1256) (fun _ h9 => h9) (fn_gs (by decide) hm22) dX12_image_29 ?_
      refine lv_iload_n hx hb dX12_image_32 rfl (lv_at hl 1 rfl) ?_
      refine lv_iconst (v := 1) hx hb dX12_image_33 (by decide) ?_
      refine fn_at 34 rfl ?_
      refine va_zast hx hb hK.1 hP hD hS 0 2 rfl rfl (by unfold vp_in; decide) dX12_image_34 (fun H locs hP hD hS => ?_)
      obtain ⟨g12, eg12⟩ : ∃ z, z = (upd fak (Int32.toNatClampNeg 2) (vp_nar .boolean 1)) := ⟨_, rfl⟩
      have hP : va_P D vwCl [(ak, .inl (K 2, 3, .inl g12)), (m0, .inr (12, fm.set 0 (.int 0))), (al, .inl (K 0, 5, .inl (u10 0))), (ah, .inl (K 0, 40, .inl (u10 1))), (ab, .inl (K 0, 50, .inl (u10 2))), (ao, .inl (K 0, 60, .inl (u10 3))), (an, .inl (K 0, 480, .inl (u10 4))), (aa, .inl (K 0, 600, .inl (u10 5)))] H := by rw [eg12]; exact hP
      have hD : va_D A [(ak, .inl (K 2, 3, .inl g12)), (m0, .inr (12, fm.set 0 (.int 0))), (al, .inl (K 0, 5, .inl (u10 0))), (ah, .inl (K 0, 40, .inl (u10 1))), (ab, .inl (K 0, 50, .inl (u10 2))), (ao, .inl (K 0, 60, .inl (u10 3))), (an, .inl (K 0, 480, .inl (u10 4))), (aa, .inl (K 0, 600, .inl (u10 5)))] := by rw [eg12]; exact hD
      refine lv_iconst (v := 0) hx hb dX12_image_35 (by decide) ?_
      exact fn_iret hx hb hr hlocks rfl hP hD hS () (by first | exact (if_neg k3).symm | decide) [] (by decide) rfl dX12_image_36
  · have hP : va_P D vwCl [(m0, .inr (12, fm.set 0 (.int 0))), (al, .inl (K 0, 5, .inl fal)), (ah, .inl (K 0, 40, .inl fah)), (ab, .inl (K 0, 50, .inl fab)), (ao, .inl (K 0, 60, .inl fao)), (an, .inl (K 0, 480, .inl fan)), (aa, .inl (K 0, 600, .inl faa)), (ak, .inl (K 2, 3, .inl fak))] H := hP
    have hD : va_D A [(m0, .inr (12, fm.set 0 (.int 0))), (al, .inl (K 0, 5, .inl fal)), (ah, .inl (K 0, 40, .inl fah)), (ab, .inl (K 0, 50, .inl fab)), (ao, .inl (K 0, 60, .inl fao)), (an, .inl (K 0, 480, .inl fan)), (aa, .inl (K 0, 600, .inl faa)), (ak, .inl (K 2, 3, .inl fak))] := hD
    refine lv_if_ne (tgt := 20) hx hb dX12_image_14 (by decide) (fun h9 => absurd rfl h9) (fun _ => ?_)
    refine lv_bipush (v := (-2)) hx hb dX12_image_17 (by decide) ?_
    exact fn_iret hx hb hr hlocks rfl hP hD hS () (by first | exact (if_neg k3).symm | decide) [] (by decide) rfl dX12_image_19
theorem dX12_back_0 : decode cX12_back 0 = .ok (.aload_n 0, 1) := by decide +kernel
theorem dX12_back_1 : decode cX12_back 1 = .ok (.iconst 0, 1) := by decide +kernel
theorem dX12_back_2 : decode cX12_back 2 = .ok (.putfield 104, 3) := by decide +kernel
theorem dX12_back_5 : decode cX12_back 5 = .ok (.iload_n 1, 1) := by decide +kernel
theorem dX12_back_6 : decode cX12_back 6 = .ok (.i2l, 1) := by decide +kernel
theorem dX12_back_7 : decode cX12_back 7 = .ok (.lconst 0, 1) := by decide +kernel
theorem dX12_back_8 : decode cX12_back 8 = .ok (.ldc2_w 453, 3) := by decide +kernel
theorem dX12_back_11 : decode cX12_back 11 = .ok (.invokestatic 109, 3) := by decide +kernel
theorem dX12_back_14 : decode cX12_back 14 = .ok (.ifCond .ne 6, 3) := by decide +kernel
theorem dX12_back_20 : decode cX12_back 20 = .ok (.aload_n 0, 1) := by decide +kernel
theorem dX12_back_21 : decode cX12_back 21 = .ok (.getfield 49, 3) := by decide +kernel
theorem dX12_back_24 : decode cX12_back 24 = .ok (.iload_n 1, 1) := by decide +kernel
theorem dX12_back_25 : decode cX12_back 25 = .ok (.baload, 1) := by decide +kernel
theorem dX12_back_26 : decode cX12_back 26 = .ok (.ifCond .ne 6, 3) := by decide +kernel
theorem dX12_back_29 : decode cX12_back 29 = .ok (.bipush (-6), 2) := by decide +kernel
theorem dX12_back_31 : decode cX12_back 31 = .ok (.ireturn, 1) := by decide +kernel
theorem dX12_back_17 : decode cX12_back 17 = .ok (.bipush (-2), 2) := by decide +kernel
theorem dX12_back_19 : decode cX12_back 19 = .ok (.ireturn, 1) := by decide +kernel
set_option maxHeartbeats 4000000 in
set_option maxRecDepth 100000 in
theorem c_X12_back (l : Launch) (D : va_G) (K : Nat → ClassId) (m0 ak : Nat) (fm : List Value) (hmn : fm.length = 51) (hm22 : fm[22]? = some (.ref ak)) (fak : Nat → Int32) (hfak : ∀ j, fak j = 0) (p0 : Int32) : fn_CI (S := Unit) l D K yX12_back (fn_ws yX12_back cX12_back 2 (some .int)) ({ frames := 8, cells := 0, slots := 0, locals := 200 }) [.ref m0, .int p0] [(m0, .inr (12, fm)), (ak, .inl (K 2, 3, .inl fak))] (fun r _ => r = fn_sBack p0) (fun _ => []) 0 0 := by
  refine fn_inI (cc := cX12_back) (maxL := 2) (ret := (some .int)) (by decide) rfl (Nat.le_of_ble_eq_true rfl) ?_
  intro p e s m below meth c A ls B hA hP hD hS hl
  obtain ⟨hx, hb, hr, hml, hts, hown, hlocks, hin, hK⟩ := B
  have hown : s.vm.findClass RX12 = some m.cls := hown
  have hts := fun w h => hts w (List.mem_cons_of_mem _ h)
  have hl : lv_has ls 2 [(0, .ref m0), (1, .int p0)] := hl
  refine lv_aload_n hx hb dX12_back_0 rfl (lv_at hl 0 rfl) ?_
  refine lv_iconst (v := 0) hx hb dX12_back_1 (by decide) ?_
  refine va_put (D := D) (own := RX12) (ci := 12) (v := .int 0) (ty := .int) (C := RX12) (T := TX12) (N := 51) hx hb hts inb_X12 tyX12 tyX12_ok nmX12 hown hK.1 hP hD hS 0 rfl rfl 0 (by decide) (hts _ wd_1234) (fun _ h9 => h9) rfl (by decide +kernel) rfl rfl (fn_kl hmn (by decide)) dX12_back_2 (fun H locs hP hD hS => ?_)
  have hP : va_P D vwCl [(m0, .inr (12, fm.set 0 (.int 0))), (ak, .inl (K 2, 3, .inl fak))] H := hP
  have hD : va_D A [(m0, .inr (12, fm.set 0 (.int 0))), (ak, .inl (K 2, 3, .inl fak))] := hD
  refine lv_iload_n hx hb dX12_back_5 rfl (lv_at hl 1 rfl) ?_
  refine lv_i2l hx hb dX12_back_6 rfl ?_
  refine lv_lconst (v := 0) hx hb dX12_back_7 (by decide) ?_
  refine lv_ldc2 (own := RX12) (v := 2) hx hb hown (hts _ wd_1948) dX12_back_8 ?_
  refine fn_goi (wc := []) (wr := [(m0, .inr (12, fm.set 0 (.int 0))), (ak, .inl (K 2, 3, .inl fak))]) hK hP hD hS hA [] [0, 1] rfl rfl (by decide) (fun hp => va_runS (As := [.long (Int32.toInt64 p0), .long 0, .long 2]) (rest := []) ⟨hx, hb, hml, hown, hts⟩ (c_X12_in_i2 (l := l) (D := D) (K := K) (p0 := (p0)) _) (va_cwS 3 hts (fn_ginS (fn_gin wd_1398) wd_1396 wd_1397 wd_13) rfl rfl rfl (by decide +kernel) ⟨Nat.le_of_ble_eq_true rfl, Nat.le_of_ble_eq_true rfl⟩) ⟨fn_blind, hp⟩ rfl rfl hl.1 rfl (lv_room (Nat.le_of_ble_eq_true rfl)) dX12_back_11 ⟨Nat.le_of_ble_eq_true rfl, Nat.le_of_ble_eq_true rfl⟩) (fun r2 u1 H locs hwu1 hP hD hS => ?_)
  rcases hwu1 with ⟨rfl, k3⟩ | ⟨rfl, k3⟩
  · have hP : va_P D vwCl [(m0, .inr (12, fm.set 0 (.int 0))), (ak, .inl (K 2, 3, .inl fak))] H := hP
    have hD : va_D A [(m0, .inr (12, fm.set 0 (.int 0))), (ak, .inl (K 2, 3, .inl fak))] := hD
    refine lv_if_ne (tgt := 20) hx hb dX12_back_14 (by decide) (fun _ => ?_) (fun h9 => absurd h9 (by decide))
    refine lv_aload_n hx hb dX12_back_20 rfl (lv_at hl 0 rfl) ?_
    refine va_get (D := D) (own := RX12) (ci := 12) (v := .ref ak) (C := RX12) (T := TX12) (N := 51) hx hb hts inb_X12 hown hK.1 hP 0 rfl rfl 22 (by decide) (hts _ wd_1256) (fun _ h9 => h9) (fn_gs (by decide) hm22) dX12_back_21 ?_
    refine lv_iload_n hx hb dX12_back_24 rfl (lv_at hl 1 rfl) ?_
    refine va_zald hx hb hK.1 hP 1 2 rfl rfl (fn_okIn k3) dX12_back_25 ?_
    refine fn_top 0 (hfak _) ?_
    refine lv_if_ne (tgt := 32) hx hb dX12_back_26 (by decide) (fun h9 => absurd rfl h9) (fun _ => ?_)
    refine lv_bipush (v := (-6)) hx hb dX12_back_29 (by decide) ?_
    exact fn_iret hx hb hr hlocks rfl hP hD hS () (by first | exact (if_neg k3).symm | exact (if_pos k3).symm) [] (by decide) rfl dX12_back_31
  · have hP : va_P D vwCl [(m0, .inr (12, fm.set 0 (.int 0))), (ak, .inl (K 2, 3, .inl fak))] H := hP
    have hD : va_D A [(m0, .inr (12, fm.set 0 (.int 0))), (ak, .inl (K 2, 3, .inl fak))] := hD
    refine lv_if_ne (tgt := 20) hx hb dX12_back_14 (by decide) (fun h9 => absurd rfl h9) (fun _ => ?_)
    refine lv_bipush (v := (-2)) hx hb dX12_back_17 (by decide) ?_
    exact fn_iret hx hb hr hlocks rfl hP hD hS () (by first | exact (if_neg k3).symm | exact (if_pos k3).symm) [] (by decide) rfl dX12_back_19
theorem dX12_write_0 : decode cX12_write 0 = .ok (.aload_n 0, 1) := by decide +kernel
theorem dX12_write_1 : decode cX12_write 1 = .ok (.iconst 0, 1) := by decide +kernel
theorem dX12_write_2 : decode cX12_write 2 = .ok (.putfield 104, 3) := by decide +kernel
theorem dX12_write_5 : decode cX12_write 5 = .ok (.iload_n 1, 1) := by decide +kernel
theorem dX12_write_6 : decode cX12_write 6 = .ok (.invokestatic 113, 3) := by decide +kernel
theorem dX12_write_9 : decode cX12_write 9 = .ok (.ifCond .ne 6, 3) := by decide +kernel
theorem dX12_write_15 : decode cX12_write 15 = .ok (.aload_n 0, 1) := by decide +kernel
theorem dX12_write_16 : decode cX12_write 16 = .ok (.getfield 7, 3) := by decide +kernel
theorem dX12_write_19 : decode cX12_write 19 = .ok (.iload_n 1, 1) := by decide +kernel
theorem dX12_write_20 : decode cX12_write 20 = .ok (.iaload, 1) := by decide +kernel
theorem dX12_write_21 : decode cX12_write 21 = .ok (.iconst (-1), 1) := by decide +kernel
theorem dX12_write_22 : decode cX12_write 22 = .ok (.if_icmp .ne 6, 3) := by decide +kernel
theorem dX12_write_25 : decode cX12_write 25 = .ok (.bipush (-6), 2) := by decide +kernel
theorem dX12_write_27 : decode cX12_write 27 = .ok (.ireturn, 1) := by decide +kernel
theorem dX12_write_12 : decode cX12_write 12 = .ok (.bipush (-2), 2) := by decide +kernel
theorem dX12_write_14 : decode cX12_write 14 = .ok (.ireturn, 1) := by decide +kernel
set_option maxHeartbeats 4000000 in
set_option maxRecDepth 100000 in
theorem c_X12_write (l : Launch) (D : va_G) (K : Nat → ClassId) (m0 aw : Nat) (fm : List Value) (hmn : fm.length = 51) (hm1 : fm[1]? = some (.ref aw)) (faw : Nat → Int32) (hfaw : ∀ j, j < 4 → faw j = -1) (p0 p1 : Int32) (p2 : Int64) : fn_CI (S := Unit) l D K yX12_write (fn_ws yX12_write cX12_write 5 (some .int)) ({ frames := 12, cells := 0, slots := 0, locals := 300 }) [.ref m0, .int p0, .int p1, .long p2] [(m0, .inr (12, fm)), (aw, .inl (K 0, 4, .inl faw))] (fun r _ => r = fn_sWr p0) (fun _ => []) 0 0 := by
  refine fn_inI (cc := cX12_write) (maxL := 5) (ret := (some .int)) (by decide) rfl (Nat.le_of_ble_eq_true rfl) ?_
  intro p e s m below meth c A ls B hA hP hD hS hl
  obtain ⟨hx, hb, hr, hml, hts, hown, hlocks, hin, hK⟩ := B
  have hown : s.vm.findClass RX12 = some m.cls := hown
  have hts := fun w h => hts w (List.mem_cons_of_mem _ h)
  have hl : lv_has ls 5 [(0, .ref m0), (1, .int p0), (2, .int p1), (3, .long p2)] := hl
  refine lv_aload_n hx hb dX12_write_0 rfl (lv_at hl 0 rfl) ?_
  refine lv_iconst (v := 0) hx hb dX12_write_1 (by decide) ?_
  refine va_put (D := D) (own := RX12) (ci := 12) (v := .int 0) (ty := .int) (C := RX12) (T := TX12) (N := 51) hx hb hts inb_X12 tyX12 tyX12_ok nmX12 hown hK.1 hP hD hS 0 rfl rfl 0 (by decide) (hts _ wd_1234) (fun _ h9 => h9) rfl (by decide +kernel) rfl rfl (fn_kl hmn (by decide)) dX12_write_2 (fun H locs hP hD hS => ?_)
  have hP : va_P D vwCl [(m0, .inr (12, fm.set 0 (.int 0))), (aw, .inl (K 0, 4, .inl faw))] H := hP
  have hD : va_D A [(m0, .inr (12, fm.set 0 (.int 0))), (aw, .inl (K 0, 4, .inl faw))] := hD
  refine lv_iload_n hx hb dX12_write_5 rfl (lv_at hl 1 rfl) ?_
  refine fn_goi (wc := []) (wr := [(m0, .inr (12, fm.set 0 (.int 0))), (aw, .inl (K 0, 4, .inl faw))]) hK hP hD hS hA [] [0, 1] rfl rfl (by decide) (fun hp => va_runS (As := [.int p0]) (rest := []) ⟨hx, hb, hml, hown, hts⟩ (c_X12_isSlot (l := l) (D := D) (K := K) (p0 := (p0)) _) (va_cwS 1 hts (fn_ginS (fn_gin wd_1394) wd_1392 wd_1393 wd_13) rfl rfl rfl (by decide +kernel) ⟨Nat.le_of_ble_eq_true rfl, Nat.le_of_ble_eq_true rfl⟩) ⟨fn_blind, hp⟩ rfl rfl hl.1 rfl (lv_room (Nat.le_of_ble_eq_true rfl)) dX12_write_6 ⟨Nat.le_of_ble_eq_true rfl, Nat.le_of_ble_eq_true rfl⟩) (fun r2 u1 H locs hwu1 hP hD hS => ?_)
  rcases hwu1 with ⟨rfl, k3⟩ | ⟨rfl, k3⟩
  · have hP : va_P D vwCl [(m0, .inr (12, fm.set 0 (.int 0))), (aw, .inl (K 0, 4, .inl faw))] H := hP
    have hD : va_D A [(m0, .inr (12, fm.set 0 (.int 0))), (aw, .inl (K 0, 4, .inl faw))] := hD
    refine lv_if_ne (tgt := 15) hx hb dX12_write_9 (by decide) (fun _ => ?_) (fun h9 => absurd h9 (by decide))
    refine lv_aload_n hx hb dX12_write_15 rfl (lv_at hl 0 rfl) ?_
    refine va_get (D := D) (own := RX12) (ci := 12) (v := .ref aw) (C := RX12) (T := TX12) (N := 51) hx hb hts inb_X12 hown hK.1 hP 0 rfl rfl 1 (by decide) (hts _ wd_1235) (fun _ h9 => h9) (fn_gs (by decide) hm1) dX12_write_16 ?_
    refine lv_iload_n hx hb dX12_write_19 rfl (lv_at hl 1 rfl) ?_
    refine va_iald hx hb hK.1 hP 1 0 rfl rfl (fn_okIn k3) dX12_write_20 ?_
    refine fn_top (-1) (hfaw _ (fn_cl (n := 4) k3)) ?_
    refine lv_iconst (v := (-1)) hx hb dX12_write_21 (by decide) ?_
    refine lv_icmp_ne (tgt := 28) hx hb dX12_write_22 (by decide) (fun h9 => absurd rfl h9) (fun _ => ?_)
    refine lv_bipush (v := (-6)) hx hb dX12_write_25 (by decide) ?_
    exact fn_iret hx hb hr hlocks rfl hP hD hS () (by first | exact (if_neg k3).symm | exact (if_pos k3).symm) [] (by decide) rfl dX12_write_27
  · have hP : va_P D vwCl [(m0, .inr (12, fm.set 0 (.int 0))), (aw, .inl (K 0, 4, .inl faw))] H := hP
    have hD : va_D A [(m0, .inr (12, fm.set 0 (.int 0))), (aw, .inl (K 0, 4, .inl faw))] := hD
    refine lv_if_ne (tgt := 15) hx hb dX12_write_9 (by decide) (fun h9 => absurd rfl h9) (fun _ => ?_)
    refine lv_bipush (v := (-2)) hx hb dX12_write_12 (by decide) ?_
    exact fn_iret hx hb hr hlocks rfl hP hD hS () (by first | exact (if_neg k3).symm | exact (if_pos k3).symm) [] (by decide) rfl dX12_write_14
theorem dX12_paste_0 : decode cX12_paste 0 = .ok (.aload_n 0, 1) := by decide +kernel
theorem dX12_paste_1 : decode cX12_paste 1 = .ok (.iconst 0, 1) := by decide +kernel
theorem dX12_paste_2 : decode cX12_paste 2 = .ok (.putfield 104, 3) := by decide +kernel
theorem dX12_paste_5 : decode cX12_paste 5 = .ok (.iload_n 1, 1) := by decide +kernel
theorem dX12_paste_6 : decode cX12_paste 6 = .ok (.invokestatic 113, 3) := by decide +kernel
theorem dX12_paste_9 : decode cX12_paste 9 = .ok (.ifCond .eq 10, 3) := by decide +kernel
theorem dX12_paste_12 : decode cX12_paste 12 = .ok (.iload_n 3, 1) := by decide +kernel
theorem dX12_paste_13 : decode cX12_paste 13 = .ok (.invokestatic 113, 3) := by decide +kernel
theorem dX12_paste_16 : decode cX12_paste 16 = .ok (.ifCond .ne 6, 3) := by decide +kernel
theorem dX12_paste_22 : decode cX12_paste 22 = .ok (.aload_n 0, 1) := by decide +kernel
theorem dX12_paste_23 : decode cX12_paste 23 = .ok (.getfield 7, 3) := by decide +kernel
theorem dX12_paste_26 : decode cX12_paste 26 = .ok (.iload_n 1, 1) := by decide +kernel
theorem dX12_paste_27 : decode cX12_paste 27 = .ok (.iaload, 1) := by decide +kernel
theorem dX12_paste_28 : decode cX12_paste 28 = .ok (.iconst (-1), 1) := by decide +kernel
theorem dX12_paste_29 : decode cX12_paste 29 = .ok (.if_icmp .eq 13, 3) := by decide +kernel
theorem dX12_paste_42 : decode cX12_paste 42 = .ok (.bipush (-6), 2) := by decide +kernel
theorem dX12_paste_44 : decode cX12_paste 44 = .ok (.ireturn, 1) := by decide +kernel
theorem dX12_paste_19 : decode cX12_paste 19 = .ok (.bipush (-2), 2) := by decide +kernel
theorem dX12_paste_21 : decode cX12_paste 21 = .ok (.ireturn, 1) := by decide +kernel
set_option maxHeartbeats 4000000 in
set_option maxRecDepth 100000 in
theorem c_X12_paste (l : Launch) (D : va_G) (K : Nat → ClassId) (m0 aw : Nat) (fm : List Value) (hmn : fm.length = 51) (hm1 : fm[1]? = some (.ref aw)) (faw : Nat → Int32) (hfaw : ∀ j, j < 4 → faw j = -1) (p0 p1 p2 p3 p4 : Int32) : fn_CI (S := Unit) l D K yX12_paste (fn_ws yX12_paste cX12_paste 7 (some .int)) ({ frames := 12, cells := 0, slots := 0, locals := 300 }) [.ref m0, .int p0, .int p1, .int p2, .int p3, .int p4] [(m0, .inr (12, fm)), (aw, .inl (K 0, 4, .inl faw))] (fun r _ => r = fn_sPst p0 p2) (fun _ => []) 0 0 := by
  refine fn_inI (cc := cX12_paste) (maxL := 7) (ret := (some .int)) (by decide) rfl (Nat.le_of_ble_eq_true rfl) ?_
  intro p e s m below meth c A ls B hA hP hD hS hl
  obtain ⟨hx, hb, hr, hml, hts, hown, hlocks, hin, hK⟩ := B
  have hown : s.vm.findClass RX12 = some m.cls := hown
  have hts := fun w h => hts w (List.mem_cons_of_mem _ h)
  have hl : lv_has ls 7 [(0, .ref m0), (1, .int p0), (2, .int p1), (3, .int p2), (4, .int p3), (5, .int p4)] := hl
  refine lv_aload_n hx hb dX12_paste_0 rfl (lv_at hl 0 rfl) ?_
  refine lv_iconst (v := 0) hx hb dX12_paste_1 (by decide) ?_
  refine va_put (D := D) (own := RX12) (ci := 12) (v := .int 0) (ty := .int) (C := RX12) (T := TX12) (N := 51) hx hb hts inb_X12 tyX12 tyX12_ok nmX12 hown hK.1 hP hD hS 0 rfl rfl 0 (by decide) (hts _ wd_1234) (fun _ h9 => h9) rfl (by decide +kernel) rfl rfl (fn_kl hmn (by decide)) dX12_paste_2 (fun H locs hP hD hS => ?_)
  have hP : va_P D vwCl [(m0, .inr (12, fm.set 0 (.int 0))), (aw, .inl (K 0, 4, .inl faw))] H := hP
  have hD : va_D A [(m0, .inr (12, fm.set 0 (.int 0))), (aw, .inl (K 0, 4, .inl faw))] := hD
  refine lv_iload_n hx hb dX12_paste_5 rfl (lv_at hl 1 rfl) ?_
  refine fn_goi (wc := []) (wr := [(m0, .inr (12, fm.set 0 (.int 0))), (aw, .inl (K 0, 4, .inl faw))]) hK hP hD hS hA [] [0, 1] rfl rfl (by decide) (fun hp => va_runS (As := [.int p0]) (rest := []) ⟨hx, hb, hml, hown, hts⟩ (c_X12_isSlot (l := l) (D := D) (K := K) (p0 := (p0)) _) (va_cwS 1 hts (fn_ginS (fn_gin wd_1394) wd_1392 wd_1393 wd_13) rfl rfl rfl (by decide +kernel) ⟨Nat.le_of_ble_eq_true rfl, Nat.le_of_ble_eq_true rfl⟩) ⟨fn_blind, hp⟩ rfl rfl hl.1 rfl (lv_room (Nat.le_of_ble_eq_true rfl)) dX12_paste_6 ⟨Nat.le_of_ble_eq_true rfl, Nat.le_of_ble_eq_true rfl⟩) (fun r2 u1 H locs hwu1 hP hD hS => ?_)
  rcases hwu1 with ⟨rfl, k3⟩ | ⟨rfl, k3⟩
  · have hP : va_P D vwCl [(m0, .inr (12, fm.set 0 (.int 0))), (aw, .inl (K 0, 4, .inl faw))] H := hP
    have hD : va_D A [(m0, .inr (12, fm.set 0 (.int 0))), (aw, .inl (K 0, 4, .inl faw))] := hD
    refine lv_if_eq (tgt := 19) hx hb dX12_paste_9 (by decide) (fun h9 => absurd h9 (by decide)) (fun _ => ?_)
    refine lv_iload_n hx hb dX12_paste_12 rfl (lv_at hl 3 rfl) ?_
    refine fn_goi (wc := []) (wr := [(m0, .inr (12, fm.set 0 (.int 0))), (aw, .inl (K 0, 4, .inl faw))]) hK hP hD hS hA [] [0, 1] rfl rfl (by decide) (fun hp => va_runS (As := [.int p2]) (rest := []) ⟨hx, hb, hml, hown, hts⟩ (c_X12_isSlot (l := l) (D := D) (K := K) (p0 := (p2)) _) (va_cwS 1 hts (fn_ginS (fn_gin wd_1394) wd_1392 wd_1393 wd_13) rfl rfl rfl (by decide +kernel) ⟨Nat.le_of_ble_eq_true rfl, Nat.le_of_ble_eq_true rfl⟩) ⟨fn_blind, hp⟩ rfl rfl hl.1 rfl (lv_room (Nat.le_of_ble_eq_true rfl)) dX12_paste_13 ⟨Nat.le_of_ble_eq_true rfl, Nat.le_of_ble_eq_true rfl⟩) (fun r5 u4 H locs hwu4 hP hD hS => ?_)
    rcases hwu4 with ⟨rfl, k6⟩ | ⟨rfl, k6⟩
    · have hP : va_P D vwCl [(m0, .inr (12, fm.set 0 (.int 0))), (aw, .inl (K 0, 4, .inl faw))] H := hP
      have hD : va_D A [(m0, .inr (12, fm.set 0 (.int 0))), (aw, .inl (K 0, 4, .inl faw))] := hD
      refine lv_if_ne (tgt := 22) hx hb dX12_paste_16 (by decide) (fun _ => ?_) (fun h9 => absurd h9 (by decide))
      refine lv_aload_n hx hb dX12_paste_22 rfl (lv_at hl 0 rfl) ?_
      refine va_get (D := D) (own := RX12) (ci := 12) (v := .ref aw) (C := RX12) (T := TX12) (N := 51) hx hb hts inb_X12 hown hK.1 hP 0 rfl rfl 1 (by decide) (hts _ wd_1235) (fun _ h9 => h9) (fn_gs (by decide) hm1) dX12_paste_23 ?_
      refine lv_iload_n hx hb dX12_paste_26 rfl (lv_at hl 1 rfl) ?_
      refine va_iald hx hb hK.1 hP 1 0 rfl rfl (fn_okIn k3) dX12_paste_27 ?_
      refine fn_top (-1) (hfaw _ (fn_cl (n := 4) k3)) ?_
      refine lv_iconst (v := (-1)) hx hb dX12_paste_28 (by decide) ?_
      refine lv_icmp_eq (tgt := 42) hx hb dX12_paste_29 (by decide) (fun _ => ?_) (fun h9 => absurd (by decide) h9)
      refine lv_bipush (v := (-6)) hx hb dX12_paste_42 (by decide) ?_
      exact fn_iret hx hb hr hlocks rfl hP hD hS () (if_pos ⟨k3, k6⟩).symm [] (by decide) rfl dX12_paste_44
    · have hP : va_P D vwCl [(m0, .inr (12, fm.set 0 (.int 0))), (aw, .inl (K 0, 4, .inl faw))] H := hP
      have hD : va_D A [(m0, .inr (12, fm.set 0 (.int 0))), (aw, .inl (K 0, 4, .inl faw))] := hD
      refine lv_if_ne (tgt := 22) hx hb dX12_paste_16 (by decide) (fun h9 => absurd rfl h9) (fun _ => ?_)
      refine lv_bipush (v := (-2)) hx hb dX12_paste_19 (by decide) ?_
      exact fn_iret hx hb hr hlocks rfl hP hD hS () (if_neg (fun h9 => k6 h9.2)).symm [] (by decide) rfl dX12_paste_21
  · have hP : va_P D vwCl [(m0, .inr (12, fm.set 0 (.int 0))), (aw, .inl (K 0, 4, .inl faw))] H := hP
    have hD : va_D A [(m0, .inr (12, fm.set 0 (.int 0))), (aw, .inl (K 0, 4, .inl faw))] := hD
    refine lv_if_eq (tgt := 19) hx hb dX12_paste_9 (by decide) (fun _ => ?_) (fun h9 => absurd (by decide) h9)
    refine lv_bipush (v := (-2)) hx hb dX12_paste_19 (by decide) ?_
    exact fn_iret hx hb hr hlocks rfl hP hD hS () (if_neg (fun h9 => k3 h9.1)).symm [] (by decide) rfl dX12_paste_21
theorem dX12_row_0 : decode cX12_row 0 = .ok (.aload_n 0, 1) := by decide +kernel
theorem dX12_row_1 : decode cX12_row 1 = .ok (.iconst 0, 1) := by decide +kernel
theorem dX12_row_2 : decode cX12_row 2 = .ok (.putfield 104, 3) := by decide +kernel
theorem dX12_row_5 : decode cX12_row 5 = .ok (.iload_n 1, 1) := by decide +kernel
theorem dX12_row_6 : decode cX12_row 6 = .ok (.invokestatic 113, 3) := by decide +kernel
theorem dX12_row_9 : decode cX12_row 9 = .ok (.ifCond .eq 21, 3) := by decide +kernel
theorem dX12_row_12 : decode cX12_row 12 = .ok (.iload_n 2, 1) := by decide +kernel
theorem dX12_row_13 : decode cX12_row 13 = .ok (.i2l, 1) := by decide +kernel
theorem dX12_row_14 : decode cX12_row 14 = .ok (.lconst 0, 1) := by decide +kernel
theorem dX12_row_15 : decode cX12_row 15 = .ok (.ldc2_w 107, 3) := by decide +kernel
theorem dX12_row_18 : decode cX12_row 18 = .ok (.invokestatic 109, 3) := by decide +kernel
theorem dX12_row_21 : decode cX12_row 21 = .ok (.ifCond .eq 9, 3) := by decide +kernel
theorem dX12_row_24 : decode cX12_row 24 = .ok (.iload_n 3, 1) := by decide +kernel
theorem dX12_row_25 : decode cX12_row 25 = .ok (.bipush 60, 2) := by decide +kernel
theorem dX12_row_27 : decode cX12_row 27 = .ok (.if_icmp .le 6, 3) := by decide +kernel
theorem dX12_row_33 : decode cX12_row 33 = .ok (.iload_n 3, 1) := by decide +kernel
theorem dX12_row_34 : decode cX12_row 34 = .ok (.ifCond .ge 6, 3) := by decide +kernel
theorem dX12_row_40 : decode cX12_row 40 = .ok (.aload_n 0, 1) := by decide +kernel
theorem dX12_row_41 : decode cX12_row 41 = .ok (.getfield 7, 3) := by decide +kernel
theorem dX12_row_44 : decode cX12_row 44 = .ok (.iload_n 1, 1) := by decide +kernel
theorem dX12_row_45 : decode cX12_row 45 = .ok (.iload_n 2, 1) := by decide +kernel
theorem dX12_row_46 : decode cX12_row 46 = .ok (.iastore, 1) := by decide +kernel
theorem dX12_row_47 : decode cX12_row 47 = .ok (.aload_n 0, 1) := by decide +kernel
theorem dX12_row_48 : decode cX12_row 48 = .ok (.getfield 13, 3) := by decide +kernel
theorem dX12_row_51 : decode cX12_row 51 = .ok (.iload_n 1, 1) := by decide +kernel
theorem dX12_row_52 : decode cX12_row 52 = .ok (.iload_n 3, 1) := by decide +kernel
theorem dX12_row_53 : decode cX12_row 53 = .ok (.iastore, 1) := by decide +kernel
theorem dX12_row_54 : decode cX12_row 54 = .ok (.iconst 0, 1) := by decide +kernel
theorem dX12_row_55 : decode cX12_row 55 = .ok (.istore 4, 2) := by decide +kernel
theorem dX12_row_57 : decode cX12_row 57 = .ok (.iload 4, 2) := by decide +kernel
theorem dX12_row_59 : decode cX12_row 59 = .ok (.iload_n 3, 1) := by decide +kernel
theorem dX12_row_60 : decode cX12_row 60 = .ok (.if_icmp .ge 22, 3) := by decide +kernel
theorem dX12_row_82 : decode cX12_row 82 = .ok (.iconst 0, 1) := by decide +kernel
theorem dX12_row_83 : decode cX12_row 83 = .ok (.ireturn, 1) := by decide +kernel
theorem dX12_row_63 : decode cX12_row 63 = .ok (.aload_n 0, 1) := by decide +kernel
theorem dX12_row_64 : decode cX12_row 64 = .ok (.getfield 16, 3) := by decide +kernel
theorem dX12_row_67 : decode cX12_row 67 = .ok (.bipush 60, 2) := by decide +kernel
theorem dX12_row_69 : decode cX12_row 69 = .ok (.iload_n 1, 1) := by decide +kernel
theorem dX12_row_70 : decode cX12_row 70 = .ok (.imul, 1) := by decide +kernel
theorem dX12_row_71 : decode cX12_row 71 = .ok (.iload 4, 2) := by decide +kernel
theorem dX12_row_73 : decode cX12_row 73 = .ok (.iadd, 1) := by decide +kernel
theorem dX12_row_74 : decode cX12_row 74 = .ok (.lconst 0, 1) := by decide +kernel
theorem dX12_row_75 : decode cX12_row 75 = .ok (.lastore, 1) := by decide +kernel
theorem dX12_row_76 : decode cX12_row 76 = .ok (.iinc 4 1, 3) := by decide +kernel
theorem dX12_row_79 : decode cX12_row 79 = .ok (.goto (-22), 3) := by decide +kernel
theorem dX12_row_37 : decode cX12_row 37 = .ok (.bipush (-3), 2) := by decide +kernel
theorem dX12_row_39 : decode cX12_row 39 = .ok (.ireturn, 1) := by decide +kernel
theorem dX12_row_30 : decode cX12_row 30 = .ok (.bipush (-2), 2) := by decide +kernel
theorem dX12_row_32 : decode cX12_row 32 = .ok (.ireturn, 1) := by decide +kernel
set_option maxHeartbeats 4000000 in
set_option maxRecDepth 100000 in
theorem c_X12_row (l : Launch) (D : va_G) (K : Nat → ClassId) (m0 aw am ac : Nat) (fm : List Value) (hmn : fm.length = 51) (hm1 : fm[1]? = some (.ref aw)) (hm2 : fm[2]? = some (.ref am)) (hm3 : fm[3]? = some (.ref ac)) (faw fam : Nat → Int32) (fac : Nat → Int64) (p0 p1 p2 : Int32) : fn_CI (S := Unit) l D K yX12_row (fn_ws yX12_row cX12_row 5 (some .int)) ({ frames := 12, cells := 0, slots := 0, locals := 300 }) [.ref m0, .int p0, .int p1, .int p2] [(m0, .inr (12, fm)), (aw, .inl (K 0, 4, .inl faw)), (am, .inl (K 0, 4, .inl fam)), (ac, .inl (K 3, 240, .inr (.inl fac)))] (fun r _ => r = fn_sRow p0 p1 p2) (fun _ => []) 0 0 := by
  refine fn_inI (cc := cX12_row) (maxL := 5) (ret := (some .int)) (by decide) rfl (Nat.le_of_ble_eq_true rfl) ?_
  intro p e s m below meth c A ls B hA hP hD hS hl
  obtain ⟨hx, hb, hr, hml, hts, hown, hlocks, hin, hK⟩ := B
  have hown : s.vm.findClass RX12 = some m.cls := hown
  have hts := fun w h => hts w (List.mem_cons_of_mem _ h)
  have hl : lv_has ls 5 [(0, .ref m0), (1, .int p0), (2, .int p1), (3, .int p2)] := hl
  refine lv_aload_n hx hb dX12_row_0 rfl (lv_at hl 0 rfl) ?_
  refine lv_iconst (v := 0) hx hb dX12_row_1 (by decide) ?_
  refine va_put (D := D) (own := RX12) (ci := 12) (v := .int 0) (ty := .int) (C := RX12) (T := TX12) (N := 51) hx hb hts inb_X12 tyX12 tyX12_ok nmX12 hown hK.1 hP hD hS 0 rfl rfl 0 (by decide) (hts _ wd_1234) (fun _ h9 => h9) rfl (by decide +kernel) rfl rfl (fn_kl hmn (by decide)) dX12_row_2 (fun H locs hP hD hS => ?_)
  have hP : va_P D vwCl [(m0, .inr (12, fm.set 0 (.int 0))), (aw, .inl (K 0, 4, .inl faw)), (am, .inl (K 0, 4, .inl fam)), (ac, .inl (K 3, 240, .inr (.inl fac)))] H := hP
  have hD : va_D A [(m0, .inr (12, fm.set 0 (.int 0))), (aw, .inl (K 0, 4, .inl faw)), (am, .inl (K 0, 4, .inl fam)), (ac, .inl (K 3, 240, .inr (.inl fac)))] := hD
  refine lv_iload_n hx hb dX12_row_5 rfl (lv_at hl 1 rfl) ?_
  refine fn_goi (wc := []) (wr := [(m0, .inr (12, fm.set 0 (.int 0))), (aw, .inl (K 0, 4, .inl faw)), (am, .inl (K 0, 4, .inl fam)), (ac, .inl (K 3, 240, .inr (.inl fac)))]) hK hP hD hS hA [] [0, 1, 2, 3] rfl rfl (by decide) (fun hp => va_runS (As := [.int p0]) (rest := []) ⟨hx, hb, hml, hown, hts⟩ (c_X12_isSlot (l := l) (D := D) (K := K) (p0 := (p0)) _) (va_cwS 1 hts (fn_ginS (fn_gin wd_1394) wd_1392 wd_1393 wd_13) rfl rfl rfl (by decide +kernel) ⟨Nat.le_of_ble_eq_true rfl, Nat.le_of_ble_eq_true rfl⟩) ⟨fn_blind, hp⟩ rfl rfl hl.1 rfl (lv_room (Nat.le_of_ble_eq_true rfl)) dX12_row_6 ⟨Nat.le_of_ble_eq_true rfl, Nat.le_of_ble_eq_true rfl⟩) (fun r2 u1 H locs hwu1 hP hD hS => ?_)
  rcases hwu1 with ⟨rfl, k3⟩ | ⟨rfl, k3⟩
  · have hP : va_P D vwCl [(m0, .inr (12, fm.set 0 (.int 0))), (aw, .inl (K 0, 4, .inl faw)), (am, .inl (K 0, 4, .inl fam)), (ac, .inl (K 3, 240, .inr (.inl fac)))] H := hP
    have hD : va_D A [(m0, .inr (12, fm.set 0 (.int 0))), (aw, .inl (K 0, 4, .inl faw)), (am, .inl (K 0, 4, .inl fam)), (ac, .inl (K 3, 240, .inr (.inl fac)))] := hD
    refine lv_if_eq (tgt := 30) hx hb dX12_row_9 (by decide) (fun h9 => absurd h9 (by decide)) (fun _ => ?_)
    refine lv_iload_n hx hb dX12_row_12 rfl (lv_at hl 2 rfl) ?_
    refine lv_i2l hx hb dX12_row_13 rfl ?_
    refine lv_lconst (v := 0) hx hb dX12_row_14 (by decide) ?_
    refine lv_ldc2 (own := RX12) (v := 3) hx hb hown (hts _ wd_1395) dX12_row_15 ?_
    refine fn_goi (wc := []) (wr := [(m0, .inr (12, fm.set 0 (.int 0))), (aw, .inl (K 0, 4, .inl faw)), (am, .inl (K 0, 4, .inl fam)), (ac, .inl (K 3, 240, .inr (.inl fac)))]) hK hP hD hS hA [] [0, 1, 2, 3] rfl rfl (by decide) (fun hp => va_runS (As := [.long (Int32.toInt64 p1), .long 0, .long 3]) (rest := []) ⟨hx, hb, hml, hown, hts⟩ (c_X12_in_i3 (l := l) (D := D) (K := K) (p0 := (p1)) _) (va_cwS 3 hts (fn_ginS (fn_gin wd_1398) wd_1396 wd_1397 wd_13) rfl rfl rfl (by decide +kernel) ⟨Nat.le_of_ble_eq_true rfl, Nat.le_of_ble_eq_true rfl⟩) ⟨fn_blind, hp⟩ rfl rfl hl.1 rfl (lv_room (Nat.le_of_ble_eq_true rfl)) dX12_row_18 ⟨Nat.le_of_ble_eq_true rfl, Nat.le_of_ble_eq_true rfl⟩) (fun r5 u4 H locs hwu4 hP hD hS => ?_)
    rcases hwu4 with ⟨rfl, k6⟩ | ⟨rfl, k6⟩
    · have hP : va_P D vwCl [(m0, .inr (12, fm.set 0 (.int 0))), (aw, .inl (K 0, 4, .inl faw)), (am, .inl (K 0, 4, .inl fam)), (ac, .inl (K 3, 240, .inr (.inl fac)))] H := hP
      have hD : va_D A [(m0, .inr (12, fm.set 0 (.int 0))), (aw, .inl (K 0, 4, .inl faw)), (am, .inl (K 0, 4, .inl fam)), (ac, .inl (K 3, 240, .inr (.inl fac)))] := hD
      refine lv_if_eq (tgt := 30) hx hb dX12_row_21 (by decide) (fun h9 => absurd h9 (by decide)) (fun _ => ?_)
      refine lv_iload_n hx hb dX12_row_24 rfl (lv_at hl 3 rfl) ?_
      refine lv_bipush (v := 60) hx hb dX12_row_25 (by decide) ?_
      refine lv_icmp_le (tgt := 33) hx hb dX12_row_27 (by decide) (fun c27 => ?_) (fun c27 => ?_)
      · refine lv_iload_n hx hb dX12_row_33 rfl (lv_at hl 3 rfl) ?_
        refine lv_if_ge (tgt := 40) hx hb dX12_row_34 (by decide) (fun c34 => ?_) (fun c34 => ?_)
        · rcases (fn_c4 k3) with rfl | rfl | rfl | rfl
          · have hrow := fn_row0 (p := 0) k3 k6 ((fn_ge 60 fn_60).mp c27) (by rw [fn_0le] at c34; omega)
            obtain ⟨N, hN, rfl⟩ : ∃ j : Nat, j ≤ 60 ∧ p2 = nI j := nI_of2 (by decide) (by rw [fn_0le] at c34; rw [fn_lt0]; omega) c27
            refine lv_aload_n hx hb dX12_row_40 rfl (lv_at hl 0 rfl) ?_
            refine va_get (D := D) (own := RX12) (ci := 12) (v := .ref aw) (C := RX12) (T := TX12) (N := 51) hx hb hts inb_X12 hown hK.1 hP 0 rfl rfl 1 (by decide) (hts _ wd_1235) (fun _ h9 => h9) (fn_gs (by decide) hm1) dX12_row_41 ?_
            refine fn_at 44 rfl ?_
            refine lv_iload_n hx hb dX12_row_44 rfl (lv_at hl 1 rfl) ?_
            refine lv_iload_n hx hb dX12_row_45 rfl (lv_at hl 2 rfl) ?_
            refine va_iast hx hb hK.1 hP hD hS 1 0 rfl rfl (by unfold vp_in; decide) dX12_row_46 (fun H locs hP hD hS => ?_)
            obtain ⟨g7, eg7⟩ : ∃ z, z = (upd faw (Int32.toNatClampNeg 0) p1) := ⟨_, rfl⟩
            have hP : va_P D vwCl [(m0, .inr (12, fm.set 0 (.int 0))), (aw, .inl (K 0, 4, .inl g7)), (am, .inl (K 0, 4, .inl fam)), (ac, .inl (K 3, 240, .inr (.inl fac)))] H := by rw [eg7]; exact hP
            have hD : va_D A [(m0, .inr (12, fm.set 0 (.int 0))), (aw, .inl (K 0, 4, .inl g7)), (am, .inl (K 0, 4, .inl fam)), (ac, .inl (K 3, 240, .inr (.inl fac)))] := by rw [eg7]; exact hD
            refine lv_aload_n hx hb dX12_row_47 rfl (lv_at hl 0 rfl) ?_
            refine va_get (D := D) (own := RX12) (ci := 12) (v := .ref am) (C := RX12) (T := TX12) (N := 51) hx hb hts inb_X12 hown hK.1 hP 0 rfl rfl 2 (by decide) (hts _ wd_1236) (fun _ h9 => h9) (fn_gs (by decide) hm2) dX12_row_48 ?_
            refine lv_iload_n hx hb dX12_row_51 rfl (lv_at hl 1 rfl) ?_
            refine lv_iload_n hx hb dX12_row_52 rfl (lv_at hl 3 rfl) ?_
            refine va_iast hx hb hK.1 hP hD hS 2 0 rfl rfl (by unfold vp_in; decide) dX12_row_53 (fun H locs hP hD hS => ?_)
            obtain ⟨g8, eg8⟩ : ∃ z, z = (upd fam (Int32.toNatClampNeg 0) (nI N)) := ⟨_, rfl⟩
            have hP : va_P D vwCl [(m0, .inr (12, fm.set 0 (.int 0))), (aw, .inl (K 0, 4, .inl g7)), (am, .inl (K 0, 4, .inl g8)), (ac, .inl (K 3, 240, .inr (.inl fac)))] H := by rw [eg8]; exact hP
            have hD : va_D A [(m0, .inr (12, fm.set 0 (.int 0))), (aw, .inl (K 0, 4, .inl g7)), (am, .inl (K 0, 4, .inl g8)), (ac, .inl (K 3, 240, .inr (.inl fac)))] := by rw [eg8]; exact hD
            refine lv_iconst (v := 0) hx hb dX12_row_54 (by decide) ?_
            refine lv_istore (lv' := [(4, .int 0), (0, .ref m0), (1, .int 0), (2, .int p1), (3, .int (nI N))]) hx hb dX12_row_55 hl (by decide) rfl (fun ls hl => ?_)
            have loop : ∀ (k i : Nat) (g : Nat → Int64) (H : Heap) (locs : List Loc) (ls : Array Slot), N ≤ i + k → i ≤ N → va_P D vwCl [(m0, .inr (12, fm.set 0 (.int 0))), (aw, .inl (K 0, 4, .inl g7)), (am, .inl (K 0, 4, .inl g8)), (ac, .inl (K 3, 240, .inr (.inl g)))] H → va_D A [(m0, .inr (12, fm.set 0 (.int 0))), (aw, .inl (K 0, 4, .inl g7)), (am, .inl (K 0, 4, .inl g8)), (ac, .inl (K 3, 240, .inr (.inl g)))] → va_S A s.heap H locs → lv_has ls 5 [(4, .int (nI i)), (0, .ref m0), (1, .int 0), (2, .int p1), (3, .int (nI N))] → W p l e (headSpec (fn_ws yX12_row cX12_row 5 (some .int)) ({ frames := 12, cells := 0, slots := 0, locals := 300 })).room s m ([.ref m0, .int 0, .int p1, .int (nI N)] : List Value).toArray below meth c H locs 0 0 (MQ below (va_Qi (S := Unit) (fun r _ => r = fn_sRow 0 p1 (nI N)) (fun u t => va_P D vwCl ((fun _ => []) u) t.heap ∧ va_D A ((fun _ => []) u)) A) ([.ref m0, .int 0, .int p1, .int (nI N)] : List Value).toArray s 0 0 A) (F0 m 57 ls []) := by
              intro k
              induction k with
              | zero =>
                intro i g H locs ls hk hi  hP hD hS hl
                refine lv_iload hx hb dX12_row_57 (lv_at hl 0 rfl) ?_
                refine lv_iload_n hx hb dX12_row_59 rfl (lv_at hl 4 rfl) ?_
                refine lv_icmp_ge (tgt := 82) hx hb dX12_row_60 (by decide) (fun c60 => ?_) (fun h9 => absurd (nI_le (by omega) (by omega)) h9)
                refine lv_iconst (v := 0) hx hb dX12_row_82 (by decide) ?_
                exact fn_iret hx hb hr hlocks rfl hP hD hS () hrow [] (by decide) rfl dX12_row_83
              | succ k ih =>
                intro i g H locs ls hk hi  hP hD hS hl
                rcases Nat.lt_or_ge i N with hlt | hge
                · refine lv_iload hx hb dX12_row_57 (lv_at hl 0 rfl) ?_
                  refine lv_iload_n hx hb dX12_row_59 rfl (lv_at hl 4 rfl) ?_
                  refine lv_icmp_ge (tgt := 82) hx hb dX12_row_60 (by decide) (fun h9 => absurd h9 (nI_ge hlt (by omega))) (fun c60 => ?_)
                  refine lv_aload_n hx hb dX12_row_63 rfl (lv_at hl 1 rfl) ?_
                  refine va_get (D := D) (own := RX12) (ci := 12) (v := .ref ac) (C := RX12) (T := TX12) (N := 51) hx hb hts inb_X12 hown hK.1 hP 0 rfl rfl 3 (by decide) (hts _ wd_1237) (fun _ h9 => h9) (fn_gs (by decide) hm3) dX12_row_64 ?_
                  refine lv_bipush (v := 60) hx hb dX12_row_67 (by decide) ?_
                  refine lv_iload_n hx hb dX12_row_69 rfl (lv_at hl 2 rfl) ?_
                  refine lv_imul hx hb dX12_row_70 ?_
                  refine fn_top 0 (by decide) ?_
                  refine lv_iload hx hb dX12_row_71 (lv_at hl 0 rfl) ?_
                  refine lv_iadd hx hb dX12_row_73 ?_
                  refine fn_top (nI (0 + i)) (nI_add 0 i) ?_
                  refine fn_at 74 rfl ?_
                  refine lv_lconst (v := 0) hx hb dX12_row_74 (by decide) ?_
                  refine va_last hx hb hK.1 hP hD hS 3 3 rfl rfl (vp_in_nI (by omega) (by decide)) dX12_row_75 (fun H locs hP hD hS => ?_)
                  obtain ⟨g9, eg9⟩ : ∃ z, z = (vp_updL g (Int32.toNatClampNeg (nI (0 + i))) 0) := ⟨_, rfl⟩
                  have hP : va_P D vwCl [(m0, .inr (12, fm.set 0 (.int 0))), (aw, .inl (K 0, 4, .inl g7)), (am, .inl (K 0, 4, .inl g8)), (ac, .inl (K 3, 240, .inr (.inl g9)))] H := by rw [eg9]; exact hP
                  have hD : va_D A [(m0, .inr (12, fm.set 0 (.int 0))), (aw, .inl (K 0, 4, .inl g7)), (am, .inl (K 0, 4, .inl g8)), (ac, .inl (K 3, 240, .inr (.inl g9)))] := by rw [eg9]; exact hD
                  refine lv_iinc (v := (nI (i + 1))) (lv' := [(4, .int (nI (i + 1))), (0, .ref m0), (1, .int 0), (2, .int p1), (3, .int (nI N))]) hx hb dX12_row_76 hl (k := 0) rfl (nI_1 i) (by decide) rfl (fun ls hl => ?_)
                  refine lv_goto (tgt := 57) hx hb dX12_row_79 (by decide) ?_
                  exact ih (i + 1) g9 H locs ls (by omega) (by omega)  hP hD hS (lv_sub hl [0, 1, 2, 3, 4] rfl)
                · refine lv_iload hx hb dX12_row_57 (lv_at hl 0 rfl) ?_
                  refine lv_iload_n hx hb dX12_row_59 rfl (lv_at hl 4 rfl) ?_
                  refine lv_icmp_ge (tgt := 82) hx hb dX12_row_60 (by decide) (fun c60 => ?_) (fun h9 => absurd (nI_le (by omega) (by omega)) h9)
                  refine lv_iconst (v := 0) hx hb dX12_row_82 (by decide) ?_
                  exact fn_iret hx hb hr hlocks rfl hP hD hS () hrow [] (by decide) rfl dX12_row_83
            exact loop N 0 _ _ _ ls (by omega) (by omega)  hP hD hS hl
          · have hrow := fn_row0 (p := 1) k3 k6 ((fn_ge 60 fn_60).mp c27) (by rw [fn_0le] at c34; omega)
            obtain ⟨N, hN, rfl⟩ : ∃ j : Nat, j ≤ 60 ∧ p2 = nI j := nI_of2 (by decide) (by rw [fn_0le] at c34; rw [fn_lt0]; omega) c27
            refine lv_aload_n hx hb dX12_row_40 rfl (lv_at hl 0 rfl) ?_
            refine va_get (D := D) (own := RX12) (ci := 12) (v := .ref aw) (C := RX12) (T := TX12) (N := 51) hx hb hts inb_X12 hown hK.1 hP 0 rfl rfl 1 (by decide) (hts _ wd_1235) (fun _ h9 => h9) (fn_gs (by decide) hm1) dX12_row_41 ?_
            refine fn_at 44 rfl ?_
            refine lv_iload_n hx hb dX12_row_44 rfl (lv_at hl 1 rfl) ?_
            refine lv_iload_n hx hb dX12_row_45 rfl (lv_at hl 2 rfl) ?_
            refine va_iast hx hb hK.1 hP hD hS 1 0 rfl rfl (by unfold vp_in; decide) dX12_row_46 (fun H locs hP hD hS => ?_)
            obtain ⟨g10, eg10⟩ : ∃ z, z = (upd faw (Int32.toNatClampNeg 1) p1) := ⟨_, rfl⟩
            have hP : va_P D vwCl [(m0, .inr (12, fm.set 0 (.int 0))), (aw, .inl (K 0, 4, .inl g10)), (am, .inl (K 0, 4, .inl fam)), (ac, .inl (K 3, 240, .inr (.inl fac)))] H := by rw [eg10]; exact hP
            have hD : va_D A [(m0, .inr (12, fm.set 0 (.int 0))), (aw, .inl (K 0, 4, .inl g10)), (am, .inl (K 0, 4, .inl fam)), (ac, .inl (K 3, 240, .inr (.inl fac)))] := by rw [eg10]; exact hD
            refine lv_aload_n hx hb dX12_row_47 rfl (lv_at hl 0 rfl) ?_
            refine va_get (D := D) (own := RX12) (ci := 12) (v := .ref am) (C := RX12) (T := TX12) (N := 51) hx hb hts inb_X12 hown hK.1 hP 0 rfl rfl 2 (by decide) (hts _ wd_1236) (fun _ h9 => h9) (fn_gs (by decide) hm2) dX12_row_48 ?_
            refine lv_iload_n hx hb dX12_row_51 rfl (lv_at hl 1 rfl) ?_
            refine lv_iload_n hx hb dX12_row_52 rfl (lv_at hl 3 rfl) ?_
            refine va_iast hx hb hK.1 hP hD hS 2 0 rfl rfl (by unfold vp_in; decide) dX12_row_53 (fun H locs hP hD hS => ?_)
            obtain ⟨g11, eg11⟩ : ∃ z, z = (upd fam (Int32.toNatClampNeg 1) (nI N)) := ⟨_, rfl⟩
            have hP : va_P D vwCl [(m0, .inr (12, fm.set 0 (.int 0))), (aw, .inl (K 0, 4, .inl g10)), (am, .inl (K 0, 4, .inl g11)), (ac, .inl (K 3, 240, .inr (.inl fac)))] H := by rw [eg11]; exact hP
            have hD : va_D A [(m0, .inr (12, fm.set 0 (.int 0))), (aw, .inl (K 0, 4, .inl g10)), (am, .inl (K 0, 4, .inl g11)), (ac, .inl (K 3, 240, .inr (.inl fac)))] := by rw [eg11]; exact hD
            refine lv_iconst (v := 0) hx hb dX12_row_54 (by decide) ?_
            refine lv_istore (lv' := [(4, .int 0), (0, .ref m0), (1, .int 1), (2, .int p1), (3, .int (nI N))]) hx hb dX12_row_55 hl (by decide) rfl (fun ls hl => ?_)
            have loop : ∀ (k i : Nat) (g : Nat → Int64) (H : Heap) (locs : List Loc) (ls : Array Slot), N ≤ i + k → i ≤ N → va_P D vwCl [(m0, .inr (12, fm.set 0 (.int 0))), (aw, .inl (K 0, 4, .inl g10)), (am, .inl (K 0, 4, .inl g11)), (ac, .inl (K 3, 240, .inr (.inl g)))] H → va_D A [(m0, .inr (12, fm.set 0 (.int 0))), (aw, .inl (K 0, 4, .inl g10)), (am, .inl (K 0, 4, .inl g11)), (ac, .inl (K 3, 240, .inr (.inl g)))] → va_S A s.heap H locs → lv_has ls 5 [(4, .int (nI i)), (0, .ref m0), (1, .int 1), (2, .int p1), (3, .int (nI N))] → W p l e (headSpec (fn_ws yX12_row cX12_row 5 (some .int)) ({ frames := 12, cells := 0, slots := 0, locals := 300 })).room s m ([.ref m0, .int 1, .int p1, .int (nI N)] : List Value).toArray below meth c H locs 0 0 (MQ below (va_Qi (S := Unit) (fun r _ => r = fn_sRow 1 p1 (nI N)) (fun u t => va_P D vwCl ((fun _ => []) u) t.heap ∧ va_D A ((fun _ => []) u)) A) ([.ref m0, .int 1, .int p1, .int (nI N)] : List Value).toArray s 0 0 A) (F0 m 57 ls []) := by
              intro k
              induction k with
              | zero =>
                intro i g H locs ls hk hi  hP hD hS hl
                refine lv_iload hx hb dX12_row_57 (lv_at hl 0 rfl) ?_
                refine lv_iload_n hx hb dX12_row_59 rfl (lv_at hl 4 rfl) ?_
                refine lv_icmp_ge (tgt := 82) hx hb dX12_row_60 (by decide) (fun c60 => ?_) (fun h9 => absurd (nI_le (by omega) (by omega)) h9)
                refine lv_iconst (v := 0) hx hb dX12_row_82 (by decide) ?_
                exact fn_iret hx hb hr hlocks rfl hP hD hS () hrow [] (by decide) rfl dX12_row_83
              | succ k ih =>
                intro i g H locs ls hk hi  hP hD hS hl
                rcases Nat.lt_or_ge i N with hlt | hge
                · refine lv_iload hx hb dX12_row_57 (lv_at hl 0 rfl) ?_
                  refine lv_iload_n hx hb dX12_row_59 rfl (lv_at hl 4 rfl) ?_
                  refine lv_icmp_ge (tgt := 82) hx hb dX12_row_60 (by decide) (fun h9 => absurd h9 (nI_ge hlt (by omega))) (fun c60 => ?_)
                  refine lv_aload_n hx hb dX12_row_63 rfl (lv_at hl 1 rfl) ?_
                  refine va_get (D := D) (own := RX12) (ci := 12) (v := .ref ac) (C := RX12) (T := TX12) (N := 51) hx hb hts inb_X12 hown hK.1 hP 0 rfl rfl 3 (by decide) (hts _ wd_1237) (fun _ h9 => h9) (fn_gs (by decide) hm3) dX12_row_64 ?_
                  refine lv_bipush (v := 60) hx hb dX12_row_67 (by decide) ?_
                  refine lv_iload_n hx hb dX12_row_69 rfl (lv_at hl 2 rfl) ?_
                  refine lv_imul hx hb dX12_row_70 ?_
                  refine fn_top 60 (by decide) ?_
                  refine lv_iload hx hb dX12_row_71 (lv_at hl 0 rfl) ?_
                  refine lv_iadd hx hb dX12_row_73 ?_
                  refine fn_top (nI (60 + i)) (nI_add 60 i) ?_
                  refine fn_at 74 rfl ?_
                  refine lv_lconst (v := 0) hx hb dX12_row_74 (by decide) ?_
                  refine va_last hx hb hK.1 hP hD hS 3 3 rfl rfl (vp_in_nI (by omega) (by decide)) dX12_row_75 (fun H locs hP hD hS => ?_)
                  obtain ⟨g12, eg12⟩ : ∃ z, z = (vp_updL g (Int32.toNatClampNeg (nI (60 + i))) 0) := ⟨_, rfl⟩
                  have hP : va_P D vwCl [(m0, .inr (12, fm.set 0 (.int 0))), (aw, .inl (K 0, 4, .inl g10)), (am, .inl (K 0, 4, .inl g11)), (ac, .inl (K 3, 240, .inr (.inl g12)))] H := by rw [eg12]; exact hP
                  have hD : va_D A [(m0, .inr (12, fm.set 0 (.int 0))), (aw, .inl (K 0, 4, .inl g10)), (am, .inl (K 0, 4, .inl g11)), (ac, .inl (K 3, 240, .inr (.inl g12)))] := by rw [eg12]; exact hD
                  refine lv_iinc (v := (nI (i + 1))) (lv' := [(4, .int (nI (i + 1))), (0, .ref m0), (1, .int 1), (2, .int p1), (3, .int (nI N))]) hx hb dX12_row_76 hl (k := 0) rfl (nI_1 i) (by decide) rfl (fun ls hl => ?_)
                  refine lv_goto (tgt := 57) hx hb dX12_row_79 (by decide) ?_
                  exact ih (i + 1) g12 H locs ls (by omega) (by omega)  hP hD hS (lv_sub hl [0, 1, 2, 3, 4] rfl)
                · refine lv_iload hx hb dX12_row_57 (lv_at hl 0 rfl) ?_
                  refine lv_iload_n hx hb dX12_row_59 rfl (lv_at hl 4 rfl) ?_
                  refine lv_icmp_ge (tgt := 82) hx hb dX12_row_60 (by decide) (fun c60 => ?_) (fun h9 => absurd (nI_le (by omega) (by omega)) h9)
                  refine lv_iconst (v := 0) hx hb dX12_row_82 (by decide) ?_
                  exact fn_iret hx hb hr hlocks rfl hP hD hS () hrow [] (by decide) rfl dX12_row_83
            exact loop N 0 _ _ _ ls (by omega) (by omega)  hP hD hS hl
          · have hrow := fn_row0 (p := 2) k3 k6 ((fn_ge 60 fn_60).mp c27) (by rw [fn_0le] at c34; omega)
            obtain ⟨N, hN, rfl⟩ : ∃ j : Nat, j ≤ 60 ∧ p2 = nI j := nI_of2 (by decide) (by rw [fn_0le] at c34; rw [fn_lt0]; omega) c27
            refine lv_aload_n hx hb dX12_row_40 rfl (lv_at hl 0 rfl) ?_
            refine va_get (D := D) (own := RX12) (ci := 12) (v := .ref aw) (C := RX12) (T := TX12) (N := 51) hx hb hts inb_X12 hown hK.1 hP 0 rfl rfl 1 (by decide) (hts _ wd_1235) (fun _ h9 => h9) (fn_gs (by decide) hm1) dX12_row_41 ?_
            refine fn_at 44 rfl ?_
            refine lv_iload_n hx hb dX12_row_44 rfl (lv_at hl 1 rfl) ?_
            refine lv_iload_n hx hb dX12_row_45 rfl (lv_at hl 2 rfl) ?_
            refine va_iast hx hb hK.1 hP hD hS 1 0 rfl rfl (by unfold vp_in; decide) dX12_row_46 (fun H locs hP hD hS => ?_)
            obtain ⟨g13, eg13⟩ : ∃ z, z = (upd faw (Int32.toNatClampNeg 2) p1) := ⟨_, rfl⟩
            have hP : va_P D vwCl [(m0, .inr (12, fm.set 0 (.int 0))), (aw, .inl (K 0, 4, .inl g13)), (am, .inl (K 0, 4, .inl fam)), (ac, .inl (K 3, 240, .inr (.inl fac)))] H := by rw [eg13]; exact hP
            have hD : va_D A [(m0, .inr (12, fm.set 0 (.int 0))), (aw, .inl (K 0, 4, .inl g13)), (am, .inl (K 0, 4, .inl fam)), (ac, .inl (K 3, 240, .inr (.inl fac)))] := by rw [eg13]; exact hD
            refine lv_aload_n hx hb dX12_row_47 rfl (lv_at hl 0 rfl) ?_
            refine va_get (D := D) (own := RX12) (ci := 12) (v := .ref am) (C := RX12) (T := TX12) (N := 51) hx hb hts inb_X12 hown hK.1 hP 0 rfl rfl 2 (by decide) (hts _ wd_1236) (fun _ h9 => h9) (fn_gs (by decide) hm2) dX12_row_48 ?_
            refine lv_iload_n hx hb dX12_row_51 rfl (lv_at hl 1 rfl) ?_
            refine lv_iload_n hx hb dX12_row_52 rfl (lv_at hl 3 rfl) ?_
            refine va_iast hx hb hK.1 hP hD hS 2 0 rfl rfl (by unfold vp_in; decide) dX12_row_53 (fun H locs hP hD hS => ?_)
            obtain ⟨g14, eg14⟩ : ∃ z, z = (upd fam (Int32.toNatClampNeg 2) (nI N)) := ⟨_, rfl⟩
            have hP : va_P D vwCl [(m0, .inr (12, fm.set 0 (.int 0))), (aw, .inl (K 0, 4, .inl g13)), (am, .inl (K 0, 4, .inl g14)), (ac, .inl (K 3, 240, .inr (.inl fac)))] H := by rw [eg14]; exact hP
            have hD : va_D A [(m0, .inr (12, fm.set 0 (.int 0))), (aw, .inl (K 0, 4, .inl g13)), (am, .inl (K 0, 4, .inl g14)), (ac, .inl (K 3, 240, .inr (.inl fac)))] := by rw [eg14]; exact hD
            refine lv_iconst (v := 0) hx hb dX12_row_54 (by decide) ?_
            refine lv_istore (lv' := [(4, .int 0), (0, .ref m0), (1, .int 2), (2, .int p1), (3, .int (nI N))]) hx hb dX12_row_55 hl (by decide) rfl (fun ls hl => ?_)
            have loop : ∀ (k i : Nat) (g : Nat → Int64) (H : Heap) (locs : List Loc) (ls : Array Slot), N ≤ i + k → i ≤ N → va_P D vwCl [(m0, .inr (12, fm.set 0 (.int 0))), (aw, .inl (K 0, 4, .inl g13)), (am, .inl (K 0, 4, .inl g14)), (ac, .inl (K 3, 240, .inr (.inl g)))] H → va_D A [(m0, .inr (12, fm.set 0 (.int 0))), (aw, .inl (K 0, 4, .inl g13)), (am, .inl (K 0, 4, .inl g14)), (ac, .inl (K 3, 240, .inr (.inl g)))] → va_S A s.heap H locs → lv_has ls 5 [(4, .int (nI i)), (0, .ref m0), (1, .int 2), (2, .int p1), (3, .int (nI N))] → W p l e (headSpec (fn_ws yX12_row cX12_row 5 (some .int)) ({ frames := 12, cells := 0, slots := 0, locals := 300 })).room s m ([.ref m0, .int 2, .int p1, .int (nI N)] : List Value).toArray below meth c H locs 0 0 (MQ below (va_Qi (S := Unit) (fun r _ => r = fn_sRow 2 p1 (nI N)) (fun u t => va_P D vwCl ((fun _ => []) u) t.heap ∧ va_D A ((fun _ => []) u)) A) ([.ref m0, .int 2, .int p1, .int (nI N)] : List Value).toArray s 0 0 A) (F0 m 57 ls []) := by
              intro k
              induction k with
              | zero =>
                intro i g H locs ls hk hi  hP hD hS hl
                refine lv_iload hx hb dX12_row_57 (lv_at hl 0 rfl) ?_
                refine lv_iload_n hx hb dX12_row_59 rfl (lv_at hl 4 rfl) ?_
                refine lv_icmp_ge (tgt := 82) hx hb dX12_row_60 (by decide) (fun c60 => ?_) (fun h9 => absurd (nI_le (by omega) (by omega)) h9)
                refine lv_iconst (v := 0) hx hb dX12_row_82 (by decide) ?_
                exact fn_iret hx hb hr hlocks rfl hP hD hS () hrow [] (by decide) rfl dX12_row_83
              | succ k ih =>
                intro i g H locs ls hk hi  hP hD hS hl
                rcases Nat.lt_or_ge i N with hlt | hge
                · refine lv_iload hx hb dX12_row_57 (lv_at hl 0 rfl) ?_
                  refine lv_iload_n hx hb dX12_row_59 rfl (lv_at hl 4 rfl) ?_
                  refine lv_icmp_ge (tgt := 82) hx hb dX12_row_60 (by decide) (fun h9 => absurd h9 (nI_ge hlt (by omega))) (fun c60 => ?_)
                  refine lv_aload_n hx hb dX12_row_63 rfl (lv_at hl 1 rfl) ?_
                  refine va_get (D := D) (own := RX12) (ci := 12) (v := .ref ac) (C := RX12) (T := TX12) (N := 51) hx hb hts inb_X12 hown hK.1 hP 0 rfl rfl 3 (by decide) (hts _ wd_1237) (fun _ h9 => h9) (fn_gs (by decide) hm3) dX12_row_64 ?_
                  refine lv_bipush (v := 60) hx hb dX12_row_67 (by decide) ?_
                  refine lv_iload_n hx hb dX12_row_69 rfl (lv_at hl 2 rfl) ?_
                  refine lv_imul hx hb dX12_row_70 ?_
                  refine fn_top 120 (by decide) ?_
                  refine lv_iload hx hb dX12_row_71 (lv_at hl 0 rfl) ?_
                  refine lv_iadd hx hb dX12_row_73 ?_
                  refine fn_top (nI (120 + i)) (nI_add 120 i) ?_
                  refine fn_at 74 rfl ?_
                  refine lv_lconst (v := 0) hx hb dX12_row_74 (by decide) ?_
                  refine va_last hx hb hK.1 hP hD hS 3 3 rfl rfl (vp_in_nI (by omega) (by decide)) dX12_row_75 (fun H locs hP hD hS => ?_)
                  obtain ⟨g15, eg15⟩ : ∃ z, z = (vp_updL g (Int32.toNatClampNeg (nI (120 + i))) 0) := ⟨_, rfl⟩
                  have hP : va_P D vwCl [(m0, .inr (12, fm.set 0 (.int 0))), (aw, .inl (K 0, 4, .inl g13)), (am, .inl (K 0, 4, .inl g14)), (ac, .inl (K 3, 240, .inr (.inl g15)))] H := by rw [eg15]; exact hP
                  have hD : va_D A [(m0, .inr (12, fm.set 0 (.int 0))), (aw, .inl (K 0, 4, .inl g13)), (am, .inl (K 0, 4, .inl g14)), (ac, .inl (K 3, 240, .inr (.inl g15)))] := by rw [eg15]; exact hD
                  refine lv_iinc (v := (nI (i + 1))) (lv' := [(4, .int (nI (i + 1))), (0, .ref m0), (1, .int 2), (2, .int p1), (3, .int (nI N))]) hx hb dX12_row_76 hl (k := 0) rfl (nI_1 i) (by decide) rfl (fun ls hl => ?_)
                  refine lv_goto (tgt := 57) hx hb dX12_row_79 (by decide) ?_
                  exact ih (i + 1) g15 H locs ls (by omega) (by omega)  hP hD hS (lv_sub hl [0, 1, 2, 3, 4] rfl)
                · refine lv_iload hx hb dX12_row_57 (lv_at hl 0 rfl) ?_
                  refine lv_iload_n hx hb dX12_row_59 rfl (lv_at hl 4 rfl) ?_
                  refine lv_icmp_ge (tgt := 82) hx hb dX12_row_60 (by decide) (fun c60 => ?_) (fun h9 => absurd (nI_le (by omega) (by omega)) h9)
                  refine lv_iconst (v := 0) hx hb dX12_row_82 (by decide) ?_
                  exact fn_iret hx hb hr hlocks rfl hP hD hS () hrow [] (by decide) rfl dX12_row_83
            exact loop N 0 _ _ _ ls (by omega) (by omega)  hP hD hS hl
          · have hrow := fn_row0 (p := 3) k3 k6 ((fn_ge 60 fn_60).mp c27) (by rw [fn_0le] at c34; omega)
            obtain ⟨N, hN, rfl⟩ : ∃ j : Nat, j ≤ 60 ∧ p2 = nI j := nI_of2 (by decide) (by rw [fn_0le] at c34; rw [fn_lt0]; omega) c27
            refine lv_aload_n hx hb dX12_row_40 rfl (lv_at hl 0 rfl) ?_
            refine va_get (D := D) (own := RX12) (ci := 12) (v := .ref aw) (C := RX12) (T := TX12) (N := 51) hx hb hts inb_X12 hown hK.1 hP 0 rfl rfl 1 (by decide) (hts _ wd_1235) (fun _ h9 => h9) (fn_gs (by decide) hm1) dX12_row_41 ?_
            refine fn_at 44 rfl ?_
            refine lv_iload_n hx hb dX12_row_44 rfl (lv_at hl 1 rfl) ?_
            refine lv_iload_n hx hb dX12_row_45 rfl (lv_at hl 2 rfl) ?_
            refine va_iast hx hb hK.1 hP hD hS 1 0 rfl rfl (by unfold vp_in; decide) dX12_row_46 (fun H locs hP hD hS => ?_)
            obtain ⟨g16, eg16⟩ : ∃ z, z = (upd faw (Int32.toNatClampNeg 3) p1) := ⟨_, rfl⟩
            have hP : va_P D vwCl [(m0, .inr (12, fm.set 0 (.int 0))), (aw, .inl (K 0, 4, .inl g16)), (am, .inl (K 0, 4, .inl fam)), (ac, .inl (K 3, 240, .inr (.inl fac)))] H := by rw [eg16]; exact hP
            have hD : va_D A [(m0, .inr (12, fm.set 0 (.int 0))), (aw, .inl (K 0, 4, .inl g16)), (am, .inl (K 0, 4, .inl fam)), (ac, .inl (K 3, 240, .inr (.inl fac)))] := by rw [eg16]; exact hD
            refine lv_aload_n hx hb dX12_row_47 rfl (lv_at hl 0 rfl) ?_
            refine va_get (D := D) (own := RX12) (ci := 12) (v := .ref am) (C := RX12) (T := TX12) (N := 51) hx hb hts inb_X12 hown hK.1 hP 0 rfl rfl 2 (by decide) (hts _ wd_1236) (fun _ h9 => h9) (fn_gs (by decide) hm2) dX12_row_48 ?_
            refine lv_iload_n hx hb dX12_row_51 rfl (lv_at hl 1 rfl) ?_
            refine lv_iload_n hx hb dX12_row_52 rfl (lv_at hl 3 rfl) ?_
            refine va_iast hx hb hK.1 hP hD hS 2 0 rfl rfl (by unfold vp_in; decide) dX12_row_53 (fun H locs hP hD hS => ?_)
            obtain ⟨g17, eg17⟩ : ∃ z, z = (upd fam (Int32.toNatClampNeg 3) (nI N)) := ⟨_, rfl⟩
            have hP : va_P D vwCl [(m0, .inr (12, fm.set 0 (.int 0))), (aw, .inl (K 0, 4, .inl g16)), (am, .inl (K 0, 4, .inl g17)), (ac, .inl (K 3, 240, .inr (.inl fac)))] H := by rw [eg17]; exact hP
            have hD : va_D A [(m0, .inr (12, fm.set 0 (.int 0))), (aw, .inl (K 0, 4, .inl g16)), (am, .inl (K 0, 4, .inl g17)), (ac, .inl (K 3, 240, .inr (.inl fac)))] := by rw [eg17]; exact hD
            refine lv_iconst (v := 0) hx hb dX12_row_54 (by decide) ?_
            refine lv_istore (lv' := [(4, .int 0), (0, .ref m0), (1, .int 3), (2, .int p1), (3, .int (nI N))]) hx hb dX12_row_55 hl (by decide) rfl (fun ls hl => ?_)
            have loop : ∀ (k i : Nat) (g : Nat → Int64) (H : Heap) (locs : List Loc) (ls : Array Slot), N ≤ i + k → i ≤ N → va_P D vwCl [(m0, .inr (12, fm.set 0 (.int 0))), (aw, .inl (K 0, 4, .inl g16)), (am, .inl (K 0, 4, .inl g17)), (ac, .inl (K 3, 240, .inr (.inl g)))] H → va_D A [(m0, .inr (12, fm.set 0 (.int 0))), (aw, .inl (K 0, 4, .inl g16)), (am, .inl (K 0, 4, .inl g17)), (ac, .inl (K 3, 240, .inr (.inl g)))] → va_S A s.heap H locs → lv_has ls 5 [(4, .int (nI i)), (0, .ref m0), (1, .int 3), (2, .int p1), (3, .int (nI N))] → W p l e (headSpec (fn_ws yX12_row cX12_row 5 (some .int)) ({ frames := 12, cells := 0, slots := 0, locals := 300 })).room s m ([.ref m0, .int 3, .int p1, .int (nI N)] : List Value).toArray below meth c H locs 0 0 (MQ below (va_Qi (S := Unit) (fun r _ => r = fn_sRow 3 p1 (nI N)) (fun u t => va_P D vwCl ((fun _ => []) u) t.heap ∧ va_D A ((fun _ => []) u)) A) ([.ref m0, .int 3, .int p1, .int (nI N)] : List Value).toArray s 0 0 A) (F0 m 57 ls []) := by
              intro k
              induction k with
              | zero =>
                intro i g H locs ls hk hi  hP hD hS hl
                refine lv_iload hx hb dX12_row_57 (lv_at hl 0 rfl) ?_
                refine lv_iload_n hx hb dX12_row_59 rfl (lv_at hl 4 rfl) ?_
                refine lv_icmp_ge (tgt := 82) hx hb dX12_row_60 (by decide) (fun c60 => ?_) (fun h9 => absurd (nI_le (by omega) (by omega)) h9)
                refine lv_iconst (v := 0) hx hb dX12_row_82 (by decide) ?_
                exact fn_iret hx hb hr hlocks rfl hP hD hS () hrow [] (by decide) rfl dX12_row_83
              | succ k ih =>
                intro i g H locs ls hk hi  hP hD hS hl
                rcases Nat.lt_or_ge i N with hlt | hge
                · refine lv_iload hx hb dX12_row_57 (lv_at hl 0 rfl) ?_
                  refine lv_iload_n hx hb dX12_row_59 rfl (lv_at hl 4 rfl) ?_
                  refine lv_icmp_ge (tgt := 82) hx hb dX12_row_60 (by decide) (fun h9 => absurd h9 (nI_ge hlt (by omega))) (fun c60 => ?_)
                  refine lv_aload_n hx hb dX12_row_63 rfl (lv_at hl 1 rfl) ?_
                  refine va_get (D := D) (own := RX12) (ci := 12) (v := .ref ac) (C := RX12) (T := TX12) (N := 51) hx hb hts inb_X12 hown hK.1 hP 0 rfl rfl 3 (by decide) (hts _ wd_1237) (fun _ h9 => h9) (fn_gs (by decide) hm3) dX12_row_64 ?_
                  refine lv_bipush (v := 60) hx hb dX12_row_67 (by decide) ?_
                  refine lv_iload_n hx hb dX12_row_69 rfl (lv_at hl 2 rfl) ?_
                  refine lv_imul hx hb dX12_row_70 ?_
                  refine fn_top 180 (by decide) ?_
                  refine lv_iload hx hb dX12_row_71 (lv_at hl 0 rfl) ?_
                  refine lv_iadd hx hb dX12_row_73 ?_
                  refine fn_top (nI (180 + i)) (nI_add 180 i) ?_
                  refine fn_at 74 rfl ?_
                  refine lv_lconst (v := 0) hx hb dX12_row_74 (by decide) ?_
                  refine va_last hx hb hK.1 hP hD hS 3 3 rfl rfl (vp_in_nI (by omega) (by decide)) dX12_row_75 (fun H locs hP hD hS => ?_)
                  obtain ⟨g18, eg18⟩ : ∃ z, z = (vp_updL g (Int32.toNatClampNeg (nI (180 + i))) 0) := ⟨_, rfl⟩
                  have hP : va_P D vwCl [(m0, .inr (12, fm.set 0 (.int 0))), (aw, .inl (K 0, 4, .inl g16)), (am, .inl (K 0, 4, .inl g17)), (ac, .inl (K 3, 240, .inr (.inl g18)))] H := by rw [eg18]; exact hP
                  have hD : va_D A [(m0, .inr (12, fm.set 0 (.int 0))), (aw, .inl (K 0, 4, .inl g16)), (am, .inl (K 0, 4, .inl g17)), (ac, .inl (K 3, 240, .inr (.inl g18)))] := by rw [eg18]; exact hD
                  refine lv_iinc (v := (nI (i + 1))) (lv' := [(4, .int (nI (i + 1))), (0, .ref m0), (1, .int 3), (2, .int p1), (3, .int (nI N))]) hx hb dX12_row_76 hl (k := 0) rfl (nI_1 i) (by decide) rfl (fun ls hl => ?_)
                  refine lv_goto (tgt := 57) hx hb dX12_row_79 (by decide) ?_
                  exact ih (i + 1) g18 H locs ls (by omega) (by omega)  hP hD hS (lv_sub hl [0, 1, 2, 3, 4] rfl)
                · refine lv_iload hx hb dX12_row_57 (lv_at hl 0 rfl) ?_
                  refine lv_iload_n hx hb dX12_row_59 rfl (lv_at hl 4 rfl) ?_
                  refine lv_icmp_ge (tgt := 82) hx hb dX12_row_60 (by decide) (fun c60 => ?_) (fun h9 => absurd (nI_le (by omega) (by omega)) h9)
                  refine lv_iconst (v := 0) hx hb dX12_row_82 (by decide) ?_
                  exact fn_iret hx hb hr hlocks rfl hP hD hS () hrow [] (by decide) rfl dX12_row_83
            exact loop N 0 _ _ _ ls (by omega) (by omega)  hP hD hS hl
        · refine lv_bipush (v := (-3)) hx hb dX12_row_37 (by decide) ?_
          exact fn_iret hx hb hr hlocks rfl hP hD hS () (by first | exact fn_row3 k3 k6 ((fn_ge 60 fn_60).mp c27) (by rw [fn_0le] at c34; omega)) [] (by decide) rfl dX12_row_39
      · refine lv_bipush (v := (-2)) hx hb dX12_row_30 (by decide) ?_
        exact fn_iret hx hb hr hlocks rfl hP hD hS () (fn_row2 (fun h9 => c27 ((fn_ge 60 fn_60).mpr h9.2.2))) [] (by decide) rfl dX12_row_32
    · have hP : va_P D vwCl [(m0, .inr (12, fm.set 0 (.int 0))), (aw, .inl (K 0, 4, .inl faw)), (am, .inl (K 0, 4, .inl fam)), (ac, .inl (K 3, 240, .inr (.inl fac)))] H := hP
      have hD : va_D A [(m0, .inr (12, fm.set 0 (.int 0))), (aw, .inl (K 0, 4, .inl faw)), (am, .inl (K 0, 4, .inl fam)), (ac, .inl (K 3, 240, .inr (.inl fac)))] := hD
      refine lv_if_eq (tgt := 30) hx hb dX12_row_21 (by decide) (fun _ => ?_) (fun h9 => absurd (by decide) h9)
      refine lv_bipush (v := (-2)) hx hb dX12_row_30 (by decide) ?_
      exact fn_iret hx hb hr hlocks rfl hP hD hS () (fn_row2 (fun h9 => k6 h9.2.1)) [] (by decide) rfl dX12_row_32
  · have hP : va_P D vwCl [(m0, .inr (12, fm.set 0 (.int 0))), (aw, .inl (K 0, 4, .inl faw)), (am, .inl (K 0, 4, .inl fam)), (ac, .inl (K 3, 240, .inr (.inl fac)))] H := hP
    have hD : va_D A [(m0, .inr (12, fm.set 0 (.int 0))), (aw, .inl (K 0, 4, .inl faw)), (am, .inl (K 0, 4, .inl fam)), (ac, .inl (K 3, 240, .inr (.inl fac)))] := hD
    refine lv_if_eq (tgt := 30) hx hb dX12_row_9 (by decide) (fun _ => ?_) (fun h9 => absurd (by decide) h9)
    refine lv_bipush (v := (-2)) hx hb dX12_row_30 (by decide) ?_
    exact fn_iret hx hb hr hlocks rfl hP hD hS () (fn_row2 (fun h9 => k3 h9.1)) [] (by decide) rfl dX12_row_32
theorem dX12_sizeOf_0 : decode cX12_sizeOf 0 = .ok (.iconst 0, 1) := by decide +kernel
theorem dX12_sizeOf_1 : decode cX12_sizeOf 1 = .ok (.istore_n 1, 1) := by decide +kernel
theorem dX12_sizeOf_2 : decode cX12_sizeOf 2 = .ok (.iload_n 0, 1) := by decide +kernel
theorem dX12_sizeOf_3 : decode cX12_sizeOf 3 = .ok (.istore_n 2, 1) := by decide +kernel
theorem dX12_sizeOf_4 : decode cX12_sizeOf 4 = .ok (.iload_n 2, 1) := by decide +kernel
theorem dX12_sizeOf_5 : decode cX12_sizeOf 5 = .ok (.ifCond .eq 15, 3) := by decide +kernel
theorem dX12_sizeOf_20 : decode cX12_sizeOf 20 = .ok (.iload_n 1, 1) := by decide +kernel
theorem dX12_sizeOf_21 : decode cX12_sizeOf 21 = .ok (.ireturn, 1) := by decide +kernel
set_option maxHeartbeats 4000000 in
set_option maxRecDepth 100000 in
theorem c_X12_sizeOf (l : Launch) (D : va_G) (K : Nat → ClassId)  : fn_CI (S := Unit) l D K yX12_sizeOf (fn_ws yX12_sizeOf cX12_sizeOf 3 (some .int)) ({ frames := 4, cells := 0, slots := 0, locals := 100 }) [.int 0] [] (fun r _ => r = 0) (fun _ => []) 0 0 := by
  refine fn_inI (cc := cX12_sizeOf) (maxL := 3) (ret := (some .int)) (by decide) rfl (Nat.le_of_ble_eq_true rfl) ?_
  intro p e s m below meth c A ls B hA hP hD hS hl
  obtain ⟨hx, hb, hr, hml, hts, hown, hlocks, hin, hK⟩ := B
  have hown : s.vm.findClass RX12 = some m.cls := hown
  have hts := fun w h => hts w (List.mem_cons_of_mem _ h)
  have hl : lv_has ls 3 [(0, .int 0)] := hl
  refine lv_iconst (v := 0) hx hb dX12_sizeOf_0 (by decide) ?_
  refine lv_istore_n (lv' := [(1, .int 0), (0, .int 0)]) hx hb dX12_sizeOf_1 rfl hl (by decide) rfl (fun ls hl => ?_)
  refine lv_iload_n hx hb dX12_sizeOf_2 rfl (lv_at hl 1 rfl) ?_
  refine lv_istore_n (lv' := [(2, .int 0), (1, .int 0), (0, .int 0)]) hx hb dX12_sizeOf_3 rfl hl (by decide) rfl (fun ls hl => ?_)
  refine lv_iload_n hx hb dX12_sizeOf_4 rfl (lv_at hl 0 rfl) ?_
  refine lv_if_eq (tgt := 20) hx hb dX12_sizeOf_5 (by decide) (fun _ => ?_) (fun h9 => absurd (by decide) h9)
  refine lv_iload_n hx hb dX12_sizeOf_20 rfl (lv_at hl 1 rfl) ?_
  exact fn_iret hx hb hr hlocks rfl hP hD hS () (by first | rfl | decide) [] (by decide) rfl dX12_sizeOf_21
theorem dX12_count_0 : decode cX12_count 0 = .ok (.aload_n 0, 1) := by decide +kernel
theorem dX12_count_1 : decode cX12_count 1 = .ok (.iconst 0, 1) := by decide +kernel
theorem dX12_count_2 : decode cX12_count 2 = .ok (.putfield 104, 3) := by decide +kernel
theorem dX12_count_5 : decode cX12_count 5 = .ok (.iconst 0, 1) := by decide +kernel
theorem dX12_count_6 : decode cX12_count 6 = .ok (.istore_n 2, 1) := by decide +kernel
theorem dX12_count_7 : decode cX12_count 7 = .ok (.iload_n 1, 1) := by decide +kernel
theorem dX12_count_8 : decode cX12_count 8 = .ok (.tableswitch 154 0 9 #[56, 63, 70, 77, 87, 94, 101, 109, 116, 121], 56) := by decide +kernel
theorem dX12_count_162 : decode cX12_count 162 = .ok (.iconst (-1), 1) := by decide +kernel
theorem dX12_count_163 : decode cX12_count 163 = .ok (.ireturn, 1) := by decide +kernel
theorem dX12_count_64 : decode cX12_count 64 = .ok (.aload_n 0, 1) := by decide +kernel
theorem dX12_count_65 : decode cX12_count 65 = .ok (.getfield 34, 3) := by decide +kernel
theorem dX12_count_68 : decode cX12_count 68 = .ok (.iconst 2, 1) := by decide +kernel
theorem dX12_count_69 : decode cX12_count 69 = .ok (.iaload, 1) := by decide +kernel
theorem dX12_count_70 : decode cX12_count 70 = .ok (.ireturn, 1) := by decide +kernel
theorem dX12_count_71 : decode cX12_count 71 = .ok (.aload_n 0, 1) := by decide +kernel
theorem dX12_count_72 : decode cX12_count 72 = .ok (.getfield 34, 3) := by decide +kernel
theorem dX12_count_75 : decode cX12_count 75 = .ok (.iconst 3, 1) := by decide +kernel
theorem dX12_count_76 : decode cX12_count 76 = .ok (.iaload, 1) := by decide +kernel
theorem dX12_count_77 : decode cX12_count 77 = .ok (.ireturn, 1) := by decide +kernel
theorem dX12_count_78 : decode cX12_count 78 = .ok (.aload_n 0, 1) := by decide +kernel
theorem dX12_count_79 : decode cX12_count 79 = .ok (.getfield 34, 3) := by decide +kernel
theorem dX12_count_82 : decode cX12_count 82 = .ok (.iconst 4, 1) := by decide +kernel
theorem dX12_count_83 : decode cX12_count 83 = .ok (.iaload, 1) := by decide +kernel
theorem dX12_count_84 : decode cX12_count 84 = .ok (.ireturn, 1) := by decide +kernel
theorem dX12_count_85 : decode cX12_count 85 = .ok (.aload_n 0, 1) := by decide +kernel
theorem dX12_count_86 : decode cX12_count 86 = .ok (.getfield 34, 3) := by decide +kernel
theorem dX12_count_89 : decode cX12_count 89 = .ok (.iconst 5, 1) := by decide +kernel
theorem dX12_count_90 : decode cX12_count 90 = .ok (.iaload, 1) := by decide +kernel
theorem dX12_count_91 : decode cX12_count 91 = .ok (.invokestatic 318, 3) := by decide +kernel
theorem dX12_count_94 : decode cX12_count 94 = .ok (.ireturn, 1) := by decide +kernel
theorem dX12_count_95 : decode cX12_count 95 = .ok (.aload_n 0, 1) := by decide +kernel
theorem dX12_count_96 : decode cX12_count 96 = .ok (.getfield 34, 3) := by decide +kernel
theorem dX12_count_99 : decode cX12_count 99 = .ok (.iconst 0, 1) := by decide +kernel
theorem dX12_count_100 : decode cX12_count 100 = .ok (.iaload, 1) := by decide +kernel
theorem dX12_count_101 : decode cX12_count 101 = .ok (.ireturn, 1) := by decide +kernel
theorem dX12_count_102 : decode cX12_count 102 = .ok (.aload_n 0, 1) := by decide +kernel
theorem dX12_count_103 : decode cX12_count 103 = .ok (.getfield 34, 3) := by decide +kernel
theorem dX12_count_106 : decode cX12_count 106 = .ok (.iconst 1, 1) := by decide +kernel
theorem dX12_count_107 : decode cX12_count 107 = .ok (.iaload, 1) := by decide +kernel
theorem dX12_count_108 : decode cX12_count 108 = .ok (.ireturn, 1) := by decide +kernel
theorem dX12_count_109 : decode cX12_count 109 = .ok (.aload_n 0, 1) := by decide +kernel
theorem dX12_count_110 : decode cX12_count 110 = .ok (.getfield 34, 3) := by decide +kernel
theorem dX12_count_113 : decode cX12_count 113 = .ok (.bipush 7, 2) := by decide +kernel
theorem dX12_count_115 : decode cX12_count 115 = .ok (.iaload, 1) := by decide +kernel
theorem dX12_count_116 : decode cX12_count 116 = .ok (.ireturn, 1) := by decide +kernel
theorem dX12_count_117 : decode cX12_count 117 = .ok (.aload_n 0, 1) := by decide +kernel
theorem dX12_count_118 : decode cX12_count 118 = .ok (.getfield 31, 3) := by decide +kernel
theorem dX12_count_121 : decode cX12_count 121 = .ok (.iconst 0, 1) := by decide +kernel
theorem dX12_count_122 : decode cX12_count 122 = .ok (.iaload, 1) := by decide +kernel
theorem dX12_count_123 : decode cX12_count 123 = .ok (.ireturn, 1) := by decide +kernel
theorem dX12_count_124 : decode cX12_count 124 = .ok (.aload_n 0, 1) := by decide +kernel
theorem dX12_count_125 : decode cX12_count 125 = .ok (.getfield 121, 3) := by decide +kernel
theorem dX12_count_128 : decode cX12_count 128 = .ok (.ireturn, 1) := by decide +kernel
theorem dX12_count_129 : decode cX12_count 129 = .ok (.iconst 0, 1) := by decide +kernel
theorem dX12_count_130 : decode cX12_count 130 = .ok (.istore_n 3, 1) := by decide +kernel
theorem dX12_count_131 : decode cX12_count 131 = .ok (.iload_n 3, 1) := by decide +kernel
theorem dX12_count_132 : decode cX12_count 132 = .ok (.iconst 4, 1) := by decide +kernel
theorem dX12_count_133 : decode cX12_count 133 = .ok (.if_icmp .ge 27, 3) := by decide +kernel
theorem dX12_count_136 : decode cX12_count 136 = .ok (.iload_n 2, 1) := by decide +kernel
theorem dX12_count_137 : decode cX12_count 137 = .ok (.aload_n 0, 1) := by decide +kernel
theorem dX12_count_138 : decode cX12_count 138 = .ok (.getfield 7, 3) := by decide +kernel
theorem dX12_count_141 : decode cX12_count 141 = .ok (.iload_n 3, 1) := by decide +kernel
theorem dX12_count_142 : decode cX12_count 142 = .ok (.iaload, 1) := by decide +kernel
theorem dX12_count_143 : decode cX12_count 143 = .ok (.iconst (-1), 1) := by decide +kernel
theorem dX12_count_144 : decode cX12_count 144 = .ok (.if_icmp .ne 7, 3) := by decide +kernel
theorem dX12_count_147 : decode cX12_count 147 = .ok (.iconst 0, 1) := by decide +kernel
theorem dX12_count_148 : decode cX12_count 148 = .ok (.goto 4, 3) := by decide +kernel
theorem dX12_count_152 : decode cX12_count 152 = .ok (.iadd, 1) := by decide +kernel
theorem dX12_count_153 : decode cX12_count 153 = .ok (.istore_n 2, 1) := by decide +kernel
theorem dX12_count_154 : decode cX12_count 154 = .ok (.iinc 3 1, 3) := by decide +kernel
theorem dX12_count_157 : decode cX12_count 157 = .ok (.goto (-26), 3) := by decide +kernel
theorem dX12_count_160 : decode cX12_count 160 = .ok (.iload_n 2, 1) := by decide +kernel
theorem dX12_count_161 : decode cX12_count 161 = .ok (.ireturn, 1) := by decide +kernel
set_option maxHeartbeats 4000000 in
set_option maxRecDepth 100000 in
theorem c_X12_count (l : Launch) (D : va_G) (K : Nat → ClassId) (m0 aw al ah : Nat) (fm : List Value) (hmn : fm.length = 51) (hm1 : fm[1]? = some (.ref aw)) (hm6 : fm[6]? = some (.int 0)) (hm16 : fm[16]? = some (.ref al)) (hm17 : fm[17]? = some (.ref ah)) (faw : Nat → Int32) (hfaw : ∀ j, j < 4 → faw j = -1) (fal fah : Nat → Int32) (hfal : ∀ j, fal j = 0) (hfah : ∀ j, fah j = 0) (p0 : Int32) : fn_CI (S := Unit) l D K yX12_count (fn_ws yX12_count cX12_count 4 (some .int)) ({ frames := 8, cells := 0, slots := 0, locals := 200 }) [.ref m0, .int p0] [(m0, .inr (12, fm)), (aw, .inl (K 0, 4, .inl faw)), (al, .inl (K 0, 5, .inl fal)), (ah, .inl (K 0, 40, .inl fah))] (fun r _ => r = fn_sCnt p0) (fun _ => []) 0 0 := by
  refine fn_inI (cc := cX12_count) (maxL := 4) (ret := (some .int)) (by decide) rfl (Nat.le_of_ble_eq_true rfl) ?_
  intro p e s m below meth c A ls B hA hP hD hS hl
  obtain ⟨hx, hb, hr, hml, hts, hown, hlocks, hin, hK⟩ := B
  have hown : s.vm.findClass RX12 = some m.cls := hown
  have hts := fun w h => hts w (List.mem_cons_of_mem _ h)
  have hl : lv_has ls 4 [(0, .ref m0), (1, .int p0)] := hl
  refine lv_aload_n hx hb dX12_count_0 rfl (lv_at hl 0 rfl) ?_
  refine lv_iconst (v := 0) hx hb dX12_count_1 (by decide) ?_
  refine va_put (D := D) (own := RX12) (ci := 12) (v := .int 0) (ty := .int) (C := RX12) (T := TX12) (N := 51) hx hb hts inb_X12 tyX12 tyX12_ok nmX12 hown hK.1 hP hD hS 0 rfl rfl 0 (by decide) (hts _ wd_1234) (fun _ h9 => h9) rfl (by decide +kernel) rfl rfl (fn_kl hmn (by decide)) dX12_count_2 (fun H locs hP hD hS => ?_)
  have hP : va_P D vwCl [(m0, .inr (12, fm.set 0 (.int 0))), (aw, .inl (K 0, 4, .inl faw)), (al, .inl (K 0, 5, .inl fal)), (ah, .inl (K 0, 40, .inl fah))] H := hP
  have hD : va_D A [(m0, .inr (12, fm.set 0 (.int 0))), (aw, .inl (K 0, 4, .inl faw)), (al, .inl (K 0, 5, .inl fal)), (ah, .inl (K 0, 40, .inl fah))] := hD
  refine lv_iconst (v := 0) hx hb dX12_count_5 (by decide) ?_
  refine lv_istore_n (lv' := [(2, .int 0), (0, .ref m0), (1, .int p0)]) hx hb dX12_count_6 rfl hl (by decide) rfl (fun ls hl => ?_)
  refine lv_iload_n hx hb dX12_count_7 rfl (lv_at hl 2 rfl) ?_
  rcases fn_c10 p0 with h9 | rfl | rfl | rfl | rfl | rfl | rfl | rfl | rfl | rfl | rfl
  · refine lv_tableOut (tgt := 162) hx hb dX12_count_8 h9 (by decide) ?_
    refine lv_iconst (v := (-1)) hx hb dX12_count_162 (by decide) ?_
    exact fn_iret hx hb hr hlocks rfl hP hD hS () (by first | exact fn_cntO h9 | decide) [] (by decide) rfl dX12_count_163
  · refine lv_tableIn (tgt := 64) (off := 56) hx hb dX12_count_8 (by decide) (by decide) (by decide) (by decide) ?_
    refine lv_aload_n hx hb dX12_count_64 rfl (lv_at hl 1 rfl) ?_
    refine va_get (D := D) (own := RX12) (ci := 12) (v := .ref ah) (C := RX12) (T := TX12) (N := 51) hx hb hts inb_X12 hown hK.1 hP 0 rfl rfl 17 (by decide) (hts _ wd_1251) (fun _ h9 => h9) (fn_gs (by decide) hm17) dX12_count_65 ?_
    refine lv_iconst (v := 2) hx hb dX12_count_68 (by decide) ?_
    refine va_iald hx hb hK.1 hP 3 0 rfl rfl (by unfold vp_in; decide) dX12_count_69 ?_
    refine fn_top 0 (hfah _) ?_
    exact fn_iret hx hb hr hlocks rfl hP hD hS () (by first | exact fn_cntO h9 | decide) [] (by decide) rfl dX12_count_70
  · refine lv_tableIn (tgt := 71) (off := 63) hx hb dX12_count_8 (by decide) (by decide) (by decide) (by decide) ?_
    refine lv_aload_n hx hb dX12_count_71 rfl (lv_at hl 1 rfl) ?_
    refine va_get (D := D) (own := RX12) (ci := 12) (v := .ref ah) (C := RX12) (T := TX12) (N := 51) hx hb hts inb_X12 hown hK.1 hP 0 rfl rfl 17 (by decide) (hts _ wd_1251) (fun _ h9 => h9) (fn_gs (by decide) hm17) dX12_count_72 ?_
    refine lv_iconst (v := 3) hx hb dX12_count_75 (by decide) ?_
    refine va_iald hx hb hK.1 hP 3 0 rfl rfl (by unfold vp_in; decide) dX12_count_76 ?_
    refine fn_top 0 (hfah _) ?_
    exact fn_iret hx hb hr hlocks rfl hP hD hS () (by first | exact fn_cntO h9 | decide) [] (by decide) rfl dX12_count_77
  · refine lv_tableIn (tgt := 78) (off := 70) hx hb dX12_count_8 (by decide) (by decide) (by decide) (by decide) ?_
    refine lv_aload_n hx hb dX12_count_78 rfl (lv_at hl 1 rfl) ?_
    refine va_get (D := D) (own := RX12) (ci := 12) (v := .ref ah) (C := RX12) (T := TX12) (N := 51) hx hb hts inb_X12 hown hK.1 hP 0 rfl rfl 17 (by decide) (hts _ wd_1251) (fun _ h9 => h9) (fn_gs (by decide) hm17) dX12_count_79 ?_
    refine lv_iconst (v := 4) hx hb dX12_count_82 (by decide) ?_
    refine va_iald hx hb hK.1 hP 3 0 rfl rfl (by unfold vp_in; decide) dX12_count_83 ?_
    refine fn_top 0 (hfah _) ?_
    exact fn_iret hx hb hr hlocks rfl hP hD hS () (by first | exact fn_cntO h9 | decide) [] (by decide) rfl dX12_count_84
  · refine lv_tableIn (tgt := 85) (off := 77) hx hb dX12_count_8 (by decide) (by decide) (by decide) (by decide) ?_
    refine lv_aload_n hx hb dX12_count_85 rfl (lv_at hl 1 rfl) ?_
    refine va_get (D := D) (own := RX12) (ci := 12) (v := .ref ah) (C := RX12) (T := TX12) (N := 51) hx hb hts inb_X12 hown hK.1 hP 0 rfl rfl 17 (by decide) (hts _ wd_1251) (fun _ h9 => h9) (fn_gs (by decide) hm17) dX12_count_86 ?_
    refine lv_iconst (v := 5) hx hb dX12_count_89 (by decide) ?_
    refine va_iald hx hb hK.1 hP 3 0 rfl rfl (by unfold vp_in; decide) dX12_count_90 ?_
    refine fn_top 0 (hfah _) ?_
    refine fn_goi (wc := []) (wr := [(m0, .inr (12, fm.set 0 (.int 0))), (aw, .inl (K 0, 4, .inl faw)), (al, .inl (K 0, 5, .inl fal)), (ah, .inl (K 0, 40, .inl fah))]) hK hP hD hS hA [] [0, 1, 2, 3] rfl rfl (by decide) (fun hp => va_runS (As := [.int 0]) (rest := []) ⟨hx, hb, hml, hown, hts⟩ (c_X12_sizeOf (l := l) (D := D) (K := K)  _) (va_cwS 1 hts (fn_ginS (fn_gin wd_1703) wd_1701 wd_1702 wd_13) rfl rfl rfl (by decide +kernel) ⟨Nat.le_of_ble_eq_true rfl, Nat.le_of_ble_eq_true rfl⟩) ⟨fn_blind, hp⟩ rfl rfl hl.1 rfl (lv_room (Nat.le_of_ble_eq_true rfl)) dX12_count_91 ⟨Nat.le_of_ble_eq_true rfl, Nat.le_of_ble_eq_true rfl⟩) (fun r2 u1 H locs hwu1 hP hD hS => ?_)
    have r2_e : r2 = 0 := hwu1
    subst r2_e
    have hP : va_P D vwCl [(m0, .inr (12, fm.set 0 (.int 0))), (aw, .inl (K 0, 4, .inl faw)), (al, .inl (K 0, 5, .inl fal)), (ah, .inl (K 0, 40, .inl fah))] H := hP
    have hD : va_D A [(m0, .inr (12, fm.set 0 (.int 0))), (aw, .inl (K 0, 4, .inl faw)), (al, .inl (K 0, 5, .inl fal)), (ah, .inl (K 0, 40, .inl fah))] := hD
    exact fn_iret hx hb hr hlocks rfl hP hD hS () (by first | exact fn_cntO h9 | decide) [] (by decide) rfl dX12_count_94
  · refine lv_tableIn (tgt := 95) (off := 87) hx hb dX12_count_8 (by decide) (by decide) (by decide) (by decide) ?_
    refine lv_aload_n hx hb dX12_count_95 rfl (lv_at hl 1 rfl) ?_
    refine va_get (D := D) (own := RX12) (ci := 12) (v := .ref ah) (C := RX12) (T := TX12) (N := 51) hx hb hts inb_X12 hown hK.1 hP 0 rfl rfl 17 (by decide) (hts _ wd_1251) (fun _ h9 => h9) (fn_gs (by decide) hm17) dX12_count_96 ?_
    refine lv_iconst (v := 0) hx hb dX12_count_99 (by decide) ?_
    refine va_iald hx hb hK.1 hP 3 0 rfl rfl (by unfold vp_in; decide) dX12_count_100 ?_
    refine fn_top 0 (hfah _) ?_
    exact fn_iret hx hb hr hlocks rfl hP hD hS () (by first | exact fn_cntO h9 | decide) [] (by decide) rfl dX12_count_101
  · refine lv_tableIn (tgt := 102) (off := 94) hx hb dX12_count_8 (by decide) (by decide) (by decide) (by decide) ?_
    refine lv_aload_n hx hb dX12_count_102 rfl (lv_at hl 1 rfl) ?_
    refine va_get (D := D) (own := RX12) (ci := 12) (v := .ref ah) (C := RX12) (T := TX12) (N := 51) hx hb hts inb_X12 hown hK.1 hP 0 rfl rfl 17 (by decide) (hts _ wd_1251) (fun _ h9 => h9) (fn_gs (by decide) hm17) dX12_count_103 ?_
    refine lv_iconst (v := 1) hx hb dX12_count_106 (by decide) ?_
    refine va_iald hx hb hK.1 hP 3 0 rfl rfl (by unfold vp_in; decide) dX12_count_107 ?_
    refine fn_top 0 (hfah _) ?_
    exact fn_iret hx hb hr hlocks rfl hP hD hS () (by first | exact fn_cntO h9 | decide) [] (by decide) rfl dX12_count_108
  · refine lv_tableIn (tgt := 109) (off := 101) hx hb dX12_count_8 (by decide) (by decide) (by decide) (by decide) ?_
    refine lv_aload_n hx hb dX12_count_109 rfl (lv_at hl 1 rfl) ?_
    refine va_get (D := D) (own := RX12) (ci := 12) (v := .ref ah) (C := RX12) (T := TX12) (N := 51) hx hb hts inb_X12 hown hK.1 hP 0 rfl rfl 17 (by decide) (hts _ wd_1251) (fun _ h9 => h9) (fn_gs (by decide) hm17) dX12_count_110 ?_
    refine lv_bipush (v := 7) hx hb dX12_count_113 (by decide) ?_
    refine va_iald hx hb hK.1 hP 3 0 rfl rfl (by unfold vp_in; decide) dX12_count_115 ?_
    refine fn_top 0 (hfah _) ?_
    exact fn_iret hx hb hr hlocks rfl hP hD hS () (by first | exact fn_cntO h9 | decide) [] (by decide) rfl dX12_count_116
  · refine lv_tableIn (tgt := 117) (off := 109) hx hb dX12_count_8 (by decide) (by decide) (by decide) (by decide) ?_
    refine lv_aload_n hx hb dX12_count_117 rfl (lv_at hl 1 rfl) ?_
    refine va_get (D := D) (own := RX12) (ci := 12) (v := .ref al) (C := RX12) (T := TX12) (N := 51) hx hb hts inb_X12 hown hK.1 hP 0 rfl rfl 16 (by decide) (hts _ wd_1250) (fun _ h9 => h9) (fn_gs (by decide) hm16) dX12_count_118 ?_
    refine lv_iconst (v := 0) hx hb dX12_count_121 (by decide) ?_
    refine va_iald hx hb hK.1 hP 2 0 rfl rfl (by unfold vp_in; decide) dX12_count_122 ?_
    refine fn_top 0 (hfal _) ?_
    exact fn_iret hx hb hr hlocks rfl hP hD hS () (by first | exact fn_cntO h9 | decide) [] (by decide) rfl dX12_count_123
  · refine lv_tableIn (tgt := 124) (off := 116) hx hb dX12_count_8 (by decide) (by decide) (by decide) (by decide) ?_
    refine lv_aload_n hx hb dX12_count_124 rfl (lv_at hl 1 rfl) ?_
    refine va_get (D := D) (own := RX12) (ci := 12) (v := .int 0) (C := RX12) (T := TX12) (N := 51) hx hb hts inb_X12 hown hK.1 hP 0 rfl rfl 6 (by decide) (hts _ wd_1240) (fun _ h9 => h9) (fn_gs (by decide) hm6) dX12_count_125 ?_
    exact fn_iret hx hb hr hlocks rfl hP hD hS () (by first | exact fn_cntO h9 | decide) [] (by decide) rfl dX12_count_128
  · refine lv_tableIn (tgt := 129) (off := 121) hx hb dX12_count_8 (by decide) (by decide) (by decide) (by decide) ?_
    refine lv_iconst (v := 0) hx hb dX12_count_129 (by decide) ?_
    refine lv_istore_n (lv' := [(3, .int 0), (2, .int 0), (0, .ref m0), (1, .int 9)]) hx hb dX12_count_130 rfl hl (by decide) rfl (fun ls hl => ?_)
    refine lv_iload_n hx hb dX12_count_131 rfl (lv_at hl 0 rfl) ?_
    refine lv_iconst (v := 4) hx hb dX12_count_132 (by decide) ?_
    refine lv_icmp_ge (tgt := 160) hx hb dX12_count_133 (by decide) (fun h9 => absurd h9 (by decide)) (fun _ => ?_)
    refine lv_iload_n hx hb dX12_count_136 rfl (lv_at hl 1 rfl) ?_
    refine lv_aload_n hx hb dX12_count_137 rfl (lv_at hl 2 rfl) ?_
    refine va_get (D := D) (own := RX12) (ci := 12) (v := .ref aw) (C := RX12) (T := TX12) (N := 51) hx hb hts inb_X12 hown hK.1 hP 0 rfl rfl 1 (by decide) (hts _ wd_1235) (fun _ h9 => h9) (fn_gs (by decide) hm1) dX12_count_138 ?_
    refine lv_iload_n hx hb dX12_count_141 rfl (lv_at hl 0 rfl) ?_
    refine va_iald hx hb hK.1 hP 1 0 rfl rfl (by unfold vp_in; decide) dX12_count_142 ?_
    refine fn_top (-1) (hfaw _ (by decide)) ?_
    refine lv_iconst (v := (-1)) hx hb dX12_count_143 (by decide) ?_
    refine lv_icmp_ne (tgt := 151) hx hb dX12_count_144 (by decide) (fun h9 => absurd rfl h9) (fun _ => ?_)
    refine fn_at 147 rfl ?_
    refine lv_iconst (v := 0) hx hb dX12_count_147 (by decide) ?_
    refine lv_goto (tgt := 152) hx hb dX12_count_148 (by decide) ?_
    refine lv_iadd hx hb dX12_count_152 ?_
    refine fn_top 0 (by decide) ?_
    refine lv_istore_n (lv' := [(2, .int 0), (3, .int 0), (0, .ref m0), (1, .int 9)]) hx hb dX12_count_153 rfl hl (by decide) rfl (fun ls hl => ?_)
    refine lv_iinc (v := 1) (lv' := [(3, .int 1), (2, .int 0), (0, .ref m0), (1, .int 9)]) hx hb dX12_count_154 hl (k := 1) rfl (by decide) (by decide) rfl (fun ls hl => ?_)
    refine lv_goto (tgt := 131) hx hb dX12_count_157 (by decide) ?_
    refine lv_iload_n hx hb dX12_count_131 rfl (lv_at hl 0 rfl) ?_
    refine lv_iconst (v := 4) hx hb dX12_count_132 (by decide) ?_
    refine lv_icmp_ge (tgt := 160) hx hb dX12_count_133 (by decide) (fun h9 => absurd h9 (by decide)) (fun _ => ?_)
    refine lv_iload_n hx hb dX12_count_136 rfl (lv_at hl 1 rfl) ?_
    refine lv_aload_n hx hb dX12_count_137 rfl (lv_at hl 2 rfl) ?_
    refine va_get (D := D) (own := RX12) (ci := 12) (v := .ref aw) (C := RX12) (T := TX12) (N := 51) hx hb hts inb_X12 hown hK.1 hP 0 rfl rfl 1 (by decide) (hts _ wd_1235) (fun _ h9 => h9) (fn_gs (by decide) hm1) dX12_count_138 ?_
    refine lv_iload_n hx hb dX12_count_141 rfl (lv_at hl 0 rfl) ?_
    refine va_iald hx hb hK.1 hP 1 0 rfl rfl (by unfold vp_in; decide) dX12_count_142 ?_
    refine fn_top (-1) (hfaw _ (by decide)) ?_
    refine lv_iconst (v := (-1)) hx hb dX12_count_143 (by decide) ?_
    refine lv_icmp_ne (tgt := 151) hx hb dX12_count_144 (by decide) (fun h9 => absurd rfl h9) (fun _ => ?_)
    refine lv_iconst (v := 0) hx hb dX12_count_147 (by decide) ?_
    refine lv_goto (tgt := 152) hx hb dX12_count_148 (by decide) ?_
    refine lv_iadd hx hb dX12_count_152 ?_
    refine fn_top 0 (by decide) ?_
    refine lv_istore_n (lv' := [(2, .int 0), (3, .int 1), (0, .ref m0), (1, .int 9)]) hx hb dX12_count_153 rfl hl (by decide) rfl (fun ls hl => ?_)
    refine fn_at 154 rfl ?_
    refine lv_iinc (v := 2) (lv' := [(3, .int 2), (2, .int 0), (0, .ref m0), (1, .int 9)]) hx hb dX12_count_154 hl (k := 1) rfl (by decide) (by decide) rfl (fun ls hl => ?_)
    refine lv_goto (tgt := 131) hx hb dX12_count_157 (by decide) ?_
    refine lv_iload_n hx hb dX12_count_131 rfl (lv_at hl 0 rfl) ?_
    refine lv_iconst (v := 4) hx hb dX12_count_132 (by decide) ?_
    refine lv_icmp_ge (tgt := 160) hx hb dX12_count_133 (by decide) (fun h9 => absurd h9 (by decide)) (fun _ => ?_)
    refine lv_iload_n hx hb dX12_count_136 rfl (lv_at hl 1 rfl) ?_
    refine lv_aload_n hx hb dX12_count_137 rfl (lv_at hl 2 rfl) ?_
    refine va_get (D := D) (own := RX12) (ci := 12) (v := .ref aw) (C := RX12) (T := TX12) (N := 51) hx hb hts inb_X12 hown hK.1 hP 0 rfl rfl 1 (by decide) (hts _ wd_1235) (fun _ h9 => h9) (fn_gs (by decide) hm1) dX12_count_138 ?_
    refine lv_iload_n hx hb dX12_count_141 rfl (lv_at hl 0 rfl) ?_
    refine va_iald hx hb hK.1 hP 1 0 rfl rfl (by unfold vp_in; decide) dX12_count_142 ?_
    refine fn_top (-1) (hfaw _ (by decide)) ?_
    refine lv_iconst (v := (-1)) hx hb dX12_count_143 (by decide) ?_
    refine lv_icmp_ne (tgt := 151) hx hb dX12_count_144 (by decide) (fun h9 => absurd rfl h9) (fun _ => ?_)
    refine lv_iconst (v := 0) hx hb dX12_count_147 (by decide) ?_
    refine lv_goto (tgt := 152) hx hb dX12_count_148 (by decide) ?_
    refine lv_iadd hx hb dX12_count_152 ?_
    refine fn_top 0 (by decide) ?_
    refine lv_istore_n (lv' := [(2, .int 0), (3, .int 2), (0, .ref m0), (1, .int 9)]) hx hb dX12_count_153 rfl hl (by decide) rfl (fun ls hl => ?_)
    refine lv_iinc (v := 3) (lv' := [(3, .int 3), (2, .int 0), (0, .ref m0), (1, .int 9)]) hx hb dX12_count_154 hl (k := 1) rfl (by decide) (by decide) rfl (fun ls hl => ?_)
    refine lv_goto (tgt := 131) hx hb dX12_count_157 (by decide) ?_
    refine lv_iload_n hx hb dX12_count_131 rfl (lv_at hl 0 rfl) ?_
    refine lv_iconst (v := 4) hx hb dX12_count_132 (by decide) ?_
    refine fn_at 133 rfl ?_
    refine lv_icmp_ge (tgt := 160) hx hb dX12_count_133 (by decide) (fun h9 => absurd h9 (by decide)) (fun _ => ?_)
    refine lv_iload_n hx hb dX12_count_136 rfl (lv_at hl 1 rfl) ?_
    refine lv_aload_n hx hb dX12_count_137 rfl (lv_at hl 2 rfl) ?_
    refine va_get (D := D) (own := RX12) (ci := 12) (v := .ref aw) (C := RX12) (T := TX12) (N := 51) hx hb hts inb_X12 hown hK.1 hP 0 rfl rfl 1 (by decide) (hts _ wd_1235) (fun _ h9 => h9) (fn_gs (by decide) hm1) dX12_count_138 ?_
    refine lv_iload_n hx hb dX12_count_141 rfl (lv_at hl 0 rfl) ?_
    refine va_iald hx hb hK.1 hP 1 0 rfl rfl (by unfold vp_in; decide) dX12_count_142 ?_
    refine fn_top (-1) (hfaw _ (by decide)) ?_
    refine lv_iconst (v := (-1)) hx hb dX12_count_143 (by decide) ?_
    refine lv_icmp_ne (tgt := 151) hx hb dX12_count_144 (by decide) (fun h9 => absurd rfl h9) (fun _ => ?_)
    refine lv_iconst (v := 0) hx hb dX12_count_147 (by decide) ?_
    refine lv_goto (tgt := 152) hx hb dX12_count_148 (by decide) ?_
    refine lv_iadd hx hb dX12_count_152 ?_
    refine fn_top 0 (by decide) ?_
    refine lv_istore_n (lv' := [(2, .int 0), (3, .int 3), (0, .ref m0), (1, .int 9)]) hx hb dX12_count_153 rfl hl (by decide) rfl (fun ls hl => ?_)
    refine lv_iinc (v := 4) (lv' := [(3, .int 4), (2, .int 0), (0, .ref m0), (1, .int 9)]) hx hb dX12_count_154 hl (k := 1) rfl (by decide) (by decide) rfl (fun ls hl => ?_)
    refine lv_goto (tgt := 131) hx hb dX12_count_157 (by decide) ?_
    refine lv_iload_n hx hb dX12_count_131 rfl (lv_at hl 0 rfl) ?_
    refine lv_iconst (v := 4) hx hb dX12_count_132 (by decide) ?_
    refine lv_icmp_ge (tgt := 160) hx hb dX12_count_133 (by decide) (fun _ => ?_) (fun h9 => absurd (by decide) h9)
    refine lv_iload_n hx hb dX12_count_160 rfl (lv_at hl 1 rfl) ?_
    exact fn_iret hx hb hr hlocks rfl hP hD hS () (by first | exact fn_cntO h9 | decide) [] (by decide) rfl dX12_count_161
