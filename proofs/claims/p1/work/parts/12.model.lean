theorem dX12_in_0 : decode cX12_in 0 = .ok (.lload_n 0, 1) := by decide +kernel
theorem dX12_in_1 : decode cX12_in 1 = .ok (.lload_n 2, 1) := by decide +kernel
theorem dX12_in_2 : decode cX12_in 2 = .ok (.lcmp, 1) := by decide +kernel
theorem dX12_in_3 : decode cX12_in 3 = .ok (.ifCond .lt 14, 3) := by decide +kernel
theorem dX12_in_17 : decode cX12_in 17 = .ok (.iconst 0, 1) := by decide +kernel
theorem dX12_in_18 : decode cX12_in 18 = .ok (.ireturn, 1) := by decide +kernel
theorem dX12_in_6 : decode cX12_in 6 = .ok (.lload_n 0, 1) := by decide +kernel
theorem dX12_in_7 : decode cX12_in 7 = .ok (.lload 4, 2) := by decide +kernel
theorem dX12_in_9 : decode cX12_in 9 = .ok (.lcmp, 1) := by decide +kernel
theorem dX12_in_10 : decode cX12_in 10 = .ok (.ifCond .gt 7, 3) := by decide +kernel
theorem dX12_in_13 : decode cX12_in 13 = .ok (.iconst 1, 1) := by decide +kernel
theorem dX12_in_14 : decode cX12_in 14 = .ok (.goto 4, 3) := by decide +kernel
set_option maxHeartbeats 4000000 in
set_option maxRecDepth 100000 in
theorem c_X12_in (l : Launch) (D : va_G) (K : Nat → ClassId) (v0 v1 v2 : Int64) : fn_CI (S := Unit) l D K yX12_in (fn_ws yX12_in cX12_in 6 (some .boolean)) ({ frames := 4, cells := 0, slots := 0, locals := 100 }) [.long v0, .long v1, .long v2] [] (fun r _ => r = fn_rng v0 v1 v2) (fun _ => []) 0 0 := by
  refine fn_inI (cc := cX12_in) (maxL := 6) (ret := (some .boolean)) (by decide) rfl (Nat.le_of_ble_eq_true rfl) ?_
  intro p e s m below meth c A ls B hA hP hD hS hl
  obtain ⟨hx, hb, hr, hml, hts, hown, hlocks, hin, hK⟩ := B
  have hown : s.vm.findClass RX12 = some m.cls := hown
  have hts := fun w h => hts w (List.mem_cons_of_mem _ h)
  have hl : lv_has ls 6 [(0, .long v0), (2, .long v1), (4, .long v2)] := hl
  refine lv_lload_n hx hb dX12_in_0 rfl (lv_at hl 0 rfl) ?_
  refine lv_lload_n hx hb dX12_in_1 rfl (lv_at hl 1 rfl) ?_
  refine W.lcmp hx hb dX12_in_2 ?_
  refine lv_if_lt (tgt := 17) hx hb dX12_in_3 (by decide) (fun c3 => ?_) (fun c3 => ?_)
  · refine lv_iconst (v := 0) hx hb dX12_in_17 (by decide) ?_
    exact fn_iret hx hb hr hlocks rfl hP hD hS () (by first | exact fn_rng_1 c3 c10 | exact fn_rng_0a c3 | exact fn_rng_0b c10) [] (by decide) rfl dX12_in_18
  · refine lv_lload_n hx hb dX12_in_6 rfl (lv_at hl 0 rfl) ?_
    refine lv_lload hx hb dX12_in_7 (lv_at hl 2 rfl) ?_
    refine W.lcmp hx hb dX12_in_9 ?_
    refine lv_if_gt (tgt := 17) hx hb dX12_in_10 (by decide) (fun c10 => ?_) (fun c10 => ?_)
    · refine lv_iconst (v := 0) hx hb dX12_in_17 (by decide) ?_
      exact fn_iret hx hb hr hlocks rfl hP hD hS () (by first | exact fn_rng_1 c3 c10 | exact fn_rng_0a c3 | exact fn_rng_0b c10) [] (by decide) rfl dX12_in_18
    · refine lv_iconst (v := 1) hx hb dX12_in_13 (by decide) ?_
      refine lv_goto (tgt := 18) hx hb dX12_in_14 (by decide) ?_
      exact fn_iret hx hb hr hlocks rfl hP hD hS () (by first | exact fn_rng_1 c3 c10 | exact fn_rng_0a c3 | exact fn_rng_0b c10) [] (by decide) rfl dX12_in_18
set_option maxHeartbeats 4000000 in
set_option maxRecDepth 100000 in
theorem c_X12_in_no (l : Launch) (D : va_G) (K : Nat → ClassId) (v0 : Int64) : fn_CI (S := Unit) l D K yX12_in (fn_ws yX12_in cX12_in 6 (some .boolean)) ({ frames := 4, cells := 0, slots := 0, locals := 100 }) [.long v0, .long 0, .long (-1)] [] (fun r _ => r = 0) (fun _ => []) 0 0 := by
  refine fn_inI (cc := cX12_in) (maxL := 6) (ret := (some .boolean)) (by decide) rfl (Nat.le_of_ble_eq_true rfl) ?_
  intro p e s m below meth c A ls B hA hP hD hS hl
  obtain ⟨hx, hb, hr, hml, hts, hown, hlocks, hin, hK⟩ := B
  have hown : s.vm.findClass RX12 = some m.cls := hown
  have hts := fun w h => hts w (List.mem_cons_of_mem _ h)
  have hl : lv_has ls 6 [(0, .long v0), (2, .long 0), (4, .long (-1))] := hl
  refine lv_lload_n hx hb dX12_in_0 rfl (lv_at hl 0 rfl) ?_
  refine lv_lload_n hx hb dX12_in_1 rfl (lv_at hl 1 rfl) ?_
  refine W.lcmp hx hb dX12_in_2 ?_
  refine lv_if_lt (tgt := 17) hx hb dX12_in_3 (by decide) (fun c3 => ?_) (fun c3 => ?_)
  · refine lv_iconst (v := 0) hx hb dX12_in_17 (by decide) ?_
    exact fn_iret hx hb hr hlocks rfl hP hD hS () (by first | rfl | decide) [] (by decide) rfl dX12_in_18
  · refine lv_lload_n hx hb dX12_in_6 rfl (lv_at hl 0 rfl) ?_
    refine lv_lload hx hb dX12_in_7 (lv_at hl 2 rfl) ?_
    refine W.lcmp hx hb dX12_in_9 ?_
    refine lv_if_gt (tgt := 17) hx hb dX12_in_10 (by decide) (fun c10 => ?_) (fun h9 => absurd (fn_cmp_no c3) h9)
    refine lv_iconst (v := 0) hx hb dX12_in_17 (by decide) ?_
    exact fn_iret hx hb hr hlocks rfl hP hD hS () (by first | rfl | decide) [] (by decide) rfl dX12_in_18
theorem dX12_isPage_0 : decode cX12_isPage 0 = .ok (.lload_n 1, 1) := by decide +kernel
theorem dX12_isPage_1 : decode cX12_isPage 1 = .ok (.lconst 0, 1) := by decide +kernel
theorem dX12_isPage_2 : decode cX12_isPage 2 = .ok (.aload_n 0, 1) := by decide +kernel
theorem dX12_isPage_3 : decode cX12_isPage 3 = .ok (.getfield 34, 3) := by decide +kernel
theorem dX12_isPage_6 : decode cX12_isPage 6 = .ok (.iconst 3, 1) := by decide +kernel
theorem dX12_isPage_7 : decode cX12_isPage 7 = .ok (.iaload, 1) := by decide +kernel
theorem dX12_isPage_8 : decode cX12_isPage 8 = .ok (.i2l, 1) := by decide +kernel
theorem dX12_isPage_9 : decode cX12_isPage 9 = .ok (.lconst 1, 1) := by decide +kernel
theorem dX12_isPage_10 : decode cX12_isPage 10 = .ok (.lsub, 1) := by decide +kernel
theorem dX12_isPage_11 : decode cX12_isPage 11 = .ok (.invokestatic 109, 3) := by decide +kernel
theorem dX12_isPage_14 : decode cX12_isPage 14 = .ok (.ireturn, 1) := by decide +kernel
set_option maxHeartbeats 4000000 in
set_option maxRecDepth 100000 in
theorem c_X12_isPage (l : Launch) (D : va_G) (K : Nat → ClassId) (m0 al ah : Nat) (fm : List Value) (hmn : fm.length = 51) (hm16 : fm[16]? = some (.ref al)) (hm17 : fm[17]? = some (.ref ah)) (fl fh : Nat → Int32) (hfl : ∀ j, fl j = 0) (hfh : ∀ j, fh j = 0) (p0 : Int64) : fn_CI (S := Unit) l D K yX12_isPage (fn_ws yX12_isPage cX12_isPage 3 (some .boolean)) ({ frames := 8, cells := 0, slots := 0, locals := 200 }) [.ref m0, .long p0] [(m0, .inr (12, fm)), (al, .inl (K 0, 5, .inl fl)), (ah, .inl (K 0, 40, .inl fh))] (fun r _ => r = 0) (fun _ => []) 0 0 := by
  refine fn_inI (cc := cX12_isPage) (maxL := 3) (ret := (some .boolean)) (by decide) rfl (Nat.le_of_ble_eq_true rfl) ?_
  intro p e s m below meth c A ls B hA hP hD hS hl
  obtain ⟨hx, hb, hr, hml, hts, hown, hlocks, hin, hK⟩ := B
  have hown : s.vm.findClass RX12 = some m.cls := hown
  have hts := fun w h => hts w (List.mem_cons_of_mem _ h)
  have hl : lv_has ls 3 [(0, .ref m0), (1, .long p0)] := hl
  refine lv_lload_n hx hb dX12_isPage_0 rfl (lv_at hl 1 rfl) ?_
  refine lv_lconst (v := 0) hx hb dX12_isPage_1 (by decide) ?_
  refine lv_aload_n hx hb dX12_isPage_2 rfl (lv_at hl 0 rfl) ?_
  refine va_get (D := D) (own := RX12) (ci := 12) (v := .ref ah) (C := RX12) (T := TX12) (N := 51) hx hb hts inb_X12 hown hK.1 hP 0 rfl rfl 17 (by decide) (hts _ wd_1251) (fun _ h9 => h9) hm17 dX12_isPage_3 ?_
  refine lv_iconst (v := 3) hx hb dX12_isPage_6 (by decide) ?_
  refine va_iald hx hb hK.1 hP 2 0 rfl rfl (by unfold vp_in; decide) dX12_isPage_7 ?_
  refine fn_top 0 (hfh _) ?_
  refine lv_i2l (v := 0) hx hb dX12_isPage_8 (by decide) ?_
  refine lv_lconst (v := 1) hx hb dX12_isPage_9 (by decide) ?_
  refine lv_lsub hx hb dX12_isPage_10 ?_
  refine fn_topl (-1) (by decide) ?_
  refine fn_goi (wc := []) (wr := [(m0, .inr (12, fm)), (al, .inl (K 0, 5, .inl fl)), (ah, .inl (K 0, 40, .inl fh))]) hK hP hD hS hA [] [0, 1, 2] rfl rfl (by decide) (fun hp => va_runS (As := [.long p0, .long 0, .long (-1)]) (rest := []) ⟨hx, hb, hml, hown, hts⟩ (c_X12_in_no (l := l) (D := D) (K := K) (v0 := (p0)) _) (va_cwS 3 hts (fn_ginS (fn_gin wd_1398) wd_1396 wd_1397 wd_13) rfl rfl rfl (by decide +kernel) ⟨Nat.le_of_ble_eq_true rfl, Nat.le_of_ble_eq_true rfl⟩) ⟨fn_blind, hp⟩ rfl rfl hl.1 rfl (lv_room (Nat.le_of_ble_eq_true rfl)) dX12_isPage_11 ⟨Nat.le_of_ble_eq_true rfl, Nat.le_of_ble_eq_true rfl⟩) (fun r2 u1 H locs hwu1 hP hD hS => ?_)
  have r2_e : r2 = 0 := hwu1
  subst r2_e
  have hP : va_P D vwCl [(m0, .inr (12, fm)), (al, .inl (K 0, 5, .inl fl)), (ah, .inl (K 0, 40, .inl fh))] H := hP
  have hD : va_D A [(m0, .inr (12, fm)), (al, .inl (K 0, 5, .inl fl)), (ah, .inl (K 0, 40, .inl fh))] := hD
  exact fn_iret hx hb hr hlocks rfl hP hD hS () (by first | rfl | decide) [] (by decide) rfl dX12_isPage_14
theorem dX12_isBook_0 : decode cX12_isBook 0 = .ok (.iload_n 1, 1) := by decide +kernel
theorem dX12_isBook_1 : decode cX12_isBook 1 = .ok (.i2l, 1) := by decide +kernel
theorem dX12_isBook_2 : decode cX12_isBook 2 = .ok (.lconst 0, 1) := by decide +kernel
theorem dX12_isBook_3 : decode cX12_isBook 3 = .ok (.aload_n 0, 1) := by decide +kernel
theorem dX12_isBook_4 : decode cX12_isBook 4 = .ok (.getfield 34, 3) := by decide +kernel
theorem dX12_isBook_7 : decode cX12_isBook 7 = .ok (.iconst 2, 1) := by decide +kernel
theorem dX12_isBook_8 : decode cX12_isBook 8 = .ok (.iaload, 1) := by decide +kernel
theorem dX12_isBook_9 : decode cX12_isBook 9 = .ok (.iconst 1, 1) := by decide +kernel
theorem dX12_isBook_10 : decode cX12_isBook 10 = .ok (.isub, 1) := by decide +kernel
theorem dX12_isBook_11 : decode cX12_isBook 11 = .ok (.i2l, 1) := by decide +kernel
theorem dX12_isBook_12 : decode cX12_isBook 12 = .ok (.invokestatic 109, 3) := by decide +kernel
theorem dX12_isBook_15 : decode cX12_isBook 15 = .ok (.ireturn, 1) := by decide +kernel
set_option maxHeartbeats 4000000 in
set_option maxRecDepth 100000 in
theorem c_X12_isBook (l : Launch) (D : va_G) (K : Nat → ClassId) (m0 al ah : Nat) (fm : List Value) (hmn : fm.length = 51) (hm16 : fm[16]? = some (.ref al)) (hm17 : fm[17]? = some (.ref ah)) (fl fh : Nat → Int32) (hfl : ∀ j, fl j = 0) (hfh : ∀ j, fh j = 0) (p0 : Int32) : fn_CI (S := Unit) l D K yX12_isBook (fn_ws yX12_isBook cX12_isBook 2 (some .boolean)) ({ frames := 8, cells := 0, slots := 0, locals := 200 }) [.ref m0, .int p0] [(m0, .inr (12, fm)), (al, .inl (K 0, 5, .inl fl)), (ah, .inl (K 0, 40, .inl fh))] (fun r _ => r = 0) (fun _ => []) 0 0 := by
  refine fn_inI (cc := cX12_isBook) (maxL := 2) (ret := (some .boolean)) (by decide) rfl (Nat.le_of_ble_eq_true rfl) ?_
  intro p e s m below meth c A ls B hA hP hD hS hl
  obtain ⟨hx, hb, hr, hml, hts, hown, hlocks, hin, hK⟩ := B
  have hown : s.vm.findClass RX12 = some m.cls := hown
  have hts := fun w h => hts w (List.mem_cons_of_mem _ h)
  have hl : lv_has ls 2 [(0, .ref m0), (1, .int p0)] := hl
  refine lv_iload_n hx hb dX12_isBook_0 rfl (lv_at hl 1 rfl) ?_
  refine lv_i2l hx hb dX12_isBook_1 rfl ?_
  refine lv_lconst (v := 0) hx hb dX12_isBook_2 (by decide) ?_
  refine lv_aload_n hx hb dX12_isBook_3 rfl (lv_at hl 0 rfl) ?_
  refine va_get (D := D) (own := RX12) (ci := 12) (v := .ref ah) (C := RX12) (T := TX12) (N := 51) hx hb hts inb_X12 hown hK.1 hP 0 rfl rfl 17 (by decide) (hts _ wd_1251) (fun _ h9 => h9) hm17 dX12_isBook_4 ?_
  refine lv_iconst (v := 2) hx hb dX12_isBook_7 (by decide) ?_
  refine va_iald hx hb hK.1 hP 2 0 rfl rfl (by unfold vp_in; decide) dX12_isBook_8 ?_
  refine fn_top 0 (hfh _) ?_
  refine lv_iconst (v := 1) hx hb dX12_isBook_9 (by decide) ?_
  refine lv_isub hx hb dX12_isBook_10 ?_
  refine fn_top (-1) (by decide) ?_
  refine lv_i2l (v := (-1)) hx hb dX12_isBook_11 (by decide) ?_
  refine fn_goi (wc := []) (wr := [(m0, .inr (12, fm)), (al, .inl (K 0, 5, .inl fl)), (ah, .inl (K 0, 40, .inl fh))]) hK hP hD hS hA [] [0, 1, 2] rfl rfl (by decide) (fun hp => va_runS (As := [.long (Int32.toInt64 p0), .long 0, .long (-1)]) (rest := []) ⟨hx, hb, hml, hown, hts⟩ (c_X12_in_no (l := l) (D := D) (K := K) (v0 := ((Int32.toInt64 p0))) _) (va_cwS 3 hts (fn_ginS (fn_gin wd_1398) wd_1396 wd_1397 wd_13) rfl rfl rfl (by decide +kernel) ⟨Nat.le_of_ble_eq_true rfl, Nat.le_of_ble_eq_true rfl⟩) ⟨fn_blind, hp⟩ rfl rfl hl.1 rfl (lv_room (Nat.le_of_ble_eq_true rfl)) dX12_isBook_12 ⟨Nat.le_of_ble_eq_true rfl, Nat.le_of_ble_eq_true rfl⟩) (fun r2 u1 H locs hwu1 hP hD hS => ?_)
  have r2_e : r2 = 0 := hwu1
  subst r2_e
  have hP : va_P D vwCl [(m0, .inr (12, fm)), (al, .inl (K 0, 5, .inl fl)), (ah, .inl (K 0, 40, .inl fh))] H := hP
  have hD : va_D A [(m0, .inr (12, fm)), (al, .inl (K 0, 5, .inl fl)), (ah, .inl (K 0, 40, .inl fh))] := hD
  exact fn_iret hx hb hr hlocks rfl hP hD hS () (by first | rfl | decide) [] (by decide) rfl dX12_isBook_15
theorem dX12_isNote_0 : decode cX12_isNote 0 = .ok (.iload_n 1, 1) := by decide +kernel
theorem dX12_isNote_1 : decode cX12_isNote 1 = .ok (.i2l, 1) := by decide +kernel
theorem dX12_isNote_2 : decode cX12_isNote 2 = .ok (.lconst 0, 1) := by decide +kernel
theorem dX12_isNote_3 : decode cX12_isNote 3 = .ok (.aload_n 0, 1) := by decide +kernel
theorem dX12_isNote_4 : decode cX12_isNote 4 = .ok (.getfield 34, 3) := by decide +kernel
theorem dX12_isNote_7 : decode cX12_isNote 7 = .ok (.iconst 4, 1) := by decide +kernel
theorem dX12_isNote_8 : decode cX12_isNote 8 = .ok (.iaload, 1) := by decide +kernel
theorem dX12_isNote_9 : decode cX12_isNote 9 = .ok (.iconst 1, 1) := by decide +kernel
theorem dX12_isNote_10 : decode cX12_isNote 10 = .ok (.isub, 1) := by decide +kernel
theorem dX12_isNote_11 : decode cX12_isNote 11 = .ok (.i2l, 1) := by decide +kernel
theorem dX12_isNote_12 : decode cX12_isNote 12 = .ok (.invokestatic 109, 3) := by decide +kernel
theorem dX12_isNote_15 : decode cX12_isNote 15 = .ok (.ireturn, 1) := by decide +kernel
set_option maxHeartbeats 4000000 in
set_option maxRecDepth 100000 in
theorem c_X12_isNote (l : Launch) (D : va_G) (K : Nat → ClassId) (m0 al ah : Nat) (fm : List Value) (hmn : fm.length = 51) (hm16 : fm[16]? = some (.ref al)) (hm17 : fm[17]? = some (.ref ah)) (fl fh : Nat → Int32) (hfl : ∀ j, fl j = 0) (hfh : ∀ j, fh j = 0) (p0 : Int32) : fn_CI (S := Unit) l D K yX12_isNote (fn_ws yX12_isNote cX12_isNote 2 (some .boolean)) ({ frames := 8, cells := 0, slots := 0, locals := 200 }) [.ref m0, .int p0] [(m0, .inr (12, fm)), (al, .inl (K 0, 5, .inl fl)), (ah, .inl (K 0, 40, .inl fh))] (fun r _ => r = 0) (fun _ => []) 0 0 := by
  refine fn_inI (cc := cX12_isNote) (maxL := 2) (ret := (some .boolean)) (by decide) rfl (Nat.le_of_ble_eq_true rfl) ?_
  intro p e s m below meth c A ls B hA hP hD hS hl
  obtain ⟨hx, hb, hr, hml, hts, hown, hlocks, hin, hK⟩ := B
  have hown : s.vm.findClass RX12 = some m.cls := hown
  have hts := fun w h => hts w (List.mem_cons_of_mem _ h)
  have hl : lv_has ls 2 [(0, .ref m0), (1, .int p0)] := hl
  refine lv_iload_n hx hb dX12_isNote_0 rfl (lv_at hl 1 rfl) ?_
  refine lv_i2l hx hb dX12_isNote_1 rfl ?_
  refine lv_lconst (v := 0) hx hb dX12_isNote_2 (by decide) ?_
  refine lv_aload_n hx hb dX12_isNote_3 rfl (lv_at hl 0 rfl) ?_
  refine va_get (D := D) (own := RX12) (ci := 12) (v := .ref ah) (C := RX12) (T := TX12) (N := 51) hx hb hts inb_X12 hown hK.1 hP 0 rfl rfl 17 (by decide) (hts _ wd_1251) (fun _ h9 => h9) hm17 dX12_isNote_4 ?_
  refine lv_iconst (v := 4) hx hb dX12_isNote_7 (by decide) ?_
  refine va_iald hx hb hK.1 hP 2 0 rfl rfl (by unfold vp_in; decide) dX12_isNote_8 ?_
  refine fn_top 0 (hfh _) ?_
  refine lv_iconst (v := 1) hx hb dX12_isNote_9 (by decide) ?_
  refine lv_isub hx hb dX12_isNote_10 ?_
  refine fn_top (-1) (by decide) ?_
  refine lv_i2l (v := (-1)) hx hb dX12_isNote_11 (by decide) ?_
  refine fn_goi (wc := []) (wr := [(m0, .inr (12, fm)), (al, .inl (K 0, 5, .inl fl)), (ah, .inl (K 0, 40, .inl fh))]) hK hP hD hS hA [] [0, 1, 2] rfl rfl (by decide) (fun hp => va_runS (As := [.long (Int32.toInt64 p0), .long 0, .long (-1)]) (rest := []) ⟨hx, hb, hml, hown, hts⟩ (c_X12_in_no (l := l) (D := D) (K := K) (v0 := ((Int32.toInt64 p0))) _) (va_cwS 3 hts (fn_ginS (fn_gin wd_1398) wd_1396 wd_1397 wd_13) rfl rfl rfl (by decide +kernel) ⟨Nat.le_of_ble_eq_true rfl, Nat.le_of_ble_eq_true rfl⟩) ⟨fn_blind, hp⟩ rfl rfl hl.1 rfl (lv_room (Nat.le_of_ble_eq_true rfl)) dX12_isNote_12 ⟨Nat.le_of_ble_eq_true rfl, Nat.le_of_ble_eq_true rfl⟩) (fun r2 u1 H locs hwu1 hP hD hS => ?_)
  have r2_e : r2 = 0 := hwu1
  subst r2_e
  have hP : va_P D vwCl [(m0, .inr (12, fm)), (al, .inl (K 0, 5, .inl fl)), (ah, .inl (K 0, 40, .inl fh))] H := hP
  have hD : va_D A [(m0, .inr (12, fm)), (al, .inl (K 0, 5, .inl fl)), (ah, .inl (K 0, 40, .inl fh))] := hD
  exact fn_iret hx hb hr hlocks rfl hP hD hS () (by first | rfl | decide) [] (by decide) rfl dX12_isNote_15
theorem dX12_isTown_0 : decode cX12_isTown 0 = .ok (.aload_n 0, 1) := by decide +kernel
theorem dX12_isTown_1 : decode cX12_isTown 1 = .ok (.getfield 31, 3) := by decide +kernel
theorem dX12_isTown_4 : decode cX12_isTown 4 = .ok (.iconst 0, 1) := by decide +kernel
theorem dX12_isTown_5 : decode cX12_isTown 5 = .ok (.iaload, 1) := by decide +kernel
theorem dX12_isTown_6 : decode cX12_isTown 6 = .ok (.ifCond .le 7, 3) := by decide +kernel
theorem dX12_isTown_13 : decode cX12_isTown 13 = .ok (.iconst 0, 1) := by decide +kernel
theorem dX12_isTown_14 : decode cX12_isTown 14 = .ok (.ireturn, 1) := by decide +kernel
set_option maxHeartbeats 4000000 in
set_option maxRecDepth 100000 in
theorem c_X12_isTown (l : Launch) (D : va_G) (K : Nat → ClassId) (m0 al ah : Nat) (fm : List Value) (hmn : fm.length = 51) (hm16 : fm[16]? = some (.ref al)) (hm17 : fm[17]? = some (.ref ah)) (fl fh : Nat → Int32) (hfl : ∀ j, fl j = 0) (hfh : ∀ j, fh j = 0) : fn_CI (S := Unit) l D K yX12_isTown (fn_ws yX12_isTown cX12_isTown 1 (some .boolean)) ({ frames := 8, cells := 0, slots := 0, locals := 200 }) [.ref m0] [(m0, .inr (12, fm)), (al, .inl (K 0, 5, .inl fl)), (ah, .inl (K 0, 40, .inl fh))] (fun r _ => r = 0) (fun _ => []) 0 0 := by
  refine fn_inI (cc := cX12_isTown) (maxL := 1) (ret := (some .boolean)) (by decide) rfl (Nat.le_of_ble_eq_true rfl) ?_
  intro p e s m below meth c A ls B hA hP hD hS hl
  obtain ⟨hx, hb, hr, hml, hts, hown, hlocks, hin, hK⟩ := B
  have hown : s.vm.findClass RX12 = some m.cls := hown
  have hts := fun w h => hts w (List.mem_cons_of_mem _ h)
  have hl : lv_has ls 1 [(0, .ref m0)] := hl
  refine lv_aload_n hx hb dX12_isTown_0 rfl (lv_at hl 0 rfl) ?_
  refine va_get (D := D) (own := RX12) (ci := 12) (v := .ref al) (C := RX12) (T := TX12) (N := 51) hx hb hts inb_X12 hown hK.1 hP 0 rfl rfl 16 (by decide) (hts _ wd_1250) (fun _ h9 => h9) hm16 dX12_isTown_1 ?_
  refine lv_iconst (v := 0) hx hb dX12_isTown_4 (by decide) ?_
  refine va_iald hx hb hK.1 hP 1 0 rfl rfl (by unfold vp_in; decide) dX12_isTown_5 ?_
  refine fn_top 0 (hfl _) ?_
  refine lv_if_le (tgt := 13) hx hb dX12_isTown_6 (by decide) (fun _ => ?_) (fun h9 => absurd (by decide) h9)
  refine lv_iconst (v := 0) hx hb dX12_isTown_13 (by decide) ?_
  exact fn_iret hx hb hr hlocks rfl hP hD hS () (by first | rfl | decide) [] (by decide) rfl dX12_isTown_14
theorem dX12_areTwo_0 : decode cX12_areTwo 0 = .ok (.aload_n 0, 1) := by decide +kernel
theorem dX12_areTwo_1 : decode cX12_areTwo 1 = .ok (.iload_n 1, 1) := by decide +kernel
theorem dX12_areTwo_2 : decode cX12_areTwo 2 = .ok (.i2l, 1) := by decide +kernel
theorem dX12_areTwo_3 : decode cX12_areTwo 3 = .ok (.invokevirtual 262, 3) := by decide +kernel
theorem dX12_areTwo_6 : decode cX12_areTwo 6 = .ok (.ifCond .eq 21, 3) := by decide +kernel
theorem dX12_areTwo_27 : decode cX12_areTwo 27 = .ok (.iconst 0, 1) := by decide +kernel
theorem dX12_areTwo_28 : decode cX12_areTwo 28 = .ok (.ireturn, 1) := by decide +kernel
set_option maxHeartbeats 4000000 in
set_option maxRecDepth 100000 in
theorem c_X12_areTwo (l : Launch) (D : va_G) (K : Nat → ClassId) (m0 al ah : Nat) (fm : List Value) (hmn : fm.length = 51) (hm16 : fm[16]? = some (.ref al)) (hm17 : fm[17]? = some (.ref ah)) (fl fh : Nat → Int32) (hfl : ∀ j, fl j = 0) (hfh : ∀ j, fh j = 0) (p0 p1 : Int32) : fn_CI (S := Unit) l D K yX12_areTwo (fn_ws yX12_areTwo cX12_areTwo 3 (some .boolean)) ({ frames := 12, cells := 0, slots := 0, locals := 300 }) [.ref m0, .int p0, .int p1] [(m0, .inr (12, fm)), (al, .inl (K 0, 5, .inl fl)), (ah, .inl (K 0, 40, .inl fh))] (fun r _ => r = 0) (fun _ => []) 0 0 := by
  refine fn_inI (cc := cX12_areTwo) (maxL := 3) (ret := (some .boolean)) (by decide) rfl (Nat.le_of_ble_eq_true rfl) ?_
  intro p e s m below meth c A ls B hA hP hD hS hl
  obtain ⟨hx, hb, hr, hml, hts, hown, hlocks, hin, hK⟩ := B
  have hown : s.vm.findClass RX12 = some m.cls := hown
  have hts := fun w h => hts w (List.mem_cons_of_mem _ h)
  have hl : lv_has ls 3 [(0, .ref m0), (1, .int p0), (2, .int p1)] := hl
  refine lv_aload_n hx hb dX12_areTwo_0 rfl (lv_at hl 0 rfl) ?_
  refine lv_iload_n hx hb dX12_areTwo_1 rfl (lv_at hl 1 rfl) ?_
  refine lv_i2l hx hb dX12_areTwo_2 rfl ?_
  refine fn_goi (wc := [(m0, .inr (12, fm)), (al, .inl (K 0, 5, .inl fl)), (ah, .inl (K 0, 40, .inl fh))]) (wr := []) hK hP hD hS hA [0, 1, 2] [] rfl rfl (by decide) (fun hp => va_runV (C := RX12) (As := [.long (Int32.toInt64 p0)]) (rest := []) ⟨hx, hb, hml, hown, hts⟩ (c_X12_isPage (l := l) (D := D) (K := K) (m0 := (m0)) (p0 := ((Int32.toInt64 p0))) (fm := (fm)) (hmn := hmn) (al := (al)) (hm16 := hm16) (ah := (ah)) (hm17 := hm17) (fl := (fl)) (hfl := hfl) (fh := (fh)) (hfh := hfh) _) (cwV 1 hts (fn_ginV (fn_gin wd_1543) wd_1540 wd_1542 wp_116 wd_13) rfl rfl rfl (by decide +kernel) ⟨Nat.le_of_ble_eq_true rfl, Nat.le_of_ble_eq_true rfl⟩) ⟨fn_blind, va_recv hK.1 hP (ci := 12) (q0 := 0) rfl rfl, hp⟩ rfl rfl hl.1 rfl (lv_room (Nat.le_of_ble_eq_true rfl)) dX12_areTwo_3 ⟨Nat.le_of_ble_eq_true rfl, Nat.le_of_ble_eq_true rfl⟩) (fun r2 u1 H locs hwu1 hP hD hS => ?_)
  have r2_e : r2 = 0 := hwu1
  subst r2_e
  have hP : va_P D vwCl [] H := hP
  have hD : va_D A [] := hD
  refine lv_if_eq (tgt := 27) hx hb dX12_areTwo_6 (by decide) (fun _ => ?_) (fun h9 => absurd (by decide) h9)
  refine lv_iconst (v := 0) hx hb dX12_areTwo_27 (by decide) ?_
  exact fn_iret hx hb hr hlocks rfl hP hD hS () (by first | rfl | decide) [] (by decide) rfl dX12_areTwo_28
theorem dX12_isSet_0 : decode cX12_isSet 0 = .ok (.aload_n 0, 1) := by decide +kernel
theorem dX12_isSet_1 : decode cX12_isSet 1 = .ok (.invokevirtual 267, 3) := by decide +kernel
theorem dX12_isSet_4 : decode cX12_isSet 4 = .ok (.ifCond .eq 23, 3) := by decide +kernel
theorem dX12_isSet_27 : decode cX12_isSet 27 = .ok (.iconst 0, 1) := by decide +kernel
theorem dX12_isSet_28 : decode cX12_isSet 28 = .ok (.ireturn, 1) := by decide +kernel
set_option maxHeartbeats 4000000 in
set_option maxRecDepth 100000 in
theorem c_X12_isSet (l : Launch) (D : va_G) (K : Nat → ClassId) (m0 al ah : Nat) (fm : List Value) (hmn : fm.length = 51) (hm16 : fm[16]? = some (.ref al)) (hm17 : fm[17]? = some (.ref ah)) (fl fh : Nat → Int32) (hfl : ∀ j, fl j = 0) (hfh : ∀ j, fh j = 0) (p0 : Int32) : fn_CI (S := Unit) l D K yX12_isSet (fn_ws yX12_isSet cX12_isSet 2 (some .boolean)) ({ frames := 12, cells := 0, slots := 0, locals := 300 }) [.ref m0, .int p0] [(m0, .inr (12, fm)), (al, .inl (K 0, 5, .inl fl)), (ah, .inl (K 0, 40, .inl fh))] (fun r _ => r = 0) (fun _ => []) 0 0 := by
  refine fn_inI (cc := cX12_isSet) (maxL := 2) (ret := (some .boolean)) (by decide) rfl (Nat.le_of_ble_eq_true rfl) ?_
  intro p e s m below meth c A ls B hA hP hD hS hl
  obtain ⟨hx, hb, hr, hml, hts, hown, hlocks, hin, hK⟩ := B
  have hown : s.vm.findClass RX12 = some m.cls := hown
  have hts := fun w h => hts w (List.mem_cons_of_mem _ h)
  have hl : lv_has ls 2 [(0, .ref m0), (1, .int p0)] := hl
  refine lv_aload_n hx hb dX12_isSet_0 rfl (lv_at hl 0 rfl) ?_
  refine fn_goi (wc := [(m0, .inr (12, fm)), (al, .inl (K 0, 5, .inl fl)), (ah, .inl (K 0, 40, .inl fh))]) (wr := []) hK hP hD hS hA [0, 1, 2] [] rfl rfl (by decide) (fun hp => va_runV (C := RX12) (As := []) (rest := []) ⟨hx, hb, hml, hown, hts⟩ (c_X12_isTown (l := l) (D := D) (K := K) (m0 := (m0)) (fm := (fm)) (hmn := hmn) (al := (al)) (hm16 := hm16) (ah := (ah)) (hm17 := hm17) (fl := (fl)) (hfl := hfl) (fh := (fh)) (hfh := hfh) _) (cwV 0 hts (fn_ginV (fn_gin wd_1599) wd_1596 wd_1598 wp_124 wd_13) rfl rfl rfl (by decide +kernel) ⟨Nat.le_of_ble_eq_true rfl, Nat.le_of_ble_eq_true rfl⟩) ⟨fn_blind, va_recv hK.1 hP (ci := 12) (q0 := 0) rfl rfl, hp⟩ rfl rfl hl.1 rfl (lv_room (Nat.le_of_ble_eq_true rfl)) dX12_isSet_1 ⟨Nat.le_of_ble_eq_true rfl, Nat.le_of_ble_eq_true rfl⟩) (fun r2 u1 H locs hwu1 hP hD hS => ?_)
  have r2_e : r2 = 0 := hwu1
  subst r2_e
  have hP : va_P D vwCl [] H := hP
  have hD : va_D A [] := hD
  refine lv_if_eq (tgt := 27) hx hb dX12_isSet_4 (by decide) (fun _ => ?_) (fun h9 => absurd (by decide) h9)
  refine lv_iconst (v := 0) hx hb dX12_isSet_27 (by decide) ?_
  exact fn_iret hx hb hr hlocks rfl hP hD hS () (by first | rfl | decide) [] (by decide) rfl dX12_isSet_28
theorem dX12_isSeed_0 : decode cX12_isSeed 0 = .ok (.aload_n 0, 1) := by decide +kernel
theorem dX12_isSeed_1 : decode cX12_isSeed 1 = .ok (.invokevirtual 267, 3) := by decide +kernel
theorem dX12_isSeed_4 : decode cX12_isSeed 4 = .ok (.ifCond .eq 19, 3) := by decide +kernel
theorem dX12_isSeed_23 : decode cX12_isSeed 23 = .ok (.iconst 0, 1) := by decide +kernel
theorem dX12_isSeed_24 : decode cX12_isSeed 24 = .ok (.ireturn, 1) := by decide +kernel
set_option maxHeartbeats 4000000 in
set_option maxRecDepth 100000 in
theorem c_X12_isSeed (l : Launch) (D : va_G) (K : Nat → ClassId) (m0 al ah : Nat) (fm : List Value) (hmn : fm.length = 51) (hm16 : fm[16]? = some (.ref al)) (hm17 : fm[17]? = some (.ref ah)) (fl fh : Nat → Int32) (hfl : ∀ j, fl j = 0) (hfh : ∀ j, fh j = 0) (p0 : Int32) : fn_CI (S := Unit) l D K yX12_isSeed (fn_ws yX12_isSeed cX12_isSeed 2 (some .boolean)) ({ frames := 12, cells := 0, slots := 0, locals := 300 }) [.ref m0, .int p0] [(m0, .inr (12, fm)), (al, .inl (K 0, 5, .inl fl)), (ah, .inl (K 0, 40, .inl fh))] (fun r _ => r = 0) (fun _ => []) 0 0 := by
  refine fn_inI (cc := cX12_isSeed) (maxL := 2) (ret := (some .boolean)) (by decide) rfl (Nat.le_of_ble_eq_true rfl) ?_
  intro p e s m below meth c A ls B hA hP hD hS hl
  obtain ⟨hx, hb, hr, hml, hts, hown, hlocks, hin, hK⟩ := B
  have hown : s.vm.findClass RX12 = some m.cls := hown
  have hts := fun w h => hts w (List.mem_cons_of_mem _ h)
  have hl : lv_has ls 2 [(0, .ref m0), (1, .int p0)] := hl
  refine lv_aload_n hx hb dX12_isSeed_0 rfl (lv_at hl 0 rfl) ?_
  refine fn_goi (wc := [(m0, .inr (12, fm)), (al, .inl (K 0, 5, .inl fl)), (ah, .inl (K 0, 40, .inl fh))]) (wr := []) hK hP hD hS hA [0, 1, 2] [] rfl rfl (by decide) (fun hp => va_runV (C := RX12) (As := []) (rest := []) ⟨hx, hb, hml, hown, hts⟩ (c_X12_isTown (l := l) (D := D) (K := K) (m0 := (m0)) (fm := (fm)) (hmn := hmn) (al := (al)) (hm16 := hm16) (ah := (ah)) (hm17 := hm17) (fl := (fl)) (hfl := hfl) (fh := (fh)) (hfh := hfh) _) (cwV 0 hts (fn_ginV (fn_gin wd_1599) wd_1596 wd_1598 wp_124 wd_13) rfl rfl rfl (by decide +kernel) ⟨Nat.le_of_ble_eq_true rfl, Nat.le_of_ble_eq_true rfl⟩) ⟨fn_blind, va_recv hK.1 hP (ci := 12) (q0 := 0) rfl rfl, hp⟩ rfl rfl hl.1 rfl (lv_room (Nat.le_of_ble_eq_true rfl)) dX12_isSeed_1 ⟨Nat.le_of_ble_eq_true rfl, Nat.le_of_ble_eq_true rfl⟩) (fun r2 u1 H locs hwu1 hP hD hS => ?_)
  have r2_e : r2 = 0 := hwu1
  subst r2_e
  have hP : va_P D vwCl [] H := hP
  have hD : va_D A [] := hD
  refine lv_if_eq (tgt := 23) hx hb dX12_isSeed_4 (by decide) (fun _ => ?_) (fun h9 => absurd (by decide) h9)
  refine lv_iconst (v := 0) hx hb dX12_isSeed_23 (by decide) ?_
  exact fn_iret hx hb hr hlocks rfl hP hD hS () (by first | rfl | decide) [] (by decide) rfl dX12_isSeed_24
theorem dX12_page_0 : decode cX12_page 0 = .ok (.aload_n 0, 1) := by decide +kernel
theorem dX12_page_1 : decode cX12_page 1 = .ok (.iconst 0, 1) := by decide +kernel
theorem dX12_page_2 : decode cX12_page 2 = .ok (.putfield 104, 3) := by decide +kernel
theorem dX12_page_5 : decode cX12_page 5 = .ok (.aload_n 0, 1) := by decide +kernel
theorem dX12_page_6 : decode cX12_page 6 = .ok (.iload_n 1, 1) := by decide +kernel
theorem dX12_page_7 : decode cX12_page 7 = .ok (.i2l, 1) := by decide +kernel
theorem dX12_page_8 : decode cX12_page 8 = .ok (.invokevirtual 262, 3) := by decide +kernel
theorem dX12_page_11 : decode cX12_page 11 = .ok (.ifCond .eq 15, 3) := by decide +kernel
theorem dX12_page_26 : decode cX12_page 26 = .ok (.bipush (-2), 2) := by decide +kernel
theorem dX12_page_28 : decode cX12_page 28 = .ok (.ireturn, 1) := by decide +kernel
set_option maxHeartbeats 4000000 in
set_option maxRecDepth 100000 in
theorem c_X12_page (l : Launch) (D : va_G) (K : Nat → ClassId) (m0 al ah : Nat) (fm : List Value) (hmn : fm.length = 51) (hm16 : fm[16]? = some (.ref al)) (hm17 : fm[17]? = some (.ref ah)) (fl fh : Nat → Int32) (hfl : ∀ j, fl j = 0) (hfh : ∀ j, fh j = 0) (p0 p1 : Int32) : fn_CI (S := Unit) l D K yX12_page (fn_ws yX12_page cX12_page 5 (some .int)) ({ frames := 12, cells := 0, slots := 0, locals := 300 }) [.ref m0, .int p0, .int p1] [(m0, .inr (12, fm)), (al, .inl (K 0, 5, .inl fl)), (ah, .inl (K 0, 40, .inl fh))] (fun r _ => r = (-2)) (fun _ => []) 0 0 := by
  refine fn_inI (cc := cX12_page) (maxL := 5) (ret := (some .int)) (by decide) rfl (Nat.le_of_ble_eq_true rfl) ?_
  intro p e s m below meth c A ls B hA hP hD hS hl
  obtain ⟨hx, hb, hr, hml, hts, hown, hlocks, hin, hK⟩ := B
  have hown : s.vm.findClass RX12 = some m.cls := hown
  have hts := fun w h => hts w (List.mem_cons_of_mem _ h)
  have hl : lv_has ls 5 [(0, .ref m0), (1, .int p0), (2, .int p1)] := hl
  refine lv_aload_n hx hb dX12_page_0 rfl (lv_at hl 0 rfl) ?_
  refine lv_iconst (v := 0) hx hb dX12_page_1 (by decide) ?_
  refine va_put (D := D) (own := RX12) (ci := 12) (v := .int 0) (ty := .int) (C := RX12) (T := TX12) (N := 51) hx hb hts inb_X12 tyX12 tyX12_ok nmX12 hown hK.1 hP hD hS 0 rfl rfl 0 (by decide) (hts _ wd_1234) (fun _ h9 => h9) rfl (by decide +kernel) rfl rfl (fn_kl hmn (by decide)) dX12_page_2 (fun H locs hP hD hS => ?_)
  have hP : va_P D vwCl [(m0, .inr (12, fm.set 0 (.int 0))), (al, .inl (K 0, 5, .inl fl)), (ah, .inl (K 0, 40, .inl fh))] H := hP
  have hD : va_D A [(m0, .inr (12, fm.set 0 (.int 0))), (al, .inl (K 0, 5, .inl fl)), (ah, .inl (K 0, 40, .inl fh))] := hD
  refine lv_aload_n hx hb dX12_page_5 rfl (lv_at hl 0 rfl) ?_
  refine lv_iload_n hx hb dX12_page_6 rfl (lv_at hl 1 rfl) ?_
  refine lv_i2l hx hb dX12_page_7 rfl ?_
  refine fn_goi (wc := [(m0, .inr (12, fm.set 0 (.int 0))), (al, .inl (K 0, 5, .inl fl)), (ah, .inl (K 0, 40, .inl fh))]) (wr := []) hK hP hD hS hA [0, 1, 2] [] rfl rfl (by decide) (fun hp => va_runV (C := RX12) (As := [.long (Int32.toInt64 p0)]) (rest := []) ⟨hx, hb, hml, hown, hts⟩ (c_X12_isPage (l := l) (D := D) (K := K) (m0 := (m0)) (p0 := ((Int32.toInt64 p0))) (fm := (fm.set 0 (.int 0))) (hmn := (fn_sl hmn)) (al := (al)) (hm16 := (fn_gs (by decide) hm16)) (ah := (ah)) (hm17 := (fn_gs (by decide) hm17)) (fl := (fl)) (hfl := hfl) (fh := (fh)) (hfh := hfh) _) (cwV 1 hts (fn_ginV (fn_gin wd_1543) wd_1540 wd_1542 wp_116 wd_13) rfl rfl rfl (by decide +kernel) ⟨Nat.le_of_ble_eq_true rfl, Nat.le_of_ble_eq_true rfl⟩) ⟨fn_blind, va_recv hK.1 hP (ci := 12) (q0 := 0) rfl rfl, hp⟩ rfl rfl hl.1 rfl (lv_room (Nat.le_of_ble_eq_true rfl)) dX12_page_8 ⟨Nat.le_of_ble_eq_true rfl, Nat.le_of_ble_eq_true rfl⟩) (fun r2 u1 H locs hwu1 hP hD hS => ?_)
  have r2_e : r2 = 0 := hwu1
  subst r2_e
  have hP : va_P D vwCl [] H := hP
  have hD : va_D A [] := hD
  refine lv_if_eq (tgt := 26) hx hb dX12_page_11 (by decide) (fun _ => ?_) (fun h9 => absurd (by decide) h9)
  refine lv_bipush (v := (-2)) hx hb dX12_page_26 (by decide) ?_
  exact fn_iret hx hb hr hlocks rfl hP hD hS () (by first | rfl | decide) [] (by decide) rfl dX12_page_28
theorem dX12_book_0 : decode cX12_book 0 = .ok (.aload_n 0, 1) := by decide +kernel
theorem dX12_book_1 : decode cX12_book 1 = .ok (.iconst 0, 1) := by decide +kernel
theorem dX12_book_2 : decode cX12_book 2 = .ok (.putfield 104, 3) := by decide +kernel
theorem dX12_book_5 : decode cX12_book 5 = .ok (.aload_n 0, 1) := by decide +kernel
theorem dX12_book_6 : decode cX12_book 6 = .ok (.iload_n 1, 1) := by decide +kernel
theorem dX12_book_7 : decode cX12_book 7 = .ok (.invokevirtual 289, 3) := by decide +kernel
theorem dX12_book_10 : decode cX12_book 10 = .ok (.ifCond .eq 15, 3) := by decide +kernel
theorem dX12_book_25 : decode cX12_book 25 = .ok (.bipush (-2), 2) := by decide +kernel
theorem dX12_book_27 : decode cX12_book 27 = .ok (.ireturn, 1) := by decide +kernel
set_option maxHeartbeats 4000000 in
set_option maxRecDepth 100000 in
theorem c_X12_book (l : Launch) (D : va_G) (K : Nat → ClassId) (m0 al ah : Nat) (fm : List Value) (hmn : fm.length = 51) (hm16 : fm[16]? = some (.ref al)) (hm17 : fm[17]? = some (.ref ah)) (fl fh : Nat → Int32) (hfl : ∀ j, fl j = 0) (hfh : ∀ j, fh j = 0) (p0 p1 : Int32) : fn_CI (S := Unit) l D K yX12_book (fn_ws yX12_book cX12_book 4 (some .int)) ({ frames := 12, cells := 0, slots := 0, locals := 300 }) [.ref m0, .int p0, .int p1] [(m0, .inr (12, fm)), (al, .inl (K 0, 5, .inl fl)), (ah, .inl (K 0, 40, .inl fh))] (fun r _ => r = (-2)) (fun _ => []) 0 0 := by
  refine fn_inI (cc := cX12_book) (maxL := 4) (ret := (some .int)) (by decide) rfl (Nat.le_of_ble_eq_true rfl) ?_
  intro p e s m below meth c A ls B hA hP hD hS hl
  obtain ⟨hx, hb, hr, hml, hts, hown, hlocks, hin, hK⟩ := B
  have hown : s.vm.findClass RX12 = some m.cls := hown
  have hts := fun w h => hts w (List.mem_cons_of_mem _ h)
  have hl : lv_has ls 4 [(0, .ref m0), (1, .int p0), (2, .int p1)] := hl
  refine lv_aload_n hx hb dX12_book_0 rfl (lv_at hl 0 rfl) ?_
  refine lv_iconst (v := 0) hx hb dX12_book_1 (by decide) ?_
  refine va_put (D := D) (own := RX12) (ci := 12) (v := .int 0) (ty := .int) (C := RX12) (T := TX12) (N := 51) hx hb hts inb_X12 tyX12 tyX12_ok nmX12 hown hK.1 hP hD hS 0 rfl rfl 0 (by decide) (hts _ wd_1234) (fun _ h9 => h9) rfl (by decide +kernel) rfl rfl (fn_kl hmn (by decide)) dX12_book_2 (fun H locs hP hD hS => ?_)
  have hP : va_P D vwCl [(m0, .inr (12, fm.set 0 (.int 0))), (al, .inl (K 0, 5, .inl fl)), (ah, .inl (K 0, 40, .inl fh))] H := hP
  have hD : va_D A [(m0, .inr (12, fm.set 0 (.int 0))), (al, .inl (K 0, 5, .inl fl)), (ah, .inl (K 0, 40, .inl fh))] := hD
  refine lv_aload_n hx hb dX12_book_5 rfl (lv_at hl 0 rfl) ?_
  refine lv_iload_n hx hb dX12_book_6 rfl (lv_at hl 1 rfl) ?_
  refine fn_goi (wc := [(m0, .inr (12, fm.set 0 (.int 0))), (al, .inl (K 0, 5, .inl fl)), (ah, .inl (K 0, 40, .inl fh))]) (wr := []) hK hP hD hS hA [0, 1, 2] [] rfl rfl (by decide) (fun hp => va_runV (C := RX12) (As := [.int p0]) (rest := []) ⟨hx, hb, hml, hown, hts⟩ (c_X12_isBook (l := l) (D := D) (K := K) (m0 := (m0)) (p0 := (p0)) (fm := (fm.set 0 (.int 0))) (hmn := (fn_sl hmn)) (al := (al)) (hm16 := (fn_gs (by decide) hm16)) (ah := (ah)) (hm17 := (fn_gs (by decide) hm17)) (fl := (fl)) (hfl := hfl) (fh := (fh)) (hfh := hfh) _) (cwV 1 hts (fn_ginV (fn_gin wd_1571) wd_1568 wd_1570 wp_122 wd_13) rfl rfl rfl (by decide +kernel) ⟨Nat.le_of_ble_eq_true rfl, Nat.le_of_ble_eq_true rfl⟩) ⟨fn_blind, va_recv hK.1 hP (ci := 12) (q0 := 0) rfl rfl, hp⟩ rfl rfl hl.1 rfl (lv_room (Nat.le_of_ble_eq_true rfl)) dX12_book_7 ⟨Nat.le_of_ble_eq_true rfl, Nat.le_of_ble_eq_true rfl⟩) (fun r2 u1 H locs hwu1 hP hD hS => ?_)
  have r2_e : r2 = 0 := hwu1
  subst r2_e
  have hP : va_P D vwCl [] H := hP
  have hD : va_D A [] := hD
  refine lv_if_eq (tgt := 25) hx hb dX12_book_10 (by decide) (fun _ => ?_) (fun h9 => absurd (by decide) h9)
  refine lv_bipush (v := (-2)) hx hb dX12_book_25 (by decide) ?_
  exact fn_iret hx hb hr hlocks rfl hP hD hS () (by first | rfl | decide) [] (by decide) rfl dX12_book_27
theorem dX12_leaf_0 : decode cX12_leaf 0 = .ok (.aload_n 0, 1) := by decide +kernel
theorem dX12_leaf_1 : decode cX12_leaf 1 = .ok (.iconst 0, 1) := by decide +kernel
theorem dX12_leaf_2 : decode cX12_leaf 2 = .ok (.putfield 104, 3) := by decide +kernel
theorem dX12_leaf_5 : decode cX12_leaf 5 = .ok (.aload_n 0, 1) := by decide +kernel
theorem dX12_leaf_6 : decode cX12_leaf 6 = .ok (.iload_n 1, 1) := by decide +kernel
theorem dX12_leaf_7 : decode cX12_leaf 7 = .ok (.invokevirtual 289, 3) := by decide +kernel
theorem dX12_leaf_10 : decode cX12_leaf 10 = .ok (.ifCond .ne 6, 3) := by decide +kernel
theorem dX12_leaf_13 : decode cX12_leaf 13 = .ok (.bipush (-2), 2) := by decide +kernel
theorem dX12_leaf_15 : decode cX12_leaf 15 = .ok (.ireturn, 1) := by decide +kernel
set_option maxHeartbeats 4000000 in
set_option maxRecDepth 100000 in
theorem c_X12_leaf (l : Launch) (D : va_G) (K : Nat → ClassId) (m0 al ah : Nat) (fm : List Value) (hmn : fm.length = 51) (hm16 : fm[16]? = some (.ref al)) (hm17 : fm[17]? = some (.ref ah)) (fl fh : Nat → Int32) (hfl : ∀ j, fl j = 0) (hfh : ∀ j, fh j = 0) (p0 p1 : Int32) : fn_CI (S := Unit) l D K yX12_leaf (fn_ws yX12_leaf cX12_leaf 4 (some .int)) ({ frames := 12, cells := 0, slots := 0, locals := 300 }) [.ref m0, .int p0, .int p1] [(m0, .inr (12, fm)), (al, .inl (K 0, 5, .inl fl)), (ah, .inl (K 0, 40, .inl fh))] (fun r _ => r = (-2)) (fun _ => []) 0 0 := by
  refine fn_inI (cc := cX12_leaf) (maxL := 4) (ret := (some .int)) (by decide) rfl (Nat.le_of_ble_eq_true rfl) ?_
  intro p e s m below meth c A ls B hA hP hD hS hl
  obtain ⟨hx, hb, hr, hml, hts, hown, hlocks, hin, hK⟩ := B
  have hown : s.vm.findClass RX12 = some m.cls := hown
  have hts := fun w h => hts w (List.mem_cons_of_mem _ h)
  have hl : lv_has ls 4 [(0, .ref m0), (1, .int p0), (2, .int p1)] := hl
  refine lv_aload_n hx hb dX12_leaf_0 rfl (lv_at hl 0 rfl) ?_
  refine lv_iconst (v := 0) hx hb dX12_leaf_1 (by decide) ?_
  refine va_put (D := D) (own := RX12) (ci := 12) (v := .int 0) (ty := .int) (C := RX12) (T := TX12) (N := 51) hx hb hts inb_X12 tyX12 tyX12_ok nmX12 hown hK.1 hP hD hS 0 rfl rfl 0 (by decide) (hts _ wd_1234) (fun _ h9 => h9) rfl (by decide +kernel) rfl rfl (fn_kl hmn (by decide)) dX12_leaf_2 (fun H locs hP hD hS => ?_)
  have hP : va_P D vwCl [(m0, .inr (12, fm.set 0 (.int 0))), (al, .inl (K 0, 5, .inl fl)), (ah, .inl (K 0, 40, .inl fh))] H := hP
  have hD : va_D A [(m0, .inr (12, fm.set 0 (.int 0))), (al, .inl (K 0, 5, .inl fl)), (ah, .inl (K 0, 40, .inl fh))] := hD
  refine lv_aload_n hx hb dX12_leaf_5 rfl (lv_at hl 0 rfl) ?_
  refine lv_iload_n hx hb dX12_leaf_6 rfl (lv_at hl 1 rfl) ?_
  refine fn_goi (wc := [(m0, .inr (12, fm.set 0 (.int 0))), (al, .inl (K 0, 5, .inl fl)), (ah, .inl (K 0, 40, .inl fh))]) (wr := []) hK hP hD hS hA [0, 1, 2] [] rfl rfl (by decide) (fun hp => va_runV (C := RX12) (As := [.int p0]) (rest := []) ⟨hx, hb, hml, hown, hts⟩ (c_X12_isBook (l := l) (D := D) (K := K) (m0 := (m0)) (p0 := (p0)) (fm := (fm.set 0 (.int 0))) (hmn := (fn_sl hmn)) (al := (al)) (hm16 := (fn_gs (by decide) hm16)) (ah := (ah)) (hm17 := (fn_gs (by decide) hm17)) (fl := (fl)) (hfl := hfl) (fh := (fh)) (hfh := hfh) _) (cwV 1 hts (fn_ginV (fn_gin wd_1571) wd_1568 wd_1570 wp_122 wd_13) rfl rfl rfl (by decide +kernel) ⟨Nat.le_of_ble_eq_true rfl, Nat.le_of_ble_eq_true rfl⟩) ⟨fn_blind, va_recv hK.1 hP (ci := 12) (q0 := 0) rfl rfl, hp⟩ rfl rfl hl.1 rfl (lv_room (Nat.le_of_ble_eq_true rfl)) dX12_leaf_7 ⟨Nat.le_of_ble_eq_true rfl, Nat.le_of_ble_eq_true rfl⟩) (fun r2 u1 H locs hwu1 hP hD hS => ?_)
  have r2_e : r2 = 0 := hwu1
  subst r2_e
  have hP : va_P D vwCl [] H := hP
  have hD : va_D A [] := hD
  refine lv_if_ne (tgt := 16) hx hb dX12_leaf_10 (by decide) (fun h9 => absurd rfl h9) (fun _ => ?_)
  refine lv_bipush (v := (-2)) hx hb dX12_leaf_13 (by decide) ?_
  exact fn_iret hx hb hr hlocks rfl hP hD hS () (by first | rfl | decide) [] (by decide) rfl dX12_leaf_15
theorem dX12_note_0 : decode cX12_note 0 = .ok (.aload_n 0, 1) := by decide +kernel
theorem dX12_note_1 : decode cX12_note 1 = .ok (.iconst 0, 1) := by decide +kernel
theorem dX12_note_2 : decode cX12_note 2 = .ok (.putfield 104, 3) := by decide +kernel
theorem dX12_note_5 : decode cX12_note 5 = .ok (.aload_n 0, 1) := by decide +kernel
theorem dX12_note_6 : decode cX12_note 6 = .ok (.iload_n 1, 1) := by decide +kernel
theorem dX12_note_7 : decode cX12_note 7 = .ok (.invokevirtual 292, 3) := by decide +kernel
theorem dX12_note_10 : decode cX12_note 10 = .ok (.ifCond .eq 15, 3) := by decide +kernel
theorem dX12_note_25 : decode cX12_note 25 = .ok (.bipush (-2), 2) := by decide +kernel
theorem dX12_note_27 : decode cX12_note 27 = .ok (.ireturn, 1) := by decide +kernel
set_option maxHeartbeats 4000000 in
set_option maxRecDepth 100000 in
theorem c_X12_note (l : Launch) (D : va_G) (K : Nat → ClassId) (m0 al ah : Nat) (fm : List Value) (hmn : fm.length = 51) (hm16 : fm[16]? = some (.ref al)) (hm17 : fm[17]? = some (.ref ah)) (fl fh : Nat → Int32) (hfl : ∀ j, fl j = 0) (hfh : ∀ j, fh j = 0) (p0 p1 : Int32) : fn_CI (S := Unit) l D K yX12_note (fn_ws yX12_note cX12_note 3 (some .int)) ({ frames := 12, cells := 0, slots := 0, locals := 300 }) [.ref m0, .int p0, .int p1] [(m0, .inr (12, fm)), (al, .inl (K 0, 5, .inl fl)), (ah, .inl (K 0, 40, .inl fh))] (fun r _ => r = (-2)) (fun _ => []) 0 0 := by
  refine fn_inI (cc := cX12_note) (maxL := 3) (ret := (some .int)) (by decide) rfl (Nat.le_of_ble_eq_true rfl) ?_
  intro p e s m below meth c A ls B hA hP hD hS hl
  obtain ⟨hx, hb, hr, hml, hts, hown, hlocks, hin, hK⟩ := B
  have hown : s.vm.findClass RX12 = some m.cls := hown
  have hts := fun w h => hts w (List.mem_cons_of_mem _ h)
  have hl : lv_has ls 3 [(0, .ref m0), (1, .int p0), (2, .int p1)] := hl
  refine lv_aload_n hx hb dX12_note_0 rfl (lv_at hl 0 rfl) ?_
  refine lv_iconst (v := 0) hx hb dX12_note_1 (by decide) ?_
  refine va_put (D := D) (own := RX12) (ci := 12) (v := .int 0) (ty := .int) (C := RX12) (T := TX12) (N := 51) hx hb hts inb_X12 tyX12 tyX12_ok nmX12 hown hK.1 hP hD hS 0 rfl rfl 0 (by decide) (hts _ wd_1234) (fun _ h9 => h9) rfl (by decide +kernel) rfl rfl (fn_kl hmn (by decide)) dX12_note_2 (fun H locs hP hD hS => ?_)
  have hP : va_P D vwCl [(m0, .inr (12, fm.set 0 (.int 0))), (al, .inl (K 0, 5, .inl fl)), (ah, .inl (K 0, 40, .inl fh))] H := hP
  have hD : va_D A [(m0, .inr (12, fm.set 0 (.int 0))), (al, .inl (K 0, 5, .inl fl)), (ah, .inl (K 0, 40, .inl fh))] := hD
  refine lv_aload_n hx hb dX12_note_5 rfl (lv_at hl 0 rfl) ?_
  refine lv_iload_n hx hb dX12_note_6 rfl (lv_at hl 1 rfl) ?_
  refine fn_goi (wc := [(m0, .inr (12, fm.set 0 (.int 0))), (al, .inl (K 0, 5, .inl fl)), (ah, .inl (K 0, 40, .inl fh))]) (wr := []) hK hP hD hS hA [0, 1, 2] [] rfl rfl (by decide) (fun hp => va_runV (C := RX12) (As := [.int p0]) (rest := []) ⟨hx, hb, hml, hown, hts⟩ (c_X12_isNote (l := l) (D := D) (K := K) (m0 := (m0)) (p0 := (p0)) (fm := (fm.set 0 (.int 0))) (hmn := (fn_sl hmn)) (al := (al)) (hm16 := (fn_gs (by decide) hm16)) (ah := (ah)) (hm17 := (fn_gs (by decide) hm17)) (fl := (fl)) (hfl := hfl) (fh := (fh)) (hfh := hfh) _) (cwV 1 hts (fn_ginV (fn_gin wd_1583) wd_1580 wd_1582 wp_123 wd_13) rfl rfl rfl (by decide +kernel) ⟨Nat.le_of_ble_eq_true rfl, Nat.le_of_ble_eq_true rfl⟩) ⟨fn_blind, va_recv hK.1 hP (ci := 12) (q0 := 0) rfl rfl, hp⟩ rfl rfl hl.1 rfl (lv_room (Nat.le_of_ble_eq_true rfl)) dX12_note_7 ⟨Nat.le_of_ble_eq_true rfl, Nat.le_of_ble_eq_true rfl⟩) (fun r2 u1 H locs hwu1 hP hD hS => ?_)
  have r2_e : r2 = 0 := hwu1
  subst r2_e
  have hP : va_P D vwCl [] H := hP
  have hD : va_D A [] := hD
  refine lv_if_eq (tgt := 25) hx hb dX12_note_10 (by decide) (fun _ => ?_) (fun h9 => absurd (by decide) h9)
  refine lv_bipush (v := (-2)) hx hb dX12_note_25 (by decide) ?_
  exact fn_iret hx hb hr hlocks rfl hP hD hS () (by first | rfl | decide) [] (by decide) rfl dX12_note_27
theorem dX12_leads_0 : decode cX12_leads 0 = .ok (.aload_n 0, 1) := by decide +kernel
theorem dX12_leads_1 : decode cX12_leads 1 = .ok (.iconst 0, 1) := by decide +kernel
theorem dX12_leads_2 : decode cX12_leads 2 = .ok (.putfield 104, 3) := by decide +kernel
theorem dX12_leads_5 : decode cX12_leads 5 = .ok (.aload_n 0, 1) := by decide +kernel
theorem dX12_leads_6 : decode cX12_leads 6 = .ok (.iload_n 1, 1) := by decide +kernel
theorem dX12_leads_7 : decode cX12_leads 7 = .ok (.invokevirtual 292, 3) := by decide +kernel
theorem dX12_leads_10 : decode cX12_leads 10 = .ok (.ifCond .ne 6, 3) := by decide +kernel
theorem dX12_leads_13 : decode cX12_leads 13 = .ok (.bipush (-2), 2) := by decide +kernel
theorem dX12_leads_15 : decode cX12_leads 15 = .ok (.ireturn, 1) := by decide +kernel
set_option maxHeartbeats 4000000 in
set_option maxRecDepth 100000 in
theorem c_X12_leads (l : Launch) (D : va_G) (K : Nat → ClassId) (m0 al ah : Nat) (fm : List Value) (hmn : fm.length = 51) (hm16 : fm[16]? = some (.ref al)) (hm17 : fm[17]? = some (.ref ah)) (fl fh : Nat → Int32) (hfl : ∀ j, fl j = 0) (hfh : ∀ j, fh j = 0) (p0 : Int32) : fn_CI (S := Unit) l D K yX12_leads (fn_ws yX12_leads cX12_leads 2 (some .int)) ({ frames := 12, cells := 0, slots := 0, locals := 300 }) [.ref m0, .int p0] [(m0, .inr (12, fm)), (al, .inl (K 0, 5, .inl fl)), (ah, .inl (K 0, 40, .inl fh))] (fun r _ => r = (-2)) (fun _ => []) 0 0 := by
  refine fn_inI (cc := cX12_leads) (maxL := 2) (ret := (some .int)) (by decide) rfl (Nat.le_of_ble_eq_true rfl) ?_
  intro p e s m below meth c A ls B hA hP hD hS hl
  obtain ⟨hx, hb, hr, hml, hts, hown, hlocks, hin, hK⟩ := B
  have hown : s.vm.findClass RX12 = some m.cls := hown
  have hts := fun w h => hts w (List.mem_cons_of_mem _ h)
  have hl : lv_has ls 2 [(0, .ref m0), (1, .int p0)] := hl
  refine lv_aload_n hx hb dX12_leads_0 rfl (lv_at hl 0 rfl) ?_
  refine lv_iconst (v := 0) hx hb dX12_leads_1 (by decide) ?_
  refine va_put (D := D) (own := RX12) (ci := 12) (v := .int 0) (ty := .int) (C := RX12) (T := TX12) (N := 51) hx hb hts inb_X12 tyX12 tyX12_ok nmX12 hown hK.1 hP hD hS 0 rfl rfl 0 (by decide) (hts _ wd_1234) (fun _ h9 => h9) rfl (by decide +kernel) rfl rfl (fn_kl hmn (by decide)) dX12_leads_2 (fun H locs hP hD hS => ?_)
  have hP : va_P D vwCl [(m0, .inr (12, fm.set 0 (.int 0))), (al, .inl (K 0, 5, .inl fl)), (ah, .inl (K 0, 40, .inl fh))] H := hP
  have hD : va_D A [(m0, .inr (12, fm.set 0 (.int 0))), (al, .inl (K 0, 5, .inl fl)), (ah, .inl (K 0, 40, .inl fh))] := hD
  refine lv_aload_n hx hb dX12_leads_5 rfl (lv_at hl 0 rfl) ?_
  refine lv_iload_n hx hb dX12_leads_6 rfl (lv_at hl 1 rfl) ?_
  refine fn_goi (wc := [(m0, .inr (12, fm.set 0 (.int 0))), (al, .inl (K 0, 5, .inl fl)), (ah, .inl (K 0, 40, .inl fh))]) (wr := []) hK hP hD hS hA [0, 1, 2] [] rfl rfl (by decide) (fun hp => va_runV (C := RX12) (As := [.int p0]) (rest := []) ⟨hx, hb, hml, hown, hts⟩ (c_X12_isNote (l := l) (D := D) (K := K) (m0 := (m0)) (p0 := (p0)) (fm := (fm.set 0 (.int 0))) (hmn := (fn_sl hmn)) (al := (al)) (hm16 := (fn_gs (by decide) hm16)) (ah := (ah)) (hm17 := (fn_gs (by decide) hm17)) (fl := (fl)) (hfl := hfl) (fh := (fh)) (hfh := hfh) _) (cwV 1 hts (fn_ginV (fn_gin wd_1583) wd_1580 wd_1582 wp_123 wd_13) rfl rfl rfl (by decide +kernel) ⟨Nat.le_of_ble_eq_true rfl, Nat.le_of_ble_eq_true rfl⟩) ⟨fn_blind, va_recv hK.1 hP (ci := 12) (q0 := 0) rfl rfl, hp⟩ rfl rfl hl.1 rfl (lv_room (Nat.le_of_ble_eq_true rfl)) dX12_leads_7 ⟨Nat.le_of_ble_eq_true rfl, Nat.le_of_ble_eq_true rfl⟩) (fun r2 u1 H locs hwu1 hP hD hS => ?_)
  have r2_e : r2 = 0 := hwu1
  subst r2_e
  have hP : va_P D vwCl [] H := hP
  have hD : va_D A [] := hD
  refine lv_if_ne (tgt := 16) hx hb dX12_leads_10 (by decide) (fun h9 => absurd rfl h9) (fun _ => ?_)
  refine lv_bipush (v := (-2)) hx hb dX12_leads_13 (by decide) ?_
  exact fn_iret hx hb hr hlocks rfl hP hD hS () (by first | rfl | decide) [] (by decide) rfl dX12_leads_15
theorem dX12_meant_0 : decode cX12_meant 0 = .ok (.aload_n 0, 1) := by decide +kernel
theorem dX12_meant_1 : decode cX12_meant 1 = .ok (.iconst 0, 1) := by decide +kernel
theorem dX12_meant_2 : decode cX12_meant 2 = .ok (.putfield 104, 3) := by decide +kernel
theorem dX12_meant_5 : decode cX12_meant 5 = .ok (.aload_n 0, 1) := by decide +kernel
theorem dX12_meant_6 : decode cX12_meant 6 = .ok (.iload_n 1, 1) := by decide +kernel
theorem dX12_meant_7 : decode cX12_meant 7 = .ok (.invokevirtual 292, 3) := by decide +kernel
theorem dX12_meant_10 : decode cX12_meant 10 = .ok (.ifCond .ne 6, 3) := by decide +kernel
theorem dX12_meant_13 : decode cX12_meant 13 = .ok (.bipush (-2), 2) := by decide +kernel
theorem dX12_meant_15 : decode cX12_meant 15 = .ok (.ireturn, 1) := by decide +kernel
set_option maxHeartbeats 4000000 in
set_option maxRecDepth 100000 in
theorem c_X12_meant (l : Launch) (D : va_G) (K : Nat → ClassId) (m0 al ah : Nat) (fm : List Value) (hmn : fm.length = 51) (hm16 : fm[16]? = some (.ref al)) (hm17 : fm[17]? = some (.ref ah)) (fl fh : Nat → Int32) (hfl : ∀ j, fl j = 0) (hfh : ∀ j, fh j = 0) (p0 : Int32) : fn_CI (S := Unit) l D K yX12_meant (fn_ws yX12_meant cX12_meant 2 (some .int)) ({ frames := 12, cells := 0, slots := 0, locals := 300 }) [.ref m0, .int p0] [(m0, .inr (12, fm)), (al, .inl (K 0, 5, .inl fl)), (ah, .inl (K 0, 40, .inl fh))] (fun r _ => r = (-2)) (fun _ => []) 0 0 := by
  refine fn_inI (cc := cX12_meant) (maxL := 2) (ret := (some .int)) (by decide) rfl (Nat.le_of_ble_eq_true rfl) ?_
  intro p e s m below meth c A ls B hA hP hD hS hl
  obtain ⟨hx, hb, hr, hml, hts, hown, hlocks, hin, hK⟩ := B
  have hown : s.vm.findClass RX12 = some m.cls := hown
  have hts := fun w h => hts w (List.mem_cons_of_mem _ h)
  have hl : lv_has ls 2 [(0, .ref m0), (1, .int p0)] := hl
  refine lv_aload_n hx hb dX12_meant_0 rfl (lv_at hl 0 rfl) ?_
  refine lv_iconst (v := 0) hx hb dX12_meant_1 (by decide) ?_
  refine va_put (D := D) (own := RX12) (ci := 12) (v := .int 0) (ty := .int) (C := RX12) (T := TX12) (N := 51) hx hb hts inb_X12 tyX12 tyX12_ok nmX12 hown hK.1 hP hD hS 0 rfl rfl 0 (by decide) (hts _ wd_1234) (fun _ h9 => h9) rfl (by decide +kernel) rfl rfl (fn_kl hmn (by decide)) dX12_meant_2 (fun H locs hP hD hS => ?_)
  have hP : va_P D vwCl [(m0, .inr (12, fm.set 0 (.int 0))), (al, .inl (K 0, 5, .inl fl)), (ah, .inl (K 0, 40, .inl fh))] H := hP
  have hD : va_D A [(m0, .inr (12, fm.set 0 (.int 0))), (al, .inl (K 0, 5, .inl fl)), (ah, .inl (K 0, 40, .inl fh))] := hD
  refine lv_aload_n hx hb dX12_meant_5 rfl (lv_at hl 0 rfl) ?_
  refine lv_iload_n hx hb dX12_meant_6 rfl (lv_at hl 1 rfl) ?_
  refine fn_goi (wc := [(m0, .inr (12, fm.set 0 (.int 0))), (al, .inl (K 0, 5, .inl fl)), (ah, .inl (K 0, 40, .inl fh))]) (wr := []) hK hP hD hS hA [0, 1, 2] [] rfl rfl (by decide) (fun hp => va_runV (C := RX12) (As := [.int p0]) (rest := []) ⟨hx, hb, hml, hown, hts⟩ (c_X12_isNote (l := l) (D := D) (K := K) (m0 := (m0)) (p0 := (p0)) (fm := (fm.set 0 (.int 0))) (hmn := (fn_sl hmn)) (al := (al)) (hm16 := (fn_gs (by decide) hm16)) (ah := (ah)) (hm17 := (fn_gs (by decide) hm17)) (fl := (fl)) (hfl := hfl) (fh := (fh)) (hfh := hfh) _) (cwV 1 hts (fn_ginV (fn_gin wd_1583) wd_1580 wd_1582 wp_123 wd_13) rfl rfl rfl (by decide +kernel) ⟨Nat.le_of_ble_eq_true rfl, Nat.le_of_ble_eq_true rfl⟩) ⟨fn_blind, va_recv hK.1 hP (ci := 12) (q0 := 0) rfl rfl, hp⟩ rfl rfl hl.1 rfl (lv_room (Nat.le_of_ble_eq_true rfl)) dX12_meant_7 ⟨Nat.le_of_ble_eq_true rfl, Nat.le_of_ble_eq_true rfl⟩) (fun r2 u1 H locs hwu1 hP hD hS => ?_)
  have r2_e : r2 = 0 := hwu1
  subst r2_e
  have hP : va_P D vwCl [] H := hP
  have hD : va_D A [] := hD
  refine lv_if_ne (tgt := 16) hx hb dX12_meant_10 (by decide) (fun h9 => absurd rfl h9) (fun _ => ?_)
  refine lv_bipush (v := (-2)) hx hb dX12_meant_13 (by decide) ?_
  exact fn_iret hx hb hr hlocks rfl hP hD hS () (by first | rfl | decide) [] (by decide) rfl dX12_meant_15
theorem dX12_edition_0 : decode cX12_edition 0 = .ok (.aload_n 0, 1) := by decide +kernel
theorem dX12_edition_1 : decode cX12_edition 1 = .ok (.iconst 0, 1) := by decide +kernel
theorem dX12_edition_2 : decode cX12_edition 2 = .ok (.putfield 104, 3) := by decide +kernel
theorem dX12_edition_5 : decode cX12_edition 5 = .ok (.aload_n 0, 1) := by decide +kernel
theorem dX12_edition_6 : decode cX12_edition 6 = .ok (.iload_n 1, 1) := by decide +kernel
theorem dX12_edition_7 : decode cX12_edition 7 = .ok (.invokevirtual 289, 3) := by decide +kernel
theorem dX12_edition_10 : decode cX12_edition 10 = .ok (.ifCond .ne 6, 3) := by decide +kernel
theorem dX12_edition_13 : decode cX12_edition 13 = .ok (.bipush (-2), 2) := by decide +kernel
theorem dX12_edition_15 : decode cX12_edition 15 = .ok (.ireturn, 1) := by decide +kernel
set_option maxHeartbeats 4000000 in
set_option maxRecDepth 100000 in
theorem c_X12_edition (l : Launch) (D : va_G) (K : Nat → ClassId) (m0 al ah : Nat) (fm : List Value) (hmn : fm.length = 51) (hm16 : fm[16]? = some (.ref al)) (hm17 : fm[17]? = some (.ref ah)) (fl fh : Nat → Int32) (hfl : ∀ j, fl j = 0) (hfh : ∀ j, fh j = 0) (p0 p1 : Int32) : fn_CI (S := Unit) l D K yX12_edition (fn_ws yX12_edition cX12_edition 3 (some .int)) ({ frames := 12, cells := 0, slots := 0, locals := 300 }) [.ref m0, .int p0, .int p1] [(m0, .inr (12, fm)), (al, .inl (K 0, 5, .inl fl)), (ah, .inl (K 0, 40, .inl fh))] (fun r _ => r = (-2)) (fun _ => []) 0 0 := by
  refine fn_inI (cc := cX12_edition) (maxL := 3) (ret := (some .int)) (by decide) rfl (Nat.le_of_ble_eq_true rfl) ?_
  intro p e s m below meth c A ls B hA hP hD hS hl
  obtain ⟨hx, hb, hr, hml, hts, hown, hlocks, hin, hK⟩ := B
  have hown : s.vm.findClass RX12 = some m.cls := hown
  have hts := fun w h => hts w (List.mem_cons_of_mem _ h)
  have hl : lv_has ls 3 [(0, .ref m0), (1, .int p0), (2, .int p1)] := hl
  refine lv_aload_n hx hb dX12_edition_0 rfl (lv_at hl 0 rfl) ?_
  refine lv_iconst (v := 0) hx hb dX12_edition_1 (by decide) ?_
  refine va_put (D := D) (own := RX12) (ci := 12) (v := .int 0) (ty := .int) (C := RX12) (T := TX12) (N := 51) hx hb hts inb_X12 tyX12 tyX12_ok nmX12 hown hK.1 hP hD hS 0 rfl rfl 0 (by decide) (hts _ wd_1234) (fun _ h9 => h9) rfl (by decide +kernel) rfl rfl (fn_kl hmn (by decide)) dX12_edition_2 (fun H locs hP hD hS => ?_)
  have hP : va_P D vwCl [(m0, .inr (12, fm.set 0 (.int 0))), (al, .inl (K 0, 5, .inl fl)), (ah, .inl (K 0, 40, .inl fh))] H := hP
  have hD : va_D A [(m0, .inr (12, fm.set 0 (.int 0))), (al, .inl (K 0, 5, .inl fl)), (ah, .inl (K 0, 40, .inl fh))] := hD
  refine lv_aload_n hx hb dX12_edition_5 rfl (lv_at hl 0 rfl) ?_
  refine lv_iload_n hx hb dX12_edition_6 rfl (lv_at hl 1 rfl) ?_
  refine fn_goi (wc := [(m0, .inr (12, fm.set 0 (.int 0))), (al, .inl (K 0, 5, .inl fl)), (ah, .inl (K 0, 40, .inl fh))]) (wr := []) hK hP hD hS hA [0, 1, 2] [] rfl rfl (by decide) (fun hp => va_runV (C := RX12) (As := [.int p0]) (rest := []) ⟨hx, hb, hml, hown, hts⟩ (c_X12_isBook (l := l) (D := D) (K := K) (m0 := (m0)) (p0 := (p0)) (fm := (fm.set 0 (.int 0))) (hmn := (fn_sl hmn)) (al := (al)) (hm16 := (fn_gs (by decide) hm16)) (ah := (ah)) (hm17 := (fn_gs (by decide) hm17)) (fl := (fl)) (hfl := hfl) (fh := (fh)) (hfh := hfh) _) (cwV 1 hts (fn_ginV (fn_gin wd_1571) wd_1568 wd_1570 wp_122 wd_13) rfl rfl rfl (by decide +kernel) ⟨Nat.le_of_ble_eq_true rfl, Nat.le_of_ble_eq_true rfl⟩) ⟨fn_blind, va_recv hK.1 hP (ci := 12) (q0 := 0) rfl rfl, hp⟩ rfl rfl hl.1 rfl (lv_room (Nat.le_of_ble_eq_true rfl)) dX12_edition_7 ⟨Nat.le_of_ble_eq_true rfl, Nat.le_of_ble_eq_true rfl⟩) (fun r2 u1 H locs hwu1 hP hD hS => ?_)
  have r2_e : r2 = 0 := hwu1
  subst r2_e
  have hP : va_P D vwCl [] H := hP
  have hD : va_D A [] := hD
  refine lv_if_ne (tgt := 16) hx hb dX12_edition_10 (by decide) (fun h9 => absurd rfl h9) (fun _ => ?_)
  refine lv_bipush (v := (-2)) hx hb dX12_edition_13 (by decide) ?_
  exact fn_iret hx hb hr hlocks rfl hP hD hS () (by first | rfl | decide) [] (by decide) rfl dX12_edition_15
theorem dX12_tear_0 : decode cX12_tear 0 = .ok (.aload_n 0, 1) := by decide +kernel
theorem dX12_tear_1 : decode cX12_tear 1 = .ok (.iconst 0, 1) := by decide +kernel
theorem dX12_tear_2 : decode cX12_tear 2 = .ok (.putfield 104, 3) := by decide +kernel
theorem dX12_tear_5 : decode cX12_tear 5 = .ok (.aload_n 0, 1) := by decide +kernel
theorem dX12_tear_6 : decode cX12_tear 6 = .ok (.iload_n 1, 1) := by decide +kernel
theorem dX12_tear_7 : decode cX12_tear 7 = .ok (.invokevirtual 289, 3) := by decide +kernel
theorem dX12_tear_10 : decode cX12_tear 10 = .ok (.ifCond .ne 6, 3) := by decide +kernel
theorem dX12_tear_13 : decode cX12_tear 13 = .ok (.bipush (-2), 2) := by decide +kernel
theorem dX12_tear_15 : decode cX12_tear 15 = .ok (.ireturn, 1) := by decide +kernel
set_option maxHeartbeats 4000000 in
set_option maxRecDepth 100000 in
theorem c_X12_tear (l : Launch) (D : va_G) (K : Nat → ClassId) (m0 al ah : Nat) (fm : List Value) (hmn : fm.length = 51) (hm16 : fm[16]? = some (.ref al)) (hm17 : fm[17]? = some (.ref ah)) (fl fh : Nat → Int32) (hfl : ∀ j, fl j = 0) (hfh : ∀ j, fh j = 0) (p0 p1 : Int32) : fn_CI (S := Unit) l D K yX12_tear (fn_ws yX12_tear cX12_tear 4 (some .int)) ({ frames := 12, cells := 0, slots := 0, locals := 300 }) [.ref m0, .int p0, .int p1] [(m0, .inr (12, fm)), (al, .inl (K 0, 5, .inl fl)), (ah, .inl (K 0, 40, .inl fh))] (fun r _ => r = (-2)) (fun _ => []) 0 0 := by
  refine fn_inI (cc := cX12_tear) (maxL := 4) (ret := (some .int)) (by decide) rfl (Nat.le_of_ble_eq_true rfl) ?_
  intro p e s m below meth c A ls B hA hP hD hS hl
  obtain ⟨hx, hb, hr, hml, hts, hown, hlocks, hin, hK⟩ := B
  have hown : s.vm.findClass RX12 = some m.cls := hown
  have hts := fun w h => hts w (List.mem_cons_of_mem _ h)
  have hl : lv_has ls 4 [(0, .ref m0), (1, .int p0), (2, .int p1)] := hl
  refine lv_aload_n hx hb dX12_tear_0 rfl (lv_at hl 0 rfl) ?_
  refine lv_iconst (v := 0) hx hb dX12_tear_1 (by decide) ?_
  refine va_put (D := D) (own := RX12) (ci := 12) (v := .int 0) (ty := .int) (C := RX12) (T := TX12) (N := 51) hx hb hts inb_X12 tyX12 tyX12_ok nmX12 hown hK.1 hP hD hS 0 rfl rfl 0 (by decide) (hts _ wd_1234) (fun _ h9 => h9) rfl (by decide +kernel) rfl rfl (fn_kl hmn (by decide)) dX12_tear_2 (fun H locs hP hD hS => ?_)
  have hP : va_P D vwCl [(m0, .inr (12, fm.set 0 (.int 0))), (al, .inl (K 0, 5, .inl fl)), (ah, .inl (K 0, 40, .inl fh))] H := hP
  have hD : va_D A [(m0, .inr (12, fm.set 0 (.int 0))), (al, .inl (K 0, 5, .inl fl)), (ah, .inl (K 0, 40, .inl fh))] := hD
  refine lv_aload_n hx hb dX12_tear_5 rfl (lv_at hl 0 rfl) ?_
  refine lv_iload_n hx hb dX12_tear_6 rfl (lv_at hl 1 rfl) ?_
  refine fn_goi (wc := [(m0, .inr (12, fm.set 0 (.int 0))), (al, .inl (K 0, 5, .inl fl)), (ah, .inl (K 0, 40, .inl fh))]) (wr := []) hK hP hD hS hA [0, 1, 2] [] rfl rfl (by decide) (fun hp => va_runV (C := RX12) (As := [.int p0]) (rest := []) ⟨hx, hb, hml, hown, hts⟩ (c_X12_isBook (l := l) (D := D) (K := K) (m0 := (m0)) (p0 := (p0)) (fm := (fm.set 0 (.int 0))) (hmn := (fn_sl hmn)) (al := (al)) (hm16 := (fn_gs (by decide) hm16)) (ah := (ah)) (hm17 := (fn_gs (by decide) hm17)) (fl := (fl)) (hfl := hfl) (fh := (fh)) (hfh := hfh) _) (cwV 1 hts (fn_ginV (fn_gin wd_1571) wd_1568 wd_1570 wp_122 wd_13) rfl rfl rfl (by decide +kernel) ⟨Nat.le_of_ble_eq_true rfl, Nat.le_of_ble_eq_true rfl⟩) ⟨fn_blind, va_recv hK.1 hP (ci := 12) (q0 := 0) rfl rfl, hp⟩ rfl rfl hl.1 rfl (lv_room (Nat.le_of_ble_eq_true rfl)) dX12_tear_7 ⟨Nat.le_of_ble_eq_true rfl, Nat.le_of_ble_eq_true rfl⟩) (fun r2 u1 H locs hwu1 hP hD hS => ?_)
  have r2_e : r2 = 0 := hwu1
  subst r2_e
  have hP : va_P D vwCl [] H := hP
  have hD : va_D A [] := hD
  refine lv_if_ne (tgt := 16) hx hb dX12_tear_10 (by decide) (fun h9 => absurd rfl h9) (fun _ => ?_)
  refine lv_bipush (v := (-2)) hx hb dX12_tear_13 (by decide) ?_
  exact fn_iret hx hb hr hlocks rfl hP hD hS () (by first | rfl | decide) [] (by decide) rfl dX12_tear_15
theorem dX12_misprint_0 : decode cX12_misprint 0 = .ok (.aload_n 0, 1) := by decide +kernel
theorem dX12_misprint_1 : decode cX12_misprint 1 = .ok (.iconst 0, 1) := by decide +kernel
theorem dX12_misprint_2 : decode cX12_misprint 2 = .ok (.putfield 104, 3) := by decide +kernel
theorem dX12_misprint_5 : decode cX12_misprint 5 = .ok (.aload_n 0, 1) := by decide +kernel
theorem dX12_misprint_6 : decode cX12_misprint 6 = .ok (.iload_n 1, 1) := by decide +kernel
theorem dX12_misprint_7 : decode cX12_misprint 7 = .ok (.invokevirtual 292, 3) := by decide +kernel
theorem dX12_misprint_10 : decode cX12_misprint 10 = .ok (.ifCond .eq 15, 3) := by decide +kernel
theorem dX12_misprint_25 : decode cX12_misprint 25 = .ok (.bipush (-2), 2) := by decide +kernel
theorem dX12_misprint_27 : decode cX12_misprint 27 = .ok (.ireturn, 1) := by decide +kernel
set_option maxHeartbeats 4000000 in
set_option maxRecDepth 100000 in
theorem c_X12_misprint (l : Launch) (D : va_G) (K : Nat → ClassId) (m0 al ah : Nat) (fm : List Value) (hmn : fm.length = 51) (hm16 : fm[16]? = some (.ref al)) (hm17 : fm[17]? = some (.ref ah)) (fl fh : Nat → Int32) (hfl : ∀ j, fl j = 0) (hfh : ∀ j, fh j = 0) (p0 p1 : Int32) : fn_CI (S := Unit) l D K yX12_misprint (fn_ws yX12_misprint cX12_misprint 3 (some .int)) ({ frames := 12, cells := 0, slots := 0, locals := 300 }) [.ref m0, .int p0, .int p1] [(m0, .inr (12, fm)), (al, .inl (K 0, 5, .inl fl)), (ah, .inl (K 0, 40, .inl fh))] (fun r _ => r = (-2)) (fun _ => []) 0 0 := by
  refine fn_inI (cc := cX12_misprint) (maxL := 3) (ret := (some .int)) (by decide) rfl (Nat.le_of_ble_eq_true rfl) ?_
  intro p e s m below meth c A ls B hA hP hD hS hl
  obtain ⟨hx, hb, hr, hml, hts, hown, hlocks, hin, hK⟩ := B
  have hown : s.vm.findClass RX12 = some m.cls := hown
  have hts := fun w h => hts w (List.mem_cons_of_mem _ h)
  have hl : lv_has ls 3 [(0, .ref m0), (1, .int p0), (2, .int p1)] := hl
  refine lv_aload_n hx hb dX12_misprint_0 rfl (lv_at hl 0 rfl) ?_
  refine lv_iconst (v := 0) hx hb dX12_misprint_1 (by decide) ?_
  refine va_put (D := D) (own := RX12) (ci := 12) (v := .int 0) (ty := .int) (C := RX12) (T := TX12) (N := 51) hx hb hts inb_X12 tyX12 tyX12_ok nmX12 hown hK.1 hP hD hS 0 rfl rfl 0 (by decide) (hts _ wd_1234) (fun _ h9 => h9) rfl (by decide +kernel) rfl rfl (fn_kl hmn (by decide)) dX12_misprint_2 (fun H locs hP hD hS => ?_)
  have hP : va_P D vwCl [(m0, .inr (12, fm.set 0 (.int 0))), (al, .inl (K 0, 5, .inl fl)), (ah, .inl (K 0, 40, .inl fh))] H := hP
  have hD : va_D A [(m0, .inr (12, fm.set 0 (.int 0))), (al, .inl (K 0, 5, .inl fl)), (ah, .inl (K 0, 40, .inl fh))] := hD
  refine lv_aload_n hx hb dX12_misprint_5 rfl (lv_at hl 0 rfl) ?_
  refine lv_iload_n hx hb dX12_misprint_6 rfl (lv_at hl 1 rfl) ?_
  refine fn_goi (wc := [(m0, .inr (12, fm.set 0 (.int 0))), (al, .inl (K 0, 5, .inl fl)), (ah, .inl (K 0, 40, .inl fh))]) (wr := []) hK hP hD hS hA [0, 1, 2] [] rfl rfl (by decide) (fun hp => va_runV (C := RX12) (As := [.int p0]) (rest := []) ⟨hx, hb, hml, hown, hts⟩ (c_X12_isNote (l := l) (D := D) (K := K) (m0 := (m0)) (p0 := (p0)) (fm := (fm.set 0 (.int 0))) (hmn := (fn_sl hmn)) (al := (al)) (hm16 := (fn_gs (by decide) hm16)) (ah := (ah)) (hm17 := (fn_gs (by decide) hm17)) (fl := (fl)) (hfl := hfl) (fh := (fh)) (hfh := hfh) _) (cwV 1 hts (fn_ginV (fn_gin wd_1583) wd_1580 wd_1582 wp_123 wd_13) rfl rfl rfl (by decide +kernel) ⟨Nat.le_of_ble_eq_true rfl, Nat.le_of_ble_eq_true rfl⟩) ⟨fn_blind, va_recv hK.1 hP (ci := 12) (q0 := 0) rfl rfl, hp⟩ rfl rfl hl.1 rfl (lv_room (Nat.le_of_ble_eq_true rfl)) dX12_misprint_7 ⟨Nat.le_of_ble_eq_true rfl, Nat.le_of_ble_eq_true rfl⟩) (fun r2 u1 H locs hwu1 hP hD hS => ?_)
  have r2_e : r2 = 0 := hwu1
  subst r2_e
  have hP : va_P D vwCl [] H := hP
  have hD : va_D A [] := hD
  refine lv_if_eq (tgt := 25) hx hb dX12_misprint_10 (by decide) (fun _ => ?_) (fun h9 => absurd (by decide) h9)
  refine lv_bipush (v := (-2)) hx hb dX12_misprint_25 (by decide) ?_
  exact fn_iret hx hb hr hlocks rfl hP hD hS () (by first | rfl | decide) [] (by decide) rfl dX12_misprint_27
theorem dX12_reach_0 : decode cX12_reach 0 = .ok (.aload_n 0, 1) := by decide +kernel
theorem dX12_reach_1 : decode cX12_reach 1 = .ok (.iconst 0, 1) := by decide +kernel
theorem dX12_reach_2 : decode cX12_reach 2 = .ok (.putfield 104, 3) := by decide +kernel
theorem dX12_reach_5 : decode cX12_reach 5 = .ok (.aload_n 0, 1) := by decide +kernel
theorem dX12_reach_6 : decode cX12_reach 6 = .ok (.iload_n 1, 1) := by decide +kernel
theorem dX12_reach_7 : decode cX12_reach 7 = .ok (.i2l, 1) := by decide +kernel
theorem dX12_reach_8 : decode cX12_reach 8 = .ok (.invokevirtual 262, 3) := by decide +kernel
theorem dX12_reach_11 : decode cX12_reach 11 = .ok (.ifCond .ne 6, 3) := by decide +kernel
theorem dX12_reach_14 : decode cX12_reach 14 = .ok (.bipush (-2), 2) := by decide +kernel
theorem dX12_reach_16 : decode cX12_reach 16 = .ok (.ireturn, 1) := by decide +kernel
set_option maxHeartbeats 4000000 in
set_option maxRecDepth 100000 in
theorem c_X12_reach (l : Launch) (D : va_G) (K : Nat → ClassId) (m0 al ah : Nat) (fm : List Value) (hmn : fm.length = 51) (hm16 : fm[16]? = some (.ref al)) (hm17 : fm[17]? = some (.ref ah)) (fl fh : Nat → Int32) (hfl : ∀ j, fl j = 0) (hfh : ∀ j, fh j = 0) (p0 : Int32) : fn_CI (S := Unit) l D K yX12_reach (fn_ws yX12_reach cX12_reach 2 (some .int)) ({ frames := 12, cells := 0, slots := 0, locals := 300 }) [.ref m0, .int p0] [(m0, .inr (12, fm)), (al, .inl (K 0, 5, .inl fl)), (ah, .inl (K 0, 40, .inl fh))] (fun r _ => r = (-2)) (fun _ => []) 0 0 := by
  refine fn_inI (cc := cX12_reach) (maxL := 2) (ret := (some .int)) (by decide) rfl (Nat.le_of_ble_eq_true rfl) ?_
  intro p e s m below meth c A ls B hA hP hD hS hl
  obtain ⟨hx, hb, hr, hml, hts, hown, hlocks, hin, hK⟩ := B
  have hown : s.vm.findClass RX12 = some m.cls := hown
  have hts := fun w h => hts w (List.mem_cons_of_mem _ h)
  have hl : lv_has ls 2 [(0, .ref m0), (1, .int p0)] := hl
  refine lv_aload_n hx hb dX12_reach_0 rfl (lv_at hl 0 rfl) ?_
  refine lv_iconst (v := 0) hx hb dX12_reach_1 (by decide) ?_
  refine va_put (D := D) (own := RX12) (ci := 12) (v := .int 0) (ty := .int) (C := RX12) (T := TX12) (N := 51) hx hb hts inb_X12 tyX12 tyX12_ok nmX12 hown hK.1 hP hD hS 0 rfl rfl 0 (by decide) (hts _ wd_1234) (fun _ h9 => h9) rfl (by decide +kernel) rfl rfl (fn_kl hmn (by decide)) dX12_reach_2 (fun H locs hP hD hS => ?_)
  have hP : va_P D vwCl [(m0, .inr (12, fm.set 0 (.int 0))), (al, .inl (K 0, 5, .inl fl)), (ah, .inl (K 0, 40, .inl fh))] H := hP
  have hD : va_D A [(m0, .inr (12, fm.set 0 (.int 0))), (al, .inl (K 0, 5, .inl fl)), (ah, .inl (K 0, 40, .inl fh))] := hD
  refine lv_aload_n hx hb dX12_reach_5 rfl (lv_at hl 0 rfl) ?_
  refine lv_iload_n hx hb dX12_reach_6 rfl (lv_at hl 1 rfl) ?_
  refine lv_i2l hx hb dX12_reach_7 rfl ?_
  refine fn_goi (wc := [(m0, .inr (12, fm.set 0 (.int 0))), (al, .inl (K 0, 5, .inl fl)), (ah, .inl (K 0, 40, .inl fh))]) (wr := []) hK hP hD hS hA [0, 1, 2] [] rfl rfl (by decide) (fun hp => va_runV (C := RX12) (As := [.long (Int32.toInt64 p0)]) (rest := []) ⟨hx, hb, hml, hown, hts⟩ (c_X12_isPage (l := l) (D := D) (K := K) (m0 := (m0)) (p0 := ((Int32.toInt64 p0))) (fm := (fm.set 0 (.int 0))) (hmn := (fn_sl hmn)) (al := (al)) (hm16 := (fn_gs (by decide) hm16)) (ah := (ah)) (hm17 := (fn_gs (by decide) hm17)) (fl := (fl)) (hfl := hfl) (fh := (fh)) (hfh := hfh) _) (cwV 1 hts (fn_ginV (fn_gin wd_1543) wd_1540 wd_1542 wp_116 wd_13) rfl rfl rfl (by decide +kernel) ⟨Nat.le_of_ble_eq_true rfl, Nat.le_of_ble_eq_true rfl⟩) ⟨fn_blind, va_recv hK.1 hP (ci := 12) (q0 := 0) rfl rfl, hp⟩ rfl rfl hl.1 rfl (lv_room (Nat.le_of_ble_eq_true rfl)) dX12_reach_8 ⟨Nat.le_of_ble_eq_true rfl, Nat.le_of_ble_eq_true rfl⟩) (fun r2 u1 H locs hwu1 hP hD hS => ?_)
  have r2_e : r2 = 0 := hwu1
  subst r2_e
  have hP : va_P D vwCl [] H := hP
  have hD : va_D A [] := hD
  refine lv_if_ne (tgt := 17) hx hb dX12_reach_11 (by decide) (fun h9 => absurd rfl h9) (fun _ => ?_)
  refine lv_bipush (v := (-2)) hx hb dX12_reach_14 (by decide) ?_
  exact fn_iret hx hb hr hlocks rfl hP hD hS () (by first | rfl | decide) [] (by decide) rfl dX12_reach_16
theorem dX12_upon_0 : decode cX12_upon 0 = .ok (.aload_n 0, 1) := by decide +kernel
theorem dX12_upon_1 : decode cX12_upon 1 = .ok (.iconst 0, 1) := by decide +kernel
theorem dX12_upon_2 : decode cX12_upon 2 = .ok (.putfield 104, 3) := by decide +kernel
theorem dX12_upon_5 : decode cX12_upon 5 = .ok (.aload_n 0, 1) := by decide +kernel
theorem dX12_upon_6 : decode cX12_upon 6 = .ok (.iload_n 1, 1) := by decide +kernel
theorem dX12_upon_7 : decode cX12_upon 7 = .ok (.i2l, 1) := by decide +kernel
theorem dX12_upon_8 : decode cX12_upon 8 = .ok (.invokevirtual 262, 3) := by decide +kernel
theorem dX12_upon_11 : decode cX12_upon 11 = .ok (.ifCond .ne 6, 3) := by decide +kernel
theorem dX12_upon_14 : decode cX12_upon 14 = .ok (.bipush (-2), 2) := by decide +kernel
theorem dX12_upon_16 : decode cX12_upon 16 = .ok (.ireturn, 1) := by decide +kernel
set_option maxHeartbeats 4000000 in
set_option maxRecDepth 100000 in
theorem c_X12_upon (l : Launch) (D : va_G) (K : Nat → ClassId) (m0 al ah : Nat) (fm : List Value) (hmn : fm.length = 51) (hm16 : fm[16]? = some (.ref al)) (hm17 : fm[17]? = some (.ref ah)) (fl fh : Nat → Int32) (hfl : ∀ j, fl j = 0) (hfh : ∀ j, fh j = 0) (p0 : Int32) : fn_CI (S := Unit) l D K yX12_upon (fn_ws yX12_upon cX12_upon 2 (some .int)) ({ frames := 12, cells := 0, slots := 0, locals := 300 }) [.ref m0, .int p0] [(m0, .inr (12, fm)), (al, .inl (K 0, 5, .inl fl)), (ah, .inl (K 0, 40, .inl fh))] (fun r _ => r = (-2)) (fun _ => []) 0 0 := by
  refine fn_inI (cc := cX12_upon) (maxL := 2) (ret := (some .int)) (by decide) rfl (Nat.le_of_ble_eq_true rfl) ?_
  intro p e s m below meth c A ls B hA hP hD hS hl
  obtain ⟨hx, hb, hr, hml, hts, hown, hlocks, hin, hK⟩ := B
  have hown : s.vm.findClass RX12 = some m.cls := hown
  have hts := fun w h => hts w (List.mem_cons_of_mem _ h)
  have hl : lv_has ls 2 [(0, .ref m0), (1, .int p0)] := hl
  refine lv_aload_n hx hb dX12_upon_0 rfl (lv_at hl 0 rfl) ?_
  refine lv_iconst (v := 0) hx hb dX12_upon_1 (by decide) ?_
  refine va_put (D := D) (own := RX12) (ci := 12) (v := .int 0) (ty := .int) (C := RX12) (T := TX12) (N := 51) hx hb hts inb_X12 tyX12 tyX12_ok nmX12 hown hK.1 hP hD hS 0 rfl rfl 0 (by decide) (hts _ wd_1234) (fun _ h9 => h9) rfl (by decide +kernel) rfl rfl (fn_kl hmn (by decide)) dX12_upon_2 (fun H locs hP hD hS => ?_)
  have hP : va_P D vwCl [(m0, .inr (12, fm.set 0 (.int 0))), (al, .inl (K 0, 5, .inl fl)), (ah, .inl (K 0, 40, .inl fh))] H := hP
  have hD : va_D A [(m0, .inr (12, fm.set 0 (.int 0))), (al, .inl (K 0, 5, .inl fl)), (ah, .inl (K 0, 40, .inl fh))] := hD
  refine lv_aload_n hx hb dX12_upon_5 rfl (lv_at hl 0 rfl) ?_
  refine lv_iload_n hx hb dX12_upon_6 rfl (lv_at hl 1 rfl) ?_
  refine lv_i2l hx hb dX12_upon_7 rfl ?_
  refine fn_goi (wc := [(m0, .inr (12, fm.set 0 (.int 0))), (al, .inl (K 0, 5, .inl fl)), (ah, .inl (K 0, 40, .inl fh))]) (wr := []) hK hP hD hS hA [0, 1, 2] [] rfl rfl (by decide) (fun hp => va_runV (C := RX12) (As := [.long (Int32.toInt64 p0)]) (rest := []) ⟨hx, hb, hml, hown, hts⟩ (c_X12_isPage (l := l) (D := D) (K := K) (m0 := (m0)) (p0 := ((Int32.toInt64 p0))) (fm := (fm.set 0 (.int 0))) (hmn := (fn_sl hmn)) (al := (al)) (hm16 := (fn_gs (by decide) hm16)) (ah := (ah)) (hm17 := (fn_gs (by decide) hm17)) (fl := (fl)) (hfl := hfl) (fh := (fh)) (hfh := hfh) _) (cwV 1 hts (fn_ginV (fn_gin wd_1543) wd_1540 wd_1542 wp_116 wd_13) rfl rfl rfl (by decide +kernel) ⟨Nat.le_of_ble_eq_true rfl, Nat.le_of_ble_eq_true rfl⟩) ⟨fn_blind, va_recv hK.1 hP (ci := 12) (q0 := 0) rfl rfl, hp⟩ rfl rfl hl.1 rfl (lv_room (Nat.le_of_ble_eq_true rfl)) dX12_upon_8 ⟨Nat.le_of_ble_eq_true rfl, Nat.le_of_ble_eq_true rfl⟩) (fun r2 u1 H locs hwu1 hP hD hS => ?_)
  have r2_e : r2 = 0 := hwu1
  subst r2_e
  have hP : va_P D vwCl [] H := hP
  have hD : va_D A [] := hD
  refine lv_if_ne (tgt := 17) hx hb dX12_upon_11 (by decide) (fun h9 => absurd rfl h9) (fun _ => ?_)
  refine lv_bipush (v := (-2)) hx hb dX12_upon_14 (by decide) ?_
  exact fn_iret hx hb hr hlocks rfl hP hD hS () (by first | rfl | decide) [] (by decide) rfl dX12_upon_16
theorem dX12_round_0 : decode cX12_round 0 = .ok (.aload_n 0, 1) := by decide +kernel
theorem dX12_round_1 : decode cX12_round 1 = .ok (.iconst 0, 1) := by decide +kernel
theorem dX12_round_2 : decode cX12_round 2 = .ok (.putfield 104, 3) := by decide +kernel
theorem dX12_round_5 : decode cX12_round 5 = .ok (.aload_n 0, 1) := by decide +kernel
theorem dX12_round_6 : decode cX12_round 6 = .ok (.iload_n 1, 1) := by decide +kernel
theorem dX12_round_7 : decode cX12_round 7 = .ok (.i2l, 1) := by decide +kernel
theorem dX12_round_8 : decode cX12_round 8 = .ok (.invokevirtual 262, 3) := by decide +kernel
theorem dX12_round_11 : decode cX12_round 11 = .ok (.ifCond .ne 6, 3) := by decide +kernel
theorem dX12_round_14 : decode cX12_round 14 = .ok (.bipush (-2), 2) := by decide +kernel
theorem dX12_round_16 : decode cX12_round 16 = .ok (.ireturn, 1) := by decide +kernel
set_option maxHeartbeats 4000000 in
set_option maxRecDepth 100000 in
theorem c_X12_round (l : Launch) (D : va_G) (K : Nat → ClassId) (m0 al ah : Nat) (fm : List Value) (hmn : fm.length = 51) (hm16 : fm[16]? = some (.ref al)) (hm17 : fm[17]? = some (.ref ah)) (fl fh : Nat → Int32) (hfl : ∀ j, fl j = 0) (hfh : ∀ j, fh j = 0) (p0 : Int32) : fn_CI (S := Unit) l D K yX12_round (fn_ws yX12_round cX12_round 4 (some .int)) ({ frames := 12, cells := 0, slots := 0, locals := 300 }) [.ref m0, .int p0] [(m0, .inr (12, fm)), (al, .inl (K 0, 5, .inl fl)), (ah, .inl (K 0, 40, .inl fh))] (fun r _ => r = (-2)) (fun _ => []) 0 0 := by
  refine fn_inI (cc := cX12_round) (maxL := 4) (ret := (some .int)) (by decide) rfl (Nat.le_of_ble_eq_true rfl) ?_
  intro p e s m below meth c A ls B hA hP hD hS hl
  obtain ⟨hx, hb, hr, hml, hts, hown, hlocks, hin, hK⟩ := B
  have hown : s.vm.findClass RX12 = some m.cls := hown
  have hts := fun w h => hts w (List.mem_cons_of_mem _ h)
  have hl : lv_has ls 4 [(0, .ref m0), (1, .int p0)] := hl
  refine lv_aload_n hx hb dX12_round_0 rfl (lv_at hl 0 rfl) ?_
  refine lv_iconst (v := 0) hx hb dX12_round_1 (by decide) ?_
  refine va_put (D := D) (own := RX12) (ci := 12) (v := .int 0) (ty := .int) (C := RX12) (T := TX12) (N := 51) hx hb hts inb_X12 tyX12 tyX12_ok nmX12 hown hK.1 hP hD hS 0 rfl rfl 0 (by decide) (hts _ wd_1234) (fun _ h9 => h9) rfl (by decide +kernel) rfl rfl (fn_kl hmn (by decide)) dX12_round_2 (fun H locs hP hD hS => ?_)
  have hP : va_P D vwCl [(m0, .inr (12, fm.set 0 (.int 0))), (al, .inl (K 0, 5, .inl fl)), (ah, .inl (K 0, 40, .inl fh))] H := hP
  have hD : va_D A [(m0, .inr (12, fm.set 0 (.int 0))), (al, .inl (K 0, 5, .inl fl)), (ah, .inl (K 0, 40, .inl fh))] := hD
  refine lv_aload_n hx hb dX12_round_5 rfl (lv_at hl 0 rfl) ?_
  refine lv_iload_n hx hb dX12_round_6 rfl (lv_at hl 1 rfl) ?_
  refine lv_i2l hx hb dX12_round_7 rfl ?_
  refine fn_goi (wc := [(m0, .inr (12, fm.set 0 (.int 0))), (al, .inl (K 0, 5, .inl fl)), (ah, .inl (K 0, 40, .inl fh))]) (wr := []) hK hP hD hS hA [0, 1, 2] [] rfl rfl (by decide) (fun hp => va_runV (C := RX12) (As := [.long (Int32.toInt64 p0)]) (rest := []) ⟨hx, hb, hml, hown, hts⟩ (c_X12_isPage (l := l) (D := D) (K := K) (m0 := (m0)) (p0 := ((Int32.toInt64 p0))) (fm := (fm.set 0 (.int 0))) (hmn := (fn_sl hmn)) (al := (al)) (hm16 := (fn_gs (by decide) hm16)) (ah := (ah)) (hm17 := (fn_gs (by decide) hm17)) (fl := (fl)) (hfl := hfl) (fh := (fh)) (hfh := hfh) _) (cwV 1 hts (fn_ginV (fn_gin wd_1543) wd_1540 wd_1542 wp_116 wd_13) rfl rfl rfl (by decide +kernel) ⟨Nat.le_of_ble_eq_true rfl, Nat.le_of_ble_eq_true rfl⟩) ⟨fn_blind, va_recv hK.1 hP (ci := 12) (q0 := 0) rfl rfl, hp⟩ rfl rfl hl.1 rfl (lv_room (Nat.le_of_ble_eq_true rfl)) dX12_round_8 ⟨Nat.le_of_ble_eq_true rfl, Nat.le_of_ble_eq_true rfl⟩) (fun r2 u1 H locs hwu1 hP hD hS => ?_)
  have r2_e : r2 = 0 := hwu1
  subst r2_e
  have hP : va_P D vwCl [] H := hP
  have hD : va_D A [] := hD
  refine lv_if_ne (tgt := 17) hx hb dX12_round_11 (by decide) (fun h9 => absurd rfl h9) (fun _ => ?_)
  refine lv_bipush (v := (-2)) hx hb dX12_round_14 (by decide) ?_
  exact fn_iret hx hb hr hlocks rfl hP hD hS () (by first | rfl | decide) [] (by decide) rfl dX12_round_16
theorem dX12_ring_0 : decode cX12_ring 0 = .ok (.aload_n 0, 1) := by decide +kernel
theorem dX12_ring_1 : decode cX12_ring 1 = .ok (.iconst 0, 1) := by decide +kernel
theorem dX12_ring_2 : decode cX12_ring 2 = .ok (.putfield 104, 3) := by decide +kernel
theorem dX12_ring_5 : decode cX12_ring 5 = .ok (.aload_n 0, 1) := by decide +kernel
theorem dX12_ring_6 : decode cX12_ring 6 = .ok (.iload_n 1, 1) := by decide +kernel
theorem dX12_ring_7 : decode cX12_ring 7 = .ok (.i2l, 1) := by decide +kernel
theorem dX12_ring_8 : decode cX12_ring 8 = .ok (.invokevirtual 262, 3) := by decide +kernel
theorem dX12_ring_11 : decode cX12_ring 11 = .ok (.ifCond .ne 6, 3) := by decide +kernel
theorem dX12_ring_14 : decode cX12_ring 14 = .ok (.bipush (-2), 2) := by decide +kernel
theorem dX12_ring_16 : decode cX12_ring 16 = .ok (.ireturn, 1) := by decide +kernel
set_option maxHeartbeats 4000000 in
set_option maxRecDepth 100000 in
theorem c_X12_ring (l : Launch) (D : va_G) (K : Nat → ClassId) (m0 al ah : Nat) (fm : List Value) (hmn : fm.length = 51) (hm16 : fm[16]? = some (.ref al)) (hm17 : fm[17]? = some (.ref ah)) (fl fh : Nat → Int32) (hfl : ∀ j, fl j = 0) (hfh : ∀ j, fh j = 0) (p0 : Int32) : fn_CI (S := Unit) l D K yX12_ring (fn_ws yX12_ring cX12_ring 2 (some .int)) ({ frames := 12, cells := 0, slots := 0, locals := 300 }) [.ref m0, .int p0] [(m0, .inr (12, fm)), (al, .inl (K 0, 5, .inl fl)), (ah, .inl (K 0, 40, .inl fh))] (fun r _ => r = (-2)) (fun _ => []) 0 0 := by
  refine fn_inI (cc := cX12_ring) (maxL := 2) (ret := (some .int)) (by decide) rfl (Nat.le_of_ble_eq_true rfl) ?_
  intro p e s m below meth c A ls B hA hP hD hS hl
  obtain ⟨hx, hb, hr, hml, hts, hown, hlocks, hin, hK⟩ := B
  have hown : s.vm.findClass RX12 = some m.cls := hown
  have hts := fun w h => hts w (List.mem_cons_of_mem _ h)
  have hl : lv_has ls 2 [(0, .ref m0), (1, .int p0)] := hl
  refine lv_aload_n hx hb dX12_ring_0 rfl (lv_at hl 0 rfl) ?_
  refine lv_iconst (v := 0) hx hb dX12_ring_1 (by decide) ?_
  refine va_put (D := D) (own := RX12) (ci := 12) (v := .int 0) (ty := .int) (C := RX12) (T := TX12) (N := 51) hx hb hts inb_X12 tyX12 tyX12_ok nmX12 hown hK.1 hP hD hS 0 rfl rfl 0 (by decide) (hts _ wd_1234) (fun _ h9 => h9) rfl (by decide +kernel) rfl rfl (fn_kl hmn (by decide)) dX12_ring_2 (fun H locs hP hD hS => ?_)
  have hP : va_P D vwCl [(m0, .inr (12, fm.set 0 (.int 0))), (al, .inl (K 0, 5, .inl fl)), (ah, .inl (K 0, 40, .inl fh))] H := hP
  have hD : va_D A [(m0, .inr (12, fm.set 0 (.int 0))), (al, .inl (K 0, 5, .inl fl)), (ah, .inl (K 0, 40, .inl fh))] := hD
  refine lv_aload_n hx hb dX12_ring_5 rfl (lv_at hl 0 rfl) ?_
  refine lv_iload_n hx hb dX12_ring_6 rfl (lv_at hl 1 rfl) ?_
  refine lv_i2l hx hb dX12_ring_7 rfl ?_
  refine fn_goi (wc := [(m0, .inr (12, fm.set 0 (.int 0))), (al, .inl (K 0, 5, .inl fl)), (ah, .inl (K 0, 40, .inl fh))]) (wr := []) hK hP hD hS hA [0, 1, 2] [] rfl rfl (by decide) (fun hp => va_runV (C := RX12) (As := [.long (Int32.toInt64 p0)]) (rest := []) ⟨hx, hb, hml, hown, hts⟩ (c_X12_isPage (l := l) (D := D) (K := K) (m0 := (m0)) (p0 := ((Int32.toInt64 p0))) (fm := (fm.set 0 (.int 0))) (hmn := (fn_sl hmn)) (al := (al)) (hm16 := (fn_gs (by decide) hm16)) (ah := (ah)) (hm17 := (fn_gs (by decide) hm17)) (fl := (fl)) (hfl := hfl) (fh := (fh)) (hfh := hfh) _) (cwV 1 hts (fn_ginV (fn_gin wd_1543) wd_1540 wd_1542 wp_116 wd_13) rfl rfl rfl (by decide +kernel) ⟨Nat.le_of_ble_eq_true rfl, Nat.le_of_ble_eq_true rfl⟩) ⟨fn_blind, va_recv hK.1 hP (ci := 12) (q0 := 0) rfl rfl, hp⟩ rfl rfl hl.1 rfl (lv_room (Nat.le_of_ble_eq_true rfl)) dX12_ring_8 ⟨Nat.le_of_ble_eq_true rfl, Nat.le_of_ble_eq_true rfl⟩) (fun r2 u1 H locs hwu1 hP hD hS => ?_)
  have r2_e : r2 = 0 := hwu1
  subst r2_e
  have hP : va_P D vwCl [] H := hP
  have hD : va_D A [] := hD
  refine lv_if_ne (tgt := 17) hx hb dX12_ring_11 (by decide) (fun h9 => absurd rfl h9) (fun _ => ?_)
  refine lv_bipush (v := (-2)) hx hb dX12_ring_14 (by decide) ?_
  exact fn_iret hx hb hr hlocks rfl hP hD hS () (by first | rfl | decide) [] (by decide) rfl dX12_ring_16
theorem dX12_way_0 : decode cX12_way 0 = .ok (.aload_n 0, 1) := by decide +kernel
theorem dX12_way_1 : decode cX12_way 1 = .ok (.iconst 0, 1) := by decide +kernel
theorem dX12_way_2 : decode cX12_way 2 = .ok (.putfield 104, 3) := by decide +kernel
theorem dX12_way_5 : decode cX12_way 5 = .ok (.aload_n 0, 1) := by decide +kernel
theorem dX12_way_6 : decode cX12_way 6 = .ok (.iload_n 1, 1) := by decide +kernel
theorem dX12_way_7 : decode cX12_way 7 = .ok (.i2l, 1) := by decide +kernel
theorem dX12_way_8 : decode cX12_way 8 = .ok (.invokevirtual 262, 3) := by decide +kernel
theorem dX12_way_11 : decode cX12_way 11 = .ok (.ifCond .ne 6, 3) := by decide +kernel
theorem dX12_way_14 : decode cX12_way 14 = .ok (.bipush (-2), 2) := by decide +kernel
theorem dX12_way_16 : decode cX12_way 16 = .ok (.ireturn, 1) := by decide +kernel
set_option maxHeartbeats 4000000 in
set_option maxRecDepth 100000 in
theorem c_X12_way (l : Launch) (D : va_G) (K : Nat → ClassId) (m0 al ah : Nat) (fm : List Value) (hmn : fm.length = 51) (hm16 : fm[16]? = some (.ref al)) (hm17 : fm[17]? = some (.ref ah)) (fl fh : Nat → Int32) (hfl : ∀ j, fl j = 0) (hfh : ∀ j, fh j = 0) (p0 : Int32) : fn_CI (S := Unit) l D K yX12_way (fn_ws yX12_way cX12_way 3 (some .int)) ({ frames := 12, cells := 0, slots := 0, locals := 300 }) [.ref m0, .int p0] [(m0, .inr (12, fm)), (al, .inl (K 0, 5, .inl fl)), (ah, .inl (K 0, 40, .inl fh))] (fun r _ => r = (-2)) (fun _ => []) 0 0 := by
  refine fn_inI (cc := cX12_way) (maxL := 3) (ret := (some .int)) (by decide) rfl (Nat.le_of_ble_eq_true rfl) ?_
  intro p e s m below meth c A ls B hA hP hD hS hl
  obtain ⟨hx, hb, hr, hml, hts, hown, hlocks, hin, hK⟩ := B
  have hown : s.vm.findClass RX12 = some m.cls := hown
  have hts := fun w h => hts w (List.mem_cons_of_mem _ h)
  have hl : lv_has ls 3 [(0, .ref m0), (1, .int p0)] := hl
  refine lv_aload_n hx hb dX12_way_0 rfl (lv_at hl 0 rfl) ?_
  refine lv_iconst (v := 0) hx hb dX12_way_1 (by decide) ?_
  refine va_put (D := D) (own := RX12) (ci := 12) (v := .int 0) (ty := .int) (C := RX12) (T := TX12) (N := 51) hx hb hts inb_X12 tyX12 tyX12_ok nmX12 hown hK.1 hP hD hS 0 rfl rfl 0 (by decide) (hts _ wd_1234) (fun _ h9 => h9) rfl (by decide +kernel) rfl rfl (fn_kl hmn (by decide)) dX12_way_2 (fun H locs hP hD hS => ?_)
  have hP : va_P D vwCl [(m0, .inr (12, fm.set 0 (.int 0))), (al, .inl (K 0, 5, .inl fl)), (ah, .inl (K 0, 40, .inl fh))] H := hP
  have hD : va_D A [(m0, .inr (12, fm.set 0 (.int 0))), (al, .inl (K 0, 5, .inl fl)), (ah, .inl (K 0, 40, .inl fh))] := hD
  refine lv_aload_n hx hb dX12_way_5 rfl (lv_at hl 0 rfl) ?_
  refine lv_iload_n hx hb dX12_way_6 rfl (lv_at hl 1 rfl) ?_
  refine lv_i2l hx hb dX12_way_7 rfl ?_
  refine fn_goi (wc := [(m0, .inr (12, fm.set 0 (.int 0))), (al, .inl (K 0, 5, .inl fl)), (ah, .inl (K 0, 40, .inl fh))]) (wr := []) hK hP hD hS hA [0, 1, 2] [] rfl rfl (by decide) (fun hp => va_runV (C := RX12) (As := [.long (Int32.toInt64 p0)]) (rest := []) ⟨hx, hb, hml, hown, hts⟩ (c_X12_isPage (l := l) (D := D) (K := K) (m0 := (m0)) (p0 := ((Int32.toInt64 p0))) (fm := (fm.set 0 (.int 0))) (hmn := (fn_sl hmn)) (al := (al)) (hm16 := (fn_gs (by decide) hm16)) (ah := (ah)) (hm17 := (fn_gs (by decide) hm17)) (fl := (fl)) (hfl := hfl) (fh := (fh)) (hfh := hfh) _) (cwV 1 hts (fn_ginV (fn_gin wd_1543) wd_1540 wd_1542 wp_116 wd_13) rfl rfl rfl (by decide +kernel) ⟨Nat.le_of_ble_eq_true rfl, Nat.le_of_ble_eq_true rfl⟩) ⟨fn_blind, va_recv hK.1 hP (ci := 12) (q0 := 0) rfl rfl, hp⟩ rfl rfl hl.1 rfl (lv_room (Nat.le_of_ble_eq_true rfl)) dX12_way_8 ⟨Nat.le_of_ble_eq_true rfl, Nat.le_of_ble_eq_true rfl⟩) (fun r2 u1 H locs hwu1 hP hD hS => ?_)
  have r2_e : r2 = 0 := hwu1
  subst r2_e
  have hP : va_P D vwCl [] H := hP
  have hD : va_D A [] := hD
  refine lv_if_ne (tgt := 17) hx hb dX12_way_11 (by decide) (fun h9 => absurd rfl h9) (fun _ => ?_)
  refine lv_bipush (v := (-2)) hx hb dX12_way_14 (by decide) ?_
  exact fn_iret hx hb hr hlocks rfl hP hD hS () (by first | rfl | decide) [] (by decide) rfl dX12_way_16
theorem dX12_step_0 : decode cX12_step 0 = .ok (.aload_n 0, 1) := by decide +kernel
theorem dX12_step_1 : decode cX12_step 1 = .ok (.iconst 0, 1) := by decide +kernel
theorem dX12_step_2 : decode cX12_step 2 = .ok (.putfield 104, 3) := by decide +kernel
theorem dX12_step_5 : decode cX12_step 5 = .ok (.aload_n 0, 1) := by decide +kernel
theorem dX12_step_6 : decode cX12_step 6 = .ok (.iload_n 1, 1) := by decide +kernel
theorem dX12_step_7 : decode cX12_step 7 = .ok (.i2l, 1) := by decide +kernel
theorem dX12_step_8 : decode cX12_step 8 = .ok (.invokevirtual 262, 3) := by decide +kernel
theorem dX12_step_11 : decode cX12_step 11 = .ok (.ifCond .ne 6, 3) := by decide +kernel
theorem dX12_step_14 : decode cX12_step 14 = .ok (.bipush (-2), 2) := by decide +kernel
theorem dX12_step_16 : decode cX12_step 16 = .ok (.ireturn, 1) := by decide +kernel
set_option maxHeartbeats 4000000 in
set_option maxRecDepth 100000 in
theorem c_X12_step (l : Launch) (D : va_G) (K : Nat → ClassId) (m0 al ah : Nat) (fm : List Value) (hmn : fm.length = 51) (hm16 : fm[16]? = some (.ref al)) (hm17 : fm[17]? = some (.ref ah)) (fl fh : Nat → Int32) (hfl : ∀ j, fl j = 0) (hfh : ∀ j, fh j = 0) (p0 p1 : Int32) : fn_CI (S := Unit) l D K yX12_step (fn_ws yX12_step cX12_step 7 (some .int)) ({ frames := 12, cells := 0, slots := 0, locals := 300 }) [.ref m0, .int p0, .int p1] [(m0, .inr (12, fm)), (al, .inl (K 0, 5, .inl fl)), (ah, .inl (K 0, 40, .inl fh))] (fun r _ => r = (-2)) (fun _ => []) 0 0 := by
  refine fn_inI (cc := cX12_step) (maxL := 7) (ret := (some .int)) (by decide) rfl (Nat.le_of_ble_eq_true rfl) ?_
  intro p e s m below meth c A ls B hA hP hD hS hl
  obtain ⟨hx, hb, hr, hml, hts, hown, hlocks, hin, hK⟩ := B
  have hown : s.vm.findClass RX12 = some m.cls := hown
  have hts := fun w h => hts w (List.mem_cons_of_mem _ h)
  have hl : lv_has ls 7 [(0, .ref m0), (1, .int p0), (2, .int p1)] := hl
  refine lv_aload_n hx hb dX12_step_0 rfl (lv_at hl 0 rfl) ?_
  refine lv_iconst (v := 0) hx hb dX12_step_1 (by decide) ?_
  refine va_put (D := D) (own := RX12) (ci := 12) (v := .int 0) (ty := .int) (C := RX12) (T := TX12) (N := 51) hx hb hts inb_X12 tyX12 tyX12_ok nmX12 hown hK.1 hP hD hS 0 rfl rfl 0 (by decide) (hts _ wd_1234) (fun _ h9 => h9) rfl (by decide +kernel) rfl rfl (fn_kl hmn (by decide)) dX12_step_2 (fun H locs hP hD hS => ?_)
  have hP : va_P D vwCl [(m0, .inr (12, fm.set 0 (.int 0))), (al, .inl (K 0, 5, .inl fl)), (ah, .inl (K 0, 40, .inl fh))] H := hP
  have hD : va_D A [(m0, .inr (12, fm.set 0 (.int 0))), (al, .inl (K 0, 5, .inl fl)), (ah, .inl (K 0, 40, .inl fh))] := hD
  refine lv_aload_n hx hb dX12_step_5 rfl (lv_at hl 0 rfl) ?_
  refine lv_iload_n hx hb dX12_step_6 rfl (lv_at hl 1 rfl) ?_
  refine lv_i2l hx hb dX12_step_7 rfl ?_
  refine fn_goi (wc := [(m0, .inr (12, fm.set 0 (.int 0))), (al, .inl (K 0, 5, .inl fl)), (ah, .inl (K 0, 40, .inl fh))]) (wr := []) hK hP hD hS hA [0, 1, 2] [] rfl rfl (by decide) (fun hp => va_runV (C := RX12) (As := [.long (Int32.toInt64 p0)]) (rest := []) ⟨hx, hb, hml, hown, hts⟩ (c_X12_isPage (l := l) (D := D) (K := K) (m0 := (m0)) (p0 := ((Int32.toInt64 p0))) (fm := (fm.set 0 (.int 0))) (hmn := (fn_sl hmn)) (al := (al)) (hm16 := (fn_gs (by decide) hm16)) (ah := (ah)) (hm17 := (fn_gs (by decide) hm17)) (fl := (fl)) (hfl := hfl) (fh := (fh)) (hfh := hfh) _) (cwV 1 hts (fn_ginV (fn_gin wd_1543) wd_1540 wd_1542 wp_116 wd_13) rfl rfl rfl (by decide +kernel) ⟨Nat.le_of_ble_eq_true rfl, Nat.le_of_ble_eq_true rfl⟩) ⟨fn_blind, va_recv hK.1 hP (ci := 12) (q0 := 0) rfl rfl, hp⟩ rfl rfl hl.1 rfl (lv_room (Nat.le_of_ble_eq_true rfl)) dX12_step_8 ⟨Nat.le_of_ble_eq_true rfl, Nat.le_of_ble_eq_true rfl⟩) (fun r2 u1 H locs hwu1 hP hD hS => ?_)
  have r2_e : r2 = 0 := hwu1
  subst r2_e
  have hP : va_P D vwCl [] H := hP
  have hD : va_D A [] := hD
  refine lv_if_ne (tgt := 17) hx hb dX12_step_11 (by decide) (fun h9 => absurd rfl h9) (fun _ => ?_)
  refine lv_bipush (v := (-2)) hx hb dX12_step_14 (by decide) ?_
  exact fn_iret hx hb hr hlocks rfl hP hD hS () (by first | rfl | decide) [] (by decide) rfl dX12_step_16
theorem dX12_depth_0 : decode cX12_depth 0 = .ok (.aload_n 0, 1) := by decide +kernel
theorem dX12_depth_1 : decode cX12_depth 1 = .ok (.iconst 0, 1) := by decide +kernel
theorem dX12_depth_2 : decode cX12_depth 2 = .ok (.putfield 104, 3) := by decide +kernel
theorem dX12_depth_5 : decode cX12_depth 5 = .ok (.aload_n 0, 1) := by decide +kernel
theorem dX12_depth_6 : decode cX12_depth 6 = .ok (.iload_n 1, 1) := by decide +kernel
theorem dX12_depth_7 : decode cX12_depth 7 = .ok (.i2l, 1) := by decide +kernel
theorem dX12_depth_8 : decode cX12_depth 8 = .ok (.invokevirtual 262, 3) := by decide +kernel
theorem dX12_depth_11 : decode cX12_depth 11 = .ok (.ifCond .ne 6, 3) := by decide +kernel
theorem dX12_depth_14 : decode cX12_depth 14 = .ok (.bipush (-2), 2) := by decide +kernel
theorem dX12_depth_16 : decode cX12_depth 16 = .ok (.ireturn, 1) := by decide +kernel
set_option maxHeartbeats 4000000 in
set_option maxRecDepth 100000 in
theorem c_X12_depth (l : Launch) (D : va_G) (K : Nat → ClassId) (m0 al ah : Nat) (fm : List Value) (hmn : fm.length = 51) (hm16 : fm[16]? = some (.ref al)) (hm17 : fm[17]? = some (.ref ah)) (fl fh : Nat → Int32) (hfl : ∀ j, fl j = 0) (hfh : ∀ j, fh j = 0) (p0 : Int32) : fn_CI (S := Unit) l D K yX12_depth (fn_ws yX12_depth cX12_depth 2 (some .int)) ({ frames := 12, cells := 0, slots := 0, locals := 300 }) [.ref m0, .int p0] [(m0, .inr (12, fm)), (al, .inl (K 0, 5, .inl fl)), (ah, .inl (K 0, 40, .inl fh))] (fun r _ => r = (-2)) (fun _ => []) 0 0 := by
  refine fn_inI (cc := cX12_depth) (maxL := 2) (ret := (some .int)) (by decide) rfl (Nat.le_of_ble_eq_true rfl) ?_
  intro p e s m below meth c A ls B hA hP hD hS hl
  obtain ⟨hx, hb, hr, hml, hts, hown, hlocks, hin, hK⟩ := B
  have hown : s.vm.findClass RX12 = some m.cls := hown
  have hts := fun w h => hts w (List.mem_cons_of_mem _ h)
  have hl : lv_has ls 2 [(0, .ref m0), (1, .int p0)] := hl
  refine lv_aload_n hx hb dX12_depth_0 rfl (lv_at hl 0 rfl) ?_
  refine lv_iconst (v := 0) hx hb dX12_depth_1 (by decide) ?_
  refine va_put (D := D) (own := RX12) (ci := 12) (v := .int 0) (ty := .int) (C := RX12) (T := TX12) (N := 51) hx hb hts inb_X12 tyX12 tyX12_ok nmX12 hown hK.1 hP hD hS 0 rfl rfl 0 (by decide) (hts _ wd_1234) (fun _ h9 => h9) rfl (by decide +kernel) rfl rfl (fn_kl hmn (by decide)) dX12_depth_2 (fun H locs hP hD hS => ?_)
  have hP : va_P D vwCl [(m0, .inr (12, fm.set 0 (.int 0))), (al, .inl (K 0, 5, .inl fl)), (ah, .inl (K 0, 40, .inl fh))] H := hP
  have hD : va_D A [(m0, .inr (12, fm.set 0 (.int 0))), (al, .inl (K 0, 5, .inl fl)), (ah, .inl (K 0, 40, .inl fh))] := hD
  refine lv_aload_n hx hb dX12_depth_5 rfl (lv_at hl 0 rfl) ?_
  refine lv_iload_n hx hb dX12_depth_6 rfl (lv_at hl 1 rfl) ?_
  refine lv_i2l hx hb dX12_depth_7 rfl ?_
  refine fn_goi (wc := [(m0, .inr (12, fm.set 0 (.int 0))), (al, .inl (K 0, 5, .inl fl)), (ah, .inl (K 0, 40, .inl fh))]) (wr := []) hK hP hD hS hA [0, 1, 2] [] rfl rfl (by decide) (fun hp => va_runV (C := RX12) (As := [.long (Int32.toInt64 p0)]) (rest := []) ⟨hx, hb, hml, hown, hts⟩ (c_X12_isPage (l := l) (D := D) (K := K) (m0 := (m0)) (p0 := ((Int32.toInt64 p0))) (fm := (fm.set 0 (.int 0))) (hmn := (fn_sl hmn)) (al := (al)) (hm16 := (fn_gs (by decide) hm16)) (ah := (ah)) (hm17 := (fn_gs (by decide) hm17)) (fl := (fl)) (hfl := hfl) (fh := (fh)) (hfh := hfh) _) (cwV 1 hts (fn_ginV (fn_gin wd_1543) wd_1540 wd_1542 wp_116 wd_13) rfl rfl rfl (by decide +kernel) ⟨Nat.le_of_ble_eq_true rfl, Nat.le_of_ble_eq_true rfl⟩) ⟨fn_blind, va_recv hK.1 hP (ci := 12) (q0 := 0) rfl rfl, hp⟩ rfl rfl hl.1 rfl (lv_room (Nat.le_of_ble_eq_true rfl)) dX12_depth_8 ⟨Nat.le_of_ble_eq_true rfl, Nat.le_of_ble_eq_true rfl⟩) (fun r2 u1 H locs hwu1 hP hD hS => ?_)
  have r2_e : r2 = 0 := hwu1
  subst r2_e
  have hP : va_P D vwCl [] H := hP
  have hD : va_D A [] := hD
  refine lv_if_ne (tgt := 17) hx hb dX12_depth_11 (by decide) (fun h9 => absurd rfl h9) (fun _ => ?_)
  refine lv_bipush (v := (-2)) hx hb dX12_depth_14 (by decide) ?_
  exact fn_iret hx hb hr hlocks rfl hP hD hS () (by first | rfl | decide) [] (by decide) rfl dX12_depth_16
theorem dX12_needs_0 : decode cX12_needs 0 = .ok (.aload_n 0, 1) := by decide +kernel
theorem dX12_needs_1 : decode cX12_needs 1 = .ok (.iconst 0, 1) := by decide +kernel
theorem dX12_needs_2 : decode cX12_needs 2 = .ok (.putfield 104, 3) := by decide +kernel
theorem dX12_needs_5 : decode cX12_needs 5 = .ok (.aload_n 0, 1) := by decide +kernel
theorem dX12_needs_6 : decode cX12_needs 6 = .ok (.iload_n 1, 1) := by decide +kernel
theorem dX12_needs_7 : decode cX12_needs 7 = .ok (.i2l, 1) := by decide +kernel
theorem dX12_needs_8 : decode cX12_needs 8 = .ok (.invokevirtual 262, 3) := by decide +kernel
theorem dX12_needs_11 : decode cX12_needs 11 = .ok (.ifCond .ne 6, 3) := by decide +kernel
theorem dX12_needs_14 : decode cX12_needs 14 = .ok (.bipush (-2), 2) := by decide +kernel
theorem dX12_needs_16 : decode cX12_needs 16 = .ok (.ireturn, 1) := by decide +kernel
set_option maxHeartbeats 4000000 in
set_option maxRecDepth 100000 in
theorem c_X12_needs (l : Launch) (D : va_G) (K : Nat → ClassId) (m0 al ah : Nat) (fm : List Value) (hmn : fm.length = 51) (hm16 : fm[16]? = some (.ref al)) (hm17 : fm[17]? = some (.ref ah)) (fl fh : Nat → Int32) (hfl : ∀ j, fl j = 0) (hfh : ∀ j, fh j = 0) (p0 : Int32) : fn_CI (S := Unit) l D K yX12_needs (fn_ws yX12_needs cX12_needs 4 (some .int)) ({ frames := 12, cells := 0, slots := 0, locals := 300 }) [.ref m0, .int p0] [(m0, .inr (12, fm)), (al, .inl (K 0, 5, .inl fl)), (ah, .inl (K 0, 40, .inl fh))] (fun r _ => r = (-2)) (fun _ => []) 0 0 := by
  refine fn_inI (cc := cX12_needs) (maxL := 4) (ret := (some .int)) (by decide) rfl (Nat.le_of_ble_eq_true rfl) ?_
  intro p e s m below meth c A ls B hA hP hD hS hl
  obtain ⟨hx, hb, hr, hml, hts, hown, hlocks, hin, hK⟩ := B
  have hown : s.vm.findClass RX12 = some m.cls := hown
  have hts := fun w h => hts w (List.mem_cons_of_mem _ h)
  have hl : lv_has ls 4 [(0, .ref m0), (1, .int p0)] := hl
  refine lv_aload_n hx hb dX12_needs_0 rfl (lv_at hl 0 rfl) ?_
  refine lv_iconst (v := 0) hx hb dX12_needs_1 (by decide) ?_
  refine va_put (D := D) (own := RX12) (ci := 12) (v := .int 0) (ty := .int) (C := RX12) (T := TX12) (N := 51) hx hb hts inb_X12 tyX12 tyX12_ok nmX12 hown hK.1 hP hD hS 0 rfl rfl 0 (by decide) (hts _ wd_1234) (fun _ h9 => h9) rfl (by decide +kernel) rfl rfl (fn_kl hmn (by decide)) dX12_needs_2 (fun H locs hP hD hS => ?_)
  have hP : va_P D vwCl [(m0, .inr (12, fm.set 0 (.int 0))), (al, .inl (K 0, 5, .inl fl)), (ah, .inl (K 0, 40, .inl fh))] H := hP
  have hD : va_D A [(m0, .inr (12, fm.set 0 (.int 0))), (al, .inl (K 0, 5, .inl fl)), (ah, .inl (K 0, 40, .inl fh))] := hD
  refine lv_aload_n hx hb dX12_needs_5 rfl (lv_at hl 0 rfl) ?_
  refine lv_iload_n hx hb dX12_needs_6 rfl (lv_at hl 1 rfl) ?_
  refine lv_i2l hx hb dX12_needs_7 rfl ?_
  refine fn_goi (wc := [(m0, .inr (12, fm.set 0 (.int 0))), (al, .inl (K 0, 5, .inl fl)), (ah, .inl (K 0, 40, .inl fh))]) (wr := []) hK hP hD hS hA [0, 1, 2] [] rfl rfl (by decide) (fun hp => va_runV (C := RX12) (As := [.long (Int32.toInt64 p0)]) (rest := []) ⟨hx, hb, hml, hown, hts⟩ (c_X12_isPage (l := l) (D := D) (K := K) (m0 := (m0)) (p0 := ((Int32.toInt64 p0))) (fm := (fm.set 0 (.int 0))) (hmn := (fn_sl hmn)) (al := (al)) (hm16 := (fn_gs (by decide) hm16)) (ah := (ah)) (hm17 := (fn_gs (by decide) hm17)) (fl := (fl)) (hfl := hfl) (fh := (fh)) (hfh := hfh) _) (cwV 1 hts (fn_ginV (fn_gin wd_1543) wd_1540 wd_1542 wp_116 wd_13) rfl rfl rfl (by decide +kernel) ⟨Nat.le_of_ble_eq_true rfl, Nat.le_of_ble_eq_true rfl⟩) ⟨fn_blind, va_recv hK.1 hP (ci := 12) (q0 := 0) rfl rfl, hp⟩ rfl rfl hl.1 rfl (lv_room (Nat.le_of_ble_eq_true rfl)) dX12_needs_8 ⟨Nat.le_of_ble_eq_true rfl, Nat.le_of_ble_eq_true rfl⟩) (fun r2 u1 H locs hwu1 hP hD hS => ?_)
  have r2_e : r2 = 0 := hwu1
  subst r2_e
  have hP : va_P D vwCl [] H := hP
  have hD : va_D A [] := hD
  refine lv_if_ne (tgt := 17) hx hb dX12_needs_11 (by decide) (fun h9 => absurd rfl h9) (fun _ => ?_)
  refine lv_bipush (v := (-2)) hx hb dX12_needs_14 (by decide) ?_
  exact fn_iret hx hb hr hlocks rfl hP hD hS () (by first | rfl | decide) [] (by decide) rfl dX12_needs_16
theorem dX12_loss_0 : decode cX12_loss 0 = .ok (.aload_n 0, 1) := by decide +kernel
theorem dX12_loss_1 : decode cX12_loss 1 = .ok (.iconst 0, 1) := by decide +kernel
theorem dX12_loss_2 : decode cX12_loss 2 = .ok (.putfield 104, 3) := by decide +kernel
theorem dX12_loss_5 : decode cX12_loss 5 = .ok (.aload_n 0, 1) := by decide +kernel
theorem dX12_loss_6 : decode cX12_loss 6 = .ok (.iload_n 1, 1) := by decide +kernel
theorem dX12_loss_7 : decode cX12_loss 7 = .ok (.i2l, 1) := by decide +kernel
theorem dX12_loss_8 : decode cX12_loss 8 = .ok (.invokevirtual 262, 3) := by decide +kernel
theorem dX12_loss_11 : decode cX12_loss 11 = .ok (.ifCond .ne 6, 3) := by decide +kernel
theorem dX12_loss_14 : decode cX12_loss 14 = .ok (.bipush (-2), 2) := by decide +kernel
theorem dX12_loss_16 : decode cX12_loss 16 = .ok (.ireturn, 1) := by decide +kernel
set_option maxHeartbeats 4000000 in
set_option maxRecDepth 100000 in
theorem c_X12_loss (l : Launch) (D : va_G) (K : Nat → ClassId) (m0 al ah : Nat) (fm : List Value) (hmn : fm.length = 51) (hm16 : fm[16]? = some (.ref al)) (hm17 : fm[17]? = some (.ref ah)) (fl fh : Nat → Int32) (hfl : ∀ j, fl j = 0) (hfh : ∀ j, fh j = 0) (p0 : Int32) : fn_CI (S := Unit) l D K yX12_loss (fn_ws yX12_loss cX12_loss 2 (some .int)) ({ frames := 12, cells := 0, slots := 0, locals := 300 }) [.ref m0, .int p0] [(m0, .inr (12, fm)), (al, .inl (K 0, 5, .inl fl)), (ah, .inl (K 0, 40, .inl fh))] (fun r _ => r = (-2)) (fun _ => []) 0 0 := by
  refine fn_inI (cc := cX12_loss) (maxL := 2) (ret := (some .int)) (by decide) rfl (Nat.le_of_ble_eq_true rfl) ?_
  intro p e s m below meth c A ls B hA hP hD hS hl
  obtain ⟨hx, hb, hr, hml, hts, hown, hlocks, hin, hK⟩ := B
  have hown : s.vm.findClass RX12 = some m.cls := hown
  have hts := fun w h => hts w (List.mem_cons_of_mem _ h)
  have hl : lv_has ls 2 [(0, .ref m0), (1, .int p0)] := hl
  refine lv_aload_n hx hb dX12_loss_0 rfl (lv_at hl 0 rfl) ?_
  refine lv_iconst (v := 0) hx hb dX12_loss_1 (by decide) ?_
  refine va_put (D := D) (own := RX12) (ci := 12) (v := .int 0) (ty := .int) (C := RX12) (T := TX12) (N := 51) hx hb hts inb_X12 tyX12 tyX12_ok nmX12 hown hK.1 hP hD hS 0 rfl rfl 0 (by decide) (hts _ wd_1234) (fun _ h9 => h9) rfl (by decide +kernel) rfl rfl (fn_kl hmn (by decide)) dX12_loss_2 (fun H locs hP hD hS => ?_)
  have hP : va_P D vwCl [(m0, .inr (12, fm.set 0 (.int 0))), (al, .inl (K 0, 5, .inl fl)), (ah, .inl (K 0, 40, .inl fh))] H := hP
  have hD : va_D A [(m0, .inr (12, fm.set 0 (.int 0))), (al, .inl (K 0, 5, .inl fl)), (ah, .inl (K 0, 40, .inl fh))] := hD
  refine lv_aload_n hx hb dX12_loss_5 rfl (lv_at hl 0 rfl) ?_
  refine lv_iload_n hx hb dX12_loss_6 rfl (lv_at hl 1 rfl) ?_
  refine lv_i2l hx hb dX12_loss_7 rfl ?_
  refine fn_goi (wc := [(m0, .inr (12, fm.set 0 (.int 0))), (al, .inl (K 0, 5, .inl fl)), (ah, .inl (K 0, 40, .inl fh))]) (wr := []) hK hP hD hS hA [0, 1, 2] [] rfl rfl (by decide) (fun hp => va_runV (C := RX12) (As := [.long (Int32.toInt64 p0)]) (rest := []) ⟨hx, hb, hml, hown, hts⟩ (c_X12_isPage (l := l) (D := D) (K := K) (m0 := (m0)) (p0 := ((Int32.toInt64 p0))) (fm := (fm.set 0 (.int 0))) (hmn := (fn_sl hmn)) (al := (al)) (hm16 := (fn_gs (by decide) hm16)) (ah := (ah)) (hm17 := (fn_gs (by decide) hm17)) (fl := (fl)) (hfl := hfl) (fh := (fh)) (hfh := hfh) _) (cwV 1 hts (fn_ginV (fn_gin wd_1543) wd_1540 wd_1542 wp_116 wd_13) rfl rfl rfl (by decide +kernel) ⟨Nat.le_of_ble_eq_true rfl, Nat.le_of_ble_eq_true rfl⟩) ⟨fn_blind, va_recv hK.1 hP (ci := 12) (q0 := 0) rfl rfl, hp⟩ rfl rfl hl.1 rfl (lv_room (Nat.le_of_ble_eq_true rfl)) dX12_loss_8 ⟨Nat.le_of_ble_eq_true rfl, Nat.le_of_ble_eq_true rfl⟩) (fun r2 u1 H locs hwu1 hP hD hS => ?_)
  have r2_e : r2 = 0 := hwu1
  subst r2_e
  have hP : va_P D vwCl [] H := hP
  have hD : va_D A [] := hD
  refine lv_if_ne (tgt := 17) hx hb dX12_loss_11 (by decide) (fun h9 => absurd rfl h9) (fun _ => ?_)
  refine lv_bipush (v := (-2)) hx hb dX12_loss_14 (by decide) ?_
  exact fn_iret hx hb hr hlocks rfl hP hD hS () (by first | rfl | decide) [] (by decide) rfl dX12_loss_16
theorem dX12_torn_0 : decode cX12_torn 0 = .ok (.aload_n 0, 1) := by decide +kernel
theorem dX12_torn_1 : decode cX12_torn 1 = .ok (.iconst 0, 1) := by decide +kernel
theorem dX12_torn_2 : decode cX12_torn 2 = .ok (.putfield 104, 3) := by decide +kernel
theorem dX12_torn_5 : decode cX12_torn 5 = .ok (.aload_n 0, 1) := by decide +kernel
theorem dX12_torn_6 : decode cX12_torn 6 = .ok (.iload_n 1, 1) := by decide +kernel
theorem dX12_torn_7 : decode cX12_torn 7 = .ok (.i2l, 1) := by decide +kernel
theorem dX12_torn_8 : decode cX12_torn 8 = .ok (.invokevirtual 262, 3) := by decide +kernel
theorem dX12_torn_11 : decode cX12_torn 11 = .ok (.ifCond .ne 6, 3) := by decide +kernel
theorem dX12_torn_14 : decode cX12_torn 14 = .ok (.bipush (-2), 2) := by decide +kernel
theorem dX12_torn_16 : decode cX12_torn 16 = .ok (.ireturn, 1) := by decide +kernel
set_option maxHeartbeats 4000000 in
set_option maxRecDepth 100000 in
theorem c_X12_torn (l : Launch) (D : va_G) (K : Nat → ClassId) (m0 al ah : Nat) (fm : List Value) (hmn : fm.length = 51) (hm16 : fm[16]? = some (.ref al)) (hm17 : fm[17]? = some (.ref ah)) (fl fh : Nat → Int32) (hfl : ∀ j, fl j = 0) (hfh : ∀ j, fh j = 0) (p0 : Int32) : fn_CI (S := Unit) l D K yX12_torn (fn_ws yX12_torn cX12_torn 2 (some .int)) ({ frames := 12, cells := 0, slots := 0, locals := 300 }) [.ref m0, .int p0] [(m0, .inr (12, fm)), (al, .inl (K 0, 5, .inl fl)), (ah, .inl (K 0, 40, .inl fh))] (fun r _ => r = (-2)) (fun _ => []) 0 0 := by
  refine fn_inI (cc := cX12_torn) (maxL := 2) (ret := (some .int)) (by decide) rfl (Nat.le_of_ble_eq_true rfl) ?_
  intro p e s m below meth c A ls B hA hP hD hS hl
  obtain ⟨hx, hb, hr, hml, hts, hown, hlocks, hin, hK⟩ := B
  have hown : s.vm.findClass RX12 = some m.cls := hown
  have hts := fun w h => hts w (List.mem_cons_of_mem _ h)
  have hl : lv_has ls 2 [(0, .ref m0), (1, .int p0)] := hl
  refine lv_aload_n hx hb dX12_torn_0 rfl (lv_at hl 0 rfl) ?_
  refine lv_iconst (v := 0) hx hb dX12_torn_1 (by decide) ?_
  refine va_put (D := D) (own := RX12) (ci := 12) (v := .int 0) (ty := .int) (C := RX12) (T := TX12) (N := 51) hx hb hts inb_X12 tyX12 tyX12_ok nmX12 hown hK.1 hP hD hS 0 rfl rfl 0 (by decide) (hts _ wd_1234) (fun _ h9 => h9) rfl (by decide +kernel) rfl rfl (fn_kl hmn (by decide)) dX12_torn_2 (fun H locs hP hD hS => ?_)
  have hP : va_P D vwCl [(m0, .inr (12, fm.set 0 (.int 0))), (al, .inl (K 0, 5, .inl fl)), (ah, .inl (K 0, 40, .inl fh))] H := hP
  have hD : va_D A [(m0, .inr (12, fm.set 0 (.int 0))), (al, .inl (K 0, 5, .inl fl)), (ah, .inl (K 0, 40, .inl fh))] := hD
  refine lv_aload_n hx hb dX12_torn_5 rfl (lv_at hl 0 rfl) ?_
  refine lv_iload_n hx hb dX12_torn_6 rfl (lv_at hl 1 rfl) ?_
  refine lv_i2l hx hb dX12_torn_7 rfl ?_
  refine fn_goi (wc := [(m0, .inr (12, fm.set 0 (.int 0))), (al, .inl (K 0, 5, .inl fl)), (ah, .inl (K 0, 40, .inl fh))]) (wr := []) hK hP hD hS hA [0, 1, 2] [] rfl rfl (by decide) (fun hp => va_runV (C := RX12) (As := [.long (Int32.toInt64 p0)]) (rest := []) ⟨hx, hb, hml, hown, hts⟩ (c_X12_isPage (l := l) (D := D) (K := K) (m0 := (m0)) (p0 := ((Int32.toInt64 p0))) (fm := (fm.set 0 (.int 0))) (hmn := (fn_sl hmn)) (al := (al)) (hm16 := (fn_gs (by decide) hm16)) (ah := (ah)) (hm17 := (fn_gs (by decide) hm17)) (fl := (fl)) (hfl := hfl) (fh := (fh)) (hfh := hfh) _) (cwV 1 hts (fn_ginV (fn_gin wd_1543) wd_1540 wd_1542 wp_116 wd_13) rfl rfl rfl (by decide +kernel) ⟨Nat.le_of_ble_eq_true rfl, Nat.le_of_ble_eq_true rfl⟩) ⟨fn_blind, va_recv hK.1 hP (ci := 12) (q0 := 0) rfl rfl, hp⟩ rfl rfl hl.1 rfl (lv_room (Nat.le_of_ble_eq_true rfl)) dX12_torn_8 ⟨Nat.le_of_ble_eq_true rfl, Nat.le_of_ble_eq_true rfl⟩) (fun r2 u1 H locs hwu1 hP hD hS => ?_)
  have r2_e : r2 = 0 := hwu1
  subst r2_e
  have hP : va_P D vwCl [] H := hP
  have hD : va_D A [] := hD
  refine lv_if_ne (tgt := 17) hx hb dX12_torn_11 (by decide) (fun h9 => absurd rfl h9) (fun _ => ?_)
  refine lv_bipush (v := (-2)) hx hb dX12_torn_14 (by decide) ?_
  exact fn_iret hx hb hr hlocks rfl hP hD hS () (by first | rfl | decide) [] (by decide) rfl dX12_torn_16
theorem dX12_cut__0 : decode cX12_cut_ 0 = .ok (.aload_n 0, 1) := by decide +kernel
theorem dX12_cut__1 : decode cX12_cut_ 1 = .ok (.iconst 0, 1) := by decide +kernel
theorem dX12_cut__2 : decode cX12_cut_ 2 = .ok (.putfield 104, 3) := by decide +kernel
theorem dX12_cut__5 : decode cX12_cut_ 5 = .ok (.aload_n 0, 1) := by decide +kernel
theorem dX12_cut__6 : decode cX12_cut_ 6 = .ok (.iload_n 1, 1) := by decide +kernel
theorem dX12_cut__7 : decode cX12_cut_ 7 = .ok (.i2l, 1) := by decide +kernel
theorem dX12_cut__8 : decode cX12_cut_ 8 = .ok (.invokevirtual 262, 3) := by decide +kernel
theorem dX12_cut__11 : decode cX12_cut_ 11 = .ok (.ifCond .ne 6, 3) := by decide +kernel
theorem dX12_cut__14 : decode cX12_cut_ 14 = .ok (.bipush (-2), 2) := by decide +kernel
theorem dX12_cut__16 : decode cX12_cut_ 16 = .ok (.ireturn, 1) := by decide +kernel
set_option maxHeartbeats 4000000 in
set_option maxRecDepth 100000 in
theorem c_X12_cut_ (l : Launch) (D : va_G) (K : Nat → ClassId) (m0 al ah : Nat) (fm : List Value) (hmn : fm.length = 51) (hm16 : fm[16]? = some (.ref al)) (hm17 : fm[17]? = some (.ref ah)) (fl fh : Nat → Int32) (hfl : ∀ j, fl j = 0) (hfh : ∀ j, fh j = 0) (p0 : Int32) : fn_CI (S := Unit) l D K yX12_cut_ (fn_ws yX12_cut_ cX12_cut_ 3 (some .int)) ({ frames := 12, cells := 0, slots := 0, locals := 300 }) [.ref m0, .int p0] [(m0, .inr (12, fm)), (al, .inl (K 0, 5, .inl fl)), (ah, .inl (K 0, 40, .inl fh))] (fun r _ => r = (-2)) (fun _ => []) 0 0 := by
  refine fn_inI (cc := cX12_cut_) (maxL := 3) (ret := (some .int)) (by decide) rfl (Nat.le_of_ble_eq_true rfl) ?_
  intro p e s m below meth c A ls B hA hP hD hS hl
  obtain ⟨hx, hb, hr, hml, hts, hown, hlocks, hin, hK⟩ := B
  have hown : s.vm.findClass RX12 = some m.cls := hown
  have hts := fun w h => hts w (List.mem_cons_of_mem _ h)
  have hl : lv_has ls 3 [(0, .ref m0), (1, .int p0)] := hl
  refine lv_aload_n hx hb dX12_cut__0 rfl (lv_at hl 0 rfl) ?_
  refine lv_iconst (v := 0) hx hb dX12_cut__1 (by decide) ?_
  refine va_put (D := D) (own := RX12) (ci := 12) (v := .int 0) (ty := .int) (C := RX12) (T := TX12) (N := 51) hx hb hts inb_X12 tyX12 tyX12_ok nmX12 hown hK.1 hP hD hS 0 rfl rfl 0 (by decide) (hts _ wd_1234) (fun _ h9 => h9) rfl (by decide +kernel) rfl rfl (fn_kl hmn (by decide)) dX12_cut__2 (fun H locs hP hD hS => ?_)
  have hP : va_P D vwCl [(m0, .inr (12, fm.set 0 (.int 0))), (al, .inl (K 0, 5, .inl fl)), (ah, .inl (K 0, 40, .inl fh))] H := hP
  have hD : va_D A [(m0, .inr (12, fm.set 0 (.int 0))), (al, .inl (K 0, 5, .inl fl)), (ah, .inl (K 0, 40, .inl fh))] := hD
  refine lv_aload_n hx hb dX12_cut__5 rfl (lv_at hl 0 rfl) ?_
  refine lv_iload_n hx hb dX12_cut__6 rfl (lv_at hl 1 rfl) ?_
  refine lv_i2l hx hb dX12_cut__7 rfl ?_
  refine fn_goi (wc := [(m0, .inr (12, fm.set 0 (.int 0))), (al, .inl (K 0, 5, .inl fl)), (ah, .inl (K 0, 40, .inl fh))]) (wr := []) hK hP hD hS hA [0, 1, 2] [] rfl rfl (by decide) (fun hp => va_runV (C := RX12) (As := [.long (Int32.toInt64 p0)]) (rest := []) ⟨hx, hb, hml, hown, hts⟩ (c_X12_isPage (l := l) (D := D) (K := K) (m0 := (m0)) (p0 := ((Int32.toInt64 p0))) (fm := (fm.set 0 (.int 0))) (hmn := (fn_sl hmn)) (al := (al)) (hm16 := (fn_gs (by decide) hm16)) (ah := (ah)) (hm17 := (fn_gs (by decide) hm17)) (fl := (fl)) (hfl := hfl) (fh := (fh)) (hfh := hfh) _) (cwV 1 hts (fn_ginV (fn_gin wd_1543) wd_1540 wd_1542 wp_116 wd_13) rfl rfl rfl (by decide +kernel) ⟨Nat.le_of_ble_eq_true rfl, Nat.le_of_ble_eq_true rfl⟩) ⟨fn_blind, va_recv hK.1 hP (ci := 12) (q0 := 0) rfl rfl, hp⟩ rfl rfl hl.1 rfl (lv_room (Nat.le_of_ble_eq_true rfl)) dX12_cut__8 ⟨Nat.le_of_ble_eq_true rfl, Nat.le_of_ble_eq_true rfl⟩) (fun r2 u1 H locs hwu1 hP hD hS => ?_)
  have r2_e : r2 = 0 := hwu1
  subst r2_e
  have hP : va_P D vwCl [] H := hP
  have hD : va_D A [] := hD
  refine lv_if_ne (tgt := 17) hx hb dX12_cut__11 (by decide) (fun h9 => absurd rfl h9) (fun _ => ?_)
  refine lv_bipush (v := (-2)) hx hb dX12_cut__14 (by decide) ?_
  exact fn_iret hx hb hr hlocks rfl hP hD hS () (by first | rfl | decide) [] (by decide) rfl dX12_cut__16
theorem dX12_leaves_0 : decode cX12_leaves 0 = .ok (.aload_n 0, 1) := by decide +kernel
theorem dX12_leaves_1 : decode cX12_leaves 1 = .ok (.iconst 0, 1) := by decide +kernel
theorem dX12_leaves_2 : decode cX12_leaves 2 = .ok (.putfield 104, 3) := by decide +kernel
theorem dX12_leaves_5 : decode cX12_leaves 5 = .ok (.aload_n 0, 1) := by decide +kernel
theorem dX12_leaves_6 : decode cX12_leaves 6 = .ok (.iload_n 1, 1) := by decide +kernel
theorem dX12_leaves_7 : decode cX12_leaves 7 = .ok (.i2l, 1) := by decide +kernel
theorem dX12_leaves_8 : decode cX12_leaves 8 = .ok (.invokevirtual 262, 3) := by decide +kernel
theorem dX12_leaves_11 : decode cX12_leaves 11 = .ok (.ifCond .eq 12, 3) := by decide +kernel
theorem dX12_leaves_23 : decode cX12_leaves 23 = .ok (.bipush (-2), 2) := by decide +kernel
theorem dX12_leaves_25 : decode cX12_leaves 25 = .ok (.ireturn, 1) := by decide +kernel
set_option maxHeartbeats 4000000 in
set_option maxRecDepth 100000 in
theorem c_X12_leaves (l : Launch) (D : va_G) (K : Nat → ClassId) (m0 al ah : Nat) (fm : List Value) (hmn : fm.length = 51) (hm16 : fm[16]? = some (.ref al)) (hm17 : fm[17]? = some (.ref ah)) (fl fh : Nat → Int32) (hfl : ∀ j, fl j = 0) (hfh : ∀ j, fh j = 0) (p0 p1 : Int32) : fn_CI (S := Unit) l D K yX12_leaves (fn_ws yX12_leaves cX12_leaves 3 (some .int)) ({ frames := 12, cells := 0, slots := 0, locals := 300 }) [.ref m0, .int p0, .int p1] [(m0, .inr (12, fm)), (al, .inl (K 0, 5, .inl fl)), (ah, .inl (K 0, 40, .inl fh))] (fun r _ => r = (-2)) (fun _ => []) 0 0 := by
  refine fn_inI (cc := cX12_leaves) (maxL := 3) (ret := (some .int)) (by decide) rfl (Nat.le_of_ble_eq_true rfl) ?_
  intro p e s m below meth c A ls B hA hP hD hS hl
  obtain ⟨hx, hb, hr, hml, hts, hown, hlocks, hin, hK⟩ := B
  have hown : s.vm.findClass RX12 = some m.cls := hown
  have hts := fun w h => hts w (List.mem_cons_of_mem _ h)
  have hl : lv_has ls 3 [(0, .ref m0), (1, .int p0), (2, .int p1)] := hl
  refine lv_aload_n hx hb dX12_leaves_0 rfl (lv_at hl 0 rfl) ?_
  refine lv_iconst (v := 0) hx hb dX12_leaves_1 (by decide) ?_
  refine va_put (D := D) (own := RX12) (ci := 12) (v := .int 0) (ty := .int) (C := RX12) (T := TX12) (N := 51) hx hb hts inb_X12 tyX12 tyX12_ok nmX12 hown hK.1 hP hD hS 0 rfl rfl 0 (by decide) (hts _ wd_1234) (fun _ h9 => h9) rfl (by decide +kernel) rfl rfl (fn_kl hmn (by decide)) dX12_leaves_2 (fun H locs hP hD hS => ?_)
  have hP : va_P D vwCl [(m0, .inr (12, fm.set 0 (.int 0))), (al, .inl (K 0, 5, .inl fl)), (ah, .inl (K 0, 40, .inl fh))] H := hP
  have hD : va_D A [(m0, .inr (12, fm.set 0 (.int 0))), (al, .inl (K 0, 5, .inl fl)), (ah, .inl (K 0, 40, .inl fh))] := hD
  refine lv_aload_n hx hb dX12_leaves_5 rfl (lv_at hl 0 rfl) ?_
  refine lv_iload_n hx hb dX12_leaves_6 rfl (lv_at hl 1 rfl) ?_
  refine lv_i2l hx hb dX12_leaves_7 rfl ?_
  refine fn_goi (wc := [(m0, .inr (12, fm.set 0 (.int 0))), (al, .inl (K 0, 5, .inl fl)), (ah, .inl (K 0, 40, .inl fh))]) (wr := []) hK hP hD hS hA [0, 1, 2] [] rfl rfl (by decide) (fun hp => va_runV (C := RX12) (As := [.long (Int32.toInt64 p0)]) (rest := []) ⟨hx, hb, hml, hown, hts⟩ (c_X12_isPage (l := l) (D := D) (K := K) (m0 := (m0)) (p0 := ((Int32.toInt64 p0))) (fm := (fm.set 0 (.int 0))) (hmn := (fn_sl hmn)) (al := (al)) (hm16 := (fn_gs (by decide) hm16)) (ah := (ah)) (hm17 := (fn_gs (by decide) hm17)) (fl := (fl)) (hfl := hfl) (fh := (fh)) (hfh := hfh) _) (cwV 1 hts (fn_ginV (fn_gin wd_1543) wd_1540 wd_1542 wp_116 wd_13) rfl rfl rfl (by decide +kernel) ⟨Nat.le_of_ble_eq_true rfl, Nat.le_of_ble_eq_true rfl⟩) ⟨fn_blind, va_recv hK.1 hP (ci := 12) (q0 := 0) rfl rfl, hp⟩ rfl rfl hl.1 rfl (lv_room (Nat.le_of_ble_eq_true rfl)) dX12_leaves_8 ⟨Nat.le_of_ble_eq_true rfl, Nat.le_of_ble_eq_true rfl⟩) (fun r2 u1 H locs hwu1 hP hD hS => ?_)
  have r2_e : r2 = 0 := hwu1
  subst r2_e
  have hP : va_P D vwCl [] H := hP
  have hD : va_D A [] := hD
  refine lv_if_eq (tgt := 23) hx hb dX12_leaves_11 (by decide) (fun _ => ?_) (fun h9 => absurd (by decide) h9)
  refine lv_bipush (v := (-2)) hx hb dX12_leaves_23 (by decide) ?_
  exact fn_iret hx hb hr hlocks rfl hP hD hS () (by first | rfl | decide) [] (by decide) rfl dX12_leaves_25
theorem dX12_worth_0 : decode cX12_worth 0 = .ok (.aload_n 0, 1) := by decide +kernel
theorem dX12_worth_1 : decode cX12_worth 1 = .ok (.iconst 0, 1) := by decide +kernel
theorem dX12_worth_2 : decode cX12_worth 2 = .ok (.putfield 104, 3) := by decide +kernel
theorem dX12_worth_5 : decode cX12_worth 5 = .ok (.aload_n 0, 1) := by decide +kernel
theorem dX12_worth_6 : decode cX12_worth 6 = .ok (.iload_n 1, 1) := by decide +kernel
theorem dX12_worth_7 : decode cX12_worth 7 = .ok (.i2l, 1) := by decide +kernel
theorem dX12_worth_8 : decode cX12_worth 8 = .ok (.invokevirtual 262, 3) := by decide +kernel
theorem dX12_worth_11 : decode cX12_worth 11 = .ok (.ifCond .eq 15, 3) := by decide +kernel
theorem dX12_worth_26 : decode cX12_worth 26 = .ok (.bipush (-2), 2) := by decide +kernel
theorem dX12_worth_28 : decode cX12_worth 28 = .ok (.ireturn, 1) := by decide +kernel
set_option maxHeartbeats 4000000 in
set_option maxRecDepth 100000 in
theorem c_X12_worth (l : Launch) (D : va_G) (K : Nat → ClassId) (m0 al ah : Nat) (fm : List Value) (hmn : fm.length = 51) (hm16 : fm[16]? = some (.ref al)) (hm17 : fm[17]? = some (.ref ah)) (fl fh : Nat → Int32) (hfl : ∀ j, fl j = 0) (hfh : ∀ j, fh j = 0) (p0 p1 : Int32) : fn_CI (S := Unit) l D K yX12_worth (fn_ws yX12_worth cX12_worth 3 (some .int)) ({ frames := 12, cells := 0, slots := 0, locals := 300 }) [.ref m0, .int p0, .int p1] [(m0, .inr (12, fm)), (al, .inl (K 0, 5, .inl fl)), (ah, .inl (K 0, 40, .inl fh))] (fun r _ => r = (-2)) (fun _ => []) 0 0 := by
  refine fn_inI (cc := cX12_worth) (maxL := 3) (ret := (some .int)) (by decide) rfl (Nat.le_of_ble_eq_true rfl) ?_
  intro p e s m below meth c A ls B hA hP hD hS hl
  obtain ⟨hx, hb, hr, hml, hts, hown, hlocks, hin, hK⟩ := B
  have hown : s.vm.findClass RX12 = some m.cls := hown
  have hts := fun w h => hts w (List.mem_cons_of_mem _ h)
  have hl : lv_has ls 3 [(0, .ref m0), (1, .int p0), (2, .int p1)] := hl
  refine lv_aload_n hx hb dX12_worth_0 rfl (lv_at hl 0 rfl) ?_
  refine lv_iconst (v := 0) hx hb dX12_worth_1 (by decide) ?_
  refine va_put (D := D) (own := RX12) (ci := 12) (v := .int 0) (ty := .int) (C := RX12) (T := TX12) (N := 51) hx hb hts inb_X12 tyX12 tyX12_ok nmX12 hown hK.1 hP hD hS 0 rfl rfl 0 (by decide) (hts _ wd_1234) (fun _ h9 => h9) rfl (by decide +kernel) rfl rfl (fn_kl hmn (by decide)) dX12_worth_2 (fun H locs hP hD hS => ?_)
  have hP : va_P D vwCl [(m0, .inr (12, fm.set 0 (.int 0))), (al, .inl (K 0, 5, .inl fl)), (ah, .inl (K 0, 40, .inl fh))] H := hP
  have hD : va_D A [(m0, .inr (12, fm.set 0 (.int 0))), (al, .inl (K 0, 5, .inl fl)), (ah, .inl (K 0, 40, .inl fh))] := hD
  refine lv_aload_n hx hb dX12_worth_5 rfl (lv_at hl 0 rfl) ?_
  refine lv_iload_n hx hb dX12_worth_6 rfl (lv_at hl 1 rfl) ?_
  refine lv_i2l hx hb dX12_worth_7 rfl ?_
  refine fn_goi (wc := [(m0, .inr (12, fm.set 0 (.int 0))), (al, .inl (K 0, 5, .inl fl)), (ah, .inl (K 0, 40, .inl fh))]) (wr := []) hK hP hD hS hA [0, 1, 2] [] rfl rfl (by decide) (fun hp => va_runV (C := RX12) (As := [.long (Int32.toInt64 p0)]) (rest := []) ⟨hx, hb, hml, hown, hts⟩ (c_X12_isPage (l := l) (D := D) (K := K) (m0 := (m0)) (p0 := ((Int32.toInt64 p0))) (fm := (fm.set 0 (.int 0))) (hmn := (fn_sl hmn)) (al := (al)) (hm16 := (fn_gs (by decide) hm16)) (ah := (ah)) (hm17 := (fn_gs (by decide) hm17)) (fl := (fl)) (hfl := hfl) (fh := (fh)) (hfh := hfh) _) (cwV 1 hts (fn_ginV (fn_gin wd_1543) wd_1540 wd_1542 wp_116 wd_13) rfl rfl rfl (by decide +kernel) ⟨Nat.le_of_ble_eq_true rfl, Nat.le_of_ble_eq_true rfl⟩) ⟨fn_blind, va_recv hK.1 hP (ci := 12) (q0 := 0) rfl rfl, hp⟩ rfl rfl hl.1 rfl (lv_room (Nat.le_of_ble_eq_true rfl)) dX12_worth_8 ⟨Nat.le_of_ble_eq_true rfl, Nat.le_of_ble_eq_true rfl⟩) (fun r2 u1 H locs hwu1 hP hD hS => ?_)
  have r2_e : r2 = 0 := hwu1
  subst r2_e
  have hP : va_P D vwCl [] H := hP
  have hD : va_D A [] := hD
  refine lv_if_eq (tgt := 26) hx hb dX12_worth_11 (by decide) (fun _ => ?_) (fun h9 => absurd (by decide) h9)
  refine lv_bipush (v := (-2)) hx hb dX12_worth_26 (by decide) ?_
  exact fn_iret hx hb hr hlocks rfl hP hD hS () (by first | rfl | decide) [] (by decide) rfl dX12_worth_28
theorem dX12_astray_0 : decode cX12_astray 0 = .ok (.aload_n 0, 1) := by decide +kernel
theorem dX12_astray_1 : decode cX12_astray 1 = .ok (.iconst 0, 1) := by decide +kernel
theorem dX12_astray_2 : decode cX12_astray 2 = .ok (.putfield 104, 3) := by decide +kernel
theorem dX12_astray_5 : decode cX12_astray 5 = .ok (.aload_n 0, 1) := by decide +kernel
theorem dX12_astray_6 : decode cX12_astray 6 = .ok (.invokevirtual 267, 3) := by decide +kernel
theorem dX12_astray_9 : decode cX12_astray 9 = .ok (.ifCond .ne 6, 3) := by decide +kernel
theorem dX12_astray_12 : decode cX12_astray 12 = .ok (.bipush (-2), 2) := by decide +kernel
theorem dX12_astray_14 : decode cX12_astray 14 = .ok (.ireturn, 1) := by decide +kernel
set_option maxHeartbeats 4000000 in
set_option maxRecDepth 100000 in
theorem c_X12_astray (l : Launch) (D : va_G) (K : Nat → ClassId) (m0 al ah : Nat) (fm : List Value) (hmn : fm.length = 51) (hm16 : fm[16]? = some (.ref al)) (hm17 : fm[17]? = some (.ref ah)) (fl fh : Nat → Int32) (hfl : ∀ j, fl j = 0) (hfh : ∀ j, fh j = 0) : fn_CI (S := Unit) l D K yX12_astray (fn_ws yX12_astray cX12_astray 3 (some .int)) ({ frames := 12, cells := 0, slots := 0, locals := 300 }) [.ref m0] [(m0, .inr (12, fm)), (al, .inl (K 0, 5, .inl fl)), (ah, .inl (K 0, 40, .inl fh))] (fun r _ => r = (-2)) (fun _ => []) 0 0 := by
  refine fn_inI (cc := cX12_astray) (maxL := 3) (ret := (some .int)) (by decide) rfl (Nat.le_of_ble_eq_true rfl) ?_
  intro p e s m below meth c A ls B hA hP hD hS hl
  obtain ⟨hx, hb, hr, hml, hts, hown, hlocks, hin, hK⟩ := B
  have hown : s.vm.findClass RX12 = some m.cls := hown
  have hts := fun w h => hts w (List.mem_cons_of_mem _ h)
  have hl : lv_has ls 3 [(0, .ref m0)] := hl
  refine lv_aload_n hx hb dX12_astray_0 rfl (lv_at hl 0 rfl) ?_
  refine lv_iconst (v := 0) hx hb dX12_astray_1 (by decide) ?_
  refine va_put (D := D) (own := RX12) (ci := 12) (v := .int 0) (ty := .int) (C := RX12) (T := TX12) (N := 51) hx hb hts inb_X12 tyX12 tyX12_ok nmX12 hown hK.1 hP hD hS 0 rfl rfl 0 (by decide) (hts _ wd_1234) (fun _ h9 => h9) rfl (by decide +kernel) rfl rfl (fn_kl hmn (by decide)) dX12_astray_2 (fun H locs hP hD hS => ?_)
  have hP : va_P D vwCl [(m0, .inr (12, fm.set 0 (.int 0))), (al, .inl (K 0, 5, .inl fl)), (ah, .inl (K 0, 40, .inl fh))] H := hP
  have hD : va_D A [(m0, .inr (12, fm.set 0 (.int 0))), (al, .inl (K 0, 5, .inl fl)), (ah, .inl (K 0, 40, .inl fh))] := hD
  refine lv_aload_n hx hb dX12_astray_5 rfl (lv_at hl 0 rfl) ?_
  refine fn_goi (wc := [(m0, .inr (12, fm.set 0 (.int 0))), (al, .inl (K 0, 5, .inl fl)), (ah, .inl (K 0, 40, .inl fh))]) (wr := []) hK hP hD hS hA [0, 1, 2] [] rfl rfl (by decide) (fun hp => va_runV (C := RX12) (As := []) (rest := []) ⟨hx, hb, hml, hown, hts⟩ (c_X12_isTown (l := l) (D := D) (K := K) (m0 := (m0)) (fm := (fm.set 0 (.int 0))) (hmn := (fn_sl hmn)) (al := (al)) (hm16 := (fn_gs (by decide) hm16)) (ah := (ah)) (hm17 := (fn_gs (by decide) hm17)) (fl := (fl)) (hfl := hfl) (fh := (fh)) (hfh := hfh) _) (cwV 0 hts (fn_ginV (fn_gin wd_1599) wd_1596 wd_1598 wp_124 wd_13) rfl rfl rfl (by decide +kernel) ⟨Nat.le_of_ble_eq_true rfl, Nat.le_of_ble_eq_true rfl⟩) ⟨fn_blind, va_recv hK.1 hP (ci := 12) (q0 := 0) rfl rfl, hp⟩ rfl rfl hl.1 rfl (lv_room (Nat.le_of_ble_eq_true rfl)) dX12_astray_6 ⟨Nat.le_of_ble_eq_true rfl, Nat.le_of_ble_eq_true rfl⟩) (fun r2 u1 H locs hwu1 hP hD hS => ?_)
  have r2_e : r2 = 0 := hwu1
  subst r2_e
  have hP : va_P D vwCl [] H := hP
  have hD : va_D A [] := hD
  refine lv_if_ne (tgt := 15) hx hb dX12_astray_9 (by decide) (fun h9 => absurd rfl h9) (fun _ => ?_)
  refine lv_bipush (v := (-2)) hx hb dX12_astray_12 (by decide) ?_
  exact fn_iret hx hb hr hlocks rfl hP hD hS () (by first | rfl | decide) [] (by decide) rfl dX12_astray_14
theorem dX12_undo_0 : decode cX12_undo 0 = .ok (.aload_n 0, 1) := by decide +kernel
theorem dX12_undo_1 : decode cX12_undo 1 = .ok (.iconst 0, 1) := by decide +kernel
theorem dX12_undo_2 : decode cX12_undo 2 = .ok (.putfield 104, 3) := by decide +kernel
theorem dX12_undo_5 : decode cX12_undo 5 = .ok (.aload_n 0, 1) := by decide +kernel
theorem dX12_undo_6 : decode cX12_undo 6 = .ok (.invokevirtual 267, 3) := by decide +kernel
theorem dX12_undo_9 : decode cX12_undo 9 = .ok (.ifCond .ne 6, 3) := by decide +kernel
theorem dX12_undo_12 : decode cX12_undo 12 = .ok (.bipush (-2), 2) := by decide +kernel
theorem dX12_undo_14 : decode cX12_undo 14 = .ok (.ireturn, 1) := by decide +kernel
set_option maxHeartbeats 4000000 in
set_option maxRecDepth 100000 in
theorem c_X12_undo (l : Launch) (D : va_G) (K : Nat → ClassId) (m0 al ah : Nat) (fm : List Value) (hmn : fm.length = 51) (hm16 : fm[16]? = some (.ref al)) (hm17 : fm[17]? = some (.ref ah)) (fl fh : Nat → Int32) (hfl : ∀ j, fl j = 0) (hfh : ∀ j, fh j = 0) : fn_CI (S := Unit) l D K yX12_undo (fn_ws yX12_undo cX12_undo 1 (some .int)) ({ frames := 12, cells := 0, slots := 0, locals := 300 }) [.ref m0] [(m0, .inr (12, fm)), (al, .inl (K 0, 5, .inl fl)), (ah, .inl (K 0, 40, .inl fh))] (fun r _ => r = (-2)) (fun _ => []) 0 0 := by
  refine fn_inI (cc := cX12_undo) (maxL := 1) (ret := (some .int)) (by decide) rfl (Nat.le_of_ble_eq_true rfl) ?_
  intro p e s m below meth c A ls B hA hP hD hS hl
  obtain ⟨hx, hb, hr, hml, hts, hown, hlocks, hin, hK⟩ := B
  have hown : s.vm.findClass RX12 = some m.cls := hown
  have hts := fun w h => hts w (List.mem_cons_of_mem _ h)
  have hl : lv_has ls 1 [(0, .ref m0)] := hl
  refine lv_aload_n hx hb dX12_undo_0 rfl (lv_at hl 0 rfl) ?_
  refine lv_iconst (v := 0) hx hb dX12_undo_1 (by decide) ?_
  refine va_put (D := D) (own := RX12) (ci := 12) (v := .int 0) (ty := .int) (C := RX12) (T := TX12) (N := 51) hx hb hts inb_X12 tyX12 tyX12_ok nmX12 hown hK.1 hP hD hS 0 rfl rfl 0 (by decide) (hts _ wd_1234) (fun _ h9 => h9) rfl (by decide +kernel) rfl rfl (fn_kl hmn (by decide)) dX12_undo_2 (fun H locs hP hD hS => ?_)
  have hP : va_P D vwCl [(m0, .inr (12, fm.set 0 (.int 0))), (al, .inl (K 0, 5, .inl fl)), (ah, .inl (K 0, 40, .inl fh))] H := hP
  have hD : va_D A [(m0, .inr (12, fm.set 0 (.int 0))), (al, .inl (K 0, 5, .inl fl)), (ah, .inl (K 0, 40, .inl fh))] := hD
  refine lv_aload_n hx hb dX12_undo_5 rfl (lv_at hl 0 rfl) ?_
  refine fn_goi (wc := [(m0, .inr (12, fm.set 0 (.int 0))), (al, .inl (K 0, 5, .inl fl)), (ah, .inl (K 0, 40, .inl fh))]) (wr := []) hK hP hD hS hA [0, 1, 2] [] rfl rfl (by decide) (fun hp => va_runV (C := RX12) (As := []) (rest := []) ⟨hx, hb, hml, hown, hts⟩ (c_X12_isTown (l := l) (D := D) (K := K) (m0 := (m0)) (fm := (fm.set 0 (.int 0))) (hmn := (fn_sl hmn)) (al := (al)) (hm16 := (fn_gs (by decide) hm16)) (ah := (ah)) (hm17 := (fn_gs (by decide) hm17)) (fl := (fl)) (hfl := hfl) (fh := (fh)) (hfh := hfh) _) (cwV 0 hts (fn_ginV (fn_gin wd_1599) wd_1596 wd_1598 wp_124 wd_13) rfl rfl rfl (by decide +kernel) ⟨Nat.le_of_ble_eq_true rfl, Nat.le_of_ble_eq_true rfl⟩) ⟨fn_blind, va_recv hK.1 hP (ci := 12) (q0 := 0) rfl rfl, hp⟩ rfl rfl hl.1 rfl (lv_room (Nat.le_of_ble_eq_true rfl)) dX12_undo_6 ⟨Nat.le_of_ble_eq_true rfl, Nat.le_of_ble_eq_true rfl⟩) (fun r2 u1 H locs hwu1 hP hD hS => ?_)
  have r2_e : r2 = 0 := hwu1
  subst r2_e
  have hP : va_P D vwCl [] H := hP
  have hD : va_D A [] := hD
  refine lv_if_ne (tgt := 15) hx hb dX12_undo_9 (by decide) (fun h9 => absurd rfl h9) (fun _ => ?_)
  refine lv_bipush (v := (-2)) hx hb dX12_undo_12 (by decide) ?_
  exact fn_iret hx hb hr hlocks rfl hP hD hS () (by first | rfl | decide) [] (by decide) rfl dX12_undo_14
theorem dX12_anew_0 : decode cX12_anew 0 = .ok (.aload_n 0, 1) := by decide +kernel
theorem dX12_anew_1 : decode cX12_anew 1 = .ok (.iconst 0, 1) := by decide +kernel
theorem dX12_anew_2 : decode cX12_anew 2 = .ok (.putfield 104, 3) := by decide +kernel
theorem dX12_anew_5 : decode cX12_anew 5 = .ok (.aload_n 0, 1) := by decide +kernel
theorem dX12_anew_6 : decode cX12_anew 6 = .ok (.invokevirtual 267, 3) := by decide +kernel
theorem dX12_anew_9 : decode cX12_anew 9 = .ok (.ifCond .ne 6, 3) := by decide +kernel
theorem dX12_anew_12 : decode cX12_anew 12 = .ok (.bipush (-2), 2) := by decide +kernel
theorem dX12_anew_14 : decode cX12_anew 14 = .ok (.ireturn, 1) := by decide +kernel
set_option maxHeartbeats 4000000 in
set_option maxRecDepth 100000 in
theorem c_X12_anew (l : Launch) (D : va_G) (K : Nat → ClassId) (m0 al ah : Nat) (fm : List Value) (hmn : fm.length = 51) (hm16 : fm[16]? = some (.ref al)) (hm17 : fm[17]? = some (.ref ah)) (fl fh : Nat → Int32) (hfl : ∀ j, fl j = 0) (hfh : ∀ j, fh j = 0) : fn_CI (S := Unit) l D K yX12_anew (fn_ws yX12_anew cX12_anew 2 (some .int)) ({ frames := 12, cells := 0, slots := 0, locals := 300 }) [.ref m0] [(m0, .inr (12, fm)), (al, .inl (K 0, 5, .inl fl)), (ah, .inl (K 0, 40, .inl fh))] (fun r _ => r = (-2)) (fun _ => []) 0 0 := by
  refine fn_inI (cc := cX12_anew) (maxL := 2) (ret := (some .int)) (by decide) rfl (Nat.le_of_ble_eq_true rfl) ?_
  intro p e s m below meth c A ls B hA hP hD hS hl
  obtain ⟨hx, hb, hr, hml, hts, hown, hlocks, hin, hK⟩ := B
  have hown : s.vm.findClass RX12 = some m.cls := hown
  have hts := fun w h => hts w (List.mem_cons_of_mem _ h)
  have hl : lv_has ls 2 [(0, .ref m0)] := hl
  refine lv_aload_n hx hb dX12_anew_0 rfl (lv_at hl 0 rfl) ?_
  refine lv_iconst (v := 0) hx hb dX12_anew_1 (by decide) ?_
  refine va_put (D := D) (own := RX12) (ci := 12) (v := .int 0) (ty := .int) (C := RX12) (T := TX12) (N := 51) hx hb hts inb_X12 tyX12 tyX12_ok nmX12 hown hK.1 hP hD hS 0 rfl rfl 0 (by decide) (hts _ wd_1234) (fun _ h9 => h9) rfl (by decide +kernel) rfl rfl (fn_kl hmn (by decide)) dX12_anew_2 (fun H locs hP hD hS => ?_)
  have hP : va_P D vwCl [(m0, .inr (12, fm.set 0 (.int 0))), (al, .inl (K 0, 5, .inl fl)), (ah, .inl (K 0, 40, .inl fh))] H := hP
  have hD : va_D A [(m0, .inr (12, fm.set 0 (.int 0))), (al, .inl (K 0, 5, .inl fl)), (ah, .inl (K 0, 40, .inl fh))] := hD
  refine lv_aload_n hx hb dX12_anew_5 rfl (lv_at hl 0 rfl) ?_
  refine fn_goi (wc := [(m0, .inr (12, fm.set 0 (.int 0))), (al, .inl (K 0, 5, .inl fl)), (ah, .inl (K 0, 40, .inl fh))]) (wr := []) hK hP hD hS hA [0, 1, 2] [] rfl rfl (by decide) (fun hp => va_runV (C := RX12) (As := []) (rest := []) ⟨hx, hb, hml, hown, hts⟩ (c_X12_isTown (l := l) (D := D) (K := K) (m0 := (m0)) (fm := (fm.set 0 (.int 0))) (hmn := (fn_sl hmn)) (al := (al)) (hm16 := (fn_gs (by decide) hm16)) (ah := (ah)) (hm17 := (fn_gs (by decide) hm17)) (fl := (fl)) (hfl := hfl) (fh := (fh)) (hfh := hfh) _) (cwV 0 hts (fn_ginV (fn_gin wd_1599) wd_1596 wd_1598 wp_124 wd_13) rfl rfl rfl (by decide +kernel) ⟨Nat.le_of_ble_eq_true rfl, Nat.le_of_ble_eq_true rfl⟩) ⟨fn_blind, va_recv hK.1 hP (ci := 12) (q0 := 0) rfl rfl, hp⟩ rfl rfl hl.1 rfl (lv_room (Nat.le_of_ble_eq_true rfl)) dX12_anew_6 ⟨Nat.le_of_ble_eq_true rfl, Nat.le_of_ble_eq_true rfl⟩) (fun r2 u1 H locs hwu1 hP hD hS => ?_)
  have r2_e : r2 = 0 := hwu1
  subst r2_e
  have hP : va_P D vwCl [] H := hP
  have hD : va_D A [] := hD
  refine lv_if_ne (tgt := 15) hx hb dX12_anew_9 (by decide) (fun h9 => absurd rfl h9) (fun _ => ?_)
  refine lv_bipush (v := (-2)) hx hb dX12_anew_12 (by decide) ?_
  exact fn_iret hx hb hr hlocks rfl hP hD hS () (by first | rfl | decide) [] (by decide) rfl dX12_anew_14
theorem dX12_rings_0 : decode cX12_rings 0 = .ok (.aload_n 0, 1) := by decide +kernel
theorem dX12_rings_1 : decode cX12_rings 1 = .ok (.iconst 0, 1) := by decide +kernel
theorem dX12_rings_2 : decode cX12_rings 2 = .ok (.putfield 104, 3) := by decide +kernel
theorem dX12_rings_5 : decode cX12_rings 5 = .ok (.aload_n 0, 1) := by decide +kernel
theorem dX12_rings_6 : decode cX12_rings 6 = .ok (.invokevirtual 267, 3) := by decide +kernel
theorem dX12_rings_9 : decode cX12_rings 9 = .ok (.ifCond .ne 6, 3) := by decide +kernel
theorem dX12_rings_12 : decode cX12_rings 12 = .ok (.bipush (-2), 2) := by decide +kernel
theorem dX12_rings_14 : decode cX12_rings 14 = .ok (.ireturn, 1) := by decide +kernel
set_option maxHeartbeats 4000000 in
set_option maxRecDepth 100000 in
theorem c_X12_rings (l : Launch) (D : va_G) (K : Nat → ClassId) (m0 al ah : Nat) (fm : List Value) (hmn : fm.length = 51) (hm16 : fm[16]? = some (.ref al)) (hm17 : fm[17]? = some (.ref ah)) (fl fh : Nat → Int32) (hfl : ∀ j, fl j = 0) (hfh : ∀ j, fh j = 0) : fn_CI (S := Unit) l D K yX12_rings (fn_ws yX12_rings cX12_rings 3 (some .int)) ({ frames := 12, cells := 0, slots := 0, locals := 300 }) [.ref m0] [(m0, .inr (12, fm)), (al, .inl (K 0, 5, .inl fl)), (ah, .inl (K 0, 40, .inl fh))] (fun r _ => r = (-2)) (fun _ => []) 0 0 := by
  refine fn_inI (cc := cX12_rings) (maxL := 3) (ret := (some .int)) (by decide) rfl (Nat.le_of_ble_eq_true rfl) ?_
  intro p e s m below meth c A ls B hA hP hD hS hl
  obtain ⟨hx, hb, hr, hml, hts, hown, hlocks, hin, hK⟩ := B
  have hown : s.vm.findClass RX12 = some m.cls := hown
  have hts := fun w h => hts w (List.mem_cons_of_mem _ h)
  have hl : lv_has ls 3 [(0, .ref m0)] := hl
  refine lv_aload_n hx hb dX12_rings_0 rfl (lv_at hl 0 rfl) ?_
  refine lv_iconst (v := 0) hx hb dX12_rings_1 (by decide) ?_
  refine va_put (D := D) (own := RX12) (ci := 12) (v := .int 0) (ty := .int) (C := RX12) (T := TX12) (N := 51) hx hb hts inb_X12 tyX12 tyX12_ok nmX12 hown hK.1 hP hD hS 0 rfl rfl 0 (by decide) (hts _ wd_1234) (fun _ h9 => h9) rfl (by decide +kernel) rfl rfl (fn_kl hmn (by decide)) dX12_rings_2 (fun H locs hP hD hS => ?_)
  have hP : va_P D vwCl [(m0, .inr (12, fm.set 0 (.int 0))), (al, .inl (K 0, 5, .inl fl)), (ah, .inl (K 0, 40, .inl fh))] H := hP
  have hD : va_D A [(m0, .inr (12, fm.set 0 (.int 0))), (al, .inl (K 0, 5, .inl fl)), (ah, .inl (K 0, 40, .inl fh))] := hD
  refine lv_aload_n hx hb dX12_rings_5 rfl (lv_at hl 0 rfl) ?_
  refine fn_goi (wc := [(m0, .inr (12, fm.set 0 (.int 0))), (al, .inl (K 0, 5, .inl fl)), (ah, .inl (K 0, 40, .inl fh))]) (wr := []) hK hP hD hS hA [0, 1, 2] [] rfl rfl (by decide) (fun hp => va_runV (C := RX12) (As := []) (rest := []) ⟨hx, hb, hml, hown, hts⟩ (c_X12_isTown (l := l) (D := D) (K := K) (m0 := (m0)) (fm := (fm.set 0 (.int 0))) (hmn := (fn_sl hmn)) (al := (al)) (hm16 := (fn_gs (by decide) hm16)) (ah := (ah)) (hm17 := (fn_gs (by decide) hm17)) (fl := (fl)) (hfl := hfl) (fh := (fh)) (hfh := hfh) _) (cwV 0 hts (fn_ginV (fn_gin wd_1599) wd_1596 wd_1598 wp_124 wd_13) rfl rfl rfl (by decide +kernel) ⟨Nat.le_of_ble_eq_true rfl, Nat.le_of_ble_eq_true rfl⟩) ⟨fn_blind, va_recv hK.1 hP (ci := 12) (q0 := 0) rfl rfl, hp⟩ rfl rfl hl.1 rfl (lv_room (Nat.le_of_ble_eq_true rfl)) dX12_rings_6 ⟨Nat.le_of_ble_eq_true rfl, Nat.le_of_ble_eq_true rfl⟩) (fun r2 u1 H locs hwu1 hP hD hS => ?_)
  have r2_e : r2 = 0 := hwu1
  subst r2_e
  have hP : va_P D vwCl [] H := hP
  have hD : va_D A [] := hD
  refine lv_if_ne (tgt := 15) hx hb dX12_rings_9 (by decide) (fun h9 => absurd rfl h9) (fun _ => ?_)
  refine lv_bipush (v := (-2)) hx hb dX12_rings_12 (by decide) ?_
  exact fn_iret hx hb hr hlocks rfl hP hD hS () (by first | rfl | decide) [] (by decide) rfl dX12_rings_14
theorem dX12_deepest_0 : decode cX12_deepest 0 = .ok (.aload_n 0, 1) := by decide +kernel
theorem dX12_deepest_1 : decode cX12_deepest 1 = .ok (.iconst 0, 1) := by decide +kernel
theorem dX12_deepest_2 : decode cX12_deepest 2 = .ok (.putfield 104, 3) := by decide +kernel
theorem dX12_deepest_5 : decode cX12_deepest 5 = .ok (.aload_n 0, 1) := by decide +kernel
theorem dX12_deepest_6 : decode cX12_deepest 6 = .ok (.invokevirtual 267, 3) := by decide +kernel
theorem dX12_deepest_9 : decode cX12_deepest 9 = .ok (.ifCond .ne 6, 3) := by decide +kernel
theorem dX12_deepest_12 : decode cX12_deepest 12 = .ok (.bipush (-2), 2) := by decide +kernel
theorem dX12_deepest_14 : decode cX12_deepest 14 = .ok (.ireturn, 1) := by decide +kernel
set_option maxHeartbeats 4000000 in
set_option maxRecDepth 100000 in
theorem c_X12_deepest (l : Launch) (D : va_G) (K : Nat → ClassId) (m0 al ah : Nat) (fm : List Value) (hmn : fm.length = 51) (hm16 : fm[16]? = some (.ref al)) (hm17 : fm[17]? = some (.ref ah)) (fl fh : Nat → Int32) (hfl : ∀ j, fl j = 0) (hfh : ∀ j, fh j = 0) : fn_CI (S := Unit) l D K yX12_deepest (fn_ws yX12_deepest cX12_deepest 5 (some .int)) ({ frames := 12, cells := 0, slots := 0, locals := 300 }) [.ref m0] [(m0, .inr (12, fm)), (al, .inl (K 0, 5, .inl fl)), (ah, .inl (K 0, 40, .inl fh))] (fun r _ => r = (-2)) (fun _ => []) 0 0 := by
  refine fn_inI (cc := cX12_deepest) (maxL := 5) (ret := (some .int)) (by decide) rfl (Nat.le_of_ble_eq_true rfl) ?_
  intro p e s m below meth c A ls B hA hP hD hS hl
  obtain ⟨hx, hb, hr, hml, hts, hown, hlocks, hin, hK⟩ := B
  have hown : s.vm.findClass RX12 = some m.cls := hown
  have hts := fun w h => hts w (List.mem_cons_of_mem _ h)
  have hl : lv_has ls 5 [(0, .ref m0)] := hl
  refine lv_aload_n hx hb dX12_deepest_0 rfl (lv_at hl 0 rfl) ?_
  refine lv_iconst (v := 0) hx hb dX12_deepest_1 (by decide) ?_
  refine va_put (D := D) (own := RX12) (ci := 12) (v := .int 0) (ty := .int) (C := RX12) (T := TX12) (N := 51) hx hb hts inb_X12 tyX12 tyX12_ok nmX12 hown hK.1 hP hD hS 0 rfl rfl 0 (by decide) (hts _ wd_1234) (fun _ h9 => h9) rfl (by decide +kernel) rfl rfl (fn_kl hmn (by decide)) dX12_deepest_2 (fun H locs hP hD hS => ?_)
  have hP : va_P D vwCl [(m0, .inr (12, fm.set 0 (.int 0))), (al, .inl (K 0, 5, .inl fl)), (ah, .inl (K 0, 40, .inl fh))] H := hP
  have hD : va_D A [(m0, .inr (12, fm.set 0 (.int 0))), (al, .inl (K 0, 5, .inl fl)), (ah, .inl (K 0, 40, .inl fh))] := hD
  refine lv_aload_n hx hb dX12_deepest_5 rfl (lv_at hl 0 rfl) ?_
  refine fn_goi (wc := [(m0, .inr (12, fm.set 0 (.int 0))), (al, .inl (K 0, 5, .inl fl)), (ah, .inl (K 0, 40, .inl fh))]) (wr := []) hK hP hD hS hA [0, 1, 2] [] rfl rfl (by decide) (fun hp => va_runV (C := RX12) (As := []) (rest := []) ⟨hx, hb, hml, hown, hts⟩ (c_X12_isTown (l := l) (D := D) (K := K) (m0 := (m0)) (fm := (fm.set 0 (.int 0))) (hmn := (fn_sl hmn)) (al := (al)) (hm16 := (fn_gs (by decide) hm16)) (ah := (ah)) (hm17 := (fn_gs (by decide) hm17)) (fl := (fl)) (hfl := hfl) (fh := (fh)) (hfh := hfh) _) (cwV 0 hts (fn_ginV (fn_gin wd_1599) wd_1596 wd_1598 wp_124 wd_13) rfl rfl rfl (by decide +kernel) ⟨Nat.le_of_ble_eq_true rfl, Nat.le_of_ble_eq_true rfl⟩) ⟨fn_blind, va_recv hK.1 hP (ci := 12) (q0 := 0) rfl rfl, hp⟩ rfl rfl hl.1 rfl (lv_room (Nat.le_of_ble_eq_true rfl)) dX12_deepest_6 ⟨Nat.le_of_ble_eq_true rfl, Nat.le_of_ble_eq_true rfl⟩) (fun r2 u1 H locs hwu1 hP hD hS => ?_)
  have r2_e : r2 = 0 := hwu1
  subst r2_e
  have hP : va_P D vwCl [] H := hP
  have hD : va_D A [] := hD
  refine lv_if_ne (tgt := 15) hx hb dX12_deepest_9 (by decide) (fun h9 => absurd rfl h9) (fun _ => ?_)
  refine lv_bipush (v := (-2)) hx hb dX12_deepest_12 (by decide) ?_
  exact fn_iret hx hb hr hlocks rfl hP hD hS () (by first | rfl | decide) [] (by decide) rfl dX12_deepest_14
theorem dX12_grounded_0 : decode cX12_grounded 0 = .ok (.aload_n 0, 1) := by decide +kernel
theorem dX12_grounded_1 : decode cX12_grounded 1 = .ok (.iconst 0, 1) := by decide +kernel
theorem dX12_grounded_2 : decode cX12_grounded 2 = .ok (.putfield 104, 3) := by decide +kernel
theorem dX12_grounded_5 : decode cX12_grounded 5 = .ok (.aload_n 0, 1) := by decide +kernel
theorem dX12_grounded_6 : decode cX12_grounded 6 = .ok (.invokevirtual 267, 3) := by decide +kernel
theorem dX12_grounded_9 : decode cX12_grounded 9 = .ok (.ifCond .ne 6, 3) := by decide +kernel
theorem dX12_grounded_12 : decode cX12_grounded 12 = .ok (.bipush (-2), 2) := by decide +kernel
theorem dX12_grounded_14 : decode cX12_grounded 14 = .ok (.ireturn, 1) := by decide +kernel
set_option maxHeartbeats 4000000 in
set_option maxRecDepth 100000 in
theorem c_X12_grounded (l : Launch) (D : va_G) (K : Nat → ClassId) (m0 al ah : Nat) (fm : List Value) (hmn : fm.length = 51) (hm16 : fm[16]? = some (.ref al)) (hm17 : fm[17]? = some (.ref ah)) (fl fh : Nat → Int32) (hfl : ∀ j, fl j = 0) (hfh : ∀ j, fh j = 0) : fn_CI (S := Unit) l D K yX12_grounded (fn_ws yX12_grounded cX12_grounded 1 (some .int)) ({ frames := 12, cells := 0, slots := 0, locals := 300 }) [.ref m0] [(m0, .inr (12, fm)), (al, .inl (K 0, 5, .inl fl)), (ah, .inl (K 0, 40, .inl fh))] (fun r _ => r = (-2)) (fun _ => []) 0 0 := by
  refine fn_inI (cc := cX12_grounded) (maxL := 1) (ret := (some .int)) (by decide) rfl (Nat.le_of_ble_eq_true rfl) ?_
  intro p e s m below meth c A ls B hA hP hD hS hl
  obtain ⟨hx, hb, hr, hml, hts, hown, hlocks, hin, hK⟩ := B
  have hown : s.vm.findClass RX12 = some m.cls := hown
  have hts := fun w h => hts w (List.mem_cons_of_mem _ h)
  have hl : lv_has ls 1 [(0, .ref m0)] := hl
  refine lv_aload_n hx hb dX12_grounded_0 rfl (lv_at hl 0 rfl) ?_
  refine lv_iconst (v := 0) hx hb dX12_grounded_1 (by decide) ?_
  refine va_put (D := D) (own := RX12) (ci := 12) (v := .int 0) (ty := .int) (C := RX12) (T := TX12) (N := 51) hx hb hts inb_X12 tyX12 tyX12_ok nmX12 hown hK.1 hP hD hS 0 rfl rfl 0 (by decide) (hts _ wd_1234) (fun _ h9 => h9) rfl (by decide +kernel) rfl rfl (fn_kl hmn (by decide)) dX12_grounded_2 (fun H locs hP hD hS => ?_)
  have hP : va_P D vwCl [(m0, .inr (12, fm.set 0 (.int 0))), (al, .inl (K 0, 5, .inl fl)), (ah, .inl (K 0, 40, .inl fh))] H := hP
  have hD : va_D A [(m0, .inr (12, fm.set 0 (.int 0))), (al, .inl (K 0, 5, .inl fl)), (ah, .inl (K 0, 40, .inl fh))] := hD
  refine lv_aload_n hx hb dX12_grounded_5 rfl (lv_at hl 0 rfl) ?_
  refine fn_goi (wc := [(m0, .inr (12, fm.set 0 (.int 0))), (al, .inl (K 0, 5, .inl fl)), (ah, .inl (K 0, 40, .inl fh))]) (wr := []) hK hP hD hS hA [0, 1, 2] [] rfl rfl (by decide) (fun hp => va_runV (C := RX12) (As := []) (rest := []) ⟨hx, hb, hml, hown, hts⟩ (c_X12_isTown (l := l) (D := D) (K := K) (m0 := (m0)) (fm := (fm.set 0 (.int 0))) (hmn := (fn_sl hmn)) (al := (al)) (hm16 := (fn_gs (by decide) hm16)) (ah := (ah)) (hm17 := (fn_gs (by decide) hm17)) (fl := (fl)) (hfl := hfl) (fh := (fh)) (hfh := hfh) _) (cwV 0 hts (fn_ginV (fn_gin wd_1599) wd_1596 wd_1598 wp_124 wd_13) rfl rfl rfl (by decide +kernel) ⟨Nat.le_of_ble_eq_true rfl, Nat.le_of_ble_eq_true rfl⟩) ⟨fn_blind, va_recv hK.1 hP (ci := 12) (q0 := 0) rfl rfl, hp⟩ rfl rfl hl.1 rfl (lv_room (Nat.le_of_ble_eq_true rfl)) dX12_grounded_6 ⟨Nat.le_of_ble_eq_true rfl, Nat.le_of_ble_eq_true rfl⟩) (fun r2 u1 H locs hwu1 hP hD hS => ?_)
  have r2_e : r2 = 0 := hwu1
  subst r2_e
  have hP : va_P D vwCl [] H := hP
  have hD : va_D A [] := hD
  refine lv_if_ne (tgt := 15) hx hb dX12_grounded_9 (by decide) (fun h9 => absurd rfl h9) (fun _ => ?_)
  refine lv_bipush (v := (-2)) hx hb dX12_grounded_12 (by decide) ?_
  exact fn_iret hx hb hr hlocks rfl hP hD hS () (by first | rfl | decide) [] (by decide) rfl dX12_grounded_14
theorem dX12_key_0 : decode cX12_key 0 = .ok (.aload_n 0, 1) := by decide +kernel
theorem dX12_key_1 : decode cX12_key 1 = .ok (.iconst 0, 1) := by decide +kernel
theorem dX12_key_2 : decode cX12_key 2 = .ok (.putfield 104, 3) := by decide +kernel
theorem dX12_key_5 : decode cX12_key 5 = .ok (.aload_n 0, 1) := by decide +kernel
theorem dX12_key_6 : decode cX12_key 6 = .ok (.invokevirtual 267, 3) := by decide +kernel
theorem dX12_key_9 : decode cX12_key 9 = .ok (.ifCond .ne 6, 3) := by decide +kernel
theorem dX12_key_12 : decode cX12_key 12 = .ok (.bipush (-2), 2) := by decide +kernel
theorem dX12_key_14 : decode cX12_key 14 = .ok (.ireturn, 1) := by decide +kernel
set_option maxHeartbeats 4000000 in
set_option maxRecDepth 100000 in
theorem c_X12_key (l : Launch) (D : va_G) (K : Nat → ClassId) (m0 al ah : Nat) (fm : List Value) (hmn : fm.length = 51) (hm16 : fm[16]? = some (.ref al)) (hm17 : fm[17]? = some (.ref ah)) (fl fh : Nat → Int32) (hfl : ∀ j, fl j = 0) (hfh : ∀ j, fh j = 0) : fn_CI (S := Unit) l D K yX12_key (fn_ws yX12_key cX12_key 5 (some .int)) ({ frames := 12, cells := 0, slots := 0, locals := 300 }) [.ref m0] [(m0, .inr (12, fm)), (al, .inl (K 0, 5, .inl fl)), (ah, .inl (K 0, 40, .inl fh))] (fun r _ => r = (-2)) (fun _ => []) 0 0 := by
  refine fn_inI (cc := cX12_key) (maxL := 5) (ret := (some .int)) (by decide) rfl (Nat.le_of_ble_eq_true rfl) ?_
  intro p e s m below meth c A ls B hA hP hD hS hl
  obtain ⟨hx, hb, hr, hml, hts, hown, hlocks, hin, hK⟩ := B
  have hown : s.vm.findClass RX12 = some m.cls := hown
  have hts := fun w h => hts w (List.mem_cons_of_mem _ h)
  have hl : lv_has ls 5 [(0, .ref m0)] := hl
  refine lv_aload_n hx hb dX12_key_0 rfl (lv_at hl 0 rfl) ?_
  refine lv_iconst (v := 0) hx hb dX12_key_1 (by decide) ?_
  refine va_put (D := D) (own := RX12) (ci := 12) (v := .int 0) (ty := .int) (C := RX12) (T := TX12) (N := 51) hx hb hts inb_X12 tyX12 tyX12_ok nmX12 hown hK.1 hP hD hS 0 rfl rfl 0 (by decide) (hts _ wd_1234) (fun _ h9 => h9) rfl (by decide +kernel) rfl rfl (fn_kl hmn (by decide)) dX12_key_2 (fun H locs hP hD hS => ?_)
  have hP : va_P D vwCl [(m0, .inr (12, fm.set 0 (.int 0))), (al, .inl (K 0, 5, .inl fl)), (ah, .inl (K 0, 40, .inl fh))] H := hP
  have hD : va_D A [(m0, .inr (12, fm.set 0 (.int 0))), (al, .inl (K 0, 5, .inl fl)), (ah, .inl (K 0, 40, .inl fh))] := hD
  refine lv_aload_n hx hb dX12_key_5 rfl (lv_at hl 0 rfl) ?_
  refine fn_goi (wc := [(m0, .inr (12, fm.set 0 (.int 0))), (al, .inl (K 0, 5, .inl fl)), (ah, .inl (K 0, 40, .inl fh))]) (wr := []) hK hP hD hS hA [0, 1, 2] [] rfl rfl (by decide) (fun hp => va_runV (C := RX12) (As := []) (rest := []) ⟨hx, hb, hml, hown, hts⟩ (c_X12_isTown (l := l) (D := D) (K := K) (m0 := (m0)) (fm := (fm.set 0 (.int 0))) (hmn := (fn_sl hmn)) (al := (al)) (hm16 := (fn_gs (by decide) hm16)) (ah := (ah)) (hm17 := (fn_gs (by decide) hm17)) (fl := (fl)) (hfl := hfl) (fh := (fh)) (hfh := hfh) _) (cwV 0 hts (fn_ginV (fn_gin wd_1599) wd_1596 wd_1598 wp_124 wd_13) rfl rfl rfl (by decide +kernel) ⟨Nat.le_of_ble_eq_true rfl, Nat.le_of_ble_eq_true rfl⟩) ⟨fn_blind, va_recv hK.1 hP (ci := 12) (q0 := 0) rfl rfl, hp⟩ rfl rfl hl.1 rfl (lv_room (Nat.le_of_ble_eq_true rfl)) dX12_key_6 ⟨Nat.le_of_ble_eq_true rfl, Nat.le_of_ble_eq_true rfl⟩) (fun r2 u1 H locs hwu1 hP hD hS => ?_)
  have r2_e : r2 = 0 := hwu1
  subst r2_e
  have hP : va_P D vwCl [] H := hP
  have hD : va_D A [] := hD
  refine lv_if_ne (tgt := 15) hx hb dX12_key_9 (by decide) (fun h9 => absurd rfl h9) (fun _ => ?_)
  refine lv_bipush (v := (-2)) hx hb dX12_key_12 (by decide) ?_
  exact fn_iret hx hb hr hlocks rfl hP hD hS () (by first | rfl | decide) [] (by decide) rfl dX12_key_14
theorem dX12_ways_0 : decode cX12_ways 0 = .ok (.aload_n 0, 1) := by decide +kernel
theorem dX12_ways_1 : decode cX12_ways 1 = .ok (.iconst 0, 1) := by decide +kernel
theorem dX12_ways_2 : decode cX12_ways 2 = .ok (.putfield 104, 3) := by decide +kernel
theorem dX12_ways_5 : decode cX12_ways 5 = .ok (.aload_n 0, 1) := by decide +kernel
theorem dX12_ways_6 : decode cX12_ways 6 = .ok (.invokevirtual 267, 3) := by decide +kernel
theorem dX12_ways_9 : decode cX12_ways 9 = .ok (.ifCond .ne 6, 3) := by decide +kernel
theorem dX12_ways_12 : decode cX12_ways 12 = .ok (.bipush (-2), 2) := by decide +kernel
theorem dX12_ways_14 : decode cX12_ways 14 = .ok (.ireturn, 1) := by decide +kernel
set_option maxHeartbeats 4000000 in
set_option maxRecDepth 100000 in
theorem c_X12_ways (l : Launch) (D : va_G) (K : Nat → ClassId) (m0 al ah : Nat) (fm : List Value) (hmn : fm.length = 51) (hm16 : fm[16]? = some (.ref al)) (hm17 : fm[17]? = some (.ref ah)) (fl fh : Nat → Int32) (hfl : ∀ j, fl j = 0) (hfh : ∀ j, fh j = 0) : fn_CI (S := Unit) l D K yX12_ways (fn_ws yX12_ways cX12_ways 1 (some .int)) ({ frames := 12, cells := 0, slots := 0, locals := 300 }) [.ref m0] [(m0, .inr (12, fm)), (al, .inl (K 0, 5, .inl fl)), (ah, .inl (K 0, 40, .inl fh))] (fun r _ => r = (-2)) (fun _ => []) 0 0 := by
  refine fn_inI (cc := cX12_ways) (maxL := 1) (ret := (some .int)) (by decide) rfl (Nat.le_of_ble_eq_true rfl) ?_
  intro p e s m below meth c A ls B hA hP hD hS hl
  obtain ⟨hx, hb, hr, hml, hts, hown, hlocks, hin, hK⟩ := B
  have hown : s.vm.findClass RX12 = some m.cls := hown
  have hts := fun w h => hts w (List.mem_cons_of_mem _ h)
  have hl : lv_has ls 1 [(0, .ref m0)] := hl
  refine lv_aload_n hx hb dX12_ways_0 rfl (lv_at hl 0 rfl) ?_
  refine lv_iconst (v := 0) hx hb dX12_ways_1 (by decide) ?_
  refine va_put (D := D) (own := RX12) (ci := 12) (v := .int 0) (ty := .int) (C := RX12) (T := TX12) (N := 51) hx hb hts inb_X12 tyX12 tyX12_ok nmX12 hown hK.1 hP hD hS 0 rfl rfl 0 (by decide) (hts _ wd_1234) (fun _ h9 => h9) rfl (by decide +kernel) rfl rfl (fn_kl hmn (by decide)) dX12_ways_2 (fun H locs hP hD hS => ?_)
  have hP : va_P D vwCl [(m0, .inr (12, fm.set 0 (.int 0))), (al, .inl (K 0, 5, .inl fl)), (ah, .inl (K 0, 40, .inl fh))] H := hP
  have hD : va_D A [(m0, .inr (12, fm.set 0 (.int 0))), (al, .inl (K 0, 5, .inl fl)), (ah, .inl (K 0, 40, .inl fh))] := hD
  refine lv_aload_n hx hb dX12_ways_5 rfl (lv_at hl 0 rfl) ?_
  refine fn_goi (wc := [(m0, .inr (12, fm.set 0 (.int 0))), (al, .inl (K 0, 5, .inl fl)), (ah, .inl (K 0, 40, .inl fh))]) (wr := []) hK hP hD hS hA [0, 1, 2] [] rfl rfl (by decide) (fun hp => va_runV (C := RX12) (As := []) (rest := []) ⟨hx, hb, hml, hown, hts⟩ (c_X12_isTown (l := l) (D := D) (K := K) (m0 := (m0)) (fm := (fm.set 0 (.int 0))) (hmn := (fn_sl hmn)) (al := (al)) (hm16 := (fn_gs (by decide) hm16)) (ah := (ah)) (hm17 := (fn_gs (by decide) hm17)) (fl := (fl)) (hfl := hfl) (fh := (fh)) (hfh := hfh) _) (cwV 0 hts (fn_ginV (fn_gin wd_1599) wd_1596 wd_1598 wp_124 wd_13) rfl rfl rfl (by decide +kernel) ⟨Nat.le_of_ble_eq_true rfl, Nat.le_of_ble_eq_true rfl⟩) ⟨fn_blind, va_recv hK.1 hP (ci := 12) (q0 := 0) rfl rfl, hp⟩ rfl rfl hl.1 rfl (lv_room (Nat.le_of_ble_eq_true rfl)) dX12_ways_6 ⟨Nat.le_of_ble_eq_true rfl, Nat.le_of_ble_eq_true rfl⟩) (fun r2 u1 H locs hwu1 hP hD hS => ?_)
  have r2_e : r2 = 0 := hwu1
  subst r2_e
  have hP : va_P D vwCl [] H := hP
  have hD : va_D A [] := hD
  refine lv_if_ne (tgt := 15) hx hb dX12_ways_9 (by decide) (fun h9 => absurd rfl h9) (fun _ => ?_)
  refine lv_bipush (v := (-2)) hx hb dX12_ways_12 (by decide) ?_
  exact fn_iret hx hb hr hlocks rfl hP hD hS () (by first | rfl | decide) [] (by decide) rfl dX12_ways_14
theorem dX12_mostly_0 : decode cX12_mostly 0 = .ok (.aload_n 0, 1) := by decide +kernel
theorem dX12_mostly_1 : decode cX12_mostly 1 = .ok (.iconst 0, 1) := by decide +kernel
theorem dX12_mostly_2 : decode cX12_mostly 2 = .ok (.putfield 104, 3) := by decide +kernel
theorem dX12_mostly_5 : decode cX12_mostly 5 = .ok (.aload_n 0, 1) := by decide +kernel
theorem dX12_mostly_6 : decode cX12_mostly 6 = .ok (.invokevirtual 267, 3) := by decide +kernel
theorem dX12_mostly_9 : decode cX12_mostly 9 = .ok (.ifCond .ne 6, 3) := by decide +kernel
theorem dX12_mostly_12 : decode cX12_mostly 12 = .ok (.bipush (-2), 2) := by decide +kernel
theorem dX12_mostly_14 : decode cX12_mostly 14 = .ok (.ireturn, 1) := by decide +kernel
set_option maxHeartbeats 4000000 in
set_option maxRecDepth 100000 in
theorem c_X12_mostly (l : Launch) (D : va_G) (K : Nat → ClassId) (m0 al ah : Nat) (fm : List Value) (hmn : fm.length = 51) (hm16 : fm[16]? = some (.ref al)) (hm17 : fm[17]? = some (.ref ah)) (fl fh : Nat → Int32) (hfl : ∀ j, fl j = 0) (hfh : ∀ j, fh j = 0) : fn_CI (S := Unit) l D K yX12_mostly (fn_ws yX12_mostly cX12_mostly 1 (some .int)) ({ frames := 12, cells := 0, slots := 0, locals := 300 }) [.ref m0] [(m0, .inr (12, fm)), (al, .inl (K 0, 5, .inl fl)), (ah, .inl (K 0, 40, .inl fh))] (fun r _ => r = (-2)) (fun _ => []) 0 0 := by
  refine fn_inI (cc := cX12_mostly) (maxL := 1) (ret := (some .int)) (by decide) rfl (Nat.le_of_ble_eq_true rfl) ?_
  intro p e s m below meth c A ls B hA hP hD hS hl
  obtain ⟨hx, hb, hr, hml, hts, hown, hlocks, hin, hK⟩ := B
  have hown : s.vm.findClass RX12 = some m.cls := hown
  have hts := fun w h => hts w (List.mem_cons_of_mem _ h)
  have hl : lv_has ls 1 [(0, .ref m0)] := hl
  refine lv_aload_n hx hb dX12_mostly_0 rfl (lv_at hl 0 rfl) ?_
  refine lv_iconst (v := 0) hx hb dX12_mostly_1 (by decide) ?_
  refine va_put (D := D) (own := RX12) (ci := 12) (v := .int 0) (ty := .int) (C := RX12) (T := TX12) (N := 51) hx hb hts inb_X12 tyX12 tyX12_ok nmX12 hown hK.1 hP hD hS 0 rfl rfl 0 (by decide) (hts _ wd_1234) (fun _ h9 => h9) rfl (by decide +kernel) rfl rfl (fn_kl hmn (by decide)) dX12_mostly_2 (fun H locs hP hD hS => ?_)
  have hP : va_P D vwCl [(m0, .inr (12, fm.set 0 (.int 0))), (al, .inl (K 0, 5, .inl fl)), (ah, .inl (K 0, 40, .inl fh))] H := hP
  have hD : va_D A [(m0, .inr (12, fm.set 0 (.int 0))), (al, .inl (K 0, 5, .inl fl)), (ah, .inl (K 0, 40, .inl fh))] := hD
  refine lv_aload_n hx hb dX12_mostly_5 rfl (lv_at hl 0 rfl) ?_
  refine fn_goi (wc := [(m0, .inr (12, fm.set 0 (.int 0))), (al, .inl (K 0, 5, .inl fl)), (ah, .inl (K 0, 40, .inl fh))]) (wr := []) hK hP hD hS hA [0, 1, 2] [] rfl rfl (by decide) (fun hp => va_runV (C := RX12) (As := []) (rest := []) ⟨hx, hb, hml, hown, hts⟩ (c_X12_isTown (l := l) (D := D) (K := K) (m0 := (m0)) (fm := (fm.set 0 (.int 0))) (hmn := (fn_sl hmn)) (al := (al)) (hm16 := (fn_gs (by decide) hm16)) (ah := (ah)) (hm17 := (fn_gs (by decide) hm17)) (fl := (fl)) (hfl := hfl) (fh := (fh)) (hfh := hfh) _) (cwV 0 hts (fn_ginV (fn_gin wd_1599) wd_1596 wd_1598 wp_124 wd_13) rfl rfl rfl (by decide +kernel) ⟨Nat.le_of_ble_eq_true rfl, Nat.le_of_ble_eq_true rfl⟩) ⟨fn_blind, va_recv hK.1 hP (ci := 12) (q0 := 0) rfl rfl, hp⟩ rfl rfl hl.1 rfl (lv_room (Nat.le_of_ble_eq_true rfl)) dX12_mostly_6 ⟨Nat.le_of_ble_eq_true rfl, Nat.le_of_ble_eq_true rfl⟩) (fun r2 u1 H locs hwu1 hP hD hS => ?_)
  have r2_e : r2 = 0 := hwu1
  subst r2_e
  have hP : va_P D vwCl [] H := hP
  have hD : va_D A [] := hD
  refine lv_if_ne (tgt := 15) hx hb dX12_mostly_9 (by decide) (fun h9 => absurd rfl h9) (fun _ => ?_)
  refine lv_bipush (v := (-2)) hx hb dX12_mostly_12 (by decide) ?_
  exact fn_iret hx hb hr hlocks rfl hP hD hS () (by first | rfl | decide) [] (by decide) rfl dX12_mostly_14
theorem dX12_most_0 : decode cX12_most 0 = .ok (.aload_n 0, 1) := by decide +kernel
theorem dX12_most_1 : decode cX12_most 1 = .ok (.iconst 0, 1) := by decide +kernel
theorem dX12_most_2 : decode cX12_most 2 = .ok (.putfield 104, 3) := by decide +kernel
theorem dX12_most_5 : decode cX12_most 5 = .ok (.aload_n 0, 1) := by decide +kernel
theorem dX12_most_6 : decode cX12_most 6 = .ok (.invokevirtual 267, 3) := by decide +kernel
theorem dX12_most_9 : decode cX12_most 9 = .ok (.ifCond .ne 6, 3) := by decide +kernel
theorem dX12_most_12 : decode cX12_most 12 = .ok (.bipush (-2), 2) := by decide +kernel
theorem dX12_most_14 : decode cX12_most 14 = .ok (.ireturn, 1) := by decide +kernel
set_option maxHeartbeats 4000000 in
set_option maxRecDepth 100000 in
theorem c_X12_most (l : Launch) (D : va_G) (K : Nat → ClassId) (m0 al ah : Nat) (fm : List Value) (hmn : fm.length = 51) (hm16 : fm[16]? = some (.ref al)) (hm17 : fm[17]? = some (.ref ah)) (fl fh : Nat → Int32) (hfl : ∀ j, fl j = 0) (hfh : ∀ j, fh j = 0) : fn_CI (S := Unit) l D K yX12_most (fn_ws yX12_most cX12_most 1 (some .int)) ({ frames := 12, cells := 0, slots := 0, locals := 300 }) [.ref m0] [(m0, .inr (12, fm)), (al, .inl (K 0, 5, .inl fl)), (ah, .inl (K 0, 40, .inl fh))] (fun r _ => r = (-2)) (fun _ => []) 0 0 := by
  refine fn_inI (cc := cX12_most) (maxL := 1) (ret := (some .int)) (by decide) rfl (Nat.le_of_ble_eq_true rfl) ?_
  intro p e s m below meth c A ls B hA hP hD hS hl
  obtain ⟨hx, hb, hr, hml, hts, hown, hlocks, hin, hK⟩ := B
  have hown : s.vm.findClass RX12 = some m.cls := hown
  have hts := fun w h => hts w (List.mem_cons_of_mem _ h)
  have hl : lv_has ls 1 [(0, .ref m0)] := hl
  refine lv_aload_n hx hb dX12_most_0 rfl (lv_at hl 0 rfl) ?_
  refine lv_iconst (v := 0) hx hb dX12_most_1 (by decide) ?_
  refine va_put (D := D) (own := RX12) (ci := 12) (v := .int 0) (ty := .int) (C := RX12) (T := TX12) (N := 51) hx hb hts inb_X12 tyX12 tyX12_ok nmX12 hown hK.1 hP hD hS 0 rfl rfl 0 (by decide) (hts _ wd_1234) (fun _ h9 => h9) rfl (by decide +kernel) rfl rfl (fn_kl hmn (by decide)) dX12_most_2 (fun H locs hP hD hS => ?_)
  have hP : va_P D vwCl [(m0, .inr (12, fm.set 0 (.int 0))), (al, .inl (K 0, 5, .inl fl)), (ah, .inl (K 0, 40, .inl fh))] H := hP
  have hD : va_D A [(m0, .inr (12, fm.set 0 (.int 0))), (al, .inl (K 0, 5, .inl fl)), (ah, .inl (K 0, 40, .inl fh))] := hD
  refine lv_aload_n hx hb dX12_most_5 rfl (lv_at hl 0 rfl) ?_
  refine fn_goi (wc := [(m0, .inr (12, fm.set 0 (.int 0))), (al, .inl (K 0, 5, .inl fl)), (ah, .inl (K 0, 40, .inl fh))]) (wr := []) hK hP hD hS hA [0, 1, 2] [] rfl rfl (by decide) (fun hp => va_runV (C := RX12) (As := []) (rest := []) ⟨hx, hb, hml, hown, hts⟩ (c_X12_isTown (l := l) (D := D) (K := K) (m0 := (m0)) (fm := (fm.set 0 (.int 0))) (hmn := (fn_sl hmn)) (al := (al)) (hm16 := (fn_gs (by decide) hm16)) (ah := (ah)) (hm17 := (fn_gs (by decide) hm17)) (fl := (fl)) (hfl := hfl) (fh := (fh)) (hfh := hfh) _) (cwV 0 hts (fn_ginV (fn_gin wd_1599) wd_1596 wd_1598 wp_124 wd_13) rfl rfl rfl (by decide +kernel) ⟨Nat.le_of_ble_eq_true rfl, Nat.le_of_ble_eq_true rfl⟩) ⟨fn_blind, va_recv hK.1 hP (ci := 12) (q0 := 0) rfl rfl, hp⟩ rfl rfl hl.1 rfl (lv_room (Nat.le_of_ble_eq_true rfl)) dX12_most_6 ⟨Nat.le_of_ble_eq_true rfl, Nat.le_of_ble_eq_true rfl⟩) (fun r2 u1 H locs hwu1 hP hD hS => ?_)
  have r2_e : r2 = 0 := hwu1
  subst r2_e
  have hP : va_P D vwCl [] H := hP
  have hD : va_D A [] := hD
  refine lv_if_ne (tgt := 15) hx hb dX12_most_9 (by decide) (fun h9 => absurd rfl h9) (fun _ => ?_)
  refine lv_bipush (v := (-2)) hx hb dX12_most_12 (by decide) ?_
  exact fn_iret hx hb hr hlocks rfl hP hD hS () (by first | rfl | decide) [] (by decide) rfl dX12_most_14
theorem dX12_sure_0 : decode cX12_sure 0 = .ok (.aload_n 0, 1) := by decide +kernel
theorem dX12_sure_1 : decode cX12_sure 1 = .ok (.iconst 0, 1) := by decide +kernel
theorem dX12_sure_2 : decode cX12_sure 2 = .ok (.putfield 104, 3) := by decide +kernel
theorem dX12_sure_5 : decode cX12_sure 5 = .ok (.aload_n 0, 1) := by decide +kernel
theorem dX12_sure_6 : decode cX12_sure 6 = .ok (.invokevirtual 267, 3) := by decide +kernel
theorem dX12_sure_9 : decode cX12_sure 9 = .ok (.ifCond .eq 13, 3) := by decide +kernel
theorem dX12_sure_22 : decode cX12_sure 22 = .ok (.bipush (-2), 2) := by decide +kernel
theorem dX12_sure_24 : decode cX12_sure 24 = .ok (.ireturn, 1) := by decide +kernel
set_option maxHeartbeats 4000000 in
set_option maxRecDepth 100000 in
theorem c_X12_sure (l : Launch) (D : va_G) (K : Nat → ClassId) (m0 al ah : Nat) (fm : List Value) (hmn : fm.length = 51) (hm16 : fm[16]? = some (.ref al)) (hm17 : fm[17]? = some (.ref ah)) (fl fh : Nat → Int32) (hfl : ∀ j, fl j = 0) (hfh : ∀ j, fh j = 0) (p0 : Int32) : fn_CI (S := Unit) l D K yX12_sure (fn_ws yX12_sure cX12_sure 2 (some .int)) ({ frames := 12, cells := 0, slots := 0, locals := 300 }) [.ref m0, .int p0] [(m0, .inr (12, fm)), (al, .inl (K 0, 5, .inl fl)), (ah, .inl (K 0, 40, .inl fh))] (fun r _ => r = (-2)) (fun _ => []) 0 0 := by
  refine fn_inI (cc := cX12_sure) (maxL := 2) (ret := (some .int)) (by decide) rfl (Nat.le_of_ble_eq_true rfl) ?_
  intro p e s m below meth c A ls B hA hP hD hS hl
  obtain ⟨hx, hb, hr, hml, hts, hown, hlocks, hin, hK⟩ := B
  have hown : s.vm.findClass RX12 = some m.cls := hown
  have hts := fun w h => hts w (List.mem_cons_of_mem _ h)
  have hl : lv_has ls 2 [(0, .ref m0), (1, .int p0)] := hl
  refine lv_aload_n hx hb dX12_sure_0 rfl (lv_at hl 0 rfl) ?_
  refine lv_iconst (v := 0) hx hb dX12_sure_1 (by decide) ?_
  refine va_put (D := D) (own := RX12) (ci := 12) (v := .int 0) (ty := .int) (C := RX12) (T := TX12) (N := 51) hx hb hts inb_X12 tyX12 tyX12_ok nmX12 hown hK.1 hP hD hS 0 rfl rfl 0 (by decide) (hts _ wd_1234) (fun _ h9 => h9) rfl (by decide +kernel) rfl rfl (fn_kl hmn (by decide)) dX12_sure_2 (fun H locs hP hD hS => ?_)
  have hP : va_P D vwCl [(m0, .inr (12, fm.set 0 (.int 0))), (al, .inl (K 0, 5, .inl fl)), (ah, .inl (K 0, 40, .inl fh))] H := hP
  have hD : va_D A [(m0, .inr (12, fm.set 0 (.int 0))), (al, .inl (K 0, 5, .inl fl)), (ah, .inl (K 0, 40, .inl fh))] := hD
  refine lv_aload_n hx hb dX12_sure_5 rfl (lv_at hl 0 rfl) ?_
  refine fn_goi (wc := [(m0, .inr (12, fm.set 0 (.int 0))), (al, .inl (K 0, 5, .inl fl)), (ah, .inl (K 0, 40, .inl fh))]) (wr := []) hK hP hD hS hA [0, 1, 2] [] rfl rfl (by decide) (fun hp => va_runV (C := RX12) (As := []) (rest := []) ⟨hx, hb, hml, hown, hts⟩ (c_X12_isTown (l := l) (D := D) (K := K) (m0 := (m0)) (fm := (fm.set 0 (.int 0))) (hmn := (fn_sl hmn)) (al := (al)) (hm16 := (fn_gs (by decide) hm16)) (ah := (ah)) (hm17 := (fn_gs (by decide) hm17)) (fl := (fl)) (hfl := hfl) (fh := (fh)) (hfh := hfh) _) (cwV 0 hts (fn_ginV (fn_gin wd_1599) wd_1596 wd_1598 wp_124 wd_13) rfl rfl rfl (by decide +kernel) ⟨Nat.le_of_ble_eq_true rfl, Nat.le_of_ble_eq_true rfl⟩) ⟨fn_blind, va_recv hK.1 hP (ci := 12) (q0 := 0) rfl rfl, hp⟩ rfl rfl hl.1 rfl (lv_room (Nat.le_of_ble_eq_true rfl)) dX12_sure_6 ⟨Nat.le_of_ble_eq_true rfl, Nat.le_of_ble_eq_true rfl⟩) (fun r2 u1 H locs hwu1 hP hD hS => ?_)
  have r2_e : r2 = 0 := hwu1
  subst r2_e
  have hP : va_P D vwCl [] H := hP
  have hD : va_D A [] := hD
  refine lv_if_eq (tgt := 22) hx hb dX12_sure_9 (by decide) (fun _ => ?_) (fun h9 => absurd (by decide) h9)
  refine lv_bipush (v := (-2)) hx hb dX12_sure_22 (by decide) ?_
  exact fn_iret hx hb hr hlocks rfl hP hD hS () (by first | rfl | decide) [] (by decide) rfl dX12_sure_24
theorem dX12_sends_0 : decode cX12_sends 0 = .ok (.aload_n 0, 1) := by decide +kernel
theorem dX12_sends_1 : decode cX12_sends 1 = .ok (.iconst 0, 1) := by decide +kernel
theorem dX12_sends_2 : decode cX12_sends 2 = .ok (.putfield 104, 3) := by decide +kernel
theorem dX12_sends_5 : decode cX12_sends 5 = .ok (.aload_n 0, 1) := by decide +kernel
theorem dX12_sends_6 : decode cX12_sends 6 = .ok (.invokevirtual 267, 3) := by decide +kernel
theorem dX12_sends_9 : decode cX12_sends 9 = .ok (.ifCond .ne 6, 3) := by decide +kernel
theorem dX12_sends_12 : decode cX12_sends 12 = .ok (.bipush (-2), 2) := by decide +kernel
theorem dX12_sends_14 : decode cX12_sends 14 = .ok (.ireturn, 1) := by decide +kernel
set_option maxHeartbeats 4000000 in
set_option maxRecDepth 100000 in
theorem c_X12_sends (l : Launch) (D : va_G) (K : Nat → ClassId) (m0 al ah : Nat) (fm : List Value) (hmn : fm.length = 51) (hm16 : fm[16]? = some (.ref al)) (hm17 : fm[17]? = some (.ref ah)) (fl fh : Nat → Int32) (hfl : ∀ j, fl j = 0) (hfh : ∀ j, fh j = 0) : fn_CI (S := Unit) l D K yX12_sends (fn_ws yX12_sends cX12_sends 1 (some .int)) ({ frames := 12, cells := 0, slots := 0, locals := 300 }) [.ref m0] [(m0, .inr (12, fm)), (al, .inl (K 0, 5, .inl fl)), (ah, .inl (K 0, 40, .inl fh))] (fun r _ => r = (-2)) (fun _ => []) 0 0 := by
  refine fn_inI (cc := cX12_sends) (maxL := 1) (ret := (some .int)) (by decide) rfl (Nat.le_of_ble_eq_true rfl) ?_
  intro p e s m below meth c A ls B hA hP hD hS hl
  obtain ⟨hx, hb, hr, hml, hts, hown, hlocks, hin, hK⟩ := B
  have hown : s.vm.findClass RX12 = some m.cls := hown
  have hts := fun w h => hts w (List.mem_cons_of_mem _ h)
  have hl : lv_has ls 1 [(0, .ref m0)] := hl
  refine lv_aload_n hx hb dX12_sends_0 rfl (lv_at hl 0 rfl) ?_
  refine lv_iconst (v := 0) hx hb dX12_sends_1 (by decide) ?_
  refine va_put (D := D) (own := RX12) (ci := 12) (v := .int 0) (ty := .int) (C := RX12) (T := TX12) (N := 51) hx hb hts inb_X12 tyX12 tyX12_ok nmX12 hown hK.1 hP hD hS 0 rfl rfl 0 (by decide) (hts _ wd_1234) (fun _ h9 => h9) rfl (by decide +kernel) rfl rfl (fn_kl hmn (by decide)) dX12_sends_2 (fun H locs hP hD hS => ?_)
  have hP : va_P D vwCl [(m0, .inr (12, fm.set 0 (.int 0))), (al, .inl (K 0, 5, .inl fl)), (ah, .inl (K 0, 40, .inl fh))] H := hP
  have hD : va_D A [(m0, .inr (12, fm.set 0 (.int 0))), (al, .inl (K 0, 5, .inl fl)), (ah, .inl (K 0, 40, .inl fh))] := hD
  refine lv_aload_n hx hb dX12_sends_5 rfl (lv_at hl 0 rfl) ?_
  refine fn_goi (wc := [(m0, .inr (12, fm.set 0 (.int 0))), (al, .inl (K 0, 5, .inl fl)), (ah, .inl (K 0, 40, .inl fh))]) (wr := []) hK hP hD hS hA [0, 1, 2] [] rfl rfl (by decide) (fun hp => va_runV (C := RX12) (As := []) (rest := []) ⟨hx, hb, hml, hown, hts⟩ (c_X12_isTown (l := l) (D := D) (K := K) (m0 := (m0)) (fm := (fm.set 0 (.int 0))) (hmn := (fn_sl hmn)) (al := (al)) (hm16 := (fn_gs (by decide) hm16)) (ah := (ah)) (hm17 := (fn_gs (by decide) hm17)) (fl := (fl)) (hfl := hfl) (fh := (fh)) (hfh := hfh) _) (cwV 0 hts (fn_ginV (fn_gin wd_1599) wd_1596 wd_1598 wp_124 wd_13) rfl rfl rfl (by decide +kernel) ⟨Nat.le_of_ble_eq_true rfl, Nat.le_of_ble_eq_true rfl⟩) ⟨fn_blind, va_recv hK.1 hP (ci := 12) (q0 := 0) rfl rfl, hp⟩ rfl rfl hl.1 rfl (lv_room (Nat.le_of_ble_eq_true rfl)) dX12_sends_6 ⟨Nat.le_of_ble_eq_true rfl, Nat.le_of_ble_eq_true rfl⟩) (fun r2 u1 H locs hwu1 hP hD hS => ?_)
  have r2_e : r2 = 0 := hwu1
  subst r2_e
  have hP : va_P D vwCl [] H := hP
  have hD : va_D A [] := hD
  refine lv_if_ne (tgt := 15) hx hb dX12_sends_9 (by decide) (fun h9 => absurd rfl h9) (fun _ => ?_)
  refine lv_bipush (v := (-2)) hx hb dX12_sends_12 (by decide) ?_
  exact fn_iret hx hb hr hlocks rfl hP hD hS () (by first | rfl | decide) [] (by decide) rfl dX12_sends_14
theorem dX12_orders_0 : decode cX12_orders 0 = .ok (.aload_n 0, 1) := by decide +kernel
theorem dX12_orders_1 : decode cX12_orders 1 = .ok (.iconst 0, 1) := by decide +kernel
theorem dX12_orders_2 : decode cX12_orders 2 = .ok (.putfield 104, 3) := by decide +kernel
theorem dX12_orders_5 : decode cX12_orders 5 = .ok (.aload_n 0, 1) := by decide +kernel
theorem dX12_orders_6 : decode cX12_orders 6 = .ok (.invokevirtual 267, 3) := by decide +kernel
theorem dX12_orders_9 : decode cX12_orders 9 = .ok (.ifCond .ne 6, 3) := by decide +kernel
theorem dX12_orders_12 : decode cX12_orders 12 = .ok (.bipush (-2), 2) := by decide +kernel
theorem dX12_orders_14 : decode cX12_orders 14 = .ok (.ireturn, 1) := by decide +kernel
set_option maxHeartbeats 4000000 in
set_option maxRecDepth 100000 in
theorem c_X12_orders (l : Launch) (D : va_G) (K : Nat → ClassId) (m0 al ah : Nat) (fm : List Value) (hmn : fm.length = 51) (hm16 : fm[16]? = some (.ref al)) (hm17 : fm[17]? = some (.ref ah)) (fl fh : Nat → Int32) (hfl : ∀ j, fl j = 0) (hfh : ∀ j, fh j = 0) : fn_CI (S := Unit) l D K yX12_orders (fn_ws yX12_orders cX12_orders 1 (some .int)) ({ frames := 12, cells := 0, slots := 0, locals := 300 }) [.ref m0] [(m0, .inr (12, fm)), (al, .inl (K 0, 5, .inl fl)), (ah, .inl (K 0, 40, .inl fh))] (fun r _ => r = (-2)) (fun _ => []) 0 0 := by
  refine fn_inI (cc := cX12_orders) (maxL := 1) (ret := (some .int)) (by decide) rfl (Nat.le_of_ble_eq_true rfl) ?_
  intro p e s m below meth c A ls B hA hP hD hS hl
  obtain ⟨hx, hb, hr, hml, hts, hown, hlocks, hin, hK⟩ := B
  have hown : s.vm.findClass RX12 = some m.cls := hown
  have hts := fun w h => hts w (List.mem_cons_of_mem _ h)
  have hl : lv_has ls 1 [(0, .ref m0)] := hl
  refine lv_aload_n hx hb dX12_orders_0 rfl (lv_at hl 0 rfl) ?_
  refine lv_iconst (v := 0) hx hb dX12_orders_1 (by decide) ?_
  refine va_put (D := D) (own := RX12) (ci := 12) (v := .int 0) (ty := .int) (C := RX12) (T := TX12) (N := 51) hx hb hts inb_X12 tyX12 tyX12_ok nmX12 hown hK.1 hP hD hS 0 rfl rfl 0 (by decide) (hts _ wd_1234) (fun _ h9 => h9) rfl (by decide +kernel) rfl rfl (fn_kl hmn (by decide)) dX12_orders_2 (fun H locs hP hD hS => ?_)
  have hP : va_P D vwCl [(m0, .inr (12, fm.set 0 (.int 0))), (al, .inl (K 0, 5, .inl fl)), (ah, .inl (K 0, 40, .inl fh))] H := hP
  have hD : va_D A [(m0, .inr (12, fm.set 0 (.int 0))), (al, .inl (K 0, 5, .inl fl)), (ah, .inl (K 0, 40, .inl fh))] := hD
  refine lv_aload_n hx hb dX12_orders_5 rfl (lv_at hl 0 rfl) ?_
  refine fn_goi (wc := [(m0, .inr (12, fm.set 0 (.int 0))), (al, .inl (K 0, 5, .inl fl)), (ah, .inl (K 0, 40, .inl fh))]) (wr := []) hK hP hD hS hA [0, 1, 2] [] rfl rfl (by decide) (fun hp => va_runV (C := RX12) (As := []) (rest := []) ⟨hx, hb, hml, hown, hts⟩ (c_X12_isTown (l := l) (D := D) (K := K) (m0 := (m0)) (fm := (fm.set 0 (.int 0))) (hmn := (fn_sl hmn)) (al := (al)) (hm16 := (fn_gs (by decide) hm16)) (ah := (ah)) (hm17 := (fn_gs (by decide) hm17)) (fl := (fl)) (hfl := hfl) (fh := (fh)) (hfh := hfh) _) (cwV 0 hts (fn_ginV (fn_gin wd_1599) wd_1596 wd_1598 wp_124 wd_13) rfl rfl rfl (by decide +kernel) ⟨Nat.le_of_ble_eq_true rfl, Nat.le_of_ble_eq_true rfl⟩) ⟨fn_blind, va_recv hK.1 hP (ci := 12) (q0 := 0) rfl rfl, hp⟩ rfl rfl hl.1 rfl (lv_room (Nat.le_of_ble_eq_true rfl)) dX12_orders_6 ⟨Nat.le_of_ble_eq_true rfl, Nat.le_of_ble_eq_true rfl⟩) (fun r2 u1 H locs hwu1 hP hD hS => ?_)
  have r2_e : r2 = 0 := hwu1
  subst r2_e
  have hP : va_P D vwCl [] H := hP
  have hD : va_D A [] := hD
  refine lv_if_ne (tgt := 15) hx hb dX12_orders_9 (by decide) (fun h9 => absurd rfl h9) (fun _ => ?_)
  refine lv_bipush (v := (-2)) hx hb dX12_orders_12 (by decide) ?_
  exact fn_iret hx hb hr hlocks rfl hP hD hS () (by first | rfl | decide) [] (by decide) rfl dX12_orders_14
theorem dX12_earliest_0 : decode cX12_earliest 0 = .ok (.aload_n 0, 1) := by decide +kernel
theorem dX12_earliest_1 : decode cX12_earliest 1 = .ok (.iconst 0, 1) := by decide +kernel
theorem dX12_earliest_2 : decode cX12_earliest 2 = .ok (.putfield 104, 3) := by decide +kernel
theorem dX12_earliest_5 : decode cX12_earliest 5 = .ok (.aload_n 0, 1) := by decide +kernel
theorem dX12_earliest_6 : decode cX12_earliest 6 = .ok (.invokevirtual 267, 3) := by decide +kernel
theorem dX12_earliest_9 : decode cX12_earliest 9 = .ok (.ifCond .ne 6, 3) := by decide +kernel
theorem dX12_earliest_12 : decode cX12_earliest 12 = .ok (.bipush (-2), 2) := by decide +kernel
theorem dX12_earliest_14 : decode cX12_earliest 14 = .ok (.ireturn, 1) := by decide +kernel
set_option maxHeartbeats 4000000 in
set_option maxRecDepth 100000 in
theorem c_X12_earliest (l : Launch) (D : va_G) (K : Nat → ClassId) (m0 al ah : Nat) (fm : List Value) (hmn : fm.length = 51) (hm16 : fm[16]? = some (.ref al)) (hm17 : fm[17]? = some (.ref ah)) (fl fh : Nat → Int32) (hfl : ∀ j, fl j = 0) (hfh : ∀ j, fh j = 0) (p0 : Int32) : fn_CI (S := Unit) l D K yX12_earliest (fn_ws yX12_earliest cX12_earliest 2 (some .int)) ({ frames := 12, cells := 0, slots := 0, locals := 300 }) [.ref m0, .int p0] [(m0, .inr (12, fm)), (al, .inl (K 0, 5, .inl fl)), (ah, .inl (K 0, 40, .inl fh))] (fun r _ => r = (-2)) (fun _ => []) 0 0 := by
  refine fn_inI (cc := cX12_earliest) (maxL := 2) (ret := (some .int)) (by decide) rfl (Nat.le_of_ble_eq_true rfl) ?_
  intro p e s m below meth c A ls B hA hP hD hS hl
  obtain ⟨hx, hb, hr, hml, hts, hown, hlocks, hin, hK⟩ := B
  have hown : s.vm.findClass RX12 = some m.cls := hown
  have hts := fun w h => hts w (List.mem_cons_of_mem _ h)
  have hl : lv_has ls 2 [(0, .ref m0), (1, .int p0)] := hl
  refine lv_aload_n hx hb dX12_earliest_0 rfl (lv_at hl 0 rfl) ?_
  refine lv_iconst (v := 0) hx hb dX12_earliest_1 (by decide) ?_
  refine va_put (D := D) (own := RX12) (ci := 12) (v := .int 0) (ty := .int) (C := RX12) (T := TX12) (N := 51) hx hb hts inb_X12 tyX12 tyX12_ok nmX12 hown hK.1 hP hD hS 0 rfl rfl 0 (by decide) (hts _ wd_1234) (fun _ h9 => h9) rfl (by decide +kernel) rfl rfl (fn_kl hmn (by decide)) dX12_earliest_2 (fun H locs hP hD hS => ?_)
  have hP : va_P D vwCl [(m0, .inr (12, fm.set 0 (.int 0))), (al, .inl (K 0, 5, .inl fl)), (ah, .inl (K 0, 40, .inl fh))] H := hP
  have hD : va_D A [(m0, .inr (12, fm.set 0 (.int 0))), (al, .inl (K 0, 5, .inl fl)), (ah, .inl (K 0, 40, .inl fh))] := hD
  refine lv_aload_n hx hb dX12_earliest_5 rfl (lv_at hl 0 rfl) ?_
  refine fn_goi (wc := [(m0, .inr (12, fm.set 0 (.int 0))), (al, .inl (K 0, 5, .inl fl)), (ah, .inl (K 0, 40, .inl fh))]) (wr := []) hK hP hD hS hA [0, 1, 2] [] rfl rfl (by decide) (fun hp => va_runV (C := RX12) (As := []) (rest := []) ⟨hx, hb, hml, hown, hts⟩ (c_X12_isTown (l := l) (D := D) (K := K) (m0 := (m0)) (fm := (fm.set 0 (.int 0))) (hmn := (fn_sl hmn)) (al := (al)) (hm16 := (fn_gs (by decide) hm16)) (ah := (ah)) (hm17 := (fn_gs (by decide) hm17)) (fl := (fl)) (hfl := hfl) (fh := (fh)) (hfh := hfh) _) (cwV 0 hts (fn_ginV (fn_gin wd_1599) wd_1596 wd_1598 wp_124 wd_13) rfl rfl rfl (by decide +kernel) ⟨Nat.le_of_ble_eq_true rfl, Nat.le_of_ble_eq_true rfl⟩) ⟨fn_blind, va_recv hK.1 hP (ci := 12) (q0 := 0) rfl rfl, hp⟩ rfl rfl hl.1 rfl (lv_room (Nat.le_of_ble_eq_true rfl)) dX12_earliest_6 ⟨Nat.le_of_ble_eq_true rfl, Nat.le_of_ble_eq_true rfl⟩) (fun r2 u1 H locs hwu1 hP hD hS => ?_)
  have r2_e : r2 = 0 := hwu1
  subst r2_e
  have hP : va_P D vwCl [] H := hP
  have hD : va_D A [] := hD
  refine lv_if_ne (tgt := 15) hx hb dX12_earliest_9 (by decide) (fun h9 => absurd rfl h9) (fun _ => ?_)
  refine lv_bipush (v := (-2)) hx hb dX12_earliest_12 (by decide) ?_
  exact fn_iret hx hb hr hlocks rfl hP hD hS () (by first | rfl | decide) [] (by decide) rfl dX12_earliest_14
theorem dX12_rest_0 : decode cX12_rest 0 = .ok (.aload_n 0, 1) := by decide +kernel
theorem dX12_rest_1 : decode cX12_rest 1 = .ok (.iconst 0, 1) := by decide +kernel
theorem dX12_rest_2 : decode cX12_rest 2 = .ok (.putfield 104, 3) := by decide +kernel
theorem dX12_rest_5 : decode cX12_rest 5 = .ok (.aload_n 0, 1) := by decide +kernel
theorem dX12_rest_6 : decode cX12_rest 6 = .ok (.invokevirtual 267, 3) := by decide +kernel
theorem dX12_rest_9 : decode cX12_rest 9 = .ok (.ifCond .ne 6, 3) := by decide +kernel
theorem dX12_rest_12 : decode cX12_rest 12 = .ok (.bipush (-2), 2) := by decide +kernel
theorem dX12_rest_14 : decode cX12_rest 14 = .ok (.ireturn, 1) := by decide +kernel
set_option maxHeartbeats 4000000 in
set_option maxRecDepth 100000 in
theorem c_X12_rest (l : Launch) (D : va_G) (K : Nat → ClassId) (m0 al ah : Nat) (fm : List Value) (hmn : fm.length = 51) (hm16 : fm[16]? = some (.ref al)) (hm17 : fm[17]? = some (.ref ah)) (fl fh : Nat → Int32) (hfl : ∀ j, fl j = 0) (hfh : ∀ j, fh j = 0) : fn_CI (S := Unit) l D K yX12_rest (fn_ws yX12_rest cX12_rest 2 (some .int)) ({ frames := 12, cells := 0, slots := 0, locals := 300 }) [.ref m0] [(m0, .inr (12, fm)), (al, .inl (K 0, 5, .inl fl)), (ah, .inl (K 0, 40, .inl fh))] (fun r _ => r = (-2)) (fun _ => []) 0 0 := by
  refine fn_inI (cc := cX12_rest) (maxL := 2) (ret := (some .int)) (by decide) rfl (Nat.le_of_ble_eq_true rfl) ?_
  intro p e s m below meth c A ls B hA hP hD hS hl
  obtain ⟨hx, hb, hr, hml, hts, hown, hlocks, hin, hK⟩ := B
  have hown : s.vm.findClass RX12 = some m.cls := hown
  have hts := fun w h => hts w (List.mem_cons_of_mem _ h)
  have hl : lv_has ls 2 [(0, .ref m0)] := hl
  refine lv_aload_n hx hb dX12_rest_0 rfl (lv_at hl 0 rfl) ?_
  refine lv_iconst (v := 0) hx hb dX12_rest_1 (by decide) ?_
  refine va_put (D := D) (own := RX12) (ci := 12) (v := .int 0) (ty := .int) (C := RX12) (T := TX12) (N := 51) hx hb hts inb_X12 tyX12 tyX12_ok nmX12 hown hK.1 hP hD hS 0 rfl rfl 0 (by decide) (hts _ wd_1234) (fun _ h9 => h9) rfl (by decide +kernel) rfl rfl (fn_kl hmn (by decide)) dX12_rest_2 (fun H locs hP hD hS => ?_)
  have hP : va_P D vwCl [(m0, .inr (12, fm.set 0 (.int 0))), (al, .inl (K 0, 5, .inl fl)), (ah, .inl (K 0, 40, .inl fh))] H := hP
  have hD : va_D A [(m0, .inr (12, fm.set 0 (.int 0))), (al, .inl (K 0, 5, .inl fl)), (ah, .inl (K 0, 40, .inl fh))] := hD
  refine lv_aload_n hx hb dX12_rest_5 rfl (lv_at hl 0 rfl) ?_
  refine fn_goi (wc := [(m0, .inr (12, fm.set 0 (.int 0))), (al, .inl (K 0, 5, .inl fl)), (ah, .inl (K 0, 40, .inl fh))]) (wr := []) hK hP hD hS hA [0, 1, 2] [] rfl rfl (by decide) (fun hp => va_runV (C := RX12) (As := []) (rest := []) ⟨hx, hb, hml, hown, hts⟩ (c_X12_isTown (l := l) (D := D) (K := K) (m0 := (m0)) (fm := (fm.set 0 (.int 0))) (hmn := (fn_sl hmn)) (al := (al)) (hm16 := (fn_gs (by decide) hm16)) (ah := (ah)) (hm17 := (fn_gs (by decide) hm17)) (fl := (fl)) (hfl := hfl) (fh := (fh)) (hfh := hfh) _) (cwV 0 hts (fn_ginV (fn_gin wd_1599) wd_1596 wd_1598 wp_124 wd_13) rfl rfl rfl (by decide +kernel) ⟨Nat.le_of_ble_eq_true rfl, Nat.le_of_ble_eq_true rfl⟩) ⟨fn_blind, va_recv hK.1 hP (ci := 12) (q0 := 0) rfl rfl, hp⟩ rfl rfl hl.1 rfl (lv_room (Nat.le_of_ble_eq_true rfl)) dX12_rest_6 ⟨Nat.le_of_ble_eq_true rfl, Nat.le_of_ble_eq_true rfl⟩) (fun r2 u1 H locs hwu1 hP hD hS => ?_)
  have r2_e : r2 = 0 := hwu1
  subst r2_e
  have hP : va_P D vwCl [] H := hP
  have hD : va_D A [] := hD
  refine lv_if_ne (tgt := 15) hx hb dX12_rest_9 (by decide) (fun h9 => absurd rfl h9) (fun _ => ?_)
  refine lv_bipush (v := (-2)) hx hb dX12_rest_12 (by decide) ?_
  exact fn_iret hx hb hr hlocks rfl hP hD hS () (by first | rfl | decide) [] (by decide) rfl dX12_rest_14
theorem dX12_saint_0 : decode cX12_saint 0 = .ok (.aload_n 0, 1) := by decide +kernel
theorem dX12_saint_1 : decode cX12_saint 1 = .ok (.iconst 0, 1) := by decide +kernel
theorem dX12_saint_2 : decode cX12_saint 2 = .ok (.putfield 104, 3) := by decide +kernel
theorem dX12_saint_5 : decode cX12_saint 5 = .ok (.aload_n 0, 1) := by decide +kernel
theorem dX12_saint_6 : decode cX12_saint 6 = .ok (.invokevirtual 267, 3) := by decide +kernel
theorem dX12_saint_9 : decode cX12_saint 9 = .ok (.ifCond .eq 15, 3) := by decide +kernel
theorem dX12_saint_24 : decode cX12_saint 24 = .ok (.bipush (-2), 2) := by decide +kernel
theorem dX12_saint_26 : decode cX12_saint 26 = .ok (.ireturn, 1) := by decide +kernel
set_option maxHeartbeats 4000000 in
set_option maxRecDepth 100000 in
theorem c_X12_saint (l : Launch) (D : va_G) (K : Nat → ClassId) (m0 al ah : Nat) (fm : List Value) (hmn : fm.length = 51) (hm16 : fm[16]? = some (.ref al)) (hm17 : fm[17]? = some (.ref ah)) (fl fh : Nat → Int32) (hfl : ∀ j, fl j = 0) (hfh : ∀ j, fh j = 0) (p0 : Int32) : fn_CI (S := Unit) l D K yX12_saint (fn_ws yX12_saint cX12_saint 4 (some .int)) ({ frames := 12, cells := 0, slots := 0, locals := 300 }) [.ref m0, .int p0] [(m0, .inr (12, fm)), (al, .inl (K 0, 5, .inl fl)), (ah, .inl (K 0, 40, .inl fh))] (fun r _ => r = (-2)) (fun _ => []) 0 0 := by
  refine fn_inI (cc := cX12_saint) (maxL := 4) (ret := (some .int)) (by decide) rfl (Nat.le_of_ble_eq_true rfl) ?_
  intro p e s m below meth c A ls B hA hP hD hS hl
  obtain ⟨hx, hb, hr, hml, hts, hown, hlocks, hin, hK⟩ := B
  have hown : s.vm.findClass RX12 = some m.cls := hown
  have hts := fun w h => hts w (List.mem_cons_of_mem _ h)
  have hl : lv_has ls 4 [(0, .ref m0), (1, .int p0)] := hl
  refine lv_aload_n hx hb dX12_saint_0 rfl (lv_at hl 0 rfl) ?_
  refine lv_iconst (v := 0) hx hb dX12_saint_1 (by decide) ?_
  refine va_put (D := D) (own := RX12) (ci := 12) (v := .int 0) (ty := .int) (C := RX12) (T := TX12) (N := 51) hx hb hts inb_X12 tyX12 tyX12_ok nmX12 hown hK.1 hP hD hS 0 rfl rfl 0 (by decide) (hts _ wd_1234) (fun _ h9 => h9) rfl (by decide +kernel) rfl rfl (fn_kl hmn (by decide)) dX12_saint_2 (fun H locs hP hD hS => ?_)
  have hP : va_P D vwCl [(m0, .inr (12, fm.set 0 (.int 0))), (al, .inl (K 0, 5, .inl fl)), (ah, .inl (K 0, 40, .inl fh))] H := hP
  have hD : va_D A [(m0, .inr (12, fm.set 0 (.int 0))), (al, .inl (K 0, 5, .inl fl)), (ah, .inl (K 0, 40, .inl fh))] := hD
  refine lv_aload_n hx hb dX12_saint_5 rfl (lv_at hl 0 rfl) ?_
  refine fn_goi (wc := [(m0, .inr (12, fm.set 0 (.int 0))), (al, .inl (K 0, 5, .inl fl)), (ah, .inl (K 0, 40, .inl fh))]) (wr := []) hK hP hD hS hA [0, 1, 2] [] rfl rfl (by decide) (fun hp => va_runV (C := RX12) (As := []) (rest := []) ⟨hx, hb, hml, hown, hts⟩ (c_X12_isTown (l := l) (D := D) (K := K) (m0 := (m0)) (fm := (fm.set 0 (.int 0))) (hmn := (fn_sl hmn)) (al := (al)) (hm16 := (fn_gs (by decide) hm16)) (ah := (ah)) (hm17 := (fn_gs (by decide) hm17)) (fl := (fl)) (hfl := hfl) (fh := (fh)) (hfh := hfh) _) (cwV 0 hts (fn_ginV (fn_gin wd_1599) wd_1596 wd_1598 wp_124 wd_13) rfl rfl rfl (by decide +kernel) ⟨Nat.le_of_ble_eq_true rfl, Nat.le_of_ble_eq_true rfl⟩) ⟨fn_blind, va_recv hK.1 hP (ci := 12) (q0 := 0) rfl rfl, hp⟩ rfl rfl hl.1 rfl (lv_room (Nat.le_of_ble_eq_true rfl)) dX12_saint_6 ⟨Nat.le_of_ble_eq_true rfl, Nat.le_of_ble_eq_true rfl⟩) (fun r2 u1 H locs hwu1 hP hD hS => ?_)
  have r2_e : r2 = 0 := hwu1
  subst r2_e
  have hP : va_P D vwCl [] H := hP
  have hD : va_D A [] := hD
  refine lv_if_eq (tgt := 24) hx hb dX12_saint_9 (by decide) (fun _ => ?_) (fun h9 => absurd (by decide) h9)
  refine lv_bipush (v := (-2)) hx hb dX12_saint_24 (by decide) ?_
  exact fn_iret hx hb hr hlocks rfl hP hD hS () (by first | rfl | decide) [] (by decide) rfl dX12_saint_26
theorem dX12_famous_0 : decode cX12_famous 0 = .ok (.aload_n 0, 1) := by decide +kernel
theorem dX12_famous_1 : decode cX12_famous 1 = .ok (.iconst 0, 1) := by decide +kernel
theorem dX12_famous_2 : decode cX12_famous 2 = .ok (.putfield 104, 3) := by decide +kernel
theorem dX12_famous_5 : decode cX12_famous 5 = .ok (.aload_n 0, 1) := by decide +kernel
theorem dX12_famous_6 : decode cX12_famous 6 = .ok (.invokevirtual 267, 3) := by decide +kernel
theorem dX12_famous_9 : decode cX12_famous 9 = .ok (.ifCond .eq 13, 3) := by decide +kernel
theorem dX12_famous_22 : decode cX12_famous 22 = .ok (.bipush (-2), 2) := by decide +kernel
theorem dX12_famous_24 : decode cX12_famous 24 = .ok (.ireturn, 1) := by decide +kernel
set_option maxHeartbeats 4000000 in
set_option maxRecDepth 100000 in
theorem c_X12_famous (l : Launch) (D : va_G) (K : Nat → ClassId) (m0 al ah : Nat) (fm : List Value) (hmn : fm.length = 51) (hm16 : fm[16]? = some (.ref al)) (hm17 : fm[17]? = some (.ref ah)) (fl fh : Nat → Int32) (hfl : ∀ j, fl j = 0) (hfh : ∀ j, fh j = 0) (p0 : Int32) : fn_CI (S := Unit) l D K yX12_famous (fn_ws yX12_famous cX12_famous 5 (some .int)) ({ frames := 12, cells := 0, slots := 0, locals := 300 }) [.ref m0, .int p0] [(m0, .inr (12, fm)), (al, .inl (K 0, 5, .inl fl)), (ah, .inl (K 0, 40, .inl fh))] (fun r _ => r = (-2)) (fun _ => []) 0 0 := by
  refine fn_inI (cc := cX12_famous) (maxL := 5) (ret := (some .int)) (by decide) rfl (Nat.le_of_ble_eq_true rfl) ?_
  intro p e s m below meth c A ls B hA hP hD hS hl
  obtain ⟨hx, hb, hr, hml, hts, hown, hlocks, hin, hK⟩ := B
  have hown : s.vm.findClass RX12 = some m.cls := hown
  have hts := fun w h => hts w (List.mem_cons_of_mem _ h)
  have hl : lv_has ls 5 [(0, .ref m0), (1, .int p0)] := hl
  refine lv_aload_n hx hb dX12_famous_0 rfl (lv_at hl 0 rfl) ?_
  refine lv_iconst (v := 0) hx hb dX12_famous_1 (by decide) ?_
  refine va_put (D := D) (own := RX12) (ci := 12) (v := .int 0) (ty := .int) (C := RX12) (T := TX12) (N := 51) hx hb hts inb_X12 tyX12 tyX12_ok nmX12 hown hK.1 hP hD hS 0 rfl rfl 0 (by decide) (hts _ wd_1234) (fun _ h9 => h9) rfl (by decide +kernel) rfl rfl (fn_kl hmn (by decide)) dX12_famous_2 (fun H locs hP hD hS => ?_)
  have hP : va_P D vwCl [(m0, .inr (12, fm.set 0 (.int 0))), (al, .inl (K 0, 5, .inl fl)), (ah, .inl (K 0, 40, .inl fh))] H := hP
  have hD : va_D A [(m0, .inr (12, fm.set 0 (.int 0))), (al, .inl (K 0, 5, .inl fl)), (ah, .inl (K 0, 40, .inl fh))] := hD
  refine lv_aload_n hx hb dX12_famous_5 rfl (lv_at hl 0 rfl) ?_
  refine fn_goi (wc := [(m0, .inr (12, fm.set 0 (.int 0))), (al, .inl (K 0, 5, .inl fl)), (ah, .inl (K 0, 40, .inl fh))]) (wr := []) hK hP hD hS hA [0, 1, 2] [] rfl rfl (by decide) (fun hp => va_runV (C := RX12) (As := []) (rest := []) ⟨hx, hb, hml, hown, hts⟩ (c_X12_isTown (l := l) (D := D) (K := K) (m0 := (m0)) (fm := (fm.set 0 (.int 0))) (hmn := (fn_sl hmn)) (al := (al)) (hm16 := (fn_gs (by decide) hm16)) (ah := (ah)) (hm17 := (fn_gs (by decide) hm17)) (fl := (fl)) (hfl := hfl) (fh := (fh)) (hfh := hfh) _) (cwV 0 hts (fn_ginV (fn_gin wd_1599) wd_1596 wd_1598 wp_124 wd_13) rfl rfl rfl (by decide +kernel) ⟨Nat.le_of_ble_eq_true rfl, Nat.le_of_ble_eq_true rfl⟩) ⟨fn_blind, va_recv hK.1 hP (ci := 12) (q0 := 0) rfl rfl, hp⟩ rfl rfl hl.1 rfl (lv_room (Nat.le_of_ble_eq_true rfl)) dX12_famous_6 ⟨Nat.le_of_ble_eq_true rfl, Nat.le_of_ble_eq_true rfl⟩) (fun r2 u1 H locs hwu1 hP hD hS => ?_)
  have r2_e : r2 = 0 := hwu1
  subst r2_e
  have hP : va_P D vwCl [] H := hP
  have hD : va_D A [] := hD
  refine lv_if_eq (tgt := 22) hx hb dX12_famous_9 (by decide) (fun _ => ?_) (fun h9 => absurd (by decide) h9)
  refine lv_bipush (v := (-2)) hx hb dX12_famous_22 (by decide) ?_
  exact fn_iret hx hb hr hlocks rfl hP hD hS () (by first | rfl | decide) [] (by decide) rfl dX12_famous_24
theorem dX12_cited_0 : decode cX12_cited 0 = .ok (.aload_n 0, 1) := by decide +kernel
theorem dX12_cited_1 : decode cX12_cited 1 = .ok (.iconst 0, 1) := by decide +kernel
theorem dX12_cited_2 : decode cX12_cited 2 = .ok (.putfield 104, 3) := by decide +kernel
theorem dX12_cited_5 : decode cX12_cited 5 = .ok (.aload_n 0, 1) := by decide +kernel
theorem dX12_cited_6 : decode cX12_cited 6 = .ok (.invokevirtual 267, 3) := by decide +kernel
theorem dX12_cited_9 : decode cX12_cited 9 = .ok (.ifCond .eq 10, 3) := by decide +kernel
theorem dX12_cited_19 : decode cX12_cited 19 = .ok (.bipush (-2), 2) := by decide +kernel
theorem dX12_cited_21 : decode cX12_cited 21 = .ok (.ireturn, 1) := by decide +kernel
set_option maxHeartbeats 4000000 in
set_option maxRecDepth 100000 in
theorem c_X12_cited (l : Launch) (D : va_G) (K : Nat → ClassId) (m0 al ah : Nat) (fm : List Value) (hmn : fm.length = 51) (hm16 : fm[16]? = some (.ref al)) (hm17 : fm[17]? = some (.ref ah)) (fl fh : Nat → Int32) (hfl : ∀ j, fl j = 0) (hfh : ∀ j, fh j = 0) (p0 : Int32) : fn_CI (S := Unit) l D K yX12_cited (fn_ws yX12_cited cX12_cited 2 (some .int)) ({ frames := 12, cells := 0, slots := 0, locals := 300 }) [.ref m0, .int p0] [(m0, .inr (12, fm)), (al, .inl (K 0, 5, .inl fl)), (ah, .inl (K 0, 40, .inl fh))] (fun r _ => r = (-2)) (fun _ => []) 0 0 := by
  refine fn_inI (cc := cX12_cited) (maxL := 2) (ret := (some .int)) (by decide) rfl (Nat.le_of_ble_eq_true rfl) ?_
  intro p e s m below meth c A ls B hA hP hD hS hl
  obtain ⟨hx, hb, hr, hml, hts, hown, hlocks, hin, hK⟩ := B
  have hown : s.vm.findClass RX12 = some m.cls := hown
  have hts := fun w h => hts w (List.mem_cons_of_mem _ h)
  have hl : lv_has ls 2 [(0, .ref m0), (1, .int p0)] := hl
  refine lv_aload_n hx hb dX12_cited_0 rfl (lv_at hl 0 rfl) ?_
  refine lv_iconst (v := 0) hx hb dX12_cited_1 (by decide) ?_
  refine va_put (D := D) (own := RX12) (ci := 12) (v := .int 0) (ty := .int) (C := RX12) (T := TX12) (N := 51) hx hb hts inb_X12 tyX12 tyX12_ok nmX12 hown hK.1 hP hD hS 0 rfl rfl 0 (by decide) (hts _ wd_1234) (fun _ h9 => h9) rfl (by decide +kernel) rfl rfl (fn_kl hmn (by decide)) dX12_cited_2 (fun H locs hP hD hS => ?_)
  have hP : va_P D vwCl [(m0, .inr (12, fm.set 0 (.int 0))), (al, .inl (K 0, 5, .inl fl)), (ah, .inl (K 0, 40, .inl fh))] H := hP
  have hD : va_D A [(m0, .inr (12, fm.set 0 (.int 0))), (al, .inl (K 0, 5, .inl fl)), (ah, .inl (K 0, 40, .inl fh))] := hD
  refine lv_aload_n hx hb dX12_cited_5 rfl (lv_at hl 0 rfl) ?_
  refine fn_goi (wc := [(m0, .inr (12, fm.set 0 (.int 0))), (al, .inl (K 0, 5, .inl fl)), (ah, .inl (K 0, 40, .inl fh))]) (wr := []) hK hP hD hS hA [0, 1, 2] [] rfl rfl (by decide) (fun hp => va_runV (C := RX12) (As := []) (rest := []) ⟨hx, hb, hml, hown, hts⟩ (c_X12_isTown (l := l) (D := D) (K := K) (m0 := (m0)) (fm := (fm.set 0 (.int 0))) (hmn := (fn_sl hmn)) (al := (al)) (hm16 := (fn_gs (by decide) hm16)) (ah := (ah)) (hm17 := (fn_gs (by decide) hm17)) (fl := (fl)) (hfl := hfl) (fh := (fh)) (hfh := hfh) _) (cwV 0 hts (fn_ginV (fn_gin wd_1599) wd_1596 wd_1598 wp_124 wd_13) rfl rfl rfl (by decide +kernel) ⟨Nat.le_of_ble_eq_true rfl, Nat.le_of_ble_eq_true rfl⟩) ⟨fn_blind, va_recv hK.1 hP (ci := 12) (q0 := 0) rfl rfl, hp⟩ rfl rfl hl.1 rfl (lv_room (Nat.le_of_ble_eq_true rfl)) dX12_cited_6 ⟨Nat.le_of_ble_eq_true rfl, Nat.le_of_ble_eq_true rfl⟩) (fun r2 u1 H locs hwu1 hP hD hS => ?_)
  have r2_e : r2 = 0 := hwu1
  subst r2_e
  have hP : va_P D vwCl [] H := hP
  have hD : va_D A [] := hD
  refine lv_if_eq (tgt := 19) hx hb dX12_cited_9 (by decide) (fun _ => ?_) (fun h9 => absurd (by decide) h9)
  refine lv_bipush (v := (-2)) hx hb dX12_cited_19 (by decide) ?_
  exact fn_iret hx hb hr hlocks rfl hP hD hS () (by first | rfl | decide) [] (by decide) rfl dX12_cited_21
theorem dX12_quotes_0 : decode cX12_quotes 0 = .ok (.aload_n 0, 1) := by decide +kernel
theorem dX12_quotes_1 : decode cX12_quotes 1 = .ok (.iconst 0, 1) := by decide +kernel
theorem dX12_quotes_2 : decode cX12_quotes 2 = .ok (.putfield 104, 3) := by decide +kernel
theorem dX12_quotes_5 : decode cX12_quotes 5 = .ok (.aload_n 0, 1) := by decide +kernel
theorem dX12_quotes_6 : decode cX12_quotes 6 = .ok (.invokevirtual 267, 3) := by decide +kernel
theorem dX12_quotes_9 : decode cX12_quotes 9 = .ok (.ifCond .eq 17, 3) := by decide +kernel
theorem dX12_quotes_26 : decode cX12_quotes 26 = .ok (.bipush (-2), 2) := by decide +kernel
theorem dX12_quotes_28 : decode cX12_quotes 28 = .ok (.ireturn, 1) := by decide +kernel
set_option maxHeartbeats 4000000 in
set_option maxRecDepth 100000 in
theorem c_X12_quotes (l : Launch) (D : va_G) (K : Nat → ClassId) (m0 al ah : Nat) (fm : List Value) (hmn : fm.length = 51) (hm16 : fm[16]? = some (.ref al)) (hm17 : fm[17]? = some (.ref ah)) (fl fh : Nat → Int32) (hfl : ∀ j, fl j = 0) (hfh : ∀ j, fh j = 0) (p0 p1 : Int32) : fn_CI (S := Unit) l D K yX12_quotes (fn_ws yX12_quotes cX12_quotes 5 (some .int)) ({ frames := 12, cells := 0, slots := 0, locals := 300 }) [.ref m0, .int p0, .int p1] [(m0, .inr (12, fm)), (al, .inl (K 0, 5, .inl fl)), (ah, .inl (K 0, 40, .inl fh))] (fun r _ => r = (-2)) (fun _ => []) 0 0 := by
  refine fn_inI (cc := cX12_quotes) (maxL := 5) (ret := (some .int)) (by decide) rfl (Nat.le_of_ble_eq_true rfl) ?_
  intro p e s m below meth c A ls B hA hP hD hS hl
  obtain ⟨hx, hb, hr, hml, hts, hown, hlocks, hin, hK⟩ := B
  have hown : s.vm.findClass RX12 = some m.cls := hown
  have hts := fun w h => hts w (List.mem_cons_of_mem _ h)
  have hl : lv_has ls 5 [(0, .ref m0), (1, .int p0), (2, .int p1)] := hl
  refine lv_aload_n hx hb dX12_quotes_0 rfl (lv_at hl 0 rfl) ?_
  refine lv_iconst (v := 0) hx hb dX12_quotes_1 (by decide) ?_
  refine va_put (D := D) (own := RX12) (ci := 12) (v := .int 0) (ty := .int) (C := RX12) (T := TX12) (N := 51) hx hb hts inb_X12 tyX12 tyX12_ok nmX12 hown hK.1 hP hD hS 0 rfl rfl 0 (by decide) (hts _ wd_1234) (fun _ h9 => h9) rfl (by decide +kernel) rfl rfl (fn_kl hmn (by decide)) dX12_quotes_2 (fun H locs hP hD hS => ?_)
  have hP : va_P D vwCl [(m0, .inr (12, fm.set 0 (.int 0))), (al, .inl (K 0, 5, .inl fl)), (ah, .inl (K 0, 40, .inl fh))] H := hP
  have hD : va_D A [(m0, .inr (12, fm.set 0 (.int 0))), (al, .inl (K 0, 5, .inl fl)), (ah, .inl (K 0, 40, .inl fh))] := hD
  refine lv_aload_n hx hb dX12_quotes_5 rfl (lv_at hl 0 rfl) ?_
  refine fn_goi (wc := [(m0, .inr (12, fm.set 0 (.int 0))), (al, .inl (K 0, 5, .inl fl)), (ah, .inl (K 0, 40, .inl fh))]) (wr := []) hK hP hD hS hA [0, 1, 2] [] rfl rfl (by decide) (fun hp => va_runV (C := RX12) (As := []) (rest := []) ⟨hx, hb, hml, hown, hts⟩ (c_X12_isTown (l := l) (D := D) (K := K) (m0 := (m0)) (fm := (fm.set 0 (.int 0))) (hmn := (fn_sl hmn)) (al := (al)) (hm16 := (fn_gs (by decide) hm16)) (ah := (ah)) (hm17 := (fn_gs (by decide) hm17)) (fl := (fl)) (hfl := hfl) (fh := (fh)) (hfh := hfh) _) (cwV 0 hts (fn_ginV (fn_gin wd_1599) wd_1596 wd_1598 wp_124 wd_13) rfl rfl rfl (by decide +kernel) ⟨Nat.le_of_ble_eq_true rfl, Nat.le_of_ble_eq_true rfl⟩) ⟨fn_blind, va_recv hK.1 hP (ci := 12) (q0 := 0) rfl rfl, hp⟩ rfl rfl hl.1 rfl (lv_room (Nat.le_of_ble_eq_true rfl)) dX12_quotes_6 ⟨Nat.le_of_ble_eq_true rfl, Nat.le_of_ble_eq_true rfl⟩) (fun r2 u1 H locs hwu1 hP hD hS => ?_)
  have r2_e : r2 = 0 := hwu1
  subst r2_e
  have hP : va_P D vwCl [] H := hP
  have hD : va_D A [] := hD
  refine lv_if_eq (tgt := 26) hx hb dX12_quotes_9 (by decide) (fun _ => ?_) (fun h9 => absurd (by decide) h9)
  refine lv_bipush (v := (-2)) hx hb dX12_quotes_26 (by decide) ?_
  exact fn_iret hx hb hr hlocks rfl hP hD hS () (by first | rfl | decide) [] (by decide) rfl dX12_quotes_28
theorem dX12_holds_0 : decode cX12_holds 0 = .ok (.aload_n 0, 1) := by decide +kernel
theorem dX12_holds_1 : decode cX12_holds 1 = .ok (.iconst 0, 1) := by decide +kernel
theorem dX12_holds_2 : decode cX12_holds 2 = .ok (.putfield 104, 3) := by decide +kernel
theorem dX12_holds_5 : decode cX12_holds 5 = .ok (.aload_n 0, 1) := by decide +kernel
theorem dX12_holds_6 : decode cX12_holds 6 = .ok (.iload_n 1, 1) := by decide +kernel
theorem dX12_holds_7 : decode cX12_holds 7 = .ok (.invokevirtual 327, 3) := by decide +kernel
theorem dX12_holds_10 : decode cX12_holds 10 = .ok (.ifCond .ne 6, 3) := by decide +kernel
theorem dX12_holds_13 : decode cX12_holds 13 = .ok (.bipush (-2), 2) := by decide +kernel
theorem dX12_holds_15 : decode cX12_holds 15 = .ok (.ireturn, 1) := by decide +kernel
set_option maxHeartbeats 4000000 in
set_option maxRecDepth 100000 in
theorem c_X12_holds (l : Launch) (D : va_G) (K : Nat → ClassId) (m0 al ah : Nat) (fm : List Value) (hmn : fm.length = 51) (hm16 : fm[16]? = some (.ref al)) (hm17 : fm[17]? = some (.ref ah)) (fl fh : Nat → Int32) (hfl : ∀ j, fl j = 0) (hfh : ∀ j, fh j = 0) (p0 : Int32) : fn_CI (S := Unit) l D K yX12_holds (fn_ws yX12_holds cX12_holds 2 (some .int)) ({ frames := 16, cells := 0, slots := 0, locals := 400 }) [.ref m0, .int p0] [(m0, .inr (12, fm)), (al, .inl (K 0, 5, .inl fl)), (ah, .inl (K 0, 40, .inl fh))] (fun r _ => r = (-2)) (fun _ => []) 0 0 := by
  refine fn_inI (cc := cX12_holds) (maxL := 2) (ret := (some .int)) (by decide) rfl (Nat.le_of_ble_eq_true rfl) ?_
  intro p e s m below meth c A ls B hA hP hD hS hl
  obtain ⟨hx, hb, hr, hml, hts, hown, hlocks, hin, hK⟩ := B
  have hown : s.vm.findClass RX12 = some m.cls := hown
  have hts := fun w h => hts w (List.mem_cons_of_mem _ h)
  have hl : lv_has ls 2 [(0, .ref m0), (1, .int p0)] := hl
  refine lv_aload_n hx hb dX12_holds_0 rfl (lv_at hl 0 rfl) ?_
  refine lv_iconst (v := 0) hx hb dX12_holds_1 (by decide) ?_
  refine va_put (D := D) (own := RX12) (ci := 12) (v := .int 0) (ty := .int) (C := RX12) (T := TX12) (N := 51) hx hb hts inb_X12 tyX12 tyX12_ok nmX12 hown hK.1 hP hD hS 0 rfl rfl 0 (by decide) (hts _ wd_1234) (fun _ h9 => h9) rfl (by decide +kernel) rfl rfl (fn_kl hmn (by decide)) dX12_holds_2 (fun H locs hP hD hS => ?_)
  have hP : va_P D vwCl [(m0, .inr (12, fm.set 0 (.int 0))), (al, .inl (K 0, 5, .inl fl)), (ah, .inl (K 0, 40, .inl fh))] H := hP
  have hD : va_D A [(m0, .inr (12, fm.set 0 (.int 0))), (al, .inl (K 0, 5, .inl fl)), (ah, .inl (K 0, 40, .inl fh))] := hD
  refine lv_aload_n hx hb dX12_holds_5 rfl (lv_at hl 0 rfl) ?_
  refine lv_iload_n hx hb dX12_holds_6 rfl (lv_at hl 1 rfl) ?_
  refine fn_goi (wc := [(m0, .inr (12, fm.set 0 (.int 0))), (al, .inl (K 0, 5, .inl fl)), (ah, .inl (K 0, 40, .inl fh))]) (wr := []) hK hP hD hS hA [0, 1, 2] [] rfl rfl (by decide) (fun hp => va_runV (C := RX12) (As := [.int p0]) (rest := []) ⟨hx, hb, hml, hown, hts⟩ (c_X12_isSet (l := l) (D := D) (K := K) (m0 := (m0)) (p0 := (p0)) (fm := (fm.set 0 (.int 0))) (hmn := (fn_sl hmn)) (al := (al)) (hm16 := (fn_gs (by decide) hm16)) (ah := (ah)) (hm17 := (fn_gs (by decide) hm17)) (fl := (fl)) (hfl := hfl) (fh := (fh)) (hfh := hfh) _) (cwV 1 hts (fn_ginV (fn_gin wd_1731) wd_1728 wd_1730 wp_135 wd_13) rfl rfl rfl (by decide +kernel) ⟨Nat.le_of_ble_eq_true rfl, Nat.le_of_ble_eq_true rfl⟩) ⟨fn_blind, va_recv hK.1 hP (ci := 12) (q0 := 0) rfl rfl, hp⟩ rfl rfl hl.1 rfl (lv_room (Nat.le_of_ble_eq_true rfl)) dX12_holds_7 ⟨Nat.le_of_ble_eq_true rfl, Nat.le_of_ble_eq_true rfl⟩) (fun r2 u1 H locs hwu1 hP hD hS => ?_)
  have r2_e : r2 = 0 := hwu1
  subst r2_e
  have hP : va_P D vwCl [] H := hP
  have hD : va_D A [] := hD
  refine lv_if_ne (tgt := 16) hx hb dX12_holds_10 (by decide) (fun h9 => absurd rfl h9) (fun _ => ?_)
  refine lv_bipush (v := (-2)) hx hb dX12_holds_13 (by decide) ?_
  exact fn_iret hx hb hr hlocks rfl hP hD hS () (by first | rfl | decide) [] (by decide) rfl dX12_holds_15
theorem dX12_loose_0 : decode cX12_loose 0 = .ok (.aload_n 0, 1) := by decide +kernel
theorem dX12_loose_1 : decode cX12_loose 1 = .ok (.iconst 0, 1) := by decide +kernel
theorem dX12_loose_2 : decode cX12_loose 2 = .ok (.putfield 104, 3) := by decide +kernel
theorem dX12_loose_5 : decode cX12_loose 5 = .ok (.aload_n 0, 1) := by decide +kernel
theorem dX12_loose_6 : decode cX12_loose 6 = .ok (.iload_n 1, 1) := by decide +kernel
theorem dX12_loose_7 : decode cX12_loose 7 = .ok (.invokevirtual 327, 3) := by decide +kernel
theorem dX12_loose_10 : decode cX12_loose 10 = .ok (.ifCond .ne 6, 3) := by decide +kernel
theorem dX12_loose_13 : decode cX12_loose 13 = .ok (.bipush (-2), 2) := by decide +kernel
theorem dX12_loose_15 : decode cX12_loose 15 = .ok (.ireturn, 1) := by decide +kernel
set_option maxHeartbeats 4000000 in
set_option maxRecDepth 100000 in
theorem c_X12_loose (l : Launch) (D : va_G) (K : Nat → ClassId) (m0 al ah : Nat) (fm : List Value) (hmn : fm.length = 51) (hm16 : fm[16]? = some (.ref al)) (hm17 : fm[17]? = some (.ref ah)) (fl fh : Nat → Int32) (hfl : ∀ j, fl j = 0) (hfh : ∀ j, fh j = 0) (p0 : Int32) : fn_CI (S := Unit) l D K yX12_loose (fn_ws yX12_loose cX12_loose 2 (some .int)) ({ frames := 16, cells := 0, slots := 0, locals := 400 }) [.ref m0, .int p0] [(m0, .inr (12, fm)), (al, .inl (K 0, 5, .inl fl)), (ah, .inl (K 0, 40, .inl fh))] (fun r _ => r = (-2)) (fun _ => []) 0 0 := by
  refine fn_inI (cc := cX12_loose) (maxL := 2) (ret := (some .int)) (by decide) rfl (Nat.le_of_ble_eq_true rfl) ?_
  intro p e s m below meth c A ls B hA hP hD hS hl
  obtain ⟨hx, hb, hr, hml, hts, hown, hlocks, hin, hK⟩ := B
  have hown : s.vm.findClass RX12 = some m.cls := hown
  have hts := fun w h => hts w (List.mem_cons_of_mem _ h)
  have hl : lv_has ls 2 [(0, .ref m0), (1, .int p0)] := hl
  refine lv_aload_n hx hb dX12_loose_0 rfl (lv_at hl 0 rfl) ?_
  refine lv_iconst (v := 0) hx hb dX12_loose_1 (by decide) ?_
  refine va_put (D := D) (own := RX12) (ci := 12) (v := .int 0) (ty := .int) (C := RX12) (T := TX12) (N := 51) hx hb hts inb_X12 tyX12 tyX12_ok nmX12 hown hK.1 hP hD hS 0 rfl rfl 0 (by decide) (hts _ wd_1234) (fun _ h9 => h9) rfl (by decide +kernel) rfl rfl (fn_kl hmn (by decide)) dX12_loose_2 (fun H locs hP hD hS => ?_)
  have hP : va_P D vwCl [(m0, .inr (12, fm.set 0 (.int 0))), (al, .inl (K 0, 5, .inl fl)), (ah, .inl (K 0, 40, .inl fh))] H := hP
  have hD : va_D A [(m0, .inr (12, fm.set 0 (.int 0))), (al, .inl (K 0, 5, .inl fl)), (ah, .inl (K 0, 40, .inl fh))] := hD
  refine lv_aload_n hx hb dX12_loose_5 rfl (lv_at hl 0 rfl) ?_
  refine lv_iload_n hx hb dX12_loose_6 rfl (lv_at hl 1 rfl) ?_
  refine fn_goi (wc := [(m0, .inr (12, fm.set 0 (.int 0))), (al, .inl (K 0, 5, .inl fl)), (ah, .inl (K 0, 40, .inl fh))]) (wr := []) hK hP hD hS hA [0, 1, 2] [] rfl rfl (by decide) (fun hp => va_runV (C := RX12) (As := [.int p0]) (rest := []) ⟨hx, hb, hml, hown, hts⟩ (c_X12_isSet (l := l) (D := D) (K := K) (m0 := (m0)) (p0 := (p0)) (fm := (fm.set 0 (.int 0))) (hmn := (fn_sl hmn)) (al := (al)) (hm16 := (fn_gs (by decide) hm16)) (ah := (ah)) (hm17 := (fn_gs (by decide) hm17)) (fl := (fl)) (hfl := hfl) (fh := (fh)) (hfh := hfh) _) (cwV 1 hts (fn_ginV (fn_gin wd_1731) wd_1728 wd_1730 wp_135 wd_13) rfl rfl rfl (by decide +kernel) ⟨Nat.le_of_ble_eq_true rfl, Nat.le_of_ble_eq_true rfl⟩) ⟨fn_blind, va_recv hK.1 hP (ci := 12) (q0 := 0) rfl rfl, hp⟩ rfl rfl hl.1 rfl (lv_room (Nat.le_of_ble_eq_true rfl)) dX12_loose_7 ⟨Nat.le_of_ble_eq_true rfl, Nat.le_of_ble_eq_true rfl⟩) (fun r2 u1 H locs hwu1 hP hD hS => ?_)
  have r2_e : r2 = 0 := hwu1
  subst r2_e
  have hP : va_P D vwCl [] H := hP
  have hD : va_D A [] := hD
  refine lv_if_ne (tgt := 16) hx hb dX12_loose_10 (by decide) (fun h9 => absurd rfl h9) (fun _ => ?_)
  refine lv_bipush (v := (-2)) hx hb dX12_loose_13 (by decide) ?_
  exact fn_iret hx hb hr hlocks rfl hP hD hS () (by first | rfl | decide) [] (by decide) rfl dX12_loose_15
theorem dX12_loosely_0 : decode cX12_loosely 0 = .ok (.aload_n 0, 1) := by decide +kernel
theorem dX12_loosely_1 : decode cX12_loosely 1 = .ok (.iconst 0, 1) := by decide +kernel
theorem dX12_loosely_2 : decode cX12_loosely 2 = .ok (.putfield 104, 3) := by decide +kernel
theorem dX12_loosely_5 : decode cX12_loosely 5 = .ok (.aload_n 0, 1) := by decide +kernel
theorem dX12_loosely_6 : decode cX12_loosely 6 = .ok (.iload_n 1, 1) := by decide +kernel
theorem dX12_loosely_7 : decode cX12_loosely 7 = .ok (.invokevirtual 327, 3) := by decide +kernel
theorem dX12_loosely_10 : decode cX12_loosely 10 = .ok (.ifCond .eq 11, 3) := by decide +kernel
theorem dX12_loosely_21 : decode cX12_loosely 21 = .ok (.bipush (-2), 2) := by decide +kernel
theorem dX12_loosely_23 : decode cX12_loosely 23 = .ok (.ireturn, 1) := by decide +kernel
set_option maxHeartbeats 4000000 in
set_option maxRecDepth 100000 in
theorem c_X12_loosely (l : Launch) (D : va_G) (K : Nat → ClassId) (m0 al ah : Nat) (fm : List Value) (hmn : fm.length = 51) (hm16 : fm[16]? = some (.ref al)) (hm17 : fm[17]? = some (.ref ah)) (fl fh : Nat → Int32) (hfl : ∀ j, fl j = 0) (hfh : ∀ j, fh j = 0) (p0 : Int32) : fn_CI (S := Unit) l D K yX12_loosely (fn_ws yX12_loosely cX12_loosely 2 (some .int)) ({ frames := 16, cells := 0, slots := 0, locals := 400 }) [.ref m0, .int p0] [(m0, .inr (12, fm)), (al, .inl (K 0, 5, .inl fl)), (ah, .inl (K 0, 40, .inl fh))] (fun r _ => r = (-2)) (fun _ => []) 0 0 := by
  refine fn_inI (cc := cX12_loosely) (maxL := 2) (ret := (some .int)) (by decide) rfl (Nat.le_of_ble_eq_true rfl) ?_
  intro p e s m below meth c A ls B hA hP hD hS hl
  obtain ⟨hx, hb, hr, hml, hts, hown, hlocks, hin, hK⟩ := B
  have hown : s.vm.findClass RX12 = some m.cls := hown
  have hts := fun w h => hts w (List.mem_cons_of_mem _ h)
  have hl : lv_has ls 2 [(0, .ref m0), (1, .int p0)] := hl
  refine lv_aload_n hx hb dX12_loosely_0 rfl (lv_at hl 0 rfl) ?_
  refine lv_iconst (v := 0) hx hb dX12_loosely_1 (by decide) ?_
  refine va_put (D := D) (own := RX12) (ci := 12) (v := .int 0) (ty := .int) (C := RX12) (T := TX12) (N := 51) hx hb hts inb_X12 tyX12 tyX12_ok nmX12 hown hK.1 hP hD hS 0 rfl rfl 0 (by decide) (hts _ wd_1234) (fun _ h9 => h9) rfl (by decide +kernel) rfl rfl (fn_kl hmn (by decide)) dX12_loosely_2 (fun H locs hP hD hS => ?_)
  have hP : va_P D vwCl [(m0, .inr (12, fm.set 0 (.int 0))), (al, .inl (K 0, 5, .inl fl)), (ah, .inl (K 0, 40, .inl fh))] H := hP
  have hD : va_D A [(m0, .inr (12, fm.set 0 (.int 0))), (al, .inl (K 0, 5, .inl fl)), (ah, .inl (K 0, 40, .inl fh))] := hD
  refine lv_aload_n hx hb dX12_loosely_5 rfl (lv_at hl 0 rfl) ?_
  refine lv_iload_n hx hb dX12_loosely_6 rfl (lv_at hl 1 rfl) ?_
  refine fn_goi (wc := [(m0, .inr (12, fm.set 0 (.int 0))), (al, .inl (K 0, 5, .inl fl)), (ah, .inl (K 0, 40, .inl fh))]) (wr := []) hK hP hD hS hA [0, 1, 2] [] rfl rfl (by decide) (fun hp => va_runV (C := RX12) (As := [.int p0]) (rest := []) ⟨hx, hb, hml, hown, hts⟩ (c_X12_isSet (l := l) (D := D) (K := K) (m0 := (m0)) (p0 := (p0)) (fm := (fm.set 0 (.int 0))) (hmn := (fn_sl hmn)) (al := (al)) (hm16 := (fn_gs (by decide) hm16)) (ah := (ah)) (hm17 := (fn_gs (by decide) hm17)) (fl := (fl)) (hfl := hfl) (fh := (fh)) (hfh := hfh) _) (cwV 1 hts (fn_ginV (fn_gin wd_1731) wd_1728 wd_1730 wp_135 wd_13) rfl rfl rfl (by decide +kernel) ⟨Nat.le_of_ble_eq_true rfl, Nat.le_of_ble_eq_true rfl⟩) ⟨fn_blind, va_recv hK.1 hP (ci := 12) (q0 := 0) rfl rfl, hp⟩ rfl rfl hl.1 rfl (lv_room (Nat.le_of_ble_eq_true rfl)) dX12_loosely_7 ⟨Nat.le_of_ble_eq_true rfl, Nat.le_of_ble_eq_true rfl⟩) (fun r2 u1 H locs hwu1 hP hD hS => ?_)
  have r2_e : r2 = 0 := hwu1
  subst r2_e
  have hP : va_P D vwCl [] H := hP
  have hD : va_D A [] := hD
  refine lv_if_eq (tgt := 21) hx hb dX12_loosely_10 (by decide) (fun _ => ?_) (fun h9 => absurd (by decide) h9)
  refine lv_bipush (v := (-2)) hx hb dX12_loosely_21 (by decide) ?_
  exact fn_iret hx hb hr hlocks rfl hP hD hS () (by first | rfl | decide) [] (by decide) rfl dX12_loosely_23
theorem dX12_meets_0 : decode cX12_meets 0 = .ok (.aload_n 0, 1) := by decide +kernel
theorem dX12_meets_1 : decode cX12_meets 1 = .ok (.iconst 0, 1) := by decide +kernel
theorem dX12_meets_2 : decode cX12_meets 2 = .ok (.putfield 104, 3) := by decide +kernel
theorem dX12_meets_5 : decode cX12_meets 5 = .ok (.aload_n 0, 1) := by decide +kernel
theorem dX12_meets_6 : decode cX12_meets 6 = .ok (.iload_n 1, 1) := by decide +kernel
theorem dX12_meets_7 : decode cX12_meets 7 = .ok (.iload_n 2, 1) := by decide +kernel
theorem dX12_meets_8 : decode cX12_meets 8 = .ok (.invokevirtual 417, 3) := by decide +kernel
theorem dX12_meets_11 : decode cX12_meets 11 = .ok (.ifCond .ne 6, 3) := by decide +kernel
theorem dX12_meets_14 : decode cX12_meets 14 = .ok (.bipush (-2), 2) := by decide +kernel
theorem dX12_meets_16 : decode cX12_meets 16 = .ok (.ireturn, 1) := by decide +kernel
set_option maxHeartbeats 4000000 in
set_option maxRecDepth 100000 in
theorem c_X12_meets (l : Launch) (D : va_G) (K : Nat → ClassId) (m0 al ah : Nat) (fm : List Value) (hmn : fm.length = 51) (hm16 : fm[16]? = some (.ref al)) (hm17 : fm[17]? = some (.ref ah)) (fl fh : Nat → Int32) (hfl : ∀ j, fl j = 0) (hfh : ∀ j, fh j = 0) (p0 p1 : Int32) : fn_CI (S := Unit) l D K yX12_meets (fn_ws yX12_meets cX12_meets 3 (some .int)) ({ frames := 16, cells := 0, slots := 0, locals := 400 }) [.ref m0, .int p0, .int p1] [(m0, .inr (12, fm)), (al, .inl (K 0, 5, .inl fl)), (ah, .inl (K 0, 40, .inl fh))] (fun r _ => r = (-2)) (fun _ => []) 0 0 := by
  refine fn_inI (cc := cX12_meets) (maxL := 3) (ret := (some .int)) (by decide) rfl (Nat.le_of_ble_eq_true rfl) ?_
  intro p e s m below meth c A ls B hA hP hD hS hl
  obtain ⟨hx, hb, hr, hml, hts, hown, hlocks, hin, hK⟩ := B
  have hown : s.vm.findClass RX12 = some m.cls := hown
  have hts := fun w h => hts w (List.mem_cons_of_mem _ h)
  have hl : lv_has ls 3 [(0, .ref m0), (1, .int p0), (2, .int p1)] := hl
  refine lv_aload_n hx hb dX12_meets_0 rfl (lv_at hl 0 rfl) ?_
  refine lv_iconst (v := 0) hx hb dX12_meets_1 (by decide) ?_
  refine va_put (D := D) (own := RX12) (ci := 12) (v := .int 0) (ty := .int) (C := RX12) (T := TX12) (N := 51) hx hb hts inb_X12 tyX12 tyX12_ok nmX12 hown hK.1 hP hD hS 0 rfl rfl 0 (by decide) (hts _ wd_1234) (fun _ h9 => h9) rfl (by decide +kernel) rfl rfl (fn_kl hmn (by decide)) dX12_meets_2 (fun H locs hP hD hS => ?_)
  have hP : va_P D vwCl [(m0, .inr (12, fm.set 0 (.int 0))), (al, .inl (K 0, 5, .inl fl)), (ah, .inl (K 0, 40, .inl fh))] H := hP
  have hD : va_D A [(m0, .inr (12, fm.set 0 (.int 0))), (al, .inl (K 0, 5, .inl fl)), (ah, .inl (K 0, 40, .inl fh))] := hD
  refine lv_aload_n hx hb dX12_meets_5 rfl (lv_at hl 0 rfl) ?_
  refine lv_iload_n hx hb dX12_meets_6 rfl (lv_at hl 1 rfl) ?_
  refine lv_iload_n hx hb dX12_meets_7 rfl (lv_at hl 2 rfl) ?_
  refine fn_goi (wc := [(m0, .inr (12, fm.set 0 (.int 0))), (al, .inl (K 0, 5, .inl fl)), (ah, .inl (K 0, 40, .inl fh))]) (wr := []) hK hP hD hS hA [0, 1, 2] [] rfl rfl (by decide) (fun hp => va_runV (C := RX12) (As := [.int p0, .int p1]) (rest := []) ⟨hx, hb, hml, hown, hts⟩ (c_X12_areTwo (l := l) (D := D) (K := K) (m0 := (m0)) (p0 := (p0)) (p1 := (p1)) (fm := (fm.set 0 (.int 0))) (hmn := (fn_sl hmn)) (al := (al)) (hm16 := (fn_gs (by decide) hm16)) (ah := (ah)) (hm17 := (fn_gs (by decide) hm17)) (fl := (fl)) (hfl := hfl) (fh := (fh)) (hfh := hfh) _) (cwV 2 hts (fn_ginV (fn_gin wd_1876) wd_1873 wd_1875 wp_153 wd_13) rfl rfl rfl (by decide +kernel) ⟨Nat.le_of_ble_eq_true rfl, Nat.le_of_ble_eq_true rfl⟩) ⟨fn_blind, va_recv hK.1 hP (ci := 12) (q0 := 0) rfl rfl, hp⟩ rfl rfl hl.1 rfl (lv_room (Nat.le_of_ble_eq_true rfl)) dX12_meets_8 ⟨Nat.le_of_ble_eq_true rfl, Nat.le_of_ble_eq_true rfl⟩) (fun r2 u1 H locs hwu1 hP hD hS => ?_)
  have r2_e : r2 = 0 := hwu1
  subst r2_e
  have hP : va_P D vwCl [] H := hP
  have hD : va_D A [] := hD
  refine lv_if_ne (tgt := 17) hx hb dX12_meets_11 (by decide) (fun h9 => absurd rfl h9) (fun _ => ?_)
  refine lv_bipush (v := (-2)) hx hb dX12_meets_14 (by decide) ?_
  exact fn_iret hx hb hr hlocks rfl hP hD hS () (by first | rfl | decide) [] (by decide) rfl dX12_meets_16
theorem dX12_nearest_0 : decode cX12_nearest 0 = .ok (.aload_n 0, 1) := by decide +kernel
theorem dX12_nearest_1 : decode cX12_nearest 1 = .ok (.iconst 0, 1) := by decide +kernel
theorem dX12_nearest_2 : decode cX12_nearest 2 = .ok (.putfield 104, 3) := by decide +kernel
theorem dX12_nearest_5 : decode cX12_nearest 5 = .ok (.aload_n 0, 1) := by decide +kernel
theorem dX12_nearest_6 : decode cX12_nearest 6 = .ok (.iload_n 1, 1) := by decide +kernel
theorem dX12_nearest_7 : decode cX12_nearest 7 = .ok (.iload_n 2, 1) := by decide +kernel
theorem dX12_nearest_8 : decode cX12_nearest 8 = .ok (.invokevirtual 417, 3) := by decide +kernel
theorem dX12_nearest_11 : decode cX12_nearest 11 = .ok (.ifCond .ne 6, 3) := by decide +kernel
theorem dX12_nearest_14 : decode cX12_nearest 14 = .ok (.bipush (-2), 2) := by decide +kernel
theorem dX12_nearest_16 : decode cX12_nearest 16 = .ok (.ireturn, 1) := by decide +kernel
set_option maxHeartbeats 4000000 in
set_option maxRecDepth 100000 in
theorem c_X12_nearest (l : Launch) (D : va_G) (K : Nat → ClassId) (m0 al ah : Nat) (fm : List Value) (hmn : fm.length = 51) (hm16 : fm[16]? = some (.ref al)) (hm17 : fm[17]? = some (.ref ah)) (fl fh : Nat → Int32) (hfl : ∀ j, fl j = 0) (hfh : ∀ j, fh j = 0) (p0 p1 : Int32) : fn_CI (S := Unit) l D K yX12_nearest (fn_ws yX12_nearest cX12_nearest 3 (some .int)) ({ frames := 16, cells := 0, slots := 0, locals := 400 }) [.ref m0, .int p0, .int p1] [(m0, .inr (12, fm)), (al, .inl (K 0, 5, .inl fl)), (ah, .inl (K 0, 40, .inl fh))] (fun r _ => r = (-2)) (fun _ => []) 0 0 := by
  refine fn_inI (cc := cX12_nearest) (maxL := 3) (ret := (some .int)) (by decide) rfl (Nat.le_of_ble_eq_true rfl) ?_
  intro p e s m below meth c A ls B hA hP hD hS hl
  obtain ⟨hx, hb, hr, hml, hts, hown, hlocks, hin, hK⟩ := B
  have hown : s.vm.findClass RX12 = some m.cls := hown
  have hts := fun w h => hts w (List.mem_cons_of_mem _ h)
  have hl : lv_has ls 3 [(0, .ref m0), (1, .int p0), (2, .int p1)] := hl
  refine lv_aload_n hx hb dX12_nearest_0 rfl (lv_at hl 0 rfl) ?_
  refine lv_iconst (v := 0) hx hb dX12_nearest_1 (by decide) ?_
  refine va_put (D := D) (own := RX12) (ci := 12) (v := .int 0) (ty := .int) (C := RX12) (T := TX12) (N := 51) hx hb hts inb_X12 tyX12 tyX12_ok nmX12 hown hK.1 hP hD hS 0 rfl rfl 0 (by decide) (hts _ wd_1234) (fun _ h9 => h9) rfl (by decide +kernel) rfl rfl (fn_kl hmn (by decide)) dX12_nearest_2 (fun H locs hP hD hS => ?_)
  have hP : va_P D vwCl [(m0, .inr (12, fm.set 0 (.int 0))), (al, .inl (K 0, 5, .inl fl)), (ah, .inl (K 0, 40, .inl fh))] H := hP
  have hD : va_D A [(m0, .inr (12, fm.set 0 (.int 0))), (al, .inl (K 0, 5, .inl fl)), (ah, .inl (K 0, 40, .inl fh))] := hD
  refine lv_aload_n hx hb dX12_nearest_5 rfl (lv_at hl 0 rfl) ?_
  refine lv_iload_n hx hb dX12_nearest_6 rfl (lv_at hl 1 rfl) ?_
  refine lv_iload_n hx hb dX12_nearest_7 rfl (lv_at hl 2 rfl) ?_
  refine fn_goi (wc := [(m0, .inr (12, fm.set 0 (.int 0))), (al, .inl (K 0, 5, .inl fl)), (ah, .inl (K 0, 40, .inl fh))]) (wr := []) hK hP hD hS hA [0, 1, 2] [] rfl rfl (by decide) (fun hp => va_runV (C := RX12) (As := [.int p0, .int p1]) (rest := []) ⟨hx, hb, hml, hown, hts⟩ (c_X12_areTwo (l := l) (D := D) (K := K) (m0 := (m0)) (p0 := (p0)) (p1 := (p1)) (fm := (fm.set 0 (.int 0))) (hmn := (fn_sl hmn)) (al := (al)) (hm16 := (fn_gs (by decide) hm16)) (ah := (ah)) (hm17 := (fn_gs (by decide) hm17)) (fl := (fl)) (hfl := hfl) (fh := (fh)) (hfh := hfh) _) (cwV 2 hts (fn_ginV (fn_gin wd_1876) wd_1873 wd_1875 wp_153 wd_13) rfl rfl rfl (by decide +kernel) ⟨Nat.le_of_ble_eq_true rfl, Nat.le_of_ble_eq_true rfl⟩) ⟨fn_blind, va_recv hK.1 hP (ci := 12) (q0 := 0) rfl rfl, hp⟩ rfl rfl hl.1 rfl (lv_room (Nat.le_of_ble_eq_true rfl)) dX12_nearest_8 ⟨Nat.le_of_ble_eq_true rfl, Nat.le_of_ble_eq_true rfl⟩) (fun r2 u1 H locs hwu1 hP hD hS => ?_)
  have r2_e : r2 = 0 := hwu1
  subst r2_e
  have hP : va_P D vwCl [] H := hP
  have hD : va_D A [] := hD
  refine lv_if_ne (tgt := 17) hx hb dX12_nearest_11 (by decide) (fun h9 => absurd rfl h9) (fun _ => ?_)
  refine lv_bipush (v := (-2)) hx hb dX12_nearest_14 (by decide) ?_
  exact fn_iret hx hb hr hlocks rfl hP hD hS () (by first | rfl | decide) [] (by decide) rfl dX12_nearest_16
theorem dX12_third_0 : decode cX12_third 0 = .ok (.aload_n 0, 1) := by decide +kernel
theorem dX12_third_1 : decode cX12_third 1 = .ok (.iconst 0, 1) := by decide +kernel
theorem dX12_third_2 : decode cX12_third 2 = .ok (.putfield 104, 3) := by decide +kernel
theorem dX12_third_5 : decode cX12_third 5 = .ok (.aload_n 0, 1) := by decide +kernel
theorem dX12_third_6 : decode cX12_third 6 = .ok (.iload_n 1, 1) := by decide +kernel
theorem dX12_third_7 : decode cX12_third 7 = .ok (.iload_n 2, 1) := by decide +kernel
theorem dX12_third_8 : decode cX12_third 8 = .ok (.invokevirtual 417, 3) := by decide +kernel
theorem dX12_third_11 : decode cX12_third 11 = .ok (.ifCond .ne 6, 3) := by decide +kernel
theorem dX12_third_14 : decode cX12_third 14 = .ok (.bipush (-2), 2) := by decide +kernel
theorem dX12_third_16 : decode cX12_third 16 = .ok (.ireturn, 1) := by decide +kernel
set_option maxHeartbeats 4000000 in
set_option maxRecDepth 100000 in
theorem c_X12_third (l : Launch) (D : va_G) (K : Nat → ClassId) (m0 al ah : Nat) (fm : List Value) (hmn : fm.length = 51) (hm16 : fm[16]? = some (.ref al)) (hm17 : fm[17]? = some (.ref ah)) (fl fh : Nat → Int32) (hfl : ∀ j, fl j = 0) (hfh : ∀ j, fh j = 0) (p0 p1 : Int32) : fn_CI (S := Unit) l D K yX12_third (fn_ws yX12_third cX12_third 3 (some .int)) ({ frames := 16, cells := 0, slots := 0, locals := 400 }) [.ref m0, .int p0, .int p1] [(m0, .inr (12, fm)), (al, .inl (K 0, 5, .inl fl)), (ah, .inl (K 0, 40, .inl fh))] (fun r _ => r = (-2)) (fun _ => []) 0 0 := by
  refine fn_inI (cc := cX12_third) (maxL := 3) (ret := (some .int)) (by decide) rfl (Nat.le_of_ble_eq_true rfl) ?_
  intro p e s m below meth c A ls B hA hP hD hS hl
  obtain ⟨hx, hb, hr, hml, hts, hown, hlocks, hin, hK⟩ := B
  have hown : s.vm.findClass RX12 = some m.cls := hown
  have hts := fun w h => hts w (List.mem_cons_of_mem _ h)
  have hl : lv_has ls 3 [(0, .ref m0), (1, .int p0), (2, .int p1)] := hl
  refine lv_aload_n hx hb dX12_third_0 rfl (lv_at hl 0 rfl) ?_
  refine lv_iconst (v := 0) hx hb dX12_third_1 (by decide) ?_
  refine va_put (D := D) (own := RX12) (ci := 12) (v := .int 0) (ty := .int) (C := RX12) (T := TX12) (N := 51) hx hb hts inb_X12 tyX12 tyX12_ok nmX12 hown hK.1 hP hD hS 0 rfl rfl 0 (by decide) (hts _ wd_1234) (fun _ h9 => h9) rfl (by decide +kernel) rfl rfl (fn_kl hmn (by decide)) dX12_third_2 (fun H locs hP hD hS => ?_)
  have hP : va_P D vwCl [(m0, .inr (12, fm.set 0 (.int 0))), (al, .inl (K 0, 5, .inl fl)), (ah, .inl (K 0, 40, .inl fh))] H := hP
  have hD : va_D A [(m0, .inr (12, fm.set 0 (.int 0))), (al, .inl (K 0, 5, .inl fl)), (ah, .inl (K 0, 40, .inl fh))] := hD
  refine lv_aload_n hx hb dX12_third_5 rfl (lv_at hl 0 rfl) ?_
  refine lv_iload_n hx hb dX12_third_6 rfl (lv_at hl 1 rfl) ?_
  refine lv_iload_n hx hb dX12_third_7 rfl (lv_at hl 2 rfl) ?_
  refine fn_goi (wc := [(m0, .inr (12, fm.set 0 (.int 0))), (al, .inl (K 0, 5, .inl fl)), (ah, .inl (K 0, 40, .inl fh))]) (wr := []) hK hP hD hS hA [0, 1, 2] [] rfl rfl (by decide) (fun hp => va_runV (C := RX12) (As := [.int p0, .int p1]) (rest := []) ⟨hx, hb, hml, hown, hts⟩ (c_X12_areTwo (l := l) (D := D) (K := K) (m0 := (m0)) (p0 := (p0)) (p1 := (p1)) (fm := (fm.set 0 (.int 0))) (hmn := (fn_sl hmn)) (al := (al)) (hm16 := (fn_gs (by decide) hm16)) (ah := (ah)) (hm17 := (fn_gs (by decide) hm17)) (fl := (fl)) (hfl := hfl) (fh := (fh)) (hfh := hfh) _) (cwV 2 hts (fn_ginV (fn_gin wd_1876) wd_1873 wd_1875 wp_153 wd_13) rfl rfl rfl (by decide +kernel) ⟨Nat.le_of_ble_eq_true rfl, Nat.le_of_ble_eq_true rfl⟩) ⟨fn_blind, va_recv hK.1 hP (ci := 12) (q0 := 0) rfl rfl, hp⟩ rfl rfl hl.1 rfl (lv_room (Nat.le_of_ble_eq_true rfl)) dX12_third_8 ⟨Nat.le_of_ble_eq_true rfl, Nat.le_of_ble_eq_true rfl⟩) (fun r2 u1 H locs hwu1 hP hD hS => ?_)
  have r2_e : r2 = 0 := hwu1
  subst r2_e
  have hP : va_P D vwCl [] H := hP
  have hD : va_D A [] := hD
  refine lv_if_ne (tgt := 17) hx hb dX12_third_11 (by decide) (fun h9 => absurd rfl h9) (fun _ => ?_)
  refine lv_bipush (v := (-2)) hx hb dX12_third_14 (by decide) ?_
  exact fn_iret hx hb hr hlocks rfl hP hD hS () (by first | rfl | decide) [] (by decide) rfl dX12_third_16
theorem dX12_drawn_0 : decode cX12_drawn 0 = .ok (.aload_n 0, 1) := by decide +kernel
theorem dX12_drawn_1 : decode cX12_drawn 1 = .ok (.iconst 0, 1) := by decide +kernel
theorem dX12_drawn_2 : decode cX12_drawn 2 = .ok (.putfield 104, 3) := by decide +kernel
theorem dX12_drawn_5 : decode cX12_drawn 5 = .ok (.aload_n 0, 1) := by decide +kernel
theorem dX12_drawn_6 : decode cX12_drawn 6 = .ok (.iload_n 1, 1) := by decide +kernel
theorem dX12_drawn_7 : decode cX12_drawn 7 = .ok (.invokevirtual 444, 3) := by decide +kernel
theorem dX12_drawn_10 : decode cX12_drawn 10 = .ok (.ifCond .eq 12, 3) := by decide +kernel
theorem dX12_drawn_22 : decode cX12_drawn 22 = .ok (.bipush (-2), 2) := by decide +kernel
theorem dX12_drawn_24 : decode cX12_drawn 24 = .ok (.ireturn, 1) := by decide +kernel
set_option maxHeartbeats 4000000 in
set_option maxRecDepth 100000 in
theorem c_X12_drawn (l : Launch) (D : va_G) (K : Nat → ClassId) (m0 al ah : Nat) (fm : List Value) (hmn : fm.length = 51) (hm16 : fm[16]? = some (.ref al)) (hm17 : fm[17]? = some (.ref ah)) (fl fh : Nat → Int32) (hfl : ∀ j, fl j = 0) (hfh : ∀ j, fh j = 0) (p0 : Int32) : fn_CI (S := Unit) l D K yX12_drawn (fn_ws yX12_drawn cX12_drawn 2 (some .int)) ({ frames := 16, cells := 0, slots := 0, locals := 400 }) [.ref m0, .int p0] [(m0, .inr (12, fm)), (al, .inl (K 0, 5, .inl fl)), (ah, .inl (K 0, 40, .inl fh))] (fun r _ => r = (-2)) (fun _ => []) 0 0 := by
  refine fn_inI (cc := cX12_drawn) (maxL := 2) (ret := (some .int)) (by decide) rfl (Nat.le_of_ble_eq_true rfl) ?_
  intro p e s m below meth c A ls B hA hP hD hS hl
  obtain ⟨hx, hb, hr, hml, hts, hown, hlocks, hin, hK⟩ := B
  have hown : s.vm.findClass RX12 = some m.cls := hown
  have hts := fun w h => hts w (List.mem_cons_of_mem _ h)
  have hl : lv_has ls 2 [(0, .ref m0), (1, .int p0)] := hl
  refine lv_aload_n hx hb dX12_drawn_0 rfl (lv_at hl 0 rfl) ?_
  refine lv_iconst (v := 0) hx hb dX12_drawn_1 (by decide) ?_
  refine va_put (D := D) (own := RX12) (ci := 12) (v := .int 0) (ty := .int) (C := RX12) (T := TX12) (N := 51) hx hb hts inb_X12 tyX12 tyX12_ok nmX12 hown hK.1 hP hD hS 0 rfl rfl 0 (by decide) (hts _ wd_1234) (fun _ h9 => h9) rfl (by decide +kernel) rfl rfl (fn_kl hmn (by decide)) dX12_drawn_2 (fun H locs hP hD hS => ?_)
  have hP : va_P D vwCl [(m0, .inr (12, fm.set 0 (.int 0))), (al, .inl (K 0, 5, .inl fl)), (ah, .inl (K 0, 40, .inl fh))] H := hP
  have hD : va_D A [(m0, .inr (12, fm.set 0 (.int 0))), (al, .inl (K 0, 5, .inl fl)), (ah, .inl (K 0, 40, .inl fh))] := hD
  refine lv_aload_n hx hb dX12_drawn_5 rfl (lv_at hl 0 rfl) ?_
  refine lv_iload_n hx hb dX12_drawn_6 rfl (lv_at hl 1 rfl) ?_
  refine fn_goi (wc := [(m0, .inr (12, fm.set 0 (.int 0))), (al, .inl (K 0, 5, .inl fl)), (ah, .inl (K 0, 40, .inl fh))]) (wr := []) hK hP hD hS hA [0, 1, 2] [] rfl rfl (by decide) (fun hp => va_runV (C := RX12) (As := [.int p0]) (rest := []) ⟨hx, hb, hml, hown, hts⟩ (c_X12_isSeed (l := l) (D := D) (K := K) (m0 := (m0)) (p0 := (p0)) (fm := (fm.set 0 (.int 0))) (hmn := (fn_sl hmn)) (al := (al)) (hm16 := (fn_gs (by decide) hm16)) (ah := (ah)) (hm17 := (fn_gs (by decide) hm17)) (fl := (fl)) (hfl := hfl) (fh := (fh)) (hfh := hfh) _) (cwV 1 hts (fn_ginV (fn_gin wd_1920) wd_1917 wd_1919 wp_157 wd_13) rfl rfl rfl (by decide +kernel) ⟨Nat.le_of_ble_eq_true rfl, Nat.le_of_ble_eq_true rfl⟩) ⟨fn_blind, va_recv hK.1 hP (ci := 12) (q0 := 0) rfl rfl, hp⟩ rfl rfl hl.1 rfl (lv_room (Nat.le_of_ble_eq_true rfl)) dX12_drawn_7 ⟨Nat.le_of_ble_eq_true rfl, Nat.le_of_ble_eq_true rfl⟩) (fun r2 u1 H locs hwu1 hP hD hS => ?_)
  have r2_e : r2 = 0 := hwu1
  subst r2_e
  have hP : va_P D vwCl [] H := hP
  have hD : va_D A [] := hD
  refine lv_if_eq (tgt := 22) hx hb dX12_drawn_10 (by decide) (fun _ => ?_) (fun h9 => absurd (by decide) h9)
  refine lv_bipush (v := (-2)) hx hb dX12_drawn_22 (by decide) ?_
  exact fn_iret hx hb hr hlocks rfl hP hD hS () (by first | rfl | decide) [] (by decide) rfl dX12_drawn_24
theorem dX12_shaken_0 : decode cX12_shaken 0 = .ok (.aload_n 0, 1) := by decide +kernel
theorem dX12_shaken_1 : decode cX12_shaken 1 = .ok (.iconst 0, 1) := by decide +kernel
theorem dX12_shaken_2 : decode cX12_shaken 2 = .ok (.putfield 104, 3) := by decide +kernel
theorem dX12_shaken_5 : decode cX12_shaken 5 = .ok (.aload_n 0, 1) := by decide +kernel
theorem dX12_shaken_6 : decode cX12_shaken 6 = .ok (.iload_n 1, 1) := by decide +kernel
theorem dX12_shaken_7 : decode cX12_shaken 7 = .ok (.invokevirtual 444, 3) := by decide +kernel
theorem dX12_shaken_10 : decode cX12_shaken 10 = .ok (.ifCond .ne 6, 3) := by decide +kernel
theorem dX12_shaken_13 : decode cX12_shaken 13 = .ok (.bipush (-2), 2) := by decide +kernel
theorem dX12_shaken_15 : decode cX12_shaken 15 = .ok (.ireturn, 1) := by decide +kernel
set_option maxHeartbeats 4000000 in
set_option maxRecDepth 100000 in
theorem c_X12_shaken (l : Launch) (D : va_G) (K : Nat → ClassId) (m0 al ah : Nat) (fm : List Value) (hmn : fm.length = 51) (hm16 : fm[16]? = some (.ref al)) (hm17 : fm[17]? = some (.ref ah)) (fl fh : Nat → Int32) (hfl : ∀ j, fl j = 0) (hfh : ∀ j, fh j = 0) (p0 : Int32) : fn_CI (S := Unit) l D K yX12_shaken (fn_ws yX12_shaken cX12_shaken 2 (some .int)) ({ frames := 16, cells := 0, slots := 0, locals := 400 }) [.ref m0, .int p0] [(m0, .inr (12, fm)), (al, .inl (K 0, 5, .inl fl)), (ah, .inl (K 0, 40, .inl fh))] (fun r _ => r = (-2)) (fun _ => []) 0 0 := by
  refine fn_inI (cc := cX12_shaken) (maxL := 2) (ret := (some .int)) (by decide) rfl (Nat.le_of_ble_eq_true rfl) ?_
  intro p e s m below meth c A ls B hA hP hD hS hl
  obtain ⟨hx, hb, hr, hml, hts, hown, hlocks, hin, hK⟩ := B
  have hown : s.vm.findClass RX12 = some m.cls := hown
  have hts := fun w h => hts w (List.mem_cons_of_mem _ h)
  have hl : lv_has ls 2 [(0, .ref m0), (1, .int p0)] := hl
  refine lv_aload_n hx hb dX12_shaken_0 rfl (lv_at hl 0 rfl) ?_
  refine lv_iconst (v := 0) hx hb dX12_shaken_1 (by decide) ?_
  refine va_put (D := D) (own := RX12) (ci := 12) (v := .int 0) (ty := .int) (C := RX12) (T := TX12) (N := 51) hx hb hts inb_X12 tyX12 tyX12_ok nmX12 hown hK.1 hP hD hS 0 rfl rfl 0 (by decide) (hts _ wd_1234) (fun _ h9 => h9) rfl (by decide +kernel) rfl rfl (fn_kl hmn (by decide)) dX12_shaken_2 (fun H locs hP hD hS => ?_)
  have hP : va_P D vwCl [(m0, .inr (12, fm.set 0 (.int 0))), (al, .inl (K 0, 5, .inl fl)), (ah, .inl (K 0, 40, .inl fh))] H := hP
  have hD : va_D A [(m0, .inr (12, fm.set 0 (.int 0))), (al, .inl (K 0, 5, .inl fl)), (ah, .inl (K 0, 40, .inl fh))] := hD
  refine lv_aload_n hx hb dX12_shaken_5 rfl (lv_at hl 0 rfl) ?_
  refine lv_iload_n hx hb dX12_shaken_6 rfl (lv_at hl 1 rfl) ?_
  refine fn_goi (wc := [(m0, .inr (12, fm.set 0 (.int 0))), (al, .inl (K 0, 5, .inl fl)), (ah, .inl (K 0, 40, .inl fh))]) (wr := []) hK hP hD hS hA [0, 1, 2] [] rfl rfl (by decide) (fun hp => va_runV (C := RX12) (As := [.int p0]) (rest := []) ⟨hx, hb, hml, hown, hts⟩ (c_X12_isSeed (l := l) (D := D) (K := K) (m0 := (m0)) (p0 := (p0)) (fm := (fm.set 0 (.int 0))) (hmn := (fn_sl hmn)) (al := (al)) (hm16 := (fn_gs (by decide) hm16)) (ah := (ah)) (hm17 := (fn_gs (by decide) hm17)) (fl := (fl)) (hfl := hfl) (fh := (fh)) (hfh := hfh) _) (cwV 1 hts (fn_ginV (fn_gin wd_1920) wd_1917 wd_1919 wp_157 wd_13) rfl rfl rfl (by decide +kernel) ⟨Nat.le_of_ble_eq_true rfl, Nat.le_of_ble_eq_true rfl⟩) ⟨fn_blind, va_recv hK.1 hP (ci := 12) (q0 := 0) rfl rfl, hp⟩ rfl rfl hl.1 rfl (lv_room (Nat.le_of_ble_eq_true rfl)) dX12_shaken_7 ⟨Nat.le_of_ble_eq_true rfl, Nat.le_of_ble_eq_true rfl⟩) (fun r2 u1 H locs hwu1 hP hD hS => ?_)
  have r2_e : r2 = 0 := hwu1
  subst r2_e
  have hP : va_P D vwCl [] H := hP
  have hD : va_D A [] := hD
  refine lv_if_ne (tgt := 16) hx hb dX12_shaken_10 (by decide) (fun h9 => absurd rfl h9) (fun _ => ?_)
  refine lv_bipush (v := (-2)) hx hb dX12_shaken_13 (by decide) ?_
  exact fn_iret hx hb hr hlocks rfl hP hD hS () (by first | rfl | decide) [] (by decide) rfl dX12_shaken_15
theorem dX12_years_0 : decode cX12_years 0 = .ok (.aload_n 0, 1) := by decide +kernel
theorem dX12_years_1 : decode cX12_years 1 = .ok (.iconst 0, 1) := by decide +kernel
theorem dX12_years_2 : decode cX12_years 2 = .ok (.putfield 104, 3) := by decide +kernel
theorem dX12_years_5 : decode cX12_years 5 = .ok (.aload_n 0, 1) := by decide +kernel
theorem dX12_years_6 : decode cX12_years 6 = .ok (.iload_n 1, 1) := by decide +kernel
theorem dX12_years_7 : decode cX12_years 7 = .ok (.invokevirtual 444, 3) := by decide +kernel
theorem dX12_years_10 : decode cX12_years 10 = .ok (.ifCond .eq 24, 3) := by decide +kernel
theorem dX12_years_34 : decode cX12_years 34 = .ok (.bipush (-2), 2) := by decide +kernel
theorem dX12_years_36 : decode cX12_years 36 = .ok (.ireturn, 1) := by decide +kernel
set_option maxHeartbeats 4000000 in
set_option maxRecDepth 100000 in
theorem c_X12_years (l : Launch) (D : va_G) (K : Nat → ClassId) (m0 al ah : Nat) (fm : List Value) (hmn : fm.length = 51) (hm16 : fm[16]? = some (.ref al)) (hm17 : fm[17]? = some (.ref ah)) (fl fh : Nat → Int32) (hfl : ∀ j, fl j = 0) (hfh : ∀ j, fh j = 0) (p0 p1 p2 : Int32) : fn_CI (S := Unit) l D K yX12_years (fn_ws yX12_years cX12_years 6 (some .int)) ({ frames := 16, cells := 0, slots := 0, locals := 400 }) [.ref m0, .int p0, .int p1, .int p2] [(m0, .inr (12, fm)), (al, .inl (K 0, 5, .inl fl)), (ah, .inl (K 0, 40, .inl fh))] (fun r _ => r = (-2)) (fun _ => []) 0 0 := by
  refine fn_inI (cc := cX12_years) (maxL := 6) (ret := (some .int)) (by decide) rfl (Nat.le_of_ble_eq_true rfl) ?_
  intro p e s m below meth c A ls B hA hP hD hS hl
  obtain ⟨hx, hb, hr, hml, hts, hown, hlocks, hin, hK⟩ := B
  have hown : s.vm.findClass RX12 = some m.cls := hown
  have hts := fun w h => hts w (List.mem_cons_of_mem _ h)
  have hl : lv_has ls 6 [(0, .ref m0), (1, .int p0), (2, .int p1), (3, .int p2)] := hl
  refine lv_aload_n hx hb dX12_years_0 rfl (lv_at hl 0 rfl) ?_
  refine lv_iconst (v := 0) hx hb dX12_years_1 (by decide) ?_
  refine va_put (D := D) (own := RX12) (ci := 12) (v := .int 0) (ty := .int) (C := RX12) (T := TX12) (N := 51) hx hb hts inb_X12 tyX12 tyX12_ok nmX12 hown hK.1 hP hD hS 0 rfl rfl 0 (by decide) (hts _ wd_1234) (fun _ h9 => h9) rfl (by decide +kernel) rfl rfl (fn_kl hmn (by decide)) dX12_years_2 (fun H locs hP hD hS => ?_)
  have hP : va_P D vwCl [(m0, .inr (12, fm.set 0 (.int 0))), (al, .inl (K 0, 5, .inl fl)), (ah, .inl (K 0, 40, .inl fh))] H := hP
  have hD : va_D A [(m0, .inr (12, fm.set 0 (.int 0))), (al, .inl (K 0, 5, .inl fl)), (ah, .inl (K 0, 40, .inl fh))] := hD
  refine lv_aload_n hx hb dX12_years_5 rfl (lv_at hl 0 rfl) ?_
  refine lv_iload_n hx hb dX12_years_6 rfl (lv_at hl 1 rfl) ?_
  refine fn_goi (wc := [(m0, .inr (12, fm.set 0 (.int 0))), (al, .inl (K 0, 5, .inl fl)), (ah, .inl (K 0, 40, .inl fh))]) (wr := []) hK hP hD hS hA [0, 1, 2] [] rfl rfl (by decide) (fun hp => va_runV (C := RX12) (As := [.int p0]) (rest := []) ⟨hx, hb, hml, hown, hts⟩ (c_X12_isSeed (l := l) (D := D) (K := K) (m0 := (m0)) (p0 := (p0)) (fm := (fm.set 0 (.int 0))) (hmn := (fn_sl hmn)) (al := (al)) (hm16 := (fn_gs (by decide) hm16)) (ah := (ah)) (hm17 := (fn_gs (by decide) hm17)) (fl := (fl)) (hfl := hfl) (fh := (fh)) (hfh := hfh) _) (cwV 1 hts (fn_ginV (fn_gin wd_1920) wd_1917 wd_1919 wp_157 wd_13) rfl rfl rfl (by decide +kernel) ⟨Nat.le_of_ble_eq_true rfl, Nat.le_of_ble_eq_true rfl⟩) ⟨fn_blind, va_recv hK.1 hP (ci := 12) (q0 := 0) rfl rfl, hp⟩ rfl rfl hl.1 rfl (lv_room (Nat.le_of_ble_eq_true rfl)) dX12_years_7 ⟨Nat.le_of_ble_eq_true rfl, Nat.le_of_ble_eq_true rfl⟩) (fun r2 u1 H locs hwu1 hP hD hS => ?_)
  have r2_e : r2 = 0 := hwu1
  subst r2_e
  have hP : va_P D vwCl [] H := hP
  have hD : va_D A [] := hD
  refine lv_if_eq (tgt := 34) hx hb dX12_years_10 (by decide) (fun _ => ?_) (fun h9 => absurd (by decide) h9)
  refine lv_bipush (v := (-2)) hx hb dX12_years_34 (by decide) ?_
  exact fn_iret hx hb hr hlocks rfl hP hD hS () (by first | rfl | decide) [] (by decide) rfl dX12_years_36
