theorem dX7_hasPage_0 : decode cX7_hasPage 0 = .ok (.iload_n 1, 1) := by decide +kernel
theorem dX7_hasPage_1 : decode cX7_hasPage 1 = .ok (.ifCond .lt 15, 3) := by decide +kernel
theorem dX7_hasPage_16 : decode cX7_hasPage 16 = .ok (.iconst 0, 1) := by decide +kernel
theorem dX7_hasPage_17 : decode cX7_hasPage 17 = .ok (.ireturn, 1) := by decide +kernel
theorem dX7_hasPage_4 : decode cX7_hasPage 4 = .ok (.iload_n 1, 1) := by decide +kernel
theorem dX7_hasPage_5 : decode cX7_hasPage 5 = .ok (.aload_n 0, 1) := by decide +kernel
theorem dX7_hasPage_6 : decode cX7_hasPage 6 = .ok (.getfield 43, 3) := by decide +kernel
theorem dX7_hasPage_9 : decode cX7_hasPage 9 = .ok (.if_icmp .ge 7, 3) := by decide +kernel
set_option maxHeartbeats 4000000 in
set_option maxRecDepth 100000 in
theorem c_X7_hasPage (l : Launch) (D : va_G) (K : Nat → ClassId) (t0 : Nat) (ft : List Value) (ht0 : ft[0]? = some (.int 0)) (ht3 : ft[3]? = some (.int 0)) (ht4 : ft[4]? = some (.int 0)) (ht5 : ft[5]? = some (.int 0)) (p0 : Int32) : fn_CI (S := Unit) l D K yX7_hasPage (fn_ws yX7_hasPage cX7_hasPage 2 (some .boolean)) ({ frames := 4, cells := 0, slots := 0, locals := 100 }) [.ref t0, .int p0] [(t0, .inr (7, ft))] (fun r _ => r = 0) (fun _ => []) 0 0 := by
  refine fn_inI (cc := cX7_hasPage) (maxL := 2) (ret := (some .boolean)) (by decide) rfl (Nat.le_of_ble_eq_true rfl) ?_
  intro p e s m below meth c A ls B hA hP hD hS hl
  obtain ⟨hx, hb, hr, hml, hts, hown, hlocks, hin, hK⟩ := B
  have hown : s.vm.findClass RX7 = some m.cls := hown
  have hts := fun w h => hts w (List.mem_cons_of_mem _ h)
  have hl : lv_has ls 2 [(0, .ref t0), (1, .int p0)] := hl
  refine lv_iload_n hx hb dX7_hasPage_0 rfl (lv_at hl 1 rfl) ?_
  refine lv_if_lt (tgt := 16) hx hb dX7_hasPage_1 (by decide) (fun c1 => ?_) (fun c1 => ?_)
  · refine lv_iconst (v := 0) hx hb dX7_hasPage_16 (by decide) ?_
    exact fn_iret hx hb hr hlocks rfl hP hD hS () (by first | rfl | decide) [] (by decide) rfl dX7_hasPage_17
  · refine lv_iload_n hx hb dX7_hasPage_4 rfl (lv_at hl 1 rfl) ?_
    refine lv_aload_n hx hb dX7_hasPage_5 rfl (lv_at hl 0 rfl) ?_
    refine va_get (D := D) (own := RX7) (ci := 7) (v := .int 0) (C := RX7) (T := TX7) (N := 15) hx hb hts inb_X7 hown hK.1 hP 0 rfl rfl 4 (by decide) (hts _ wd_87) (fun _ h9 => h9) ht4 dX7_hasPage_6 ?_
    refine lv_icmp_ge (tgt := 16) hx hb dX7_hasPage_9 (by decide) (fun c9 => ?_) (fun h9 => absurd (Int32.not_lt.mp c1) h9)
    refine lv_iconst (v := 0) hx hb dX7_hasPage_16 (by decide) ?_
    exact fn_iret hx hb hr hlocks rfl hP hD hS () (by first | rfl | decide) [] (by decide) rfl dX7_hasPage_17
theorem dX7_hasBook_0 : decode cX7_hasBook 0 = .ok (.iload_n 1, 1) := by decide +kernel
theorem dX7_hasBook_1 : decode cX7_hasBook 1 = .ok (.ifCond .lt 15, 3) := by decide +kernel
theorem dX7_hasBook_16 : decode cX7_hasBook 16 = .ok (.iconst 0, 1) := by decide +kernel
theorem dX7_hasBook_17 : decode cX7_hasBook 17 = .ok (.ireturn, 1) := by decide +kernel
theorem dX7_hasBook_4 : decode cX7_hasBook 4 = .ok (.iload_n 1, 1) := by decide +kernel
theorem dX7_hasBook_5 : decode cX7_hasBook 5 = .ok (.aload_n 0, 1) := by decide +kernel
theorem dX7_hasBook_6 : decode cX7_hasBook 6 = .ok (.getfield 40, 3) := by decide +kernel
theorem dX7_hasBook_9 : decode cX7_hasBook 9 = .ok (.if_icmp .ge 7, 3) := by decide +kernel
set_option maxHeartbeats 4000000 in
set_option maxRecDepth 100000 in
theorem c_X7_hasBook (l : Launch) (D : va_G) (K : Nat → ClassId) (t0 : Nat) (ft : List Value) (ht0 : ft[0]? = some (.int 0)) (ht3 : ft[3]? = some (.int 0)) (ht4 : ft[4]? = some (.int 0)) (ht5 : ft[5]? = some (.int 0)) (p0 : Int32) : fn_CI (S := Unit) l D K yX7_hasBook (fn_ws yX7_hasBook cX7_hasBook 2 (some .boolean)) ({ frames := 4, cells := 0, slots := 0, locals := 100 }) [.ref t0, .int p0] [(t0, .inr (7, ft))] (fun r _ => r = 0) (fun _ => []) 0 0 := by
  refine fn_inI (cc := cX7_hasBook) (maxL := 2) (ret := (some .boolean)) (by decide) rfl (Nat.le_of_ble_eq_true rfl) ?_
  intro p e s m below meth c A ls B hA hP hD hS hl
  obtain ⟨hx, hb, hr, hml, hts, hown, hlocks, hin, hK⟩ := B
  have hown : s.vm.findClass RX7 = some m.cls := hown
  have hts := fun w h => hts w (List.mem_cons_of_mem _ h)
  have hl : lv_has ls 2 [(0, .ref t0), (1, .int p0)] := hl
  refine lv_iload_n hx hb dX7_hasBook_0 rfl (lv_at hl 1 rfl) ?_
  refine lv_if_lt (tgt := 16) hx hb dX7_hasBook_1 (by decide) (fun c1 => ?_) (fun c1 => ?_)
  · refine lv_iconst (v := 0) hx hb dX7_hasBook_16 (by decide) ?_
    exact fn_iret hx hb hr hlocks rfl hP hD hS () (by first | rfl | decide) [] (by decide) rfl dX7_hasBook_17
  · refine lv_iload_n hx hb dX7_hasBook_4 rfl (lv_at hl 1 rfl) ?_
    refine lv_aload_n hx hb dX7_hasBook_5 rfl (lv_at hl 0 rfl) ?_
    refine va_get (D := D) (own := RX7) (ci := 7) (v := .int 0) (C := RX7) (T := TX7) (N := 15) hx hb hts inb_X7 hown hK.1 hP 0 rfl rfl 3 (by decide) (hts _ wd_80) (fun _ h9 => h9) ht3 dX7_hasBook_6 ?_
    refine lv_icmp_ge (tgt := 16) hx hb dX7_hasBook_9 (by decide) (fun c9 => ?_) (fun h9 => absurd (Int32.not_lt.mp c1) h9)
    refine lv_iconst (v := 0) hx hb dX7_hasBook_16 (by decide) ?_
    exact fn_iret hx hb hr hlocks rfl hP hD hS () (by first | rfl | decide) [] (by decide) rfl dX7_hasBook_17
theorem dX7_hasNote_0 : decode cX7_hasNote 0 = .ok (.iload_n 1, 1) := by decide +kernel
theorem dX7_hasNote_1 : decode cX7_hasNote 1 = .ok (.ifCond .lt 15, 3) := by decide +kernel
theorem dX7_hasNote_16 : decode cX7_hasNote 16 = .ok (.iconst 0, 1) := by decide +kernel
theorem dX7_hasNote_17 : decode cX7_hasNote 17 = .ok (.ireturn, 1) := by decide +kernel
theorem dX7_hasNote_4 : decode cX7_hasNote 4 = .ok (.iload_n 1, 1) := by decide +kernel
theorem dX7_hasNote_5 : decode cX7_hasNote 5 = .ok (.aload_n 0, 1) := by decide +kernel
theorem dX7_hasNote_6 : decode cX7_hasNote 6 = .ok (.getfield 46, 3) := by decide +kernel
theorem dX7_hasNote_9 : decode cX7_hasNote 9 = .ok (.if_icmp .ge 7, 3) := by decide +kernel
set_option maxHeartbeats 4000000 in
set_option maxRecDepth 100000 in
theorem c_X7_hasNote (l : Launch) (D : va_G) (K : Nat → ClassId) (t0 : Nat) (ft : List Value) (ht0 : ft[0]? = some (.int 0)) (ht3 : ft[3]? = some (.int 0)) (ht4 : ft[4]? = some (.int 0)) (ht5 : ft[5]? = some (.int 0)) (p0 : Int32) : fn_CI (S := Unit) l D K yX7_hasNote (fn_ws yX7_hasNote cX7_hasNote 2 (some .boolean)) ({ frames := 4, cells := 0, slots := 0, locals := 100 }) [.ref t0, .int p0] [(t0, .inr (7, ft))] (fun r _ => r = 0) (fun _ => []) 0 0 := by
  refine fn_inI (cc := cX7_hasNote) (maxL := 2) (ret := (some .boolean)) (by decide) rfl (Nat.le_of_ble_eq_true rfl) ?_
  intro p e s m below meth c A ls B hA hP hD hS hl
  obtain ⟨hx, hb, hr, hml, hts, hown, hlocks, hin, hK⟩ := B
  have hown : s.vm.findClass RX7 = some m.cls := hown
  have hts := fun w h => hts w (List.mem_cons_of_mem _ h)
  have hl : lv_has ls 2 [(0, .ref t0), (1, .int p0)] := hl
  refine lv_iload_n hx hb dX7_hasNote_0 rfl (lv_at hl 1 rfl) ?_
  refine lv_if_lt (tgt := 16) hx hb dX7_hasNote_1 (by decide) (fun c1 => ?_) (fun c1 => ?_)
  · refine lv_iconst (v := 0) hx hb dX7_hasNote_16 (by decide) ?_
    exact fn_iret hx hb hr hlocks rfl hP hD hS () (by first | rfl | decide) [] (by decide) rfl dX7_hasNote_17
  · refine lv_iload_n hx hb dX7_hasNote_4 rfl (lv_at hl 1 rfl) ?_
    refine lv_aload_n hx hb dX7_hasNote_5 rfl (lv_at hl 0 rfl) ?_
    refine va_get (D := D) (own := RX7) (ci := 7) (v := .int 0) (C := RX7) (T := TX7) (N := 15) hx hb hts inb_X7 hown hK.1 hP 0 rfl rfl 5 (by decide) (hts _ wd_92) (fun _ h9 => h9) ht5 dX7_hasNote_6 ?_
    refine lv_icmp_ge (tgt := 16) hx hb dX7_hasNote_9 (by decide) (fun c9 => ?_) (fun h9 => absurd (Int32.not_lt.mp c1) h9)
    refine lv_iconst (v := 0) hx hb dX7_hasNote_16 (by decide) ?_
    exact fn_iret hx hb hr hlocks rfl hP hD hS () (by first | rfl | decide) [] (by decide) rfl dX7_hasNote_17
theorem dX11_noTown_0 : decode cX11_noTown 0 = .ok (.aload_n 0, 1) := by decide +kernel
theorem dX11_noTown_1 : decode cX11_noTown 1 = .ok (.getfield 19, 3) := by decide +kernel
theorem dX11_noTown_4 : decode cX11_noTown 4 = .ok (.getfield 120, 3) := by decide +kernel
theorem dX11_noTown_7 : decode cX11_noTown 7 = .ok (.ifCond .ne 7, 3) := by decide +kernel
theorem dX11_noTown_10 : decode cX11_noTown 10 = .ok (.iconst 1, 1) := by decide +kernel
theorem dX11_noTown_11 : decode cX11_noTown 11 = .ok (.goto 4, 3) := by decide +kernel
theorem dX11_noTown_15 : decode cX11_noTown 15 = .ok (.ireturn, 1) := by decide +kernel
set_option maxHeartbeats 4000000 in
set_option maxRecDepth 100000 in
theorem c_X11_noTown (l : Launch) (D : va_G) (K : Nat → ClassId) (t0 : Nat) (ft : List Value) (ht0 : ft[0]? = some (.int 0)) (ht3 : ft[3]? = some (.int 0)) (ht4 : ft[4]? = some (.int 0)) (ht5 : ft[5]? = some (.int 0)) (x0 : Nat) (fx : List Value) (hx1 : fx[1]? = some (.ref t0)) : fn_CI (S := Unit) l D K yX11_noTown (fn_ws yX11_noTown cX11_noTown 1 (some .boolean)) ({ frames := 4, cells := 0, slots := 0, locals := 100 }) [.ref x0] [(x0, .inr (11, fx)), (t0, .inr (7, ft))] (fun r _ => r = 1) (fun _ => []) 0 0 := by
  refine fn_inI (cc := cX11_noTown) (maxL := 1) (ret := (some .boolean)) (by decide) rfl (Nat.le_of_ble_eq_true rfl) ?_
  intro p e s m below meth c A ls B hA hP hD hS hl
  obtain ⟨hx, hb, hr, hml, hts, hown, hlocks, hin, hK⟩ := B
  have hown : s.vm.findClass RX11 = some m.cls := hown
  have hts := fun w h => hts w (List.mem_cons_of_mem _ h)
  have hl : lv_has ls 1 [(0, .ref x0)] := hl
  refine lv_aload_n hx hb dX11_noTown_0 rfl (lv_at hl 0 rfl) ?_
  refine va_get (D := D) (own := RX11) (ci := 11) (v := .ref t0) (C := RX11) (T := TX11) (N := 13) hx hb hts inb_X11 hown hK.1 hP 0 rfl rfl 1 (by decide) (hts _ wd_423) (fun _ h9 => h9) hx1 dX11_noTown_1 ?_
  refine va_getN (D := D) (own := RX11) (ci := 7) (v := .int 0) (C := RX7) (T := TX7) (N := 15) hx hb hts inb_X7 hown hK.1 hP 1 rfl rfl 0 (by decide) (hK.nf 7 rfl) (fun _ h9 => h9) ht0 dX11_noTown_4 ?_
  refine lv_if_ne (tgt := 14) hx hb dX11_noTown_7 (by decide) (fun h9 => absurd rfl h9) (fun _ => ?_)
  refine lv_iconst (v := 1) hx hb dX11_noTown_10 (by decide) ?_
  refine lv_goto (tgt := 15) hx hb dX11_noTown_11 (by decide) ?_
  exact fn_iret hx hb hr hlocks rfl hP hD hS () (by first | rfl | decide) [] (by decide) rfl dX11_noTown_15
theorem dX11_page_0 : decode cX11_page 0 = .ok (.aload_n 0, 1) := by decide +kernel
theorem dX11_page_1 : decode cX11_page 1 = .ok (.getfield 19, 3) := by decide +kernel
theorem dX11_page_4 : decode cX11_page 4 = .ok (.iload_n 1, 1) := by decide +kernel
theorem dX11_page_5 : decode cX11_page 5 = .ok (.invokevirtual 130, 3) := by decide +kernel
theorem dX11_page_8 : decode cX11_page 8 = .ok (.ifCond .ne 6, 3) := by decide +kernel
theorem dX11_page_11 : decode cX11_page 11 = .ok (.bipush (-2), 2) := by decide +kernel
theorem dX11_page_13 : decode cX11_page 13 = .ok (.ireturn, 1) := by decide +kernel
set_option maxHeartbeats 4000000 in
set_option maxRecDepth 100000 in
theorem c_X11_page (l : Launch) (D : va_G) (K : Nat → ClassId) (t0 : Nat) (ft : List Value) (ht0 : ft[0]? = some (.int 0)) (ht3 : ft[3]? = some (.int 0)) (ht4 : ft[4]? = some (.int 0)) (ht5 : ft[5]? = some (.int 0)) (x0 : Nat) (fx : List Value) (hx1 : fx[1]? = some (.ref t0)) (p0 p1 : Int32) : fn_CI (S := Unit) l D K yX11_page (fn_ws yX11_page cX11_page 3 (some .int)) ({ frames := 8, cells := 0, slots := 0, locals := 200 }) [.ref x0, .int p0, .int p1] [(x0, .inr (11, fx)), (t0, .inr (7, ft))] (fun r _ => r = (-2)) (fun _ => []) 0 0 := by
  refine fn_inI (cc := cX11_page) (maxL := 3) (ret := (some .int)) (by decide) rfl (Nat.le_of_ble_eq_true rfl) ?_
  intro p e s m below meth c A ls B hA hP hD hS hl
  obtain ⟨hx, hb, hr, hml, hts, hown, hlocks, hin, hK⟩ := B
  have hown : s.vm.findClass RX11 = some m.cls := hown
  have hts := fun w h => hts w (List.mem_cons_of_mem _ h)
  have hl : lv_has ls 3 [(0, .ref x0), (1, .int p0), (2, .int p1)] := hl
  refine lv_aload_n hx hb dX11_page_0 rfl (lv_at hl 0 rfl) ?_
  refine va_get (D := D) (own := RX11) (ci := 11) (v := .ref t0) (C := RX11) (T := TX11) (N := 13) hx hb hts inb_X11 hown hK.1 hP 0 rfl rfl 1 (by decide) (hts _ wd_423) (fun _ h9 => h9) hx1 dX11_page_1 ?_
  refine lv_iload_n hx hb dX11_page_4 rfl (lv_at hl 1 rfl) ?_
  refine fn_goi (wc := [(t0, .inr (7, ft))]) (wr := [(x0, .inr (11, fx))]) hK hP hD hS hA [1] [0] rfl rfl (by decide) (fun hp => va_runVN (C := RX7) (As := [.int p0]) (rest := []) ⟨hx, hb, hml, hown, hts⟩ (c_X7_hasPage (l := l) (D := D) (K := K) (t0 := (t0)) (p0 := (p0)) (ft := (ft)) (ht0 := ht0) (ht3 := ht3) (ht4 := ht4) (ht5 := ht5) _) ⟨va_cnB (own := RX11) 1 hts (fn_gin wd_662) rfl rfl rfl (hK.nw 108 rfl) (hts _ wd_4) (by decide +kernel) ⟨Nat.le_of_ble_eq_true rfl, Nat.le_of_ble_eq_true rfl⟩, hts _ wd_661, hts _ wp_25⟩ ⟨fn_blind, va_recv hK.1 hP (ci := 7) (q0 := 1) rfl rfl, hp⟩ rfl rfl hl.1 rfl (lv_room (Nat.le_of_ble_eq_true rfl)) dX11_page_5 ⟨Nat.le_of_ble_eq_true rfl, Nat.le_of_ble_eq_true rfl⟩) (fun r2 u1 H locs hwu1 hP hD hS => ?_)
  have r2_e : r2 = 0 := hwu1
  subst r2_e
  have hP : va_P D vwCl [(x0, .inr (11, fx))] H := hP
  have hD : va_D A [(x0, .inr (11, fx))] := hD
  refine lv_if_ne (tgt := 14) hx hb dX11_page_8 (by decide) (fun h9 => absurd rfl h9) (fun _ => ?_)
  refine lv_bipush (v := (-2)) hx hb dX11_page_11 (by decide) ?_
  exact fn_iret hx hb hr hlocks rfl hP hD hS () (by first | rfl | decide) [] (by decide) rfl dX11_page_13
theorem dX11_book_0 : decode cX11_book 0 = .ok (.aload_n 0, 1) := by decide +kernel
theorem dX11_book_1 : decode cX11_book 1 = .ok (.getfield 19, 3) := by decide +kernel
theorem dX11_book_4 : decode cX11_book 4 = .ok (.iload_n 1, 1) := by decide +kernel
theorem dX11_book_5 : decode cX11_book 5 = .ok (.invokevirtual 148, 3) := by decide +kernel
theorem dX11_book_8 : decode cX11_book 8 = .ok (.ifCond .ne 6, 3) := by decide +kernel
theorem dX11_book_11 : decode cX11_book 11 = .ok (.bipush (-2), 2) := by decide +kernel
theorem dX11_book_13 : decode cX11_book 13 = .ok (.ireturn, 1) := by decide +kernel
set_option maxHeartbeats 4000000 in
set_option maxRecDepth 100000 in
theorem c_X11_book (l : Launch) (D : va_G) (K : Nat → ClassId) (t0 : Nat) (ft : List Value) (ht0 : ft[0]? = some (.int 0)) (ht3 : ft[3]? = some (.int 0)) (ht4 : ft[4]? = some (.int 0)) (ht5 : ft[5]? = some (.int 0)) (x0 : Nat) (fx : List Value) (hx1 : fx[1]? = some (.ref t0)) (p0 p1 : Int32) : fn_CI (S := Unit) l D K yX11_book (fn_ws yX11_book cX11_book 3 (some .int)) ({ frames := 8, cells := 0, slots := 0, locals := 200 }) [.ref x0, .int p0, .int p1] [(x0, .inr (11, fx)), (t0, .inr (7, ft))] (fun r _ => r = (-2)) (fun _ => []) 0 0 := by
  refine fn_inI (cc := cX11_book) (maxL := 3) (ret := (some .int)) (by decide) rfl (Nat.le_of_ble_eq_true rfl) ?_
  intro p e s m below meth c A ls B hA hP hD hS hl
  obtain ⟨hx, hb, hr, hml, hts, hown, hlocks, hin, hK⟩ := B
  have hown : s.vm.findClass RX11 = some m.cls := hown
  have hts := fun w h => hts w (List.mem_cons_of_mem _ h)
  have hl : lv_has ls 3 [(0, .ref x0), (1, .int p0), (2, .int p1)] := hl
  refine lv_aload_n hx hb dX11_book_0 rfl (lv_at hl 0 rfl) ?_
  refine va_get (D := D) (own := RX11) (ci := 11) (v := .ref t0) (C := RX11) (T := TX11) (N := 13) hx hb hts inb_X11 hown hK.1 hP 0 rfl rfl 1 (by decide) (hts _ wd_423) (fun _ h9 => h9) hx1 dX11_book_1 ?_
  refine lv_iload_n hx hb dX11_book_4 rfl (lv_at hl 1 rfl) ?_
  refine fn_goi (wc := [(t0, .inr (7, ft))]) (wr := [(x0, .inr (11, fx))]) hK hP hD hS hA [1] [0] rfl rfl (by decide) (fun hp => va_runVN (C := RX7) (As := [.int p0]) (rest := []) ⟨hx, hb, hml, hown, hts⟩ (c_X7_hasBook (l := l) (D := D) (K := K) (t0 := (t0)) (p0 := (p0)) (ft := (ft)) (ht0 := ht0) (ht3 := ht3) (ht4 := ht4) (ht5 := ht5) _) ⟨va_cnB (own := RX11) 1 hts (fn_gin wd_674) rfl rfl rfl (hK.nw 110 rfl) (hts _ wd_4) (by decide +kernel) ⟨Nat.le_of_ble_eq_true rfl, Nat.le_of_ble_eq_true rfl⟩, hts _ wd_673, hts _ wp_27⟩ ⟨fn_blind, va_recv hK.1 hP (ci := 7) (q0 := 1) rfl rfl, hp⟩ rfl rfl hl.1 rfl (lv_room (Nat.le_of_ble_eq_true rfl)) dX11_book_5 ⟨Nat.le_of_ble_eq_true rfl, Nat.le_of_ble_eq_true rfl⟩) (fun r2 u1 H locs hwu1 hP hD hS => ?_)
  have r2_e : r2 = 0 := hwu1
  subst r2_e
  have hP : va_P D vwCl [(x0, .inr (11, fx))] H := hP
  have hD : va_D A [(x0, .inr (11, fx))] := hD
  refine lv_if_ne (tgt := 14) hx hb dX11_book_8 (by decide) (fun h9 => absurd rfl h9) (fun _ => ?_)
  refine lv_bipush (v := (-2)) hx hb dX11_book_11 (by decide) ?_
  exact fn_iret hx hb hr hlocks rfl hP hD hS () (by first | rfl | decide) [] (by decide) rfl dX11_book_13
theorem dX11_leaf_0 : decode cX11_leaf 0 = .ok (.aload_n 0, 1) := by decide +kernel
theorem dX11_leaf_1 : decode cX11_leaf 1 = .ok (.getfield 19, 3) := by decide +kernel
theorem dX11_leaf_4 : decode cX11_leaf 4 = .ok (.iload_n 1, 1) := by decide +kernel
theorem dX11_leaf_5 : decode cX11_leaf 5 = .ok (.invokevirtual 148, 3) := by decide +kernel
theorem dX11_leaf_8 : decode cX11_leaf 8 = .ok (.ifCond .eq 15, 3) := by decide +kernel
theorem dX11_leaf_23 : decode cX11_leaf 23 = .ok (.bipush (-2), 2) := by decide +kernel
theorem dX11_leaf_25 : decode cX11_leaf 25 = .ok (.ireturn, 1) := by decide +kernel
set_option maxHeartbeats 4000000 in
set_option maxRecDepth 100000 in
theorem c_X11_leaf (l : Launch) (D : va_G) (K : Nat → ClassId) (t0 : Nat) (ft : List Value) (ht0 : ft[0]? = some (.int 0)) (ht3 : ft[3]? = some (.int 0)) (ht4 : ft[4]? = some (.int 0)) (ht5 : ft[5]? = some (.int 0)) (x0 : Nat) (fx : List Value) (hx1 : fx[1]? = some (.ref t0)) (p0 p1 : Int32) : fn_CI (S := Unit) l D K yX11_leaf (fn_ws yX11_leaf cX11_leaf 3 (some .int)) ({ frames := 8, cells := 0, slots := 0, locals := 200 }) [.ref x0, .int p0, .int p1] [(x0, .inr (11, fx)), (t0, .inr (7, ft))] (fun r _ => r = (-2)) (fun _ => []) 0 0 := by
  refine fn_inI (cc := cX11_leaf) (maxL := 3) (ret := (some .int)) (by decide) rfl (Nat.le_of_ble_eq_true rfl) ?_
  intro p e s m below meth c A ls B hA hP hD hS hl
  obtain ⟨hx, hb, hr, hml, hts, hown, hlocks, hin, hK⟩ := B
  have hown : s.vm.findClass RX11 = some m.cls := hown
  have hts := fun w h => hts w (List.mem_cons_of_mem _ h)
  have hl : lv_has ls 3 [(0, .ref x0), (1, .int p0), (2, .int p1)] := hl
  refine lv_aload_n hx hb dX11_leaf_0 rfl (lv_at hl 0 rfl) ?_
  refine va_get (D := D) (own := RX11) (ci := 11) (v := .ref t0) (C := RX11) (T := TX11) (N := 13) hx hb hts inb_X11 hown hK.1 hP 0 rfl rfl 1 (by decide) (hts _ wd_423) (fun _ h9 => h9) hx1 dX11_leaf_1 ?_
  refine lv_iload_n hx hb dX11_leaf_4 rfl (lv_at hl 1 rfl) ?_
  refine fn_goi (wc := [(t0, .inr (7, ft))]) (wr := [(x0, .inr (11, fx))]) hK hP hD hS hA [1] [0] rfl rfl (by decide) (fun hp => va_runVN (C := RX7) (As := [.int p0]) (rest := []) ⟨hx, hb, hml, hown, hts⟩ (c_X7_hasBook (l := l) (D := D) (K := K) (t0 := (t0)) (p0 := (p0)) (ft := (ft)) (ht0 := ht0) (ht3 := ht3) (ht4 := ht4) (ht5 := ht5) _) ⟨va_cnB (own := RX11) 1 hts (fn_gin wd_674) rfl rfl rfl (hK.nw 110 rfl) (hts _ wd_4) (by decide +kernel) ⟨Nat.le_of_ble_eq_true rfl, Nat.le_of_ble_eq_true rfl⟩, hts _ wd_673, hts _ wp_27⟩ ⟨fn_blind, va_recv hK.1 hP (ci := 7) (q0 := 1) rfl rfl, hp⟩ rfl rfl hl.1 rfl (lv_room (Nat.le_of_ble_eq_true rfl)) dX11_leaf_5 ⟨Nat.le_of_ble_eq_true rfl, Nat.le_of_ble_eq_true rfl⟩) (fun r2 u1 H locs hwu1 hP hD hS => ?_)
  have r2_e : r2 = 0 := hwu1
  subst r2_e
  have hP : va_P D vwCl [(x0, .inr (11, fx))] H := hP
  have hD : va_D A [(x0, .inr (11, fx))] := hD
  refine lv_if_eq (tgt := 23) hx hb dX11_leaf_8 (by decide) (fun _ => ?_) (fun h9 => absurd (by decide) h9)
  refine lv_bipush (v := (-2)) hx hb dX11_leaf_23 (by decide) ?_
  exact fn_iret hx hb hr hlocks rfl hP hD hS () (by first | rfl | decide) [] (by decide) rfl dX11_leaf_25
theorem dX11_note_0 : decode cX11_note 0 = .ok (.aload_n 0, 1) := by decide +kernel
theorem dX11_note_1 : decode cX11_note 1 = .ok (.getfield 19, 3) := by decide +kernel
theorem dX11_note_4 : decode cX11_note 4 = .ok (.iload_n 1, 1) := by decide +kernel
theorem dX11_note_5 : decode cX11_note 5 = .ok (.invokevirtual 167, 3) := by decide +kernel
theorem dX11_note_8 : decode cX11_note 8 = .ok (.ifCond .ne 6, 3) := by decide +kernel
theorem dX11_note_11 : decode cX11_note 11 = .ok (.bipush (-2), 2) := by decide +kernel
theorem dX11_note_13 : decode cX11_note 13 = .ok (.ireturn, 1) := by decide +kernel
set_option maxHeartbeats 4000000 in
set_option maxRecDepth 100000 in
theorem c_X11_note (l : Launch) (D : va_G) (K : Nat → ClassId) (t0 : Nat) (ft : List Value) (ht0 : ft[0]? = some (.int 0)) (ht3 : ft[3]? = some (.int 0)) (ht4 : ft[4]? = some (.int 0)) (ht5 : ft[5]? = some (.int 0)) (x0 : Nat) (fx : List Value) (hx1 : fx[1]? = some (.ref t0)) (p0 p1 : Int32) : fn_CI (S := Unit) l D K yX11_note (fn_ws yX11_note cX11_note 3 (some .int)) ({ frames := 8, cells := 0, slots := 0, locals := 200 }) [.ref x0, .int p0, .int p1] [(x0, .inr (11, fx)), (t0, .inr (7, ft))] (fun r _ => r = (-2)) (fun _ => []) 0 0 := by
  refine fn_inI (cc := cX11_note) (maxL := 3) (ret := (some .int)) (by decide) rfl (Nat.le_of_ble_eq_true rfl) ?_
  intro p e s m below meth c A ls B hA hP hD hS hl
  obtain ⟨hx, hb, hr, hml, hts, hown, hlocks, hin, hK⟩ := B
  have hown : s.vm.findClass RX11 = some m.cls := hown
  have hts := fun w h => hts w (List.mem_cons_of_mem _ h)
  have hl : lv_has ls 3 [(0, .ref x0), (1, .int p0), (2, .int p1)] := hl
  refine lv_aload_n hx hb dX11_note_0 rfl (lv_at hl 0 rfl) ?_
  refine va_get (D := D) (own := RX11) (ci := 11) (v := .ref t0) (C := RX11) (T := TX11) (N := 13) hx hb hts inb_X11 hown hK.1 hP 0 rfl rfl 1 (by decide) (hts _ wd_423) (fun _ h9 => h9) hx1 dX11_note_1 ?_
  refine lv_iload_n hx hb dX11_note_4 rfl (lv_at hl 1 rfl) ?_
  refine fn_goi (wc := [(t0, .inr (7, ft))]) (wr := [(x0, .inr (11, fx))]) hK hP hD hS hA [1] [0] rfl rfl (by decide) (fun hp => va_runVN (C := RX7) (As := [.int p0]) (rest := []) ⟨hx, hb, hml, hown, hts⟩ (c_X7_hasNote (l := l) (D := D) (K := K) (t0 := (t0)) (p0 := (p0)) (ft := (ft)) (ht0 := ht0) (ht3 := ht3) (ht4 := ht4) (ht5 := ht5) _) ⟨va_cnB (own := RX11) 1 hts (fn_gin wd_688) rfl rfl rfl (hK.nw 113 rfl) (hts _ wd_4) (by decide +kernel) ⟨Nat.le_of_ble_eq_true rfl, Nat.le_of_ble_eq_true rfl⟩, hts _ wd_687, hts _ wp_28⟩ ⟨fn_blind, va_recv hK.1 hP (ci := 7) (q0 := 1) rfl rfl, hp⟩ rfl rfl hl.1 rfl (lv_room (Nat.le_of_ble_eq_true rfl)) dX11_note_5 ⟨Nat.le_of_ble_eq_true rfl, Nat.le_of_ble_eq_true rfl⟩) (fun r2 u1 H locs hwu1 hP hD hS => ?_)
  have r2_e : r2 = 0 := hwu1
  subst r2_e
  have hP : va_P D vwCl [(x0, .inr (11, fx))] H := hP
  have hD : va_D A [(x0, .inr (11, fx))] := hD
  refine lv_if_ne (tgt := 14) hx hb dX11_note_8 (by decide) (fun h9 => absurd rfl h9) (fun _ => ?_)
  refine lv_bipush (v := (-2)) hx hb dX11_note_11 (by decide) ?_
  exact fn_iret hx hb hr hlocks rfl hP hD hS () (by first | rfl | decide) [] (by decide) rfl dX11_note_13
theorem dX11_leads_0 : decode cX11_leads 0 = .ok (.aload_n 0, 1) := by decide +kernel
theorem dX11_leads_1 : decode cX11_leads 1 = .ok (.getfield 19, 3) := by decide +kernel
theorem dX11_leads_4 : decode cX11_leads 4 = .ok (.iload_n 1, 1) := by decide +kernel
theorem dX11_leads_5 : decode cX11_leads 5 = .ok (.invokevirtual 167, 3) := by decide +kernel
theorem dX11_leads_8 : decode cX11_leads 8 = .ok (.ifCond .eq 15, 3) := by decide +kernel
theorem dX11_leads_23 : decode cX11_leads 23 = .ok (.bipush (-2), 2) := by decide +kernel
theorem dX11_leads_25 : decode cX11_leads 25 = .ok (.ireturn, 1) := by decide +kernel
set_option maxHeartbeats 4000000 in
set_option maxRecDepth 100000 in
theorem c_X11_leads (l : Launch) (D : va_G) (K : Nat → ClassId) (t0 : Nat) (ft : List Value) (ht0 : ft[0]? = some (.int 0)) (ht3 : ft[3]? = some (.int 0)) (ht4 : ft[4]? = some (.int 0)) (ht5 : ft[5]? = some (.int 0)) (x0 : Nat) (fx : List Value) (hx1 : fx[1]? = some (.ref t0)) (p0 : Int32) : fn_CI (S := Unit) l D K yX11_leads (fn_ws yX11_leads cX11_leads 2 (some .int)) ({ frames := 8, cells := 0, slots := 0, locals := 200 }) [.ref x0, .int p0] [(x0, .inr (11, fx)), (t0, .inr (7, ft))] (fun r _ => r = (-2)) (fun _ => []) 0 0 := by
  refine fn_inI (cc := cX11_leads) (maxL := 2) (ret := (some .int)) (by decide) rfl (Nat.le_of_ble_eq_true rfl) ?_
  intro p e s m below meth c A ls B hA hP hD hS hl
  obtain ⟨hx, hb, hr, hml, hts, hown, hlocks, hin, hK⟩ := B
  have hown : s.vm.findClass RX11 = some m.cls := hown
  have hts := fun w h => hts w (List.mem_cons_of_mem _ h)
  have hl : lv_has ls 2 [(0, .ref x0), (1, .int p0)] := hl
  refine lv_aload_n hx hb dX11_leads_0 rfl (lv_at hl 0 rfl) ?_
  refine va_get (D := D) (own := RX11) (ci := 11) (v := .ref t0) (C := RX11) (T := TX11) (N := 13) hx hb hts inb_X11 hown hK.1 hP 0 rfl rfl 1 (by decide) (hts _ wd_423) (fun _ h9 => h9) hx1 dX11_leads_1 ?_
  refine lv_iload_n hx hb dX11_leads_4 rfl (lv_at hl 1 rfl) ?_
  refine fn_goi (wc := [(t0, .inr (7, ft))]) (wr := [(x0, .inr (11, fx))]) hK hP hD hS hA [1] [0] rfl rfl (by decide) (fun hp => va_runVN (C := RX7) (As := [.int p0]) (rest := []) ⟨hx, hb, hml, hown, hts⟩ (c_X7_hasNote (l := l) (D := D) (K := K) (t0 := (t0)) (p0 := (p0)) (ft := (ft)) (ht0 := ht0) (ht3 := ht3) (ht4 := ht4) (ht5 := ht5) _) ⟨va_cnB (own := RX11) 1 hts (fn_gin wd_688) rfl rfl rfl (hK.nw 113 rfl) (hts _ wd_4) (by decide +kernel) ⟨Nat.le_of_ble_eq_true rfl, Nat.le_of_ble_eq_true rfl⟩, hts _ wd_687, hts _ wp_28⟩ ⟨fn_blind, va_recv hK.1 hP (ci := 7) (q0 := 1) rfl rfl, hp⟩ rfl rfl hl.1 rfl (lv_room (Nat.le_of_ble_eq_true rfl)) dX11_leads_5 ⟨Nat.le_of_ble_eq_true rfl, Nat.le_of_ble_eq_true rfl⟩) (fun r2 u1 H locs hwu1 hP hD hS => ?_)
  have r2_e : r2 = 0 := hwu1
  subst r2_e
  have hP : va_P D vwCl [(x0, .inr (11, fx))] H := hP
  have hD : va_D A [(x0, .inr (11, fx))] := hD
  refine lv_if_eq (tgt := 23) hx hb dX11_leads_8 (by decide) (fun _ => ?_) (fun h9 => absurd (by decide) h9)
  refine lv_bipush (v := (-2)) hx hb dX11_leads_23 (by decide) ?_
  exact fn_iret hx hb hr hlocks rfl hP hD hS () (by first | rfl | decide) [] (by decide) rfl dX11_leads_25
theorem dX11_meant_0 : decode cX11_meant 0 = .ok (.aload_n 0, 1) := by decide +kernel
theorem dX11_meant_1 : decode cX11_meant 1 = .ok (.getfield 19, 3) := by decide +kernel
theorem dX11_meant_4 : decode cX11_meant 4 = .ok (.iload_n 1, 1) := by decide +kernel
theorem dX11_meant_5 : decode cX11_meant 5 = .ok (.invokevirtual 167, 3) := by decide +kernel
theorem dX11_meant_8 : decode cX11_meant 8 = .ok (.ifCond .eq 14, 3) := by decide +kernel
theorem dX11_meant_22 : decode cX11_meant 22 = .ok (.bipush (-2), 2) := by decide +kernel
theorem dX11_meant_24 : decode cX11_meant 24 = .ok (.ireturn, 1) := by decide +kernel
set_option maxHeartbeats 4000000 in
set_option maxRecDepth 100000 in
theorem c_X11_meant (l : Launch) (D : va_G) (K : Nat → ClassId) (t0 : Nat) (ft : List Value) (ht0 : ft[0]? = some (.int 0)) (ht3 : ft[3]? = some (.int 0)) (ht4 : ft[4]? = some (.int 0)) (ht5 : ft[5]? = some (.int 0)) (x0 : Nat) (fx : List Value) (hx1 : fx[1]? = some (.ref t0)) (p0 : Int32) : fn_CI (S := Unit) l D K yX11_meant (fn_ws yX11_meant cX11_meant 2 (some .int)) ({ frames := 8, cells := 0, slots := 0, locals := 200 }) [.ref x0, .int p0] [(x0, .inr (11, fx)), (t0, .inr (7, ft))] (fun r _ => r = (-2)) (fun _ => []) 0 0 := by
  refine fn_inI (cc := cX11_meant) (maxL := 2) (ret := (some .int)) (by decide) rfl (Nat.le_of_ble_eq_true rfl) ?_
  intro p e s m below meth c A ls B hA hP hD hS hl
  obtain ⟨hx, hb, hr, hml, hts, hown, hlocks, hin, hK⟩ := B
  have hown : s.vm.findClass RX11 = some m.cls := hown
  have hts := fun w h => hts w (List.mem_cons_of_mem _ h)
  have hl : lv_has ls 2 [(0, .ref x0), (1, .int p0)] := hl
  refine lv_aload_n hx hb dX11_meant_0 rfl (lv_at hl 0 rfl) ?_
  refine va_get (D := D) (own := RX11) (ci := 11) (v := .ref t0) (C := RX11) (T := TX11) (N := 13) hx hb hts inb_X11 hown hK.1 hP 0 rfl rfl 1 (by decide) (hts _ wd_423) (fun _ h9 => h9) hx1 dX11_meant_1 ?_
  refine lv_iload_n hx hb dX11_meant_4 rfl (lv_at hl 1 rfl) ?_
  refine fn_goi (wc := [(t0, .inr (7, ft))]) (wr := [(x0, .inr (11, fx))]) hK hP hD hS hA [1] [0] rfl rfl (by decide) (fun hp => va_runVN (C := RX7) (As := [.int p0]) (rest := []) ⟨hx, hb, hml, hown, hts⟩ (c_X7_hasNote (l := l) (D := D) (K := K) (t0 := (t0)) (p0 := (p0)) (ft := (ft)) (ht0 := ht0) (ht3 := ht3) (ht4 := ht4) (ht5 := ht5) _) ⟨va_cnB (own := RX11) 1 hts (fn_gin wd_688) rfl rfl rfl (hK.nw 113 rfl) (hts _ wd_4) (by decide +kernel) ⟨Nat.le_of_ble_eq_true rfl, Nat.le_of_ble_eq_true rfl⟩, hts _ wd_687, hts _ wp_28⟩ ⟨fn_blind, va_recv hK.1 hP (ci := 7) (q0 := 1) rfl rfl, hp⟩ rfl rfl hl.1 rfl (lv_room (Nat.le_of_ble_eq_true rfl)) dX11_meant_5 ⟨Nat.le_of_ble_eq_true rfl, Nat.le_of_ble_eq_true rfl⟩) (fun r2 u1 H locs hwu1 hP hD hS => ?_)
  have r2_e : r2 = 0 := hwu1
  subst r2_e
  have hP : va_P D vwCl [(x0, .inr (11, fx))] H := hP
  have hD : va_D A [(x0, .inr (11, fx))] := hD
  refine lv_if_eq (tgt := 22) hx hb dX11_meant_8 (by decide) (fun _ => ?_) (fun h9 => absurd (by decide) h9)
  refine lv_bipush (v := (-2)) hx hb dX11_meant_22 (by decide) ?_
  exact fn_iret hx hb hr hlocks rfl hP hD hS () (by first | rfl | decide) [] (by decide) rfl dX11_meant_24
theorem dX11_edition_0 : decode cX11_edition 0 = .ok (.aload_n 0, 1) := by decide +kernel
theorem dX11_edition_1 : decode cX11_edition 1 = .ok (.getfield 19, 3) := by decide +kernel
theorem dX11_edition_4 : decode cX11_edition 4 = .ok (.iload_n 1, 1) := by decide +kernel
theorem dX11_edition_5 : decode cX11_edition 5 = .ok (.invokevirtual 148, 3) := by decide +kernel
theorem dX11_edition_8 : decode cX11_edition 8 = .ok (.ifCond .eq 20, 3) := by decide +kernel
theorem dX11_edition_28 : decode cX11_edition 28 = .ok (.bipush (-2), 2) := by decide +kernel
theorem dX11_edition_30 : decode cX11_edition 30 = .ok (.ireturn, 1) := by decide +kernel
set_option maxHeartbeats 4000000 in
set_option maxRecDepth 100000 in
theorem c_X11_edition (l : Launch) (D : va_G) (K : Nat → ClassId) (t0 : Nat) (ft : List Value) (ht0 : ft[0]? = some (.int 0)) (ht3 : ft[3]? = some (.int 0)) (ht4 : ft[4]? = some (.int 0)) (ht5 : ft[5]? = some (.int 0)) (x0 : Nat) (fx : List Value) (hx1 : fx[1]? = some (.ref t0)) (p0 p1 : Int32) : fn_CI (S := Unit) l D K yX11_edition (fn_ws yX11_edition cX11_edition 3 (some .int)) ({ frames := 8, cells := 0, slots := 0, locals := 200 }) [.ref x0, .int p0, .int p1] [(x0, .inr (11, fx)), (t0, .inr (7, ft))] (fun r _ => r = (-2)) (fun _ => []) 0 0 := by
  refine fn_inI (cc := cX11_edition) (maxL := 3) (ret := (some .int)) (by decide) rfl (Nat.le_of_ble_eq_true rfl) ?_
  intro p e s m below meth c A ls B hA hP hD hS hl
  obtain ⟨hx, hb, hr, hml, hts, hown, hlocks, hin, hK⟩ := B
  have hown : s.vm.findClass RX11 = some m.cls := hown
  have hts := fun w h => hts w (List.mem_cons_of_mem _ h)
  have hl : lv_has ls 3 [(0, .ref x0), (1, .int p0), (2, .int p1)] := hl
  refine lv_aload_n hx hb dX11_edition_0 rfl (lv_at hl 0 rfl) ?_
  refine va_get (D := D) (own := RX11) (ci := 11) (v := .ref t0) (C := RX11) (T := TX11) (N := 13) hx hb hts inb_X11 hown hK.1 hP 0 rfl rfl 1 (by decide) (hts _ wd_423) (fun _ h9 => h9) hx1 dX11_edition_1 ?_
  refine lv_iload_n hx hb dX11_edition_4 rfl (lv_at hl 1 rfl) ?_
  refine fn_goi (wc := [(t0, .inr (7, ft))]) (wr := [(x0, .inr (11, fx))]) hK hP hD hS hA [1] [0] rfl rfl (by decide) (fun hp => va_runVN (C := RX7) (As := [.int p0]) (rest := []) ⟨hx, hb, hml, hown, hts⟩ (c_X7_hasBook (l := l) (D := D) (K := K) (t0 := (t0)) (p0 := (p0)) (ft := (ft)) (ht0 := ht0) (ht3 := ht3) (ht4 := ht4) (ht5 := ht5) _) ⟨va_cnB (own := RX11) 1 hts (fn_gin wd_674) rfl rfl rfl (hK.nw 110 rfl) (hts _ wd_4) (by decide +kernel) ⟨Nat.le_of_ble_eq_true rfl, Nat.le_of_ble_eq_true rfl⟩, hts _ wd_673, hts _ wp_27⟩ ⟨fn_blind, va_recv hK.1 hP (ci := 7) (q0 := 1) rfl rfl, hp⟩ rfl rfl hl.1 rfl (lv_room (Nat.le_of_ble_eq_true rfl)) dX11_edition_5 ⟨Nat.le_of_ble_eq_true rfl, Nat.le_of_ble_eq_true rfl⟩) (fun r2 u1 H locs hwu1 hP hD hS => ?_)
  have r2_e : r2 = 0 := hwu1
  subst r2_e
  have hP : va_P D vwCl [(x0, .inr (11, fx))] H := hP
  have hD : va_D A [(x0, .inr (11, fx))] := hD
  refine lv_if_eq (tgt := 28) hx hb dX11_edition_8 (by decide) (fun _ => ?_) (fun h9 => absurd (by decide) h9)
  refine lv_bipush (v := (-2)) hx hb dX11_edition_28 (by decide) ?_
  exact fn_iret hx hb hr hlocks rfl hP hD hS () (by first | rfl | decide) [] (by decide) rfl dX11_edition_30
theorem dX11_tear_0 : decode cX11_tear 0 = .ok (.aload_n 0, 1) := by decide +kernel
theorem dX11_tear_1 : decode cX11_tear 1 = .ok (.getfield 19, 3) := by decide +kernel
theorem dX11_tear_4 : decode cX11_tear 4 = .ok (.iload_n 1, 1) := by decide +kernel
theorem dX11_tear_5 : decode cX11_tear 5 = .ok (.invokevirtual 148, 3) := by decide +kernel
theorem dX11_tear_8 : decode cX11_tear 8 = .ok (.ifCond .eq 20, 3) := by decide +kernel
theorem dX11_tear_28 : decode cX11_tear 28 = .ok (.bipush (-2), 2) := by decide +kernel
theorem dX11_tear_30 : decode cX11_tear 30 = .ok (.ireturn, 1) := by decide +kernel
set_option maxHeartbeats 4000000 in
set_option maxRecDepth 100000 in
theorem c_X11_tear (l : Launch) (D : va_G) (K : Nat → ClassId) (t0 : Nat) (ft : List Value) (ht0 : ft[0]? = some (.int 0)) (ht3 : ft[3]? = some (.int 0)) (ht4 : ft[4]? = some (.int 0)) (ht5 : ft[5]? = some (.int 0)) (x0 : Nat) (fx : List Value) (hx1 : fx[1]? = some (.ref t0)) (p0 p1 : Int32) : fn_CI (S := Unit) l D K yX11_tear (fn_ws yX11_tear cX11_tear 4 (some .int)) ({ frames := 8, cells := 0, slots := 0, locals := 200 }) [.ref x0, .int p0, .int p1] [(x0, .inr (11, fx)), (t0, .inr (7, ft))] (fun r _ => r = (-2)) (fun _ => []) 0 0 := by
  refine fn_inI (cc := cX11_tear) (maxL := 4) (ret := (some .int)) (by decide) rfl (Nat.le_of_ble_eq_true rfl) ?_
  intro p e s m below meth c A ls B hA hP hD hS hl
  obtain ⟨hx, hb, hr, hml, hts, hown, hlocks, hin, hK⟩ := B
  have hown : s.vm.findClass RX11 = some m.cls := hown
  have hts := fun w h => hts w (List.mem_cons_of_mem _ h)
  have hl : lv_has ls 4 [(0, .ref x0), (1, .int p0), (2, .int p1)] := hl
  refine lv_aload_n hx hb dX11_tear_0 rfl (lv_at hl 0 rfl) ?_
  refine va_get (D := D) (own := RX11) (ci := 11) (v := .ref t0) (C := RX11) (T := TX11) (N := 13) hx hb hts inb_X11 hown hK.1 hP 0 rfl rfl 1 (by decide) (hts _ wd_423) (fun _ h9 => h9) hx1 dX11_tear_1 ?_
  refine lv_iload_n hx hb dX11_tear_4 rfl (lv_at hl 1 rfl) ?_
  refine fn_goi (wc := [(t0, .inr (7, ft))]) (wr := [(x0, .inr (11, fx))]) hK hP hD hS hA [1] [0] rfl rfl (by decide) (fun hp => va_runVN (C := RX7) (As := [.int p0]) (rest := []) ⟨hx, hb, hml, hown, hts⟩ (c_X7_hasBook (l := l) (D := D) (K := K) (t0 := (t0)) (p0 := (p0)) (ft := (ft)) (ht0 := ht0) (ht3 := ht3) (ht4 := ht4) (ht5 := ht5) _) ⟨va_cnB (own := RX11) 1 hts (fn_gin wd_674) rfl rfl rfl (hK.nw 110 rfl) (hts _ wd_4) (by decide +kernel) ⟨Nat.le_of_ble_eq_true rfl, Nat.le_of_ble_eq_true rfl⟩, hts _ wd_673, hts _ wp_27⟩ ⟨fn_blind, va_recv hK.1 hP (ci := 7) (q0 := 1) rfl rfl, hp⟩ rfl rfl hl.1 rfl (lv_room (Nat.le_of_ble_eq_true rfl)) dX11_tear_5 ⟨Nat.le_of_ble_eq_true rfl, Nat.le_of_ble_eq_true rfl⟩) (fun r2 u1 H locs hwu1 hP hD hS => ?_)
  have r2_e : r2 = 0 := hwu1
  subst r2_e
  have hP : va_P D vwCl [(x0, .inr (11, fx))] H := hP
  have hD : va_D A [(x0, .inr (11, fx))] := hD
  refine lv_if_eq (tgt := 28) hx hb dX11_tear_8 (by decide) (fun _ => ?_) (fun h9 => absurd (by decide) h9)
  refine lv_bipush (v := (-2)) hx hb dX11_tear_28 (by decide) ?_
  exact fn_iret hx hb hr hlocks rfl hP hD hS () (by first | rfl | decide) [] (by decide) rfl dX11_tear_30
theorem dX11_misprint_0 : decode cX11_misprint 0 = .ok (.aload_n 0, 1) := by decide +kernel
theorem dX11_misprint_1 : decode cX11_misprint 1 = .ok (.getfield 19, 3) := by decide +kernel
theorem dX11_misprint_4 : decode cX11_misprint 4 = .ok (.iload_n 1, 1) := by decide +kernel
theorem dX11_misprint_5 : decode cX11_misprint 5 = .ok (.invokevirtual 167, 3) := by decide +kernel
theorem dX11_misprint_8 : decode cX11_misprint 8 = .ok (.ifCond .eq 13, 3) := by decide +kernel
theorem dX11_misprint_21 : decode cX11_misprint 21 = .ok (.bipush (-2), 2) := by decide +kernel
theorem dX11_misprint_23 : decode cX11_misprint 23 = .ok (.ireturn, 1) := by decide +kernel
set_option maxHeartbeats 4000000 in
set_option maxRecDepth 100000 in
theorem c_X11_misprint (l : Launch) (D : va_G) (K : Nat → ClassId) (t0 : Nat) (ft : List Value) (ht0 : ft[0]? = some (.int 0)) (ht3 : ft[3]? = some (.int 0)) (ht4 : ft[4]? = some (.int 0)) (ht5 : ft[5]? = some (.int 0)) (x0 : Nat) (fx : List Value) (hx1 : fx[1]? = some (.ref t0)) (p0 p1 : Int32) : fn_CI (S := Unit) l D K yX11_misprint (fn_ws yX11_misprint cX11_misprint 4 (some .int)) ({ frames := 8, cells := 0, slots := 0, locals := 200 }) [.ref x0, .int p0, .int p1] [(x0, .inr (11, fx)), (t0, .inr (7, ft))] (fun r _ => r = (-2)) (fun _ => []) 0 0 := by
  refine fn_inI (cc := cX11_misprint) (maxL := 4) (ret := (some .int)) (by decide) rfl (Nat.le_of_ble_eq_true rfl) ?_
  intro p e s m below meth c A ls B hA hP hD hS hl
  obtain ⟨hx, hb, hr, hml, hts, hown, hlocks, hin, hK⟩ := B
  have hown : s.vm.findClass RX11 = some m.cls := hown
  have hts := fun w h => hts w (List.mem_cons_of_mem _ h)
  have hl : lv_has ls 4 [(0, .ref x0), (1, .int p0), (2, .int p1)] := hl
  refine lv_aload_n hx hb dX11_misprint_0 rfl (lv_at hl 0 rfl) ?_
  refine va_get (D := D) (own := RX11) (ci := 11) (v := .ref t0) (C := RX11) (T := TX11) (N := 13) hx hb hts inb_X11 hown hK.1 hP 0 rfl rfl 1 (by decide) (hts _ wd_423) (fun _ h9 => h9) hx1 dX11_misprint_1 ?_
  refine lv_iload_n hx hb dX11_misprint_4 rfl (lv_at hl 1 rfl) ?_
  refine fn_goi (wc := [(t0, .inr (7, ft))]) (wr := [(x0, .inr (11, fx))]) hK hP hD hS hA [1] [0] rfl rfl (by decide) (fun hp => va_runVN (C := RX7) (As := [.int p0]) (rest := []) ⟨hx, hb, hml, hown, hts⟩ (c_X7_hasNote (l := l) (D := D) (K := K) (t0 := (t0)) (p0 := (p0)) (ft := (ft)) (ht0 := ht0) (ht3 := ht3) (ht4 := ht4) (ht5 := ht5) _) ⟨va_cnB (own := RX11) 1 hts (fn_gin wd_688) rfl rfl rfl (hK.nw 113 rfl) (hts _ wd_4) (by decide +kernel) ⟨Nat.le_of_ble_eq_true rfl, Nat.le_of_ble_eq_true rfl⟩, hts _ wd_687, hts _ wp_28⟩ ⟨fn_blind, va_recv hK.1 hP (ci := 7) (q0 := 1) rfl rfl, hp⟩ rfl rfl hl.1 rfl (lv_room (Nat.le_of_ble_eq_true rfl)) dX11_misprint_5 ⟨Nat.le_of_ble_eq_true rfl, Nat.le_of_ble_eq_true rfl⟩) (fun r2 u1 H locs hwu1 hP hD hS => ?_)
  have r2_e : r2 = 0 := hwu1
  subst r2_e
  have hP : va_P D vwCl [(x0, .inr (11, fx))] H := hP
  have hD : va_D A [(x0, .inr (11, fx))] := hD
  refine lv_if_eq (tgt := 21) hx hb dX11_misprint_8 (by decide) (fun _ => ?_) (fun h9 => absurd (by decide) h9)
  refine lv_bipush (v := (-2)) hx hb dX11_misprint_21 (by decide) ?_
  exact fn_iret hx hb hr hlocks rfl hP hD hS () (by first | rfl | decide) [] (by decide) rfl dX11_misprint_23
theorem dX11_reach_0 : decode cX11_reach 0 = .ok (.aload_n 0, 1) := by decide +kernel
theorem dX11_reach_1 : decode cX11_reach 1 = .ok (.getfield 19, 3) := by decide +kernel
theorem dX11_reach_4 : decode cX11_reach 4 = .ok (.iload_n 1, 1) := by decide +kernel
theorem dX11_reach_5 : decode cX11_reach 5 = .ok (.invokevirtual 130, 3) := by decide +kernel
theorem dX11_reach_8 : decode cX11_reach 8 = .ok (.ifCond .eq 14, 3) := by decide +kernel
theorem dX11_reach_22 : decode cX11_reach 22 = .ok (.bipush (-2), 2) := by decide +kernel
theorem dX11_reach_24 : decode cX11_reach 24 = .ok (.ireturn, 1) := by decide +kernel
set_option maxHeartbeats 4000000 in
set_option maxRecDepth 100000 in
theorem c_X11_reach (l : Launch) (D : va_G) (K : Nat → ClassId) (t0 : Nat) (ft : List Value) (ht0 : ft[0]? = some (.int 0)) (ht3 : ft[3]? = some (.int 0)) (ht4 : ft[4]? = some (.int 0)) (ht5 : ft[5]? = some (.int 0)) (x0 : Nat) (fx : List Value) (hx1 : fx[1]? = some (.ref t0)) (p0 : Int32) : fn_CI (S := Unit) l D K yX11_reach (fn_ws yX11_reach cX11_reach 2 (some .int)) ({ frames := 8, cells := 0, slots := 0, locals := 200 }) [.ref x0, .int p0] [(x0, .inr (11, fx)), (t0, .inr (7, ft))] (fun r _ => r = (-2)) (fun _ => []) 0 0 := by
  refine fn_inI (cc := cX11_reach) (maxL := 2) (ret := (some .int)) (by decide) rfl (Nat.le_of_ble_eq_true rfl) ?_
  intro p e s m below meth c A ls B hA hP hD hS hl
  obtain ⟨hx, hb, hr, hml, hts, hown, hlocks, hin, hK⟩ := B
  have hown : s.vm.findClass RX11 = some m.cls := hown
  have hts := fun w h => hts w (List.mem_cons_of_mem _ h)
  have hl : lv_has ls 2 [(0, .ref x0), (1, .int p0)] := hl
  refine lv_aload_n hx hb dX11_reach_0 rfl (lv_at hl 0 rfl) ?_
  refine va_get (D := D) (own := RX11) (ci := 11) (v := .ref t0) (C := RX11) (T := TX11) (N := 13) hx hb hts inb_X11 hown hK.1 hP 0 rfl rfl 1 (by decide) (hts _ wd_423) (fun _ h9 => h9) hx1 dX11_reach_1 ?_
  refine lv_iload_n hx hb dX11_reach_4 rfl (lv_at hl 1 rfl) ?_
  refine fn_goi (wc := [(t0, .inr (7, ft))]) (wr := [(x0, .inr (11, fx))]) hK hP hD hS hA [1] [0] rfl rfl (by decide) (fun hp => va_runVN (C := RX7) (As := [.int p0]) (rest := []) ⟨hx, hb, hml, hown, hts⟩ (c_X7_hasPage (l := l) (D := D) (K := K) (t0 := (t0)) (p0 := (p0)) (ft := (ft)) (ht0 := ht0) (ht3 := ht3) (ht4 := ht4) (ht5 := ht5) _) ⟨va_cnB (own := RX11) 1 hts (fn_gin wd_662) rfl rfl rfl (hK.nw 108 rfl) (hts _ wd_4) (by decide +kernel) ⟨Nat.le_of_ble_eq_true rfl, Nat.le_of_ble_eq_true rfl⟩, hts _ wd_661, hts _ wp_25⟩ ⟨fn_blind, va_recv hK.1 hP (ci := 7) (q0 := 1) rfl rfl, hp⟩ rfl rfl hl.1 rfl (lv_room (Nat.le_of_ble_eq_true rfl)) dX11_reach_5 ⟨Nat.le_of_ble_eq_true rfl, Nat.le_of_ble_eq_true rfl⟩) (fun r2 u1 H locs hwu1 hP hD hS => ?_)
  have r2_e : r2 = 0 := hwu1
  subst r2_e
  have hP : va_P D vwCl [(x0, .inr (11, fx))] H := hP
  have hD : va_D A [(x0, .inr (11, fx))] := hD
  refine lv_if_eq (tgt := 22) hx hb dX11_reach_8 (by decide) (fun _ => ?_) (fun h9 => absurd (by decide) h9)
  refine lv_bipush (v := (-2)) hx hb dX11_reach_22 (by decide) ?_
  exact fn_iret hx hb hr hlocks rfl hP hD hS () (by first | rfl | decide) [] (by decide) rfl dX11_reach_24
theorem dX11_upon_0 : decode cX11_upon 0 = .ok (.aload_n 0, 1) := by decide +kernel
theorem dX11_upon_1 : decode cX11_upon 1 = .ok (.getfield 19, 3) := by decide +kernel
theorem dX11_upon_4 : decode cX11_upon 4 = .ok (.iload_n 1, 1) := by decide +kernel
theorem dX11_upon_5 : decode cX11_upon 5 = .ok (.invokevirtual 130, 3) := by decide +kernel
theorem dX11_upon_8 : decode cX11_upon 8 = .ok (.ifCond .ne 6, 3) := by decide +kernel
theorem dX11_upon_11 : decode cX11_upon 11 = .ok (.bipush (-2), 2) := by decide +kernel
theorem dX11_upon_13 : decode cX11_upon 13 = .ok (.ireturn, 1) := by decide +kernel
set_option maxHeartbeats 4000000 in
set_option maxRecDepth 100000 in
theorem c_X11_upon (l : Launch) (D : va_G) (K : Nat → ClassId) (t0 : Nat) (ft : List Value) (ht0 : ft[0]? = some (.int 0)) (ht3 : ft[3]? = some (.int 0)) (ht4 : ft[4]? = some (.int 0)) (ht5 : ft[5]? = some (.int 0)) (x0 : Nat) (fx : List Value) (hx1 : fx[1]? = some (.ref t0)) (p0 : Int32) : fn_CI (S := Unit) l D K yX11_upon (fn_ws yX11_upon cX11_upon 4 (some .int)) ({ frames := 8, cells := 0, slots := 0, locals := 200 }) [.ref x0, .int p0] [(x0, .inr (11, fx)), (t0, .inr (7, ft))] (fun r _ => r = (-2)) (fun _ => []) 0 0 := by
  refine fn_inI (cc := cX11_upon) (maxL := 4) (ret := (some .int)) (by decide) rfl (Nat.le_of_ble_eq_true rfl) ?_
  intro p e s m below meth c A ls B hA hP hD hS hl
  obtain ⟨hx, hb, hr, hml, hts, hown, hlocks, hin, hK⟩ := B
  have hown : s.vm.findClass RX11 = some m.cls := hown
  have hts := fun w h => hts w (List.mem_cons_of_mem _ h)
  have hl : lv_has ls 4 [(0, .ref x0), (1, .int p0)] := hl
  refine lv_aload_n hx hb dX11_upon_0 rfl (lv_at hl 0 rfl) ?_
  refine va_get (D := D) (own := RX11) (ci := 11) (v := .ref t0) (C := RX11) (T := TX11) (N := 13) hx hb hts inb_X11 hown hK.1 hP 0 rfl rfl 1 (by decide) (hts _ wd_423) (fun _ h9 => h9) hx1 dX11_upon_1 ?_
  refine lv_iload_n hx hb dX11_upon_4 rfl (lv_at hl 1 rfl) ?_
  refine fn_goi (wc := [(t0, .inr (7, ft))]) (wr := [(x0, .inr (11, fx))]) hK hP hD hS hA [1] [0] rfl rfl (by decide) (fun hp => va_runVN (C := RX7) (As := [.int p0]) (rest := []) ⟨hx, hb, hml, hown, hts⟩ (c_X7_hasPage (l := l) (D := D) (K := K) (t0 := (t0)) (p0 := (p0)) (ft := (ft)) (ht0 := ht0) (ht3 := ht3) (ht4 := ht4) (ht5 := ht5) _) ⟨va_cnB (own := RX11) 1 hts (fn_gin wd_662) rfl rfl rfl (hK.nw 108 rfl) (hts _ wd_4) (by decide +kernel) ⟨Nat.le_of_ble_eq_true rfl, Nat.le_of_ble_eq_true rfl⟩, hts _ wd_661, hts _ wp_25⟩ ⟨fn_blind, va_recv hK.1 hP (ci := 7) (q0 := 1) rfl rfl, hp⟩ rfl rfl hl.1 rfl (lv_room (Nat.le_of_ble_eq_true rfl)) dX11_upon_5 ⟨Nat.le_of_ble_eq_true rfl, Nat.le_of_ble_eq_true rfl⟩) (fun r2 u1 H locs hwu1 hP hD hS => ?_)
  have r2_e : r2 = 0 := hwu1
  subst r2_e
  have hP : va_P D vwCl [(x0, .inr (11, fx))] H := hP
  have hD : va_D A [(x0, .inr (11, fx))] := hD
  refine lv_if_ne (tgt := 14) hx hb dX11_upon_8 (by decide) (fun h9 => absurd rfl h9) (fun _ => ?_)
  refine lv_bipush (v := (-2)) hx hb dX11_upon_11 (by decide) ?_
  exact fn_iret hx hb hr hlocks rfl hP hD hS () (by first | rfl | decide) [] (by decide) rfl dX11_upon_13
theorem dX11_round_0 : decode cX11_round 0 = .ok (.aload_n 0, 1) := by decide +kernel
theorem dX11_round_1 : decode cX11_round 1 = .ok (.getfield 19, 3) := by decide +kernel
theorem dX11_round_4 : decode cX11_round 4 = .ok (.iload_n 1, 1) := by decide +kernel
theorem dX11_round_5 : decode cX11_round 5 = .ok (.invokevirtual 130, 3) := by decide +kernel
theorem dX11_round_8 : decode cX11_round 8 = .ok (.ifCond .ne 6, 3) := by decide +kernel
theorem dX11_round_11 : decode cX11_round 11 = .ok (.bipush (-2), 2) := by decide +kernel
theorem dX11_round_13 : decode cX11_round 13 = .ok (.ireturn, 1) := by decide +kernel
set_option maxHeartbeats 4000000 in
set_option maxRecDepth 100000 in
theorem c_X11_round (l : Launch) (D : va_G) (K : Nat → ClassId) (t0 : Nat) (ft : List Value) (ht0 : ft[0]? = some (.int 0)) (ht3 : ft[3]? = some (.int 0)) (ht4 : ft[4]? = some (.int 0)) (ht5 : ft[5]? = some (.int 0)) (x0 : Nat) (fx : List Value) (hx1 : fx[1]? = some (.ref t0)) (p0 : Int32) : fn_CI (S := Unit) l D K yX11_round (fn_ws yX11_round cX11_round 2 (some .int)) ({ frames := 8, cells := 0, slots := 0, locals := 200 }) [.ref x0, .int p0] [(x0, .inr (11, fx)), (t0, .inr (7, ft))] (fun r _ => r = (-2)) (fun _ => []) 0 0 := by
  refine fn_inI (cc := cX11_round) (maxL := 2) (ret := (some .int)) (by decide) rfl (Nat.le_of_ble_eq_true rfl) ?_
  intro p e s m below meth c A ls B hA hP hD hS hl
  obtain ⟨hx, hb, hr, hml, hts, hown, hlocks, hin, hK⟩ := B
  have hown : s.vm.findClass RX11 = some m.cls := hown
  have hts := fun w h => hts w (List.mem_cons_of_mem _ h)
  have hl : lv_has ls 2 [(0, .ref x0), (1, .int p0)] := hl
  refine lv_aload_n hx hb dX11_round_0 rfl (lv_at hl 0 rfl) ?_
  refine va_get (D := D) (own := RX11) (ci := 11) (v := .ref t0) (C := RX11) (T := TX11) (N := 13) hx hb hts inb_X11 hown hK.1 hP 0 rfl rfl 1 (by decide) (hts _ wd_423) (fun _ h9 => h9) hx1 dX11_round_1 ?_
  refine lv_iload_n hx hb dX11_round_4 rfl (lv_at hl 1 rfl) ?_
  refine fn_goi (wc := [(t0, .inr (7, ft))]) (wr := [(x0, .inr (11, fx))]) hK hP hD hS hA [1] [0] rfl rfl (by decide) (fun hp => va_runVN (C := RX7) (As := [.int p0]) (rest := []) ⟨hx, hb, hml, hown, hts⟩ (c_X7_hasPage (l := l) (D := D) (K := K) (t0 := (t0)) (p0 := (p0)) (ft := (ft)) (ht0 := ht0) (ht3 := ht3) (ht4 := ht4) (ht5 := ht5) _) ⟨va_cnB (own := RX11) 1 hts (fn_gin wd_662) rfl rfl rfl (hK.nw 108 rfl) (hts _ wd_4) (by decide +kernel) ⟨Nat.le_of_ble_eq_true rfl, Nat.le_of_ble_eq_true rfl⟩, hts _ wd_661, hts _ wp_25⟩ ⟨fn_blind, va_recv hK.1 hP (ci := 7) (q0 := 1) rfl rfl, hp⟩ rfl rfl hl.1 rfl (lv_room (Nat.le_of_ble_eq_true rfl)) dX11_round_5 ⟨Nat.le_of_ble_eq_true rfl, Nat.le_of_ble_eq_true rfl⟩) (fun r2 u1 H locs hwu1 hP hD hS => ?_)
  have r2_e : r2 = 0 := hwu1
  subst r2_e
  have hP : va_P D vwCl [(x0, .inr (11, fx))] H := hP
  have hD : va_D A [(x0, .inr (11, fx))] := hD
  refine lv_if_ne (tgt := 14) hx hb dX11_round_8 (by decide) (fun h9 => absurd rfl h9) (fun _ => ?_)
  refine lv_bipush (v := (-2)) hx hb dX11_round_11 (by decide) ?_
  exact fn_iret hx hb hr hlocks rfl hP hD hS () (by first | rfl | decide) [] (by decide) rfl dX11_round_13
theorem dX11_ring_0 : decode cX11_ring 0 = .ok (.aload_n 0, 1) := by decide +kernel
theorem dX11_ring_1 : decode cX11_ring 1 = .ok (.getfield 19, 3) := by decide +kernel
theorem dX11_ring_4 : decode cX11_ring 4 = .ok (.iload_n 1, 1) := by decide +kernel
theorem dX11_ring_5 : decode cX11_ring 5 = .ok (.invokevirtual 130, 3) := by decide +kernel
theorem dX11_ring_8 : decode cX11_ring 8 = .ok (.ifCond .ne 6, 3) := by decide +kernel
theorem dX11_ring_11 : decode cX11_ring 11 = .ok (.bipush (-2), 2) := by decide +kernel
theorem dX11_ring_13 : decode cX11_ring 13 = .ok (.ireturn, 1) := by decide +kernel
set_option maxHeartbeats 4000000 in
set_option maxRecDepth 100000 in
theorem c_X11_ring (l : Launch) (D : va_G) (K : Nat → ClassId) (t0 : Nat) (ft : List Value) (ht0 : ft[0]? = some (.int 0)) (ht3 : ft[3]? = some (.int 0)) (ht4 : ft[4]? = some (.int 0)) (ht5 : ft[5]? = some (.int 0)) (x0 : Nat) (fx : List Value) (hx1 : fx[1]? = some (.ref t0)) (p0 : Int32) : fn_CI (S := Unit) l D K yX11_ring (fn_ws yX11_ring cX11_ring 2 (some .int)) ({ frames := 8, cells := 0, slots := 0, locals := 200 }) [.ref x0, .int p0] [(x0, .inr (11, fx)), (t0, .inr (7, ft))] (fun r _ => r = (-2)) (fun _ => []) 0 0 := by
  refine fn_inI (cc := cX11_ring) (maxL := 2) (ret := (some .int)) (by decide) rfl (Nat.le_of_ble_eq_true rfl) ?_
  intro p e s m below meth c A ls B hA hP hD hS hl
  obtain ⟨hx, hb, hr, hml, hts, hown, hlocks, hin, hK⟩ := B
  have hown : s.vm.findClass RX11 = some m.cls := hown
  have hts := fun w h => hts w (List.mem_cons_of_mem _ h)
  have hl : lv_has ls 2 [(0, .ref x0), (1, .int p0)] := hl
  refine lv_aload_n hx hb dX11_ring_0 rfl (lv_at hl 0 rfl) ?_
  refine va_get (D := D) (own := RX11) (ci := 11) (v := .ref t0) (C := RX11) (T := TX11) (N := 13) hx hb hts inb_X11 hown hK.1 hP 0 rfl rfl 1 (by decide) (hts _ wd_423) (fun _ h9 => h9) hx1 dX11_ring_1 ?_
  refine lv_iload_n hx hb dX11_ring_4 rfl (lv_at hl 1 rfl) ?_
  refine fn_goi (wc := [(t0, .inr (7, ft))]) (wr := [(x0, .inr (11, fx))]) hK hP hD hS hA [1] [0] rfl rfl (by decide) (fun hp => va_runVN (C := RX7) (As := [.int p0]) (rest := []) ⟨hx, hb, hml, hown, hts⟩ (c_X7_hasPage (l := l) (D := D) (K := K) (t0 := (t0)) (p0 := (p0)) (ft := (ft)) (ht0 := ht0) (ht3 := ht3) (ht4 := ht4) (ht5 := ht5) _) ⟨va_cnB (own := RX11) 1 hts (fn_gin wd_662) rfl rfl rfl (hK.nw 108 rfl) (hts _ wd_4) (by decide +kernel) ⟨Nat.le_of_ble_eq_true rfl, Nat.le_of_ble_eq_true rfl⟩, hts _ wd_661, hts _ wp_25⟩ ⟨fn_blind, va_recv hK.1 hP (ci := 7) (q0 := 1) rfl rfl, hp⟩ rfl rfl hl.1 rfl (lv_room (Nat.le_of_ble_eq_true rfl)) dX11_ring_5 ⟨Nat.le_of_ble_eq_true rfl, Nat.le_of_ble_eq_true rfl⟩) (fun r2 u1 H locs hwu1 hP hD hS => ?_)
  have r2_e : r2 = 0 := hwu1
  subst r2_e
  have hP : va_P D vwCl [(x0, .inr (11, fx))] H := hP
  have hD : va_D A [(x0, .inr (11, fx))] := hD
  refine lv_if_ne (tgt := 14) hx hb dX11_ring_8 (by decide) (fun h9 => absurd rfl h9) (fun _ => ?_)
  refine lv_bipush (v := (-2)) hx hb dX11_ring_11 (by decide) ?_
  exact fn_iret hx hb hr hlocks rfl hP hD hS () (by first | rfl | decide) [] (by decide) rfl dX11_ring_13
theorem dX11_way_0 : decode cX11_way 0 = .ok (.aload_n 0, 1) := by decide +kernel
theorem dX11_way_1 : decode cX11_way 1 = .ok (.getfield 19, 3) := by decide +kernel
theorem dX11_way_4 : decode cX11_way 4 = .ok (.iload_n 1, 1) := by decide +kernel
theorem dX11_way_5 : decode cX11_way 5 = .ok (.invokevirtual 130, 3) := by decide +kernel
theorem dX11_way_8 : decode cX11_way 8 = .ok (.ifCond .eq 14, 3) := by decide +kernel
theorem dX11_way_22 : decode cX11_way 22 = .ok (.bipush (-2), 2) := by decide +kernel
theorem dX11_way_24 : decode cX11_way 24 = .ok (.ireturn, 1) := by decide +kernel
set_option maxHeartbeats 4000000 in
set_option maxRecDepth 100000 in
theorem c_X11_way (l : Launch) (D : va_G) (K : Nat → ClassId) (t0 : Nat) (ft : List Value) (ht0 : ft[0]? = some (.int 0)) (ht3 : ft[3]? = some (.int 0)) (ht4 : ft[4]? = some (.int 0)) (ht5 : ft[5]? = some (.int 0)) (x0 : Nat) (fx : List Value) (hx1 : fx[1]? = some (.ref t0)) (p0 : Int32) : fn_CI (S := Unit) l D K yX11_way (fn_ws yX11_way cX11_way 2 (some .int)) ({ frames := 8, cells := 0, slots := 0, locals := 200 }) [.ref x0, .int p0] [(x0, .inr (11, fx)), (t0, .inr (7, ft))] (fun r _ => r = (-2)) (fun _ => []) 0 0 := by
  refine fn_inI (cc := cX11_way) (maxL := 2) (ret := (some .int)) (by decide) rfl (Nat.le_of_ble_eq_true rfl) ?_
  intro p e s m below meth c A ls B hA hP hD hS hl
  obtain ⟨hx, hb, hr, hml, hts, hown, hlocks, hin, hK⟩ := B
  have hown : s.vm.findClass RX11 = some m.cls := hown
  have hts := fun w h => hts w (List.mem_cons_of_mem _ h)
  have hl : lv_has ls 2 [(0, .ref x0), (1, .int p0)] := hl
  refine lv_aload_n hx hb dX11_way_0 rfl (lv_at hl 0 rfl) ?_
  refine va_get (D := D) (own := RX11) (ci := 11) (v := .ref t0) (C := RX11) (T := TX11) (N := 13) hx hb hts inb_X11 hown hK.1 hP 0 rfl rfl 1 (by decide) (hts _ wd_423) (fun _ h9 => h9) hx1 dX11_way_1 ?_
  refine lv_iload_n hx hb dX11_way_4 rfl (lv_at hl 1 rfl) ?_
  refine fn_goi (wc := [(t0, .inr (7, ft))]) (wr := [(x0, .inr (11, fx))]) hK hP hD hS hA [1] [0] rfl rfl (by decide) (fun hp => va_runVN (C := RX7) (As := [.int p0]) (rest := []) ⟨hx, hb, hml, hown, hts⟩ (c_X7_hasPage (l := l) (D := D) (K := K) (t0 := (t0)) (p0 := (p0)) (ft := (ft)) (ht0 := ht0) (ht3 := ht3) (ht4 := ht4) (ht5 := ht5) _) ⟨va_cnB (own := RX11) 1 hts (fn_gin wd_662) rfl rfl rfl (hK.nw 108 rfl) (hts _ wd_4) (by decide +kernel) ⟨Nat.le_of_ble_eq_true rfl, Nat.le_of_ble_eq_true rfl⟩, hts _ wd_661, hts _ wp_25⟩ ⟨fn_blind, va_recv hK.1 hP (ci := 7) (q0 := 1) rfl rfl, hp⟩ rfl rfl hl.1 rfl (lv_room (Nat.le_of_ble_eq_true rfl)) dX11_way_5 ⟨Nat.le_of_ble_eq_true rfl, Nat.le_of_ble_eq_true rfl⟩) (fun r2 u1 H locs hwu1 hP hD hS => ?_)
  have r2_e : r2 = 0 := hwu1
  subst r2_e
  have hP : va_P D vwCl [(x0, .inr (11, fx))] H := hP
  have hD : va_D A [(x0, .inr (11, fx))] := hD
  refine lv_if_eq (tgt := 22) hx hb dX11_way_8 (by decide) (fun _ => ?_) (fun h9 => absurd (by decide) h9)
  refine lv_bipush (v := (-2)) hx hb dX11_way_22 (by decide) ?_
  exact fn_iret hx hb hr hlocks rfl hP hD hS () (by first | rfl | decide) [] (by decide) rfl dX11_way_24
theorem dX11_step_0 : decode cX11_step 0 = .ok (.aload_n 0, 1) := by decide +kernel
theorem dX11_step_1 : decode cX11_step 1 = .ok (.getfield 19, 3) := by decide +kernel
theorem dX11_step_4 : decode cX11_step 4 = .ok (.iload_n 1, 1) := by decide +kernel
theorem dX11_step_5 : decode cX11_step 5 = .ok (.invokevirtual 130, 3) := by decide +kernel
theorem dX11_step_8 : decode cX11_step 8 = .ok (.ifCond .ne 6, 3) := by decide +kernel
theorem dX11_step_11 : decode cX11_step 11 = .ok (.bipush (-2), 2) := by decide +kernel
theorem dX11_step_13 : decode cX11_step 13 = .ok (.ireturn, 1) := by decide +kernel
set_option maxHeartbeats 4000000 in
set_option maxRecDepth 100000 in
theorem c_X11_step (l : Launch) (D : va_G) (K : Nat → ClassId) (t0 : Nat) (ft : List Value) (ht0 : ft[0]? = some (.int 0)) (ht3 : ft[3]? = some (.int 0)) (ht4 : ft[4]? = some (.int 0)) (ht5 : ft[5]? = some (.int 0)) (x0 : Nat) (fx : List Value) (hx1 : fx[1]? = some (.ref t0)) (p0 p1 : Int32) : fn_CI (S := Unit) l D K yX11_step (fn_ws yX11_step cX11_step 6 (some .int)) ({ frames := 8, cells := 0, slots := 0, locals := 200 }) [.ref x0, .int p0, .int p1] [(x0, .inr (11, fx)), (t0, .inr (7, ft))] (fun r _ => r = (-2)) (fun _ => []) 0 0 := by
  refine fn_inI (cc := cX11_step) (maxL := 6) (ret := (some .int)) (by decide) rfl (Nat.le_of_ble_eq_true rfl) ?_
  intro p e s m below meth c A ls B hA hP hD hS hl
  obtain ⟨hx, hb, hr, hml, hts, hown, hlocks, hin, hK⟩ := B
  have hown : s.vm.findClass RX11 = some m.cls := hown
  have hts := fun w h => hts w (List.mem_cons_of_mem _ h)
  have hl : lv_has ls 6 [(0, .ref x0), (1, .int p0), (2, .int p1)] := hl
  refine lv_aload_n hx hb dX11_step_0 rfl (lv_at hl 0 rfl) ?_
  refine va_get (D := D) (own := RX11) (ci := 11) (v := .ref t0) (C := RX11) (T := TX11) (N := 13) hx hb hts inb_X11 hown hK.1 hP 0 rfl rfl 1 (by decide) (hts _ wd_423) (fun _ h9 => h9) hx1 dX11_step_1 ?_
  refine lv_iload_n hx hb dX11_step_4 rfl (lv_at hl 1 rfl) ?_
  refine fn_goi (wc := [(t0, .inr (7, ft))]) (wr := [(x0, .inr (11, fx))]) hK hP hD hS hA [1] [0] rfl rfl (by decide) (fun hp => va_runVN (C := RX7) (As := [.int p0]) (rest := []) ⟨hx, hb, hml, hown, hts⟩ (c_X7_hasPage (l := l) (D := D) (K := K) (t0 := (t0)) (p0 := (p0)) (ft := (ft)) (ht0 := ht0) (ht3 := ht3) (ht4 := ht4) (ht5 := ht5) _) ⟨va_cnB (own := RX11) 1 hts (fn_gin wd_662) rfl rfl rfl (hK.nw 108 rfl) (hts _ wd_4) (by decide +kernel) ⟨Nat.le_of_ble_eq_true rfl, Nat.le_of_ble_eq_true rfl⟩, hts _ wd_661, hts _ wp_25⟩ ⟨fn_blind, va_recv hK.1 hP (ci := 7) (q0 := 1) rfl rfl, hp⟩ rfl rfl hl.1 rfl (lv_room (Nat.le_of_ble_eq_true rfl)) dX11_step_5 ⟨Nat.le_of_ble_eq_true rfl, Nat.le_of_ble_eq_true rfl⟩) (fun r2 u1 H locs hwu1 hP hD hS => ?_)
  have r2_e : r2 = 0 := hwu1
  subst r2_e
  have hP : va_P D vwCl [(x0, .inr (11, fx))] H := hP
  have hD : va_D A [(x0, .inr (11, fx))] := hD
  refine lv_if_ne (tgt := 14) hx hb dX11_step_8 (by decide) (fun h9 => absurd rfl h9) (fun _ => ?_)
  refine lv_bipush (v := (-2)) hx hb dX11_step_11 (by decide) ?_
  exact fn_iret hx hb hr hlocks rfl hP hD hS () (by first | rfl | decide) [] (by decide) rfl dX11_step_13
theorem dX11_depth_0 : decode cX11_depth 0 = .ok (.aload_n 0, 1) := by decide +kernel
theorem dX11_depth_1 : decode cX11_depth 1 = .ok (.getfield 19, 3) := by decide +kernel
theorem dX11_depth_4 : decode cX11_depth 4 = .ok (.iload_n 1, 1) := by decide +kernel
theorem dX11_depth_5 : decode cX11_depth 5 = .ok (.invokevirtual 130, 3) := by decide +kernel
theorem dX11_depth_8 : decode cX11_depth 8 = .ok (.ifCond .eq 14, 3) := by decide +kernel
theorem dX11_depth_22 : decode cX11_depth 22 = .ok (.bipush (-2), 2) := by decide +kernel
theorem dX11_depth_24 : decode cX11_depth 24 = .ok (.ireturn, 1) := by decide +kernel
set_option maxHeartbeats 4000000 in
set_option maxRecDepth 100000 in
theorem c_X11_depth (l : Launch) (D : va_G) (K : Nat → ClassId) (t0 : Nat) (ft : List Value) (ht0 : ft[0]? = some (.int 0)) (ht3 : ft[3]? = some (.int 0)) (ht4 : ft[4]? = some (.int 0)) (ht5 : ft[5]? = some (.int 0)) (x0 : Nat) (fx : List Value) (hx1 : fx[1]? = some (.ref t0)) (p0 : Int32) : fn_CI (S := Unit) l D K yX11_depth (fn_ws yX11_depth cX11_depth 2 (some .int)) ({ frames := 8, cells := 0, slots := 0, locals := 200 }) [.ref x0, .int p0] [(x0, .inr (11, fx)), (t0, .inr (7, ft))] (fun r _ => r = (-2)) (fun _ => []) 0 0 := by
  refine fn_inI (cc := cX11_depth) (maxL := 2) (ret := (some .int)) (by decide) rfl (Nat.le_of_ble_eq_true rfl) ?_
  intro p e s m below meth c A ls B hA hP hD hS hl
  obtain ⟨hx, hb, hr, hml, hts, hown, hlocks, hin, hK⟩ := B
  have hown : s.vm.findClass RX11 = some m.cls := hown
  have hts := fun w h => hts w (List.mem_cons_of_mem _ h)
  have hl : lv_has ls 2 [(0, .ref x0), (1, .int p0)] := hl
  refine lv_aload_n hx hb dX11_depth_0 rfl (lv_at hl 0 rfl) ?_
  refine va_get (D := D) (own := RX11) (ci := 11) (v := .ref t0) (C := RX11) (T := TX11) (N := 13) hx hb hts inb_X11 hown hK.1 hP 0 rfl rfl 1 (by decide) (hts _ wd_423) (fun _ h9 => h9) hx1 dX11_depth_1 ?_
  refine lv_iload_n hx hb dX11_depth_4 rfl (lv_at hl 1 rfl) ?_
  refine fn_goi (wc := [(t0, .inr (7, ft))]) (wr := [(x0, .inr (11, fx))]) hK hP hD hS hA [1] [0] rfl rfl (by decide) (fun hp => va_runVN (C := RX7) (As := [.int p0]) (rest := []) ⟨hx, hb, hml, hown, hts⟩ (c_X7_hasPage (l := l) (D := D) (K := K) (t0 := (t0)) (p0 := (p0)) (ft := (ft)) (ht0 := ht0) (ht3 := ht3) (ht4 := ht4) (ht5 := ht5) _) ⟨va_cnB (own := RX11) 1 hts (fn_gin wd_662) rfl rfl rfl (hK.nw 108 rfl) (hts _ wd_4) (by decide +kernel) ⟨Nat.le_of_ble_eq_true rfl, Nat.le_of_ble_eq_true rfl⟩, hts _ wd_661, hts _ wp_25⟩ ⟨fn_blind, va_recv hK.1 hP (ci := 7) (q0 := 1) rfl rfl, hp⟩ rfl rfl hl.1 rfl (lv_room (Nat.le_of_ble_eq_true rfl)) dX11_depth_5 ⟨Nat.le_of_ble_eq_true rfl, Nat.le_of_ble_eq_true rfl⟩) (fun r2 u1 H locs hwu1 hP hD hS => ?_)
  have r2_e : r2 = 0 := hwu1
  subst r2_e
  have hP : va_P D vwCl [(x0, .inr (11, fx))] H := hP
  have hD : va_D A [(x0, .inr (11, fx))] := hD
  refine lv_if_eq (tgt := 22) hx hb dX11_depth_8 (by decide) (fun _ => ?_) (fun h9 => absurd (by decide) h9)
  refine lv_bipush (v := (-2)) hx hb dX11_depth_22 (by decide) ?_
  exact fn_iret hx hb hr hlocks rfl hP hD hS () (by first | rfl | decide) [] (by decide) rfl dX11_depth_24
theorem dX11_needs_0 : decode cX11_needs 0 = .ok (.aload_n 0, 1) := by decide +kernel
theorem dX11_needs_1 : decode cX11_needs 1 = .ok (.getfield 19, 3) := by decide +kernel
theorem dX11_needs_4 : decode cX11_needs 4 = .ok (.iload_n 1, 1) := by decide +kernel
theorem dX11_needs_5 : decode cX11_needs 5 = .ok (.invokevirtual 130, 3) := by decide +kernel
theorem dX11_needs_8 : decode cX11_needs 8 = .ok (.ifCond .ne 6, 3) := by decide +kernel
theorem dX11_needs_11 : decode cX11_needs 11 = .ok (.bipush (-2), 2) := by decide +kernel
theorem dX11_needs_13 : decode cX11_needs 13 = .ok (.ireturn, 1) := by decide +kernel
set_option maxHeartbeats 4000000 in
set_option maxRecDepth 100000 in
theorem c_X11_needs (l : Launch) (D : va_G) (K : Nat → ClassId) (t0 : Nat) (ft : List Value) (ht0 : ft[0]? = some (.int 0)) (ht3 : ft[3]? = some (.int 0)) (ht4 : ft[4]? = some (.int 0)) (ht5 : ft[5]? = some (.int 0)) (x0 : Nat) (fx : List Value) (hx1 : fx[1]? = some (.ref t0)) (p0 : Int32) : fn_CI (S := Unit) l D K yX11_needs (fn_ws yX11_needs cX11_needs 5 (some .int)) ({ frames := 8, cells := 0, slots := 0, locals := 200 }) [.ref x0, .int p0] [(x0, .inr (11, fx)), (t0, .inr (7, ft))] (fun r _ => r = (-2)) (fun _ => []) 0 0 := by
  refine fn_inI (cc := cX11_needs) (maxL := 5) (ret := (some .int)) (by decide) rfl (Nat.le_of_ble_eq_true rfl) ?_
  intro p e s m below meth c A ls B hA hP hD hS hl
  obtain ⟨hx, hb, hr, hml, hts, hown, hlocks, hin, hK⟩ := B
  have hown : s.vm.findClass RX11 = some m.cls := hown
  have hts := fun w h => hts w (List.mem_cons_of_mem _ h)
  have hl : lv_has ls 5 [(0, .ref x0), (1, .int p0)] := hl
  refine lv_aload_n hx hb dX11_needs_0 rfl (lv_at hl 0 rfl) ?_
  refine va_get (D := D) (own := RX11) (ci := 11) (v := .ref t0) (C := RX11) (T := TX11) (N := 13) hx hb hts inb_X11 hown hK.1 hP 0 rfl rfl 1 (by decide) (hts _ wd_423) (fun _ h9 => h9) hx1 dX11_needs_1 ?_
  refine lv_iload_n hx hb dX11_needs_4 rfl (lv_at hl 1 rfl) ?_
  refine fn_goi (wc := [(t0, .inr (7, ft))]) (wr := [(x0, .inr (11, fx))]) hK hP hD hS hA [1] [0] rfl rfl (by decide) (fun hp => va_runVN (C := RX7) (As := [.int p0]) (rest := []) ⟨hx, hb, hml, hown, hts⟩ (c_X7_hasPage (l := l) (D := D) (K := K) (t0 := (t0)) (p0 := (p0)) (ft := (ft)) (ht0 := ht0) (ht3 := ht3) (ht4 := ht4) (ht5 := ht5) _) ⟨va_cnB (own := RX11) 1 hts (fn_gin wd_662) rfl rfl rfl (hK.nw 108 rfl) (hts _ wd_4) (by decide +kernel) ⟨Nat.le_of_ble_eq_true rfl, Nat.le_of_ble_eq_true rfl⟩, hts _ wd_661, hts _ wp_25⟩ ⟨fn_blind, va_recv hK.1 hP (ci := 7) (q0 := 1) rfl rfl, hp⟩ rfl rfl hl.1 rfl (lv_room (Nat.le_of_ble_eq_true rfl)) dX11_needs_5 ⟨Nat.le_of_ble_eq_true rfl, Nat.le_of_ble_eq_true rfl⟩) (fun r2 u1 H locs hwu1 hP hD hS => ?_)
  have r2_e : r2 = 0 := hwu1
  subst r2_e
  have hP : va_P D vwCl [(x0, .inr (11, fx))] H := hP
  have hD : va_D A [(x0, .inr (11, fx))] := hD
  refine lv_if_ne (tgt := 14) hx hb dX11_needs_8 (by decide) (fun h9 => absurd rfl h9) (fun _ => ?_)
  refine lv_bipush (v := (-2)) hx hb dX11_needs_11 (by decide) ?_
  exact fn_iret hx hb hr hlocks rfl hP hD hS () (by first | rfl | decide) [] (by decide) rfl dX11_needs_13
theorem dX11_loss_0 : decode cX11_loss 0 = .ok (.aload_n 0, 1) := by decide +kernel
theorem dX11_loss_1 : decode cX11_loss 1 = .ok (.getfield 19, 3) := by decide +kernel
theorem dX11_loss_4 : decode cX11_loss 4 = .ok (.iload_n 1, 1) := by decide +kernel
theorem dX11_loss_5 : decode cX11_loss 5 = .ok (.invokevirtual 130, 3) := by decide +kernel
theorem dX11_loss_8 : decode cX11_loss 8 = .ok (.ifCond .eq 14, 3) := by decide +kernel
theorem dX11_loss_22 : decode cX11_loss 22 = .ok (.bipush (-2), 2) := by decide +kernel
theorem dX11_loss_24 : decode cX11_loss 24 = .ok (.ireturn, 1) := by decide +kernel
set_option maxHeartbeats 4000000 in
set_option maxRecDepth 100000 in
theorem c_X11_loss (l : Launch) (D : va_G) (K : Nat → ClassId) (t0 : Nat) (ft : List Value) (ht0 : ft[0]? = some (.int 0)) (ht3 : ft[3]? = some (.int 0)) (ht4 : ft[4]? = some (.int 0)) (ht5 : ft[5]? = some (.int 0)) (x0 : Nat) (fx : List Value) (hx1 : fx[1]? = some (.ref t0)) (p0 : Int32) : fn_CI (S := Unit) l D K yX11_loss (fn_ws yX11_loss cX11_loss 2 (some .int)) ({ frames := 8, cells := 0, slots := 0, locals := 200 }) [.ref x0, .int p0] [(x0, .inr (11, fx)), (t0, .inr (7, ft))] (fun r _ => r = (-2)) (fun _ => []) 0 0 := by
  refine fn_inI (cc := cX11_loss) (maxL := 2) (ret := (some .int)) (by decide) rfl (Nat.le_of_ble_eq_true rfl) ?_
  intro p e s m below meth c A ls B hA hP hD hS hl
  obtain ⟨hx, hb, hr, hml, hts, hown, hlocks, hin, hK⟩ := B
  have hown : s.vm.findClass RX11 = some m.cls := hown
  have hts := fun w h => hts w (List.mem_cons_of_mem _ h)
  have hl : lv_has ls 2 [(0, .ref x0), (1, .int p0)] := hl
  refine lv_aload_n hx hb dX11_loss_0 rfl (lv_at hl 0 rfl) ?_
  refine va_get (D := D) (own := RX11) (ci := 11) (v := .ref t0) (C := RX11) (T := TX11) (N := 13) hx hb hts inb_X11 hown hK.1 hP 0 rfl rfl 1 (by decide) (hts _ wd_423) (fun _ h9 => h9) hx1 dX11_loss_1 ?_
  refine lv_iload_n hx hb dX11_loss_4 rfl (lv_at hl 1 rfl) ?_
  refine fn_goi (wc := [(t0, .inr (7, ft))]) (wr := [(x0, .inr (11, fx))]) hK hP hD hS hA [1] [0] rfl rfl (by decide) (fun hp => va_runVN (C := RX7) (As := [.int p0]) (rest := []) ⟨hx, hb, hml, hown, hts⟩ (c_X7_hasPage (l := l) (D := D) (K := K) (t0 := (t0)) (p0 := (p0)) (ft := (ft)) (ht0 := ht0) (ht3 := ht3) (ht4 := ht4) (ht5 := ht5) _) ⟨va_cnB (own := RX11) 1 hts (fn_gin wd_662) rfl rfl rfl (hK.nw 108 rfl) (hts _ wd_4) (by decide +kernel) ⟨Nat.le_of_ble_eq_true rfl, Nat.le_of_ble_eq_true rfl⟩, hts _ wd_661, hts _ wp_25⟩ ⟨fn_blind, va_recv hK.1 hP (ci := 7) (q0 := 1) rfl rfl, hp⟩ rfl rfl hl.1 rfl (lv_room (Nat.le_of_ble_eq_true rfl)) dX11_loss_5 ⟨Nat.le_of_ble_eq_true rfl, Nat.le_of_ble_eq_true rfl⟩) (fun r2 u1 H locs hwu1 hP hD hS => ?_)
  have r2_e : r2 = 0 := hwu1
  subst r2_e
  have hP : va_P D vwCl [(x0, .inr (11, fx))] H := hP
  have hD : va_D A [(x0, .inr (11, fx))] := hD
  refine lv_if_eq (tgt := 22) hx hb dX11_loss_8 (by decide) (fun _ => ?_) (fun h9 => absurd (by decide) h9)
  refine lv_bipush (v := (-2)) hx hb dX11_loss_22 (by decide) ?_
  exact fn_iret hx hb hr hlocks rfl hP hD hS () (by first | rfl | decide) [] (by decide) rfl dX11_loss_24
theorem dX11_torn_0 : decode cX11_torn 0 = .ok (.aload_n 0, 1) := by decide +kernel
theorem dX11_torn_1 : decode cX11_torn 1 = .ok (.getfield 19, 3) := by decide +kernel
theorem dX11_torn_4 : decode cX11_torn 4 = .ok (.iload_n 1, 1) := by decide +kernel
theorem dX11_torn_5 : decode cX11_torn 5 = .ok (.invokevirtual 130, 3) := by decide +kernel
theorem dX11_torn_8 : decode cX11_torn 8 = .ok (.ifCond .ne 6, 3) := by decide +kernel
theorem dX11_torn_11 : decode cX11_torn 11 = .ok (.bipush (-2), 2) := by decide +kernel
theorem dX11_torn_13 : decode cX11_torn 13 = .ok (.ireturn, 1) := by decide +kernel
set_option maxHeartbeats 4000000 in
set_option maxRecDepth 100000 in
theorem c_X11_torn (l : Launch) (D : va_G) (K : Nat → ClassId) (t0 : Nat) (ft : List Value) (ht0 : ft[0]? = some (.int 0)) (ht3 : ft[3]? = some (.int 0)) (ht4 : ft[4]? = some (.int 0)) (ht5 : ft[5]? = some (.int 0)) (x0 : Nat) (fx : List Value) (hx1 : fx[1]? = some (.ref t0)) (p0 : Int32) : fn_CI (S := Unit) l D K yX11_torn (fn_ws yX11_torn cX11_torn 2 (some .int)) ({ frames := 8, cells := 0, slots := 0, locals := 200 }) [.ref x0, .int p0] [(x0, .inr (11, fx)), (t0, .inr (7, ft))] (fun r _ => r = (-2)) (fun _ => []) 0 0 := by
  refine fn_inI (cc := cX11_torn) (maxL := 2) (ret := (some .int)) (by decide) rfl (Nat.le_of_ble_eq_true rfl) ?_
  intro p e s m below meth c A ls B hA hP hD hS hl
  obtain ⟨hx, hb, hr, hml, hts, hown, hlocks, hin, hK⟩ := B
  have hown : s.vm.findClass RX11 = some m.cls := hown
  have hts := fun w h => hts w (List.mem_cons_of_mem _ h)
  have hl : lv_has ls 2 [(0, .ref x0), (1, .int p0)] := hl
  refine lv_aload_n hx hb dX11_torn_0 rfl (lv_at hl 0 rfl) ?_
  refine va_get (D := D) (own := RX11) (ci := 11) (v := .ref t0) (C := RX11) (T := TX11) (N := 13) hx hb hts inb_X11 hown hK.1 hP 0 rfl rfl 1 (by decide) (hts _ wd_423) (fun _ h9 => h9) hx1 dX11_torn_1 ?_
  refine lv_iload_n hx hb dX11_torn_4 rfl (lv_at hl 1 rfl) ?_
  refine fn_goi (wc := [(t0, .inr (7, ft))]) (wr := [(x0, .inr (11, fx))]) hK hP hD hS hA [1] [0] rfl rfl (by decide) (fun hp => va_runVN (C := RX7) (As := [.int p0]) (rest := []) ⟨hx, hb, hml, hown, hts⟩ (c_X7_hasPage (l := l) (D := D) (K := K) (t0 := (t0)) (p0 := (p0)) (ft := (ft)) (ht0 := ht0) (ht3 := ht3) (ht4 := ht4) (ht5 := ht5) _) ⟨va_cnB (own := RX11) 1 hts (fn_gin wd_662) rfl rfl rfl (hK.nw 108 rfl) (hts _ wd_4) (by decide +kernel) ⟨Nat.le_of_ble_eq_true rfl, Nat.le_of_ble_eq_true rfl⟩, hts _ wd_661, hts _ wp_25⟩ ⟨fn_blind, va_recv hK.1 hP (ci := 7) (q0 := 1) rfl rfl, hp⟩ rfl rfl hl.1 rfl (lv_room (Nat.le_of_ble_eq_true rfl)) dX11_torn_5 ⟨Nat.le_of_ble_eq_true rfl, Nat.le_of_ble_eq_true rfl⟩) (fun r2 u1 H locs hwu1 hP hD hS => ?_)
  have r2_e : r2 = 0 := hwu1
  subst r2_e
  have hP : va_P D vwCl [(x0, .inr (11, fx))] H := hP
  have hD : va_D A [(x0, .inr (11, fx))] := hD
  refine lv_if_ne (tgt := 14) hx hb dX11_torn_8 (by decide) (fun h9 => absurd rfl h9) (fun _ => ?_)
  refine lv_bipush (v := (-2)) hx hb dX11_torn_11 (by decide) ?_
  exact fn_iret hx hb hr hlocks rfl hP hD hS () (by first | rfl | decide) [] (by decide) rfl dX11_torn_13
theorem dX11_leaves_0 : decode cX11_leaves 0 = .ok (.aload_n 0, 1) := by decide +kernel
theorem dX11_leaves_1 : decode cX11_leaves 1 = .ok (.getfield 19, 3) := by decide +kernel
theorem dX11_leaves_4 : decode cX11_leaves 4 = .ok (.iload_n 1, 1) := by decide +kernel
theorem dX11_leaves_5 : decode cX11_leaves 5 = .ok (.invokevirtual 130, 3) := by decide +kernel
theorem dX11_leaves_8 : decode cX11_leaves 8 = .ok (.ifCond .eq 14, 3) := by decide +kernel
theorem dX11_leaves_22 : decode cX11_leaves 22 = .ok (.bipush (-2), 2) := by decide +kernel
theorem dX11_leaves_24 : decode cX11_leaves 24 = .ok (.ireturn, 1) := by decide +kernel
set_option maxHeartbeats 4000000 in
set_option maxRecDepth 100000 in
theorem c_X11_leaves (l : Launch) (D : va_G) (K : Nat → ClassId) (t0 : Nat) (ft : List Value) (ht0 : ft[0]? = some (.int 0)) (ht3 : ft[3]? = some (.int 0)) (ht4 : ft[4]? = some (.int 0)) (ht5 : ft[5]? = some (.int 0)) (x0 : Nat) (fx : List Value) (hx1 : fx[1]? = some (.ref t0)) (p0 p1 : Int32) : fn_CI (S := Unit) l D K yX11_leaves (fn_ws yX11_leaves cX11_leaves 4 (some .int)) ({ frames := 8, cells := 0, slots := 0, locals := 200 }) [.ref x0, .int p0, .int p1] [(x0, .inr (11, fx)), (t0, .inr (7, ft))] (fun r _ => r = (-2)) (fun _ => []) 0 0 := by
  refine fn_inI (cc := cX11_leaves) (maxL := 4) (ret := (some .int)) (by decide) rfl (Nat.le_of_ble_eq_true rfl) ?_
  intro p e s m below meth c A ls B hA hP hD hS hl
  obtain ⟨hx, hb, hr, hml, hts, hown, hlocks, hin, hK⟩ := B
  have hown : s.vm.findClass RX11 = some m.cls := hown
  have hts := fun w h => hts w (List.mem_cons_of_mem _ h)
  have hl : lv_has ls 4 [(0, .ref x0), (1, .int p0), (2, .int p1)] := hl
  refine lv_aload_n hx hb dX11_leaves_0 rfl (lv_at hl 0 rfl) ?_
  refine va_get (D := D) (own := RX11) (ci := 11) (v := .ref t0) (C := RX11) (T := TX11) (N := 13) hx hb hts inb_X11 hown hK.1 hP 0 rfl rfl 1 (by decide) (hts _ wd_423) (fun _ h9 => h9) hx1 dX11_leaves_1 ?_
  refine lv_iload_n hx hb dX11_leaves_4 rfl (lv_at hl 1 rfl) ?_
  refine fn_goi (wc := [(t0, .inr (7, ft))]) (wr := [(x0, .inr (11, fx))]) hK hP hD hS hA [1] [0] rfl rfl (by decide) (fun hp => va_runVN (C := RX7) (As := [.int p0]) (rest := []) ⟨hx, hb, hml, hown, hts⟩ (c_X7_hasPage (l := l) (D := D) (K := K) (t0 := (t0)) (p0 := (p0)) (ft := (ft)) (ht0 := ht0) (ht3 := ht3) (ht4 := ht4) (ht5 := ht5) _) ⟨va_cnB (own := RX11) 1 hts (fn_gin wd_662) rfl rfl rfl (hK.nw 108 rfl) (hts _ wd_4) (by decide +kernel) ⟨Nat.le_of_ble_eq_true rfl, Nat.le_of_ble_eq_true rfl⟩, hts _ wd_661, hts _ wp_25⟩ ⟨fn_blind, va_recv hK.1 hP (ci := 7) (q0 := 1) rfl rfl, hp⟩ rfl rfl hl.1 rfl (lv_room (Nat.le_of_ble_eq_true rfl)) dX11_leaves_5 ⟨Nat.le_of_ble_eq_true rfl, Nat.le_of_ble_eq_true rfl⟩) (fun r2 u1 H locs hwu1 hP hD hS => ?_)
  have r2_e : r2 = 0 := hwu1
  subst r2_e
  have hP : va_P D vwCl [(x0, .inr (11, fx))] H := hP
  have hD : va_D A [(x0, .inr (11, fx))] := hD
  refine lv_if_eq (tgt := 22) hx hb dX11_leaves_8 (by decide) (fun _ => ?_) (fun h9 => absurd (by decide) h9)
  refine lv_bipush (v := (-2)) hx hb dX11_leaves_22 (by decide) ?_
  exact fn_iret hx hb hr hlocks rfl hP hD hS () (by first | rfl | decide) [] (by decide) rfl dX11_leaves_24
theorem dX11_worth_0 : decode cX11_worth 0 = .ok (.aload_n 0, 1) := by decide +kernel
theorem dX11_worth_1 : decode cX11_worth 1 = .ok (.getfield 19, 3) := by decide +kernel
theorem dX11_worth_4 : decode cX11_worth 4 = .ok (.iload_n 1, 1) := by decide +kernel
theorem dX11_worth_5 : decode cX11_worth 5 = .ok (.invokevirtual 130, 3) := by decide +kernel
theorem dX11_worth_8 : decode cX11_worth 8 = .ok (.ifCond .eq 10, 3) := by decide +kernel
theorem dX11_worth_18 : decode cX11_worth 18 = .ok (.bipush (-2), 2) := by decide +kernel
theorem dX11_worth_20 : decode cX11_worth 20 = .ok (.ireturn, 1) := by decide +kernel
set_option maxHeartbeats 4000000 in
set_option maxRecDepth 100000 in
theorem c_X11_worth (l : Launch) (D : va_G) (K : Nat → ClassId) (t0 : Nat) (ft : List Value) (ht0 : ft[0]? = some (.int 0)) (ht3 : ft[3]? = some (.int 0)) (ht4 : ft[4]? = some (.int 0)) (ht5 : ft[5]? = some (.int 0)) (x0 : Nat) (fx : List Value) (hx1 : fx[1]? = some (.ref t0)) (p0 p1 : Int32) : fn_CI (S := Unit) l D K yX11_worth (fn_ws yX11_worth cX11_worth 3 (some .int)) ({ frames := 8, cells := 0, slots := 0, locals := 200 }) [.ref x0, .int p0, .int p1] [(x0, .inr (11, fx)), (t0, .inr (7, ft))] (fun r _ => r = (-2)) (fun _ => []) 0 0 := by
  refine fn_inI (cc := cX11_worth) (maxL := 3) (ret := (some .int)) (by decide) rfl (Nat.le_of_ble_eq_true rfl) ?_
  intro p e s m below meth c A ls B hA hP hD hS hl
  obtain ⟨hx, hb, hr, hml, hts, hown, hlocks, hin, hK⟩ := B
  have hown : s.vm.findClass RX11 = some m.cls := hown
  have hts := fun w h => hts w (List.mem_cons_of_mem _ h)
  have hl : lv_has ls 3 [(0, .ref x0), (1, .int p0), (2, .int p1)] := hl
  refine lv_aload_n hx hb dX11_worth_0 rfl (lv_at hl 0 rfl) ?_
  refine va_get (D := D) (own := RX11) (ci := 11) (v := .ref t0) (C := RX11) (T := TX11) (N := 13) hx hb hts inb_X11 hown hK.1 hP 0 rfl rfl 1 (by decide) (hts _ wd_423) (fun _ h9 => h9) hx1 dX11_worth_1 ?_
  refine lv_iload_n hx hb dX11_worth_4 rfl (lv_at hl 1 rfl) ?_
  refine fn_goi (wc := [(t0, .inr (7, ft))]) (wr := [(x0, .inr (11, fx))]) hK hP hD hS hA [1] [0] rfl rfl (by decide) (fun hp => va_runVN (C := RX7) (As := [.int p0]) (rest := []) ⟨hx, hb, hml, hown, hts⟩ (c_X7_hasPage (l := l) (D := D) (K := K) (t0 := (t0)) (p0 := (p0)) (ft := (ft)) (ht0 := ht0) (ht3 := ht3) (ht4 := ht4) (ht5 := ht5) _) ⟨va_cnB (own := RX11) 1 hts (fn_gin wd_662) rfl rfl rfl (hK.nw 108 rfl) (hts _ wd_4) (by decide +kernel) ⟨Nat.le_of_ble_eq_true rfl, Nat.le_of_ble_eq_true rfl⟩, hts _ wd_661, hts _ wp_25⟩ ⟨fn_blind, va_recv hK.1 hP (ci := 7) (q0 := 1) rfl rfl, hp⟩ rfl rfl hl.1 rfl (lv_room (Nat.le_of_ble_eq_true rfl)) dX11_worth_5 ⟨Nat.le_of_ble_eq_true rfl, Nat.le_of_ble_eq_true rfl⟩) (fun r2 u1 H locs hwu1 hP hD hS => ?_)
  have r2_e : r2 = 0 := hwu1
  subst r2_e
  have hP : va_P D vwCl [(x0, .inr (11, fx))] H := hP
  have hD : va_D A [(x0, .inr (11, fx))] := hD
  refine lv_if_eq (tgt := 18) hx hb dX11_worth_8 (by decide) (fun _ => ?_) (fun h9 => absurd (by decide) h9)
  refine lv_bipush (v := (-2)) hx hb dX11_worth_18 (by decide) ?_
  exact fn_iret hx hb hr hlocks rfl hP hD hS () (by first | rfl | decide) [] (by decide) rfl dX11_worth_20
theorem dX11_astray_0 : decode cX11_astray 0 = .ok (.aload_n 0, 1) := by decide +kernel
theorem dX11_astray_1 : decode cX11_astray 1 = .ok (.invokevirtual 188, 3) := by decide +kernel
theorem dX11_astray_4 : decode cX11_astray 4 = .ok (.ifCond .eq 6, 3) := by decide +kernel
theorem dX11_astray_7 : decode cX11_astray 7 = .ok (.bipush (-2), 2) := by decide +kernel
theorem dX11_astray_9 : decode cX11_astray 9 = .ok (.ireturn, 1) := by decide +kernel
set_option maxHeartbeats 4000000 in
set_option maxRecDepth 100000 in
theorem c_X11_astray (l : Launch) (D : va_G) (K : Nat → ClassId) (t0 : Nat) (ft : List Value) (ht0 : ft[0]? = some (.int 0)) (ht3 : ft[3]? = some (.int 0)) (ht4 : ft[4]? = some (.int 0)) (ht5 : ft[5]? = some (.int 0)) (x0 : Nat) (fx : List Value) (hx1 : fx[1]? = some (.ref t0)) : fn_CI (S := Unit) l D K yX11_astray (fn_ws yX11_astray cX11_astray 3 (some .int)) ({ frames := 8, cells := 0, slots := 0, locals := 200 }) [.ref x0] [(x0, .inr (11, fx)), (t0, .inr (7, ft))] (fun r _ => r = (-2)) (fun _ => []) 0 0 := by
  refine fn_inI (cc := cX11_astray) (maxL := 3) (ret := (some .int)) (by decide) rfl (Nat.le_of_ble_eq_true rfl) ?_
  intro p e s m below meth c A ls B hA hP hD hS hl
  obtain ⟨hx, hb, hr, hml, hts, hown, hlocks, hin, hK⟩ := B
  have hown : s.vm.findClass RX11 = some m.cls := hown
  have hts := fun w h => hts w (List.mem_cons_of_mem _ h)
  have hl : lv_has ls 3 [(0, .ref x0)] := hl
  refine lv_aload_n hx hb dX11_astray_0 rfl (lv_at hl 0 rfl) ?_
  refine fn_goi (wc := [(x0, .inr (11, fx)), (t0, .inr (7, ft))]) (wr := []) hK hP hD hS hA [0, 1] [] rfl rfl (by decide) (fun hp => va_runV (C := RX11) (As := []) (rest := []) ⟨hx, hb, hml, hown, hts⟩ (c_X11_noTown (l := l) (D := D) (K := K) (x0 := (x0)) (fx := (fx)) (t0 := (t0)) (hx1 := hx1) (ft := (ft)) (ht0 := ht0) (ht3 := ht3) (ht4 := ht4) (ht5 := ht5) _) (cwV 0 hts (fn_ginV (fn_gin wd_709) wd_706 wd_708 wp_30 wd_1) rfl rfl rfl (by decide +kernel) ⟨Nat.le_of_ble_eq_true rfl, Nat.le_of_ble_eq_true rfl⟩) ⟨fn_blind, va_recv hK.1 hP (ci := 11) (q0 := 0) rfl rfl, hp⟩ rfl rfl hl.1 rfl (lv_room (Nat.le_of_ble_eq_true rfl)) dX11_astray_1 ⟨Nat.le_of_ble_eq_true rfl, Nat.le_of_ble_eq_true rfl⟩) (fun r2 u1 H locs hwu1 hP hD hS => ?_)
  have r2_e : r2 = 1 := hwu1
  subst r2_e
  have hP : va_P D vwCl [] H := hP
  have hD : va_D A [] := hD
  refine lv_if_eq (tgt := 10) hx hb dX11_astray_4 (by decide) (fun h9 => absurd h9 (by decide)) (fun _ => ?_)
  refine lv_bipush (v := (-2)) hx hb dX11_astray_7 (by decide) ?_
  exact fn_iret hx hb hr hlocks rfl hP hD hS () (by first | rfl | decide) [] (by decide) rfl dX11_astray_9
theorem dX11_undo_0 : decode cX11_undo 0 = .ok (.aload_n 0, 1) := by decide +kernel
theorem dX11_undo_1 : decode cX11_undo 1 = .ok (.invokevirtual 188, 3) := by decide +kernel
theorem dX11_undo_4 : decode cX11_undo 4 = .ok (.ifCond .eq 6, 3) := by decide +kernel
theorem dX11_undo_7 : decode cX11_undo 7 = .ok (.bipush (-2), 2) := by decide +kernel
theorem dX11_undo_9 : decode cX11_undo 9 = .ok (.ireturn, 1) := by decide +kernel
set_option maxHeartbeats 4000000 in
set_option maxRecDepth 100000 in
theorem c_X11_undo (l : Launch) (D : va_G) (K : Nat → ClassId) (t0 : Nat) (ft : List Value) (ht0 : ft[0]? = some (.int 0)) (ht3 : ft[3]? = some (.int 0)) (ht4 : ft[4]? = some (.int 0)) (ht5 : ft[5]? = some (.int 0)) (x0 : Nat) (fx : List Value) (hx1 : fx[1]? = some (.ref t0)) : fn_CI (S := Unit) l D K yX11_undo (fn_ws yX11_undo cX11_undo 1 (some .int)) ({ frames := 8, cells := 0, slots := 0, locals := 200 }) [.ref x0] [(x0, .inr (11, fx)), (t0, .inr (7, ft))] (fun r _ => r = (-2)) (fun _ => []) 0 0 := by
  refine fn_inI (cc := cX11_undo) (maxL := 1) (ret := (some .int)) (by decide) rfl (Nat.le_of_ble_eq_true rfl) ?_
  intro p e s m below meth c A ls B hA hP hD hS hl
  obtain ⟨hx, hb, hr, hml, hts, hown, hlocks, hin, hK⟩ := B
  have hown : s.vm.findClass RX11 = some m.cls := hown
  have hts := fun w h => hts w (List.mem_cons_of_mem _ h)
  have hl : lv_has ls 1 [(0, .ref x0)] := hl
  refine lv_aload_n hx hb dX11_undo_0 rfl (lv_at hl 0 rfl) ?_
  refine fn_goi (wc := [(x0, .inr (11, fx)), (t0, .inr (7, ft))]) (wr := []) hK hP hD hS hA [0, 1] [] rfl rfl (by decide) (fun hp => va_runV (C := RX11) (As := []) (rest := []) ⟨hx, hb, hml, hown, hts⟩ (c_X11_noTown (l := l) (D := D) (K := K) (x0 := (x0)) (fx := (fx)) (t0 := (t0)) (hx1 := hx1) (ft := (ft)) (ht0 := ht0) (ht3 := ht3) (ht4 := ht4) (ht5 := ht5) _) (cwV 0 hts (fn_ginV (fn_gin wd_709) wd_706 wd_708 wp_30 wd_1) rfl rfl rfl (by decide +kernel) ⟨Nat.le_of_ble_eq_true rfl, Nat.le_of_ble_eq_true rfl⟩) ⟨fn_blind, va_recv hK.1 hP (ci := 11) (q0 := 0) rfl rfl, hp⟩ rfl rfl hl.1 rfl (lv_room (Nat.le_of_ble_eq_true rfl)) dX11_undo_1 ⟨Nat.le_of_ble_eq_true rfl, Nat.le_of_ble_eq_true rfl⟩) (fun r2 u1 H locs hwu1 hP hD hS => ?_)
  have r2_e : r2 = 1 := hwu1
  subst r2_e
  have hP : va_P D vwCl [] H := hP
  have hD : va_D A [] := hD
  refine lv_if_eq (tgt := 10) hx hb dX11_undo_4 (by decide) (fun h9 => absurd h9 (by decide)) (fun _ => ?_)
  refine lv_bipush (v := (-2)) hx hb dX11_undo_7 (by decide) ?_
  exact fn_iret hx hb hr hlocks rfl hP hD hS () (by first | rfl | decide) [] (by decide) rfl dX11_undo_9
theorem dX11_anew_0 : decode cX11_anew 0 = .ok (.aload_n 0, 1) := by decide +kernel
theorem dX11_anew_1 : decode cX11_anew 1 = .ok (.invokevirtual 188, 3) := by decide +kernel
theorem dX11_anew_4 : decode cX11_anew 4 = .ok (.ifCond .eq 6, 3) := by decide +kernel
theorem dX11_anew_7 : decode cX11_anew 7 = .ok (.bipush (-2), 2) := by decide +kernel
theorem dX11_anew_9 : decode cX11_anew 9 = .ok (.ireturn, 1) := by decide +kernel
set_option maxHeartbeats 4000000 in
set_option maxRecDepth 100000 in
theorem c_X11_anew (l : Launch) (D : va_G) (K : Nat → ClassId) (t0 : Nat) (ft : List Value) (ht0 : ft[0]? = some (.int 0)) (ht3 : ft[3]? = some (.int 0)) (ht4 : ft[4]? = some (.int 0)) (ht5 : ft[5]? = some (.int 0)) (x0 : Nat) (fx : List Value) (hx1 : fx[1]? = some (.ref t0)) : fn_CI (S := Unit) l D K yX11_anew (fn_ws yX11_anew cX11_anew 2 (some .int)) ({ frames := 8, cells := 0, slots := 0, locals := 200 }) [.ref x0] [(x0, .inr (11, fx)), (t0, .inr (7, ft))] (fun r _ => r = (-2)) (fun _ => []) 0 0 := by
  refine fn_inI (cc := cX11_anew) (maxL := 2) (ret := (some .int)) (by decide) rfl (Nat.le_of_ble_eq_true rfl) ?_
  intro p e s m below meth c A ls B hA hP hD hS hl
  obtain ⟨hx, hb, hr, hml, hts, hown, hlocks, hin, hK⟩ := B
  have hown : s.vm.findClass RX11 = some m.cls := hown
  have hts := fun w h => hts w (List.mem_cons_of_mem _ h)
  have hl : lv_has ls 2 [(0, .ref x0)] := hl
  refine lv_aload_n hx hb dX11_anew_0 rfl (lv_at hl 0 rfl) ?_
  refine fn_goi (wc := [(x0, .inr (11, fx)), (t0, .inr (7, ft))]) (wr := []) hK hP hD hS hA [0, 1] [] rfl rfl (by decide) (fun hp => va_runV (C := RX11) (As := []) (rest := []) ⟨hx, hb, hml, hown, hts⟩ (c_X11_noTown (l := l) (D := D) (K := K) (x0 := (x0)) (fx := (fx)) (t0 := (t0)) (hx1 := hx1) (ft := (ft)) (ht0 := ht0) (ht3 := ht3) (ht4 := ht4) (ht5 := ht5) _) (cwV 0 hts (fn_ginV (fn_gin wd_709) wd_706 wd_708 wp_30 wd_1) rfl rfl rfl (by decide +kernel) ⟨Nat.le_of_ble_eq_true rfl, Nat.le_of_ble_eq_true rfl⟩) ⟨fn_blind, va_recv hK.1 hP (ci := 11) (q0 := 0) rfl rfl, hp⟩ rfl rfl hl.1 rfl (lv_room (Nat.le_of_ble_eq_true rfl)) dX11_anew_1 ⟨Nat.le_of_ble_eq_true rfl, Nat.le_of_ble_eq_true rfl⟩) (fun r2 u1 H locs hwu1 hP hD hS => ?_)
  have r2_e : r2 = 1 := hwu1
  subst r2_e
  have hP : va_P D vwCl [] H := hP
  have hD : va_D A [] := hD
  refine lv_if_eq (tgt := 10) hx hb dX11_anew_4 (by decide) (fun h9 => absurd h9 (by decide)) (fun _ => ?_)
  refine lv_bipush (v := (-2)) hx hb dX11_anew_7 (by decide) ?_
  exact fn_iret hx hb hr hlocks rfl hP hD hS () (by first | rfl | decide) [] (by decide) rfl dX11_anew_9
theorem dX11_rings_0 : decode cX11_rings 0 = .ok (.aload_n 0, 1) := by decide +kernel
theorem dX11_rings_1 : decode cX11_rings 1 = .ok (.invokevirtual 188, 3) := by decide +kernel
theorem dX11_rings_4 : decode cX11_rings 4 = .ok (.ifCond .eq 6, 3) := by decide +kernel
theorem dX11_rings_7 : decode cX11_rings 7 = .ok (.bipush (-2), 2) := by decide +kernel
theorem dX11_rings_9 : decode cX11_rings 9 = .ok (.ireturn, 1) := by decide +kernel
set_option maxHeartbeats 4000000 in
set_option maxRecDepth 100000 in
theorem c_X11_rings (l : Launch) (D : va_G) (K : Nat → ClassId) (t0 : Nat) (ft : List Value) (ht0 : ft[0]? = some (.int 0)) (ht3 : ft[3]? = some (.int 0)) (ht4 : ft[4]? = some (.int 0)) (ht5 : ft[5]? = some (.int 0)) (x0 : Nat) (fx : List Value) (hx1 : fx[1]? = some (.ref t0)) : fn_CI (S := Unit) l D K yX11_rings (fn_ws yX11_rings cX11_rings 3 (some .int)) ({ frames := 8, cells := 0, slots := 0, locals := 200 }) [.ref x0] [(x0, .inr (11, fx)), (t0, .inr (7, ft))] (fun r _ => r = (-2)) (fun _ => []) 0 0 := by
  refine fn_inI (cc := cX11_rings) (maxL := 3) (ret := (some .int)) (by decide) rfl (Nat.le_of_ble_eq_true rfl) ?_
  intro p e s m below meth c A ls B hA hP hD hS hl
  obtain ⟨hx, hb, hr, hml, hts, hown, hlocks, hin, hK⟩ := B
  have hown : s.vm.findClass RX11 = some m.cls := hown
  have hts := fun w h => hts w (List.mem_cons_of_mem _ h)
  have hl : lv_has ls 3 [(0, .ref x0)] := hl
  refine lv_aload_n hx hb dX11_rings_0 rfl (lv_at hl 0 rfl) ?_
  refine fn_goi (wc := [(x0, .inr (11, fx)), (t0, .inr (7, ft))]) (wr := []) hK hP hD hS hA [0, 1] [] rfl rfl (by decide) (fun hp => va_runV (C := RX11) (As := []) (rest := []) ⟨hx, hb, hml, hown, hts⟩ (c_X11_noTown (l := l) (D := D) (K := K) (x0 := (x0)) (fx := (fx)) (t0 := (t0)) (hx1 := hx1) (ft := (ft)) (ht0 := ht0) (ht3 := ht3) (ht4 := ht4) (ht5 := ht5) _) (cwV 0 hts (fn_ginV (fn_gin wd_709) wd_706 wd_708 wp_30 wd_1) rfl rfl rfl (by decide +kernel) ⟨Nat.le_of_ble_eq_true rfl, Nat.le_of_ble_eq_true rfl⟩) ⟨fn_blind, va_recv hK.1 hP (ci := 11) (q0 := 0) rfl rfl, hp⟩ rfl rfl hl.1 rfl (lv_room (Nat.le_of_ble_eq_true rfl)) dX11_rings_1 ⟨Nat.le_of_ble_eq_true rfl, Nat.le_of_ble_eq_true rfl⟩) (fun r2 u1 H locs hwu1 hP hD hS => ?_)
  have r2_e : r2 = 1 := hwu1
  subst r2_e
  have hP : va_P D vwCl [] H := hP
  have hD : va_D A [] := hD
  refine lv_if_eq (tgt := 10) hx hb dX11_rings_4 (by decide) (fun h9 => absurd h9 (by decide)) (fun _ => ?_)
  refine lv_bipush (v := (-2)) hx hb dX11_rings_7 (by decide) ?_
  exact fn_iret hx hb hr hlocks rfl hP hD hS () (by first | rfl | decide) [] (by decide) rfl dX11_rings_9
theorem dX11_deepest_0 : decode cX11_deepest 0 = .ok (.aload_n 0, 1) := by decide +kernel
theorem dX11_deepest_1 : decode cX11_deepest 1 = .ok (.invokevirtual 188, 3) := by decide +kernel
theorem dX11_deepest_4 : decode cX11_deepest 4 = .ok (.ifCond .eq 6, 3) := by decide +kernel
theorem dX11_deepest_7 : decode cX11_deepest 7 = .ok (.bipush (-2), 2) := by decide +kernel
theorem dX11_deepest_9 : decode cX11_deepest 9 = .ok (.ireturn, 1) := by decide +kernel
set_option maxHeartbeats 4000000 in
set_option maxRecDepth 100000 in
theorem c_X11_deepest (l : Launch) (D : va_G) (K : Nat → ClassId) (t0 : Nat) (ft : List Value) (ht0 : ft[0]? = some (.int 0)) (ht3 : ft[3]? = some (.int 0)) (ht4 : ft[4]? = some (.int 0)) (ht5 : ft[5]? = some (.int 0)) (x0 : Nat) (fx : List Value) (hx1 : fx[1]? = some (.ref t0)) : fn_CI (S := Unit) l D K yX11_deepest (fn_ws yX11_deepest cX11_deepest 5 (some .int)) ({ frames := 8, cells := 0, slots := 0, locals := 200 }) [.ref x0] [(x0, .inr (11, fx)), (t0, .inr (7, ft))] (fun r _ => r = (-2)) (fun _ => []) 0 0 := by
  refine fn_inI (cc := cX11_deepest) (maxL := 5) (ret := (some .int)) (by decide) rfl (Nat.le_of_ble_eq_true rfl) ?_
  intro p e s m below meth c A ls B hA hP hD hS hl
  obtain ⟨hx, hb, hr, hml, hts, hown, hlocks, hin, hK⟩ := B
  have hown : s.vm.findClass RX11 = some m.cls := hown
  have hts := fun w h => hts w (List.mem_cons_of_mem _ h)
  have hl : lv_has ls 5 [(0, .ref x0)] := hl
  refine lv_aload_n hx hb dX11_deepest_0 rfl (lv_at hl 0 rfl) ?_
  refine fn_goi (wc := [(x0, .inr (11, fx)), (t0, .inr (7, ft))]) (wr := []) hK hP hD hS hA [0, 1] [] rfl rfl (by decide) (fun hp => va_runV (C := RX11) (As := []) (rest := []) ⟨hx, hb, hml, hown, hts⟩ (c_X11_noTown (l := l) (D := D) (K := K) (x0 := (x0)) (fx := (fx)) (t0 := (t0)) (hx1 := hx1) (ft := (ft)) (ht0 := ht0) (ht3 := ht3) (ht4 := ht4) (ht5 := ht5) _) (cwV 0 hts (fn_ginV (fn_gin wd_709) wd_706 wd_708 wp_30 wd_1) rfl rfl rfl (by decide +kernel) ⟨Nat.le_of_ble_eq_true rfl, Nat.le_of_ble_eq_true rfl⟩) ⟨fn_blind, va_recv hK.1 hP (ci := 11) (q0 := 0) rfl rfl, hp⟩ rfl rfl hl.1 rfl (lv_room (Nat.le_of_ble_eq_true rfl)) dX11_deepest_1 ⟨Nat.le_of_ble_eq_true rfl, Nat.le_of_ble_eq_true rfl⟩) (fun r2 u1 H locs hwu1 hP hD hS => ?_)
  have r2_e : r2 = 1 := hwu1
  subst r2_e
  have hP : va_P D vwCl [] H := hP
  have hD : va_D A [] := hD
  refine lv_if_eq (tgt := 10) hx hb dX11_deepest_4 (by decide) (fun h9 => absurd h9 (by decide)) (fun _ => ?_)
  refine lv_bipush (v := (-2)) hx hb dX11_deepest_7 (by decide) ?_
  exact fn_iret hx hb hr hlocks rfl hP hD hS () (by first | rfl | decide) [] (by decide) rfl dX11_deepest_9
theorem dX11_grounded_0 : decode cX11_grounded 0 = .ok (.aload_n 0, 1) := by decide +kernel
theorem dX11_grounded_1 : decode cX11_grounded 1 = .ok (.invokevirtual 188, 3) := by decide +kernel
theorem dX11_grounded_4 : decode cX11_grounded 4 = .ok (.ifCond .eq 8, 3) := by decide +kernel
theorem dX11_grounded_7 : decode cX11_grounded 7 = .ok (.bipush (-2), 2) := by decide +kernel
theorem dX11_grounded_9 : decode cX11_grounded 9 = .ok (.goto 11, 3) := by decide +kernel
theorem dX11_grounded_20 : decode cX11_grounded 20 = .ok (.ireturn, 1) := by decide +kernel
set_option maxHeartbeats 4000000 in
set_option maxRecDepth 100000 in
theorem c_X11_grounded (l : Launch) (D : va_G) (K : Nat → ClassId) (t0 : Nat) (ft : List Value) (ht0 : ft[0]? = some (.int 0)) (ht3 : ft[3]? = some (.int 0)) (ht4 : ft[4]? = some (.int 0)) (ht5 : ft[5]? = some (.int 0)) (x0 : Nat) (fx : List Value) (hx1 : fx[1]? = some (.ref t0)) : fn_CI (S := Unit) l D K yX11_grounded (fn_ws yX11_grounded cX11_grounded 1 (some .int)) ({ frames := 8, cells := 0, slots := 0, locals := 200 }) [.ref x0] [(x0, .inr (11, fx)), (t0, .inr (7, ft))] (fun r _ => r = (-2)) (fun _ => []) 0 0 := by
  refine fn_inI (cc := cX11_grounded) (maxL := 1) (ret := (some .int)) (by decide) rfl (Nat.le_of_ble_eq_true rfl) ?_
  intro p e s m below meth c A ls B hA hP hD hS hl
  obtain ⟨hx, hb, hr, hml, hts, hown, hlocks, hin, hK⟩ := B
  have hown : s.vm.findClass RX11 = some m.cls := hown
  have hts := fun w h => hts w (List.mem_cons_of_mem _ h)
  have hl : lv_has ls 1 [(0, .ref x0)] := hl
  refine lv_aload_n hx hb dX11_grounded_0 rfl (lv_at hl 0 rfl) ?_
  refine fn_goi (wc := [(x0, .inr (11, fx)), (t0, .inr (7, ft))]) (wr := []) hK hP hD hS hA [0, 1] [] rfl rfl (by decide) (fun hp => va_runV (C := RX11) (As := []) (rest := []) ⟨hx, hb, hml, hown, hts⟩ (c_X11_noTown (l := l) (D := D) (K := K) (x0 := (x0)) (fx := (fx)) (t0 := (t0)) (hx1 := hx1) (ft := (ft)) (ht0 := ht0) (ht3 := ht3) (ht4 := ht4) (ht5 := ht5) _) (cwV 0 hts (fn_ginV (fn_gin wd_709) wd_706 wd_708 wp_30 wd_1) rfl rfl rfl (by decide +kernel) ⟨Nat.le_of_ble_eq_true rfl, Nat.le_of_ble_eq_true rfl⟩) ⟨fn_blind, va_recv hK.1 hP (ci := 11) (q0 := 0) rfl rfl, hp⟩ rfl rfl hl.1 rfl (lv_room (Nat.le_of_ble_eq_true rfl)) dX11_grounded_1 ⟨Nat.le_of_ble_eq_true rfl, Nat.le_of_ble_eq_true rfl⟩) (fun r2 u1 H locs hwu1 hP hD hS => ?_)
  have r2_e : r2 = 1 := hwu1
  subst r2_e
  have hP : va_P D vwCl [] H := hP
  have hD : va_D A [] := hD
  refine lv_if_eq (tgt := 12) hx hb dX11_grounded_4 (by decide) (fun h9 => absurd h9 (by decide)) (fun _ => ?_)
  refine lv_bipush (v := (-2)) hx hb dX11_grounded_7 (by decide) ?_
  refine lv_goto (tgt := 20) hx hb dX11_grounded_9 (by decide) ?_
  exact fn_iret hx hb hr hlocks rfl hP hD hS () (by first | rfl | decide) [] (by decide) rfl dX11_grounded_20
theorem dX11_key_0 : decode cX11_key 0 = .ok (.aload_n 0, 1) := by decide +kernel
theorem dX11_key_1 : decode cX11_key 1 = .ok (.invokevirtual 188, 3) := by decide +kernel
theorem dX11_key_4 : decode cX11_key 4 = .ok (.ifCond .eq 6, 3) := by decide +kernel
theorem dX11_key_7 : decode cX11_key 7 = .ok (.bipush (-2), 2) := by decide +kernel
theorem dX11_key_9 : decode cX11_key 9 = .ok (.ireturn, 1) := by decide +kernel
set_option maxHeartbeats 4000000 in
set_option maxRecDepth 100000 in
theorem c_X11_key (l : Launch) (D : va_G) (K : Nat → ClassId) (t0 : Nat) (ft : List Value) (ht0 : ft[0]? = some (.int 0)) (ht3 : ft[3]? = some (.int 0)) (ht4 : ft[4]? = some (.int 0)) (ht5 : ft[5]? = some (.int 0)) (x0 : Nat) (fx : List Value) (hx1 : fx[1]? = some (.ref t0)) : fn_CI (S := Unit) l D K yX11_key (fn_ws yX11_key cX11_key 5 (some .int)) ({ frames := 8, cells := 0, slots := 0, locals := 200 }) [.ref x0] [(x0, .inr (11, fx)), (t0, .inr (7, ft))] (fun r _ => r = (-2)) (fun _ => []) 0 0 := by
  refine fn_inI (cc := cX11_key) (maxL := 5) (ret := (some .int)) (by decide) rfl (Nat.le_of_ble_eq_true rfl) ?_
  intro p e s m below meth c A ls B hA hP hD hS hl
  obtain ⟨hx, hb, hr, hml, hts, hown, hlocks, hin, hK⟩ := B
  have hown : s.vm.findClass RX11 = some m.cls := hown
  have hts := fun w h => hts w (List.mem_cons_of_mem _ h)
  have hl : lv_has ls 5 [(0, .ref x0)] := hl
  refine lv_aload_n hx hb dX11_key_0 rfl (lv_at hl 0 rfl) ?_
  refine fn_goi (wc := [(x0, .inr (11, fx)), (t0, .inr (7, ft))]) (wr := []) hK hP hD hS hA [0, 1] [] rfl rfl (by decide) (fun hp => va_runV (C := RX11) (As := []) (rest := []) ⟨hx, hb, hml, hown, hts⟩ (c_X11_noTown (l := l) (D := D) (K := K) (x0 := (x0)) (fx := (fx)) (t0 := (t0)) (hx1 := hx1) (ft := (ft)) (ht0 := ht0) (ht3 := ht3) (ht4 := ht4) (ht5 := ht5) _) (cwV 0 hts (fn_ginV (fn_gin wd_709) wd_706 wd_708 wp_30 wd_1) rfl rfl rfl (by decide +kernel) ⟨Nat.le_of_ble_eq_true rfl, Nat.le_of_ble_eq_true rfl⟩) ⟨fn_blind, va_recv hK.1 hP (ci := 11) (q0 := 0) rfl rfl, hp⟩ rfl rfl hl.1 rfl (lv_room (Nat.le_of_ble_eq_true rfl)) dX11_key_1 ⟨Nat.le_of_ble_eq_true rfl, Nat.le_of_ble_eq_true rfl⟩) (fun r2 u1 H locs hwu1 hP hD hS => ?_)
  have r2_e : r2 = 1 := hwu1
  subst r2_e
  have hP : va_P D vwCl [] H := hP
  have hD : va_D A [] := hD
  refine lv_if_eq (tgt := 10) hx hb dX11_key_4 (by decide) (fun h9 => absurd h9 (by decide)) (fun _ => ?_)
  refine lv_bipush (v := (-2)) hx hb dX11_key_7 (by decide) ?_
  exact fn_iret hx hb hr hlocks rfl hP hD hS () (by first | rfl | decide) [] (by decide) rfl dX11_key_9
theorem dX11_ways_0 : decode cX11_ways 0 = .ok (.aload_n 0, 1) := by decide +kernel
theorem dX11_ways_1 : decode cX11_ways 1 = .ok (.invokevirtual 188, 3) := by decide +kernel
theorem dX11_ways_4 : decode cX11_ways 4 = .ok (.ifCond .eq 6, 3) := by decide +kernel
theorem dX11_ways_7 : decode cX11_ways 7 = .ok (.bipush (-2), 2) := by decide +kernel
theorem dX11_ways_9 : decode cX11_ways 9 = .ok (.ireturn, 1) := by decide +kernel
set_option maxHeartbeats 4000000 in
set_option maxRecDepth 100000 in
theorem c_X11_ways (l : Launch) (D : va_G) (K : Nat → ClassId) (t0 : Nat) (ft : List Value) (ht0 : ft[0]? = some (.int 0)) (ht3 : ft[3]? = some (.int 0)) (ht4 : ft[4]? = some (.int 0)) (ht5 : ft[5]? = some (.int 0)) (x0 : Nat) (fx : List Value) (hx1 : fx[1]? = some (.ref t0)) : fn_CI (S := Unit) l D K yX11_ways (fn_ws yX11_ways cX11_ways 1 (some .int)) ({ frames := 8, cells := 0, slots := 0, locals := 200 }) [.ref x0] [(x0, .inr (11, fx)), (t0, .inr (7, ft))] (fun r _ => r = (-2)) (fun _ => []) 0 0 := by
  refine fn_inI (cc := cX11_ways) (maxL := 1) (ret := (some .int)) (by decide) rfl (Nat.le_of_ble_eq_true rfl) ?_
  intro p e s m below meth c A ls B hA hP hD hS hl
  obtain ⟨hx, hb, hr, hml, hts, hown, hlocks, hin, hK⟩ := B
  have hown : s.vm.findClass RX11 = some m.cls := hown
  have hts := fun w h => hts w (List.mem_cons_of_mem _ h)
  have hl : lv_has ls 1 [(0, .ref x0)] := hl
  refine lv_aload_n hx hb dX11_ways_0 rfl (lv_at hl 0 rfl) ?_
  refine fn_goi (wc := [(x0, .inr (11, fx)), (t0, .inr (7, ft))]) (wr := []) hK hP hD hS hA [0, 1] [] rfl rfl (by decide) (fun hp => va_runV (C := RX11) (As := []) (rest := []) ⟨hx, hb, hml, hown, hts⟩ (c_X11_noTown (l := l) (D := D) (K := K) (x0 := (x0)) (fx := (fx)) (t0 := (t0)) (hx1 := hx1) (ft := (ft)) (ht0 := ht0) (ht3 := ht3) (ht4 := ht4) (ht5 := ht5) _) (cwV 0 hts (fn_ginV (fn_gin wd_709) wd_706 wd_708 wp_30 wd_1) rfl rfl rfl (by decide +kernel) ⟨Nat.le_of_ble_eq_true rfl, Nat.le_of_ble_eq_true rfl⟩) ⟨fn_blind, va_recv hK.1 hP (ci := 11) (q0 := 0) rfl rfl, hp⟩ rfl rfl hl.1 rfl (lv_room (Nat.le_of_ble_eq_true rfl)) dX11_ways_1 ⟨Nat.le_of_ble_eq_true rfl, Nat.le_of_ble_eq_true rfl⟩) (fun r2 u1 H locs hwu1 hP hD hS => ?_)
  have r2_e : r2 = 1 := hwu1
  subst r2_e
  have hP : va_P D vwCl [] H := hP
  have hD : va_D A [] := hD
  refine lv_if_eq (tgt := 10) hx hb dX11_ways_4 (by decide) (fun h9 => absurd h9 (by decide)) (fun _ => ?_)
  refine lv_bipush (v := (-2)) hx hb dX11_ways_7 (by decide) ?_
  exact fn_iret hx hb hr hlocks rfl hP hD hS () (by first | rfl | decide) [] (by decide) rfl dX11_ways_9
theorem dX11_mostly_0 : decode cX11_mostly 0 = .ok (.aload_n 0, 1) := by decide +kernel
theorem dX11_mostly_1 : decode cX11_mostly 1 = .ok (.invokevirtual 188, 3) := by decide +kernel
theorem dX11_mostly_4 : decode cX11_mostly 4 = .ok (.ifCond .eq 6, 3) := by decide +kernel
theorem dX11_mostly_7 : decode cX11_mostly 7 = .ok (.bipush (-2), 2) := by decide +kernel
theorem dX11_mostly_9 : decode cX11_mostly 9 = .ok (.ireturn, 1) := by decide +kernel
set_option maxHeartbeats 4000000 in
set_option maxRecDepth 100000 in
theorem c_X11_mostly (l : Launch) (D : va_G) (K : Nat → ClassId) (t0 : Nat) (ft : List Value) (ht0 : ft[0]? = some (.int 0)) (ht3 : ft[3]? = some (.int 0)) (ht4 : ft[4]? = some (.int 0)) (ht5 : ft[5]? = some (.int 0)) (x0 : Nat) (fx : List Value) (hx1 : fx[1]? = some (.ref t0)) : fn_CI (S := Unit) l D K yX11_mostly (fn_ws yX11_mostly cX11_mostly 1 (some .int)) ({ frames := 8, cells := 0, slots := 0, locals := 200 }) [.ref x0] [(x0, .inr (11, fx)), (t0, .inr (7, ft))] (fun r _ => r = (-2)) (fun _ => []) 0 0 := by
  refine fn_inI (cc := cX11_mostly) (maxL := 1) (ret := (some .int)) (by decide) rfl (Nat.le_of_ble_eq_true rfl) ?_
  intro p e s m below meth c A ls B hA hP hD hS hl
  obtain ⟨hx, hb, hr, hml, hts, hown, hlocks, hin, hK⟩ := B
  have hown : s.vm.findClass RX11 = some m.cls := hown
  have hts := fun w h => hts w (List.mem_cons_of_mem _ h)
  have hl : lv_has ls 1 [(0, .ref x0)] := hl
  refine lv_aload_n hx hb dX11_mostly_0 rfl (lv_at hl 0 rfl) ?_
  refine fn_goi (wc := [(x0, .inr (11, fx)), (t0, .inr (7, ft))]) (wr := []) hK hP hD hS hA [0, 1] [] rfl rfl (by decide) (fun hp => va_runV (C := RX11) (As := []) (rest := []) ⟨hx, hb, hml, hown, hts⟩ (c_X11_noTown (l := l) (D := D) (K := K) (x0 := (x0)) (fx := (fx)) (t0 := (t0)) (hx1 := hx1) (ft := (ft)) (ht0 := ht0) (ht3 := ht3) (ht4 := ht4) (ht5 := ht5) _) (cwV 0 hts (fn_ginV (fn_gin wd_709) wd_706 wd_708 wp_30 wd_1) rfl rfl rfl (by decide +kernel) ⟨Nat.le_of_ble_eq_true rfl, Nat.le_of_ble_eq_true rfl⟩) ⟨fn_blind, va_recv hK.1 hP (ci := 11) (q0 := 0) rfl rfl, hp⟩ rfl rfl hl.1 rfl (lv_room (Nat.le_of_ble_eq_true rfl)) dX11_mostly_1 ⟨Nat.le_of_ble_eq_true rfl, Nat.le_of_ble_eq_true rfl⟩) (fun r2 u1 H locs hwu1 hP hD hS => ?_)
  have r2_e : r2 = 1 := hwu1
  subst r2_e
  have hP : va_P D vwCl [] H := hP
  have hD : va_D A [] := hD
  refine lv_if_eq (tgt := 10) hx hb dX11_mostly_4 (by decide) (fun h9 => absurd h9 (by decide)) (fun _ => ?_)
  refine lv_bipush (v := (-2)) hx hb dX11_mostly_7 (by decide) ?_
  exact fn_iret hx hb hr hlocks rfl hP hD hS () (by first | rfl | decide) [] (by decide) rfl dX11_mostly_9
theorem dX11_sure_0 : decode cX11_sure 0 = .ok (.aload_n 0, 1) := by decide +kernel
theorem dX11_sure_1 : decode cX11_sure 1 = .ok (.invokevirtual 188, 3) := by decide +kernel
theorem dX11_sure_4 : decode cX11_sure 4 = .ok (.ifCond .ne 12, 3) := by decide +kernel
theorem dX11_sure_16 : decode cX11_sure 16 = .ok (.bipush (-2), 2) := by decide +kernel
theorem dX11_sure_18 : decode cX11_sure 18 = .ok (.ireturn, 1) := by decide +kernel
set_option maxHeartbeats 4000000 in
set_option maxRecDepth 100000 in
theorem c_X11_sure (l : Launch) (D : va_G) (K : Nat → ClassId) (t0 : Nat) (ft : List Value) (ht0 : ft[0]? = some (.int 0)) (ht3 : ft[3]? = some (.int 0)) (ht4 : ft[4]? = some (.int 0)) (ht5 : ft[5]? = some (.int 0)) (x0 : Nat) (fx : List Value) (hx1 : fx[1]? = some (.ref t0)) (p0 : Int32) : fn_CI (S := Unit) l D K yX11_sure (fn_ws yX11_sure cX11_sure 2 (some .int)) ({ frames := 8, cells := 0, slots := 0, locals := 200 }) [.ref x0, .int p0] [(x0, .inr (11, fx)), (t0, .inr (7, ft))] (fun r _ => r = (-2)) (fun _ => []) 0 0 := by
  refine fn_inI (cc := cX11_sure) (maxL := 2) (ret := (some .int)) (by decide) rfl (Nat.le_of_ble_eq_true rfl) ?_
  intro p e s m below meth c A ls B hA hP hD hS hl
  obtain ⟨hx, hb, hr, hml, hts, hown, hlocks, hin, hK⟩ := B
  have hown : s.vm.findClass RX11 = some m.cls := hown
  have hts := fun w h => hts w (List.mem_cons_of_mem _ h)
  have hl : lv_has ls 2 [(0, .ref x0), (1, .int p0)] := hl
  refine lv_aload_n hx hb dX11_sure_0 rfl (lv_at hl 0 rfl) ?_
  refine fn_goi (wc := [(x0, .inr (11, fx)), (t0, .inr (7, ft))]) (wr := []) hK hP hD hS hA [0, 1] [] rfl rfl (by decide) (fun hp => va_runV (C := RX11) (As := []) (rest := []) ⟨hx, hb, hml, hown, hts⟩ (c_X11_noTown (l := l) (D := D) (K := K) (x0 := (x0)) (fx := (fx)) (t0 := (t0)) (hx1 := hx1) (ft := (ft)) (ht0 := ht0) (ht3 := ht3) (ht4 := ht4) (ht5 := ht5) _) (cwV 0 hts (fn_ginV (fn_gin wd_709) wd_706 wd_708 wp_30 wd_1) rfl rfl rfl (by decide +kernel) ⟨Nat.le_of_ble_eq_true rfl, Nat.le_of_ble_eq_true rfl⟩) ⟨fn_blind, va_recv hK.1 hP (ci := 11) (q0 := 0) rfl rfl, hp⟩ rfl rfl hl.1 rfl (lv_room (Nat.le_of_ble_eq_true rfl)) dX11_sure_1 ⟨Nat.le_of_ble_eq_true rfl, Nat.le_of_ble_eq_true rfl⟩) (fun r2 u1 H locs hwu1 hP hD hS => ?_)
  have r2_e : r2 = 1 := hwu1
  subst r2_e
  have hP : va_P D vwCl [] H := hP
  have hD : va_D A [] := hD
  refine lv_if_ne (tgt := 16) hx hb dX11_sure_4 (by decide) (fun _ => ?_) (fun h9 => absurd h9 (by decide))
  refine lv_bipush (v := (-2)) hx hb dX11_sure_16 (by decide) ?_
  exact fn_iret hx hb hr hlocks rfl hP hD hS () (by first | rfl | decide) [] (by decide) rfl dX11_sure_18
theorem dX11_sends_0 : decode cX11_sends 0 = .ok (.aload_n 0, 1) := by decide +kernel
theorem dX11_sends_1 : decode cX11_sends 1 = .ok (.invokevirtual 188, 3) := by decide +kernel
theorem dX11_sends_4 : decode cX11_sends 4 = .ok (.ifCond .eq 6, 3) := by decide +kernel
theorem dX11_sends_7 : decode cX11_sends 7 = .ok (.bipush (-2), 2) := by decide +kernel
theorem dX11_sends_9 : decode cX11_sends 9 = .ok (.ireturn, 1) := by decide +kernel
set_option maxHeartbeats 4000000 in
set_option maxRecDepth 100000 in
theorem c_X11_sends (l : Launch) (D : va_G) (K : Nat → ClassId) (t0 : Nat) (ft : List Value) (ht0 : ft[0]? = some (.int 0)) (ht3 : ft[3]? = some (.int 0)) (ht4 : ft[4]? = some (.int 0)) (ht5 : ft[5]? = some (.int 0)) (x0 : Nat) (fx : List Value) (hx1 : fx[1]? = some (.ref t0)) : fn_CI (S := Unit) l D K yX11_sends (fn_ws yX11_sends cX11_sends 1 (some .int)) ({ frames := 8, cells := 0, slots := 0, locals := 200 }) [.ref x0] [(x0, .inr (11, fx)), (t0, .inr (7, ft))] (fun r _ => r = (-2)) (fun _ => []) 0 0 := by
  refine fn_inI (cc := cX11_sends) (maxL := 1) (ret := (some .int)) (by decide) rfl (Nat.le_of_ble_eq_true rfl) ?_
  intro p e s m below meth c A ls B hA hP hD hS hl
  obtain ⟨hx, hb, hr, hml, hts, hown, hlocks, hin, hK⟩ := B
  have hown : s.vm.findClass RX11 = some m.cls := hown
  have hts := fun w h => hts w (List.mem_cons_of_mem _ h)
  have hl : lv_has ls 1 [(0, .ref x0)] := hl
  refine lv_aload_n hx hb dX11_sends_0 rfl (lv_at hl 0 rfl) ?_
  refine fn_goi (wc := [(x0, .inr (11, fx)), (t0, .inr (7, ft))]) (wr := []) hK hP hD hS hA [0, 1] [] rfl rfl (by decide) (fun hp => va_runV (C := RX11) (As := []) (rest := []) ⟨hx, hb, hml, hown, hts⟩ (c_X11_noTown (l := l) (D := D) (K := K) (x0 := (x0)) (fx := (fx)) (t0 := (t0)) (hx1 := hx1) (ft := (ft)) (ht0 := ht0) (ht3 := ht3) (ht4 := ht4) (ht5 := ht5) _) (cwV 0 hts (fn_ginV (fn_gin wd_709) wd_706 wd_708 wp_30 wd_1) rfl rfl rfl (by decide +kernel) ⟨Nat.le_of_ble_eq_true rfl, Nat.le_of_ble_eq_true rfl⟩) ⟨fn_blind, va_recv hK.1 hP (ci := 11) (q0 := 0) rfl rfl, hp⟩ rfl rfl hl.1 rfl (lv_room (Nat.le_of_ble_eq_true rfl)) dX11_sends_1 ⟨Nat.le_of_ble_eq_true rfl, Nat.le_of_ble_eq_true rfl⟩) (fun r2 u1 H locs hwu1 hP hD hS => ?_)
  have r2_e : r2 = 1 := hwu1
  subst r2_e
  have hP : va_P D vwCl [] H := hP
  have hD : va_D A [] := hD
  refine lv_if_eq (tgt := 10) hx hb dX11_sends_4 (by decide) (fun h9 => absurd h9 (by decide)) (fun _ => ?_)
  refine lv_bipush (v := (-2)) hx hb dX11_sends_7 (by decide) ?_
  exact fn_iret hx hb hr hlocks rfl hP hD hS () (by first | rfl | decide) [] (by decide) rfl dX11_sends_9
theorem dX11_orders_0 : decode cX11_orders 0 = .ok (.aload_n 0, 1) := by decide +kernel
theorem dX11_orders_1 : decode cX11_orders 1 = .ok (.invokevirtual 188, 3) := by decide +kernel
theorem dX11_orders_4 : decode cX11_orders 4 = .ok (.ifCond .eq 6, 3) := by decide +kernel
theorem dX11_orders_7 : decode cX11_orders 7 = .ok (.bipush (-2), 2) := by decide +kernel
theorem dX11_orders_9 : decode cX11_orders 9 = .ok (.ireturn, 1) := by decide +kernel
set_option maxHeartbeats 4000000 in
set_option maxRecDepth 100000 in
theorem c_X11_orders (l : Launch) (D : va_G) (K : Nat → ClassId) (t0 : Nat) (ft : List Value) (ht0 : ft[0]? = some (.int 0)) (ht3 : ft[3]? = some (.int 0)) (ht4 : ft[4]? = some (.int 0)) (ht5 : ft[5]? = some (.int 0)) (x0 : Nat) (fx : List Value) (hx1 : fx[1]? = some (.ref t0)) : fn_CI (S := Unit) l D K yX11_orders (fn_ws yX11_orders cX11_orders 1 (some .int)) ({ frames := 8, cells := 0, slots := 0, locals := 200 }) [.ref x0] [(x0, .inr (11, fx)), (t0, .inr (7, ft))] (fun r _ => r = (-2)) (fun _ => []) 0 0 := by
  refine fn_inI (cc := cX11_orders) (maxL := 1) (ret := (some .int)) (by decide) rfl (Nat.le_of_ble_eq_true rfl) ?_
  intro p e s m below meth c A ls B hA hP hD hS hl
  obtain ⟨hx, hb, hr, hml, hts, hown, hlocks, hin, hK⟩ := B
  have hown : s.vm.findClass RX11 = some m.cls := hown
  have hts := fun w h => hts w (List.mem_cons_of_mem _ h)
  have hl : lv_has ls 1 [(0, .ref x0)] := hl
  refine lv_aload_n hx hb dX11_orders_0 rfl (lv_at hl 0 rfl) ?_
  refine fn_goi (wc := [(x0, .inr (11, fx)), (t0, .inr (7, ft))]) (wr := []) hK hP hD hS hA [0, 1] [] rfl rfl (by decide) (fun hp => va_runV (C := RX11) (As := []) (rest := []) ⟨hx, hb, hml, hown, hts⟩ (c_X11_noTown (l := l) (D := D) (K := K) (x0 := (x0)) (fx := (fx)) (t0 := (t0)) (hx1 := hx1) (ft := (ft)) (ht0 := ht0) (ht3 := ht3) (ht4 := ht4) (ht5 := ht5) _) (cwV 0 hts (fn_ginV (fn_gin wd_709) wd_706 wd_708 wp_30 wd_1) rfl rfl rfl (by decide +kernel) ⟨Nat.le_of_ble_eq_true rfl, Nat.le_of_ble_eq_true rfl⟩) ⟨fn_blind, va_recv hK.1 hP (ci := 11) (q0 := 0) rfl rfl, hp⟩ rfl rfl hl.1 rfl (lv_room (Nat.le_of_ble_eq_true rfl)) dX11_orders_1 ⟨Nat.le_of_ble_eq_true rfl, Nat.le_of_ble_eq_true rfl⟩) (fun r2 u1 H locs hwu1 hP hD hS => ?_)
  have r2_e : r2 = 1 := hwu1
  subst r2_e
  have hP : va_P D vwCl [] H := hP
  have hD : va_D A [] := hD
  refine lv_if_eq (tgt := 10) hx hb dX11_orders_4 (by decide) (fun h9 => absurd h9 (by decide)) (fun _ => ?_)
  refine lv_bipush (v := (-2)) hx hb dX11_orders_7 (by decide) ?_
  exact fn_iret hx hb hr hlocks rfl hP hD hS () (by first | rfl | decide) [] (by decide) rfl dX11_orders_9
theorem dX11_earliest_0 : decode cX11_earliest 0 = .ok (.aload_n 0, 1) := by decide +kernel
theorem dX11_earliest_1 : decode cX11_earliest 1 = .ok (.invokevirtual 188, 3) := by decide +kernel
theorem dX11_earliest_4 : decode cX11_earliest 4 = .ok (.ifCond .eq 6, 3) := by decide +kernel
theorem dX11_earliest_7 : decode cX11_earliest 7 = .ok (.bipush (-2), 2) := by decide +kernel
theorem dX11_earliest_9 : decode cX11_earliest 9 = .ok (.ireturn, 1) := by decide +kernel
set_option maxHeartbeats 4000000 in
set_option maxRecDepth 100000 in
theorem c_X11_earliest (l : Launch) (D : va_G) (K : Nat → ClassId) (t0 : Nat) (ft : List Value) (ht0 : ft[0]? = some (.int 0)) (ht3 : ft[3]? = some (.int 0)) (ht4 : ft[4]? = some (.int 0)) (ht5 : ft[5]? = some (.int 0)) (x0 : Nat) (fx : List Value) (hx1 : fx[1]? = some (.ref t0)) (p0 : Int32) : fn_CI (S := Unit) l D K yX11_earliest (fn_ws yX11_earliest cX11_earliest 2 (some .int)) ({ frames := 8, cells := 0, slots := 0, locals := 200 }) [.ref x0, .int p0] [(x0, .inr (11, fx)), (t0, .inr (7, ft))] (fun r _ => r = (-2)) (fun _ => []) 0 0 := by
  refine fn_inI (cc := cX11_earliest) (maxL := 2) (ret := (some .int)) (by decide) rfl (Nat.le_of_ble_eq_true rfl) ?_
  intro p e s m below meth c A ls B hA hP hD hS hl
  obtain ⟨hx, hb, hr, hml, hts, hown, hlocks, hin, hK⟩ := B
  have hown : s.vm.findClass RX11 = some m.cls := hown
  have hts := fun w h => hts w (List.mem_cons_of_mem _ h)
  have hl : lv_has ls 2 [(0, .ref x0), (1, .int p0)] := hl
  refine lv_aload_n hx hb dX11_earliest_0 rfl (lv_at hl 0 rfl) ?_
  refine fn_goi (wc := [(x0, .inr (11, fx)), (t0, .inr (7, ft))]) (wr := []) hK hP hD hS hA [0, 1] [] rfl rfl (by decide) (fun hp => va_runV (C := RX11) (As := []) (rest := []) ⟨hx, hb, hml, hown, hts⟩ (c_X11_noTown (l := l) (D := D) (K := K) (x0 := (x0)) (fx := (fx)) (t0 := (t0)) (hx1 := hx1) (ft := (ft)) (ht0 := ht0) (ht3 := ht3) (ht4 := ht4) (ht5 := ht5) _) (cwV 0 hts (fn_ginV (fn_gin wd_709) wd_706 wd_708 wp_30 wd_1) rfl rfl rfl (by decide +kernel) ⟨Nat.le_of_ble_eq_true rfl, Nat.le_of_ble_eq_true rfl⟩) ⟨fn_blind, va_recv hK.1 hP (ci := 11) (q0 := 0) rfl rfl, hp⟩ rfl rfl hl.1 rfl (lv_room (Nat.le_of_ble_eq_true rfl)) dX11_earliest_1 ⟨Nat.le_of_ble_eq_true rfl, Nat.le_of_ble_eq_true rfl⟩) (fun r2 u1 H locs hwu1 hP hD hS => ?_)
  have r2_e : r2 = 1 := hwu1
  subst r2_e
  have hP : va_P D vwCl [] H := hP
  have hD : va_D A [] := hD
  refine lv_if_eq (tgt := 10) hx hb dX11_earliest_4 (by decide) (fun h9 => absurd h9 (by decide)) (fun _ => ?_)
  refine lv_bipush (v := (-2)) hx hb dX11_earliest_7 (by decide) ?_
  exact fn_iret hx hb hr hlocks rfl hP hD hS () (by first | rfl | decide) [] (by decide) rfl dX11_earliest_9
theorem dX11_rest_0 : decode cX11_rest 0 = .ok (.aload_n 0, 1) := by decide +kernel
theorem dX11_rest_1 : decode cX11_rest 1 = .ok (.invokevirtual 188, 3) := by decide +kernel
theorem dX11_rest_4 : decode cX11_rest 4 = .ok (.ifCond .eq 6, 3) := by decide +kernel
theorem dX11_rest_7 : decode cX11_rest 7 = .ok (.bipush (-2), 2) := by decide +kernel
theorem dX11_rest_9 : decode cX11_rest 9 = .ok (.ireturn, 1) := by decide +kernel
set_option maxHeartbeats 4000000 in
set_option maxRecDepth 100000 in
theorem c_X11_rest (l : Launch) (D : va_G) (K : Nat → ClassId) (t0 : Nat) (ft : List Value) (ht0 : ft[0]? = some (.int 0)) (ht3 : ft[3]? = some (.int 0)) (ht4 : ft[4]? = some (.int 0)) (ht5 : ft[5]? = some (.int 0)) (x0 : Nat) (fx : List Value) (hx1 : fx[1]? = some (.ref t0)) : fn_CI (S := Unit) l D K yX11_rest (fn_ws yX11_rest cX11_rest 2 (some .int)) ({ frames := 8, cells := 0, slots := 0, locals := 200 }) [.ref x0] [(x0, .inr (11, fx)), (t0, .inr (7, ft))] (fun r _ => r = (-2)) (fun _ => []) 0 0 := by
  refine fn_inI (cc := cX11_rest) (maxL := 2) (ret := (some .int)) (by decide) rfl (Nat.le_of_ble_eq_true rfl) ?_
  intro p e s m below meth c A ls B hA hP hD hS hl
  obtain ⟨hx, hb, hr, hml, hts, hown, hlocks, hin, hK⟩ := B
  have hown : s.vm.findClass RX11 = some m.cls := hown
  have hts := fun w h => hts w (List.mem_cons_of_mem _ h)
  have hl : lv_has ls 2 [(0, .ref x0)] := hl
  refine lv_aload_n hx hb dX11_rest_0 rfl (lv_at hl 0 rfl) ?_
  refine fn_goi (wc := [(x0, .inr (11, fx)), (t0, .inr (7, ft))]) (wr := []) hK hP hD hS hA [0, 1] [] rfl rfl (by decide) (fun hp => va_runV (C := RX11) (As := []) (rest := []) ⟨hx, hb, hml, hown, hts⟩ (c_X11_noTown (l := l) (D := D) (K := K) (x0 := (x0)) (fx := (fx)) (t0 := (t0)) (hx1 := hx1) (ft := (ft)) (ht0 := ht0) (ht3 := ht3) (ht4 := ht4) (ht5 := ht5) _) (cwV 0 hts (fn_ginV (fn_gin wd_709) wd_706 wd_708 wp_30 wd_1) rfl rfl rfl (by decide +kernel) ⟨Nat.le_of_ble_eq_true rfl, Nat.le_of_ble_eq_true rfl⟩) ⟨fn_blind, va_recv hK.1 hP (ci := 11) (q0 := 0) rfl rfl, hp⟩ rfl rfl hl.1 rfl (lv_room (Nat.le_of_ble_eq_true rfl)) dX11_rest_1 ⟨Nat.le_of_ble_eq_true rfl, Nat.le_of_ble_eq_true rfl⟩) (fun r2 u1 H locs hwu1 hP hD hS => ?_)
  have r2_e : r2 = 1 := hwu1
  subst r2_e
  have hP : va_P D vwCl [] H := hP
  have hD : va_D A [] := hD
  refine lv_if_eq (tgt := 10) hx hb dX11_rest_4 (by decide) (fun h9 => absurd h9 (by decide)) (fun _ => ?_)
  refine lv_bipush (v := (-2)) hx hb dX11_rest_7 (by decide) ?_
  exact fn_iret hx hb hr hlocks rfl hP hD hS () (by first | rfl | decide) [] (by decide) rfl dX11_rest_9
theorem dX11_saint_0 : decode cX11_saint 0 = .ok (.aload_n 0, 1) := by decide +kernel
theorem dX11_saint_1 : decode cX11_saint 1 = .ok (.invokevirtual 188, 3) := by decide +kernel
theorem dX11_saint_4 : decode cX11_saint 4 = .ok (.ifCond .ne 10, 3) := by decide +kernel
theorem dX11_saint_14 : decode cX11_saint 14 = .ok (.bipush (-2), 2) := by decide +kernel
theorem dX11_saint_16 : decode cX11_saint 16 = .ok (.ireturn, 1) := by decide +kernel
set_option maxHeartbeats 4000000 in
set_option maxRecDepth 100000 in
theorem c_X11_saint (l : Launch) (D : va_G) (K : Nat → ClassId) (t0 : Nat) (ft : List Value) (ht0 : ft[0]? = some (.int 0)) (ht3 : ft[3]? = some (.int 0)) (ht4 : ft[4]? = some (.int 0)) (ht5 : ft[5]? = some (.int 0)) (x0 : Nat) (fx : List Value) (hx1 : fx[1]? = some (.ref t0)) (p0 : Int32) : fn_CI (S := Unit) l D K yX11_saint (fn_ws yX11_saint cX11_saint 4 (some .int)) ({ frames := 8, cells := 0, slots := 0, locals := 200 }) [.ref x0, .int p0] [(x0, .inr (11, fx)), (t0, .inr (7, ft))] (fun r _ => r = (-2)) (fun _ => []) 0 0 := by
  refine fn_inI (cc := cX11_saint) (maxL := 4) (ret := (some .int)) (by decide) rfl (Nat.le_of_ble_eq_true rfl) ?_
  intro p e s m below meth c A ls B hA hP hD hS hl
  obtain ⟨hx, hb, hr, hml, hts, hown, hlocks, hin, hK⟩ := B
  have hown : s.vm.findClass RX11 = some m.cls := hown
  have hts := fun w h => hts w (List.mem_cons_of_mem _ h)
  have hl : lv_has ls 4 [(0, .ref x0), (1, .int p0)] := hl
  refine lv_aload_n hx hb dX11_saint_0 rfl (lv_at hl 0 rfl) ?_
  refine fn_goi (wc := [(x0, .inr (11, fx)), (t0, .inr (7, ft))]) (wr := []) hK hP hD hS hA [0, 1] [] rfl rfl (by decide) (fun hp => va_runV (C := RX11) (As := []) (rest := []) ⟨hx, hb, hml, hown, hts⟩ (c_X11_noTown (l := l) (D := D) (K := K) (x0 := (x0)) (fx := (fx)) (t0 := (t0)) (hx1 := hx1) (ft := (ft)) (ht0 := ht0) (ht3 := ht3) (ht4 := ht4) (ht5 := ht5) _) (cwV 0 hts (fn_ginV (fn_gin wd_709) wd_706 wd_708 wp_30 wd_1) rfl rfl rfl (by decide +kernel) ⟨Nat.le_of_ble_eq_true rfl, Nat.le_of_ble_eq_true rfl⟩) ⟨fn_blind, va_recv hK.1 hP (ci := 11) (q0 := 0) rfl rfl, hp⟩ rfl rfl hl.1 rfl (lv_room (Nat.le_of_ble_eq_true rfl)) dX11_saint_1 ⟨Nat.le_of_ble_eq_true rfl, Nat.le_of_ble_eq_true rfl⟩) (fun r2 u1 H locs hwu1 hP hD hS => ?_)
  have r2_e : r2 = 1 := hwu1
  subst r2_e
  have hP : va_P D vwCl [] H := hP
  have hD : va_D A [] := hD
  refine lv_if_ne (tgt := 14) hx hb dX11_saint_4 (by decide) (fun _ => ?_) (fun h9 => absurd h9 (by decide))
  refine lv_bipush (v := (-2)) hx hb dX11_saint_14 (by decide) ?_
  exact fn_iret hx hb hr hlocks rfl hP hD hS () (by first | rfl | decide) [] (by decide) rfl dX11_saint_16
theorem dX11_famous_0 : decode cX11_famous 0 = .ok (.aload_n 0, 1) := by decide +kernel
theorem dX11_famous_1 : decode cX11_famous 1 = .ok (.invokevirtual 188, 3) := by decide +kernel
theorem dX11_famous_4 : decode cX11_famous 4 = .ok (.ifCond .ne 12, 3) := by decide +kernel
theorem dX11_famous_16 : decode cX11_famous 16 = .ok (.bipush (-2), 2) := by decide +kernel
theorem dX11_famous_18 : decode cX11_famous 18 = .ok (.ireturn, 1) := by decide +kernel
set_option maxHeartbeats 4000000 in
set_option maxRecDepth 100000 in
theorem c_X11_famous (l : Launch) (D : va_G) (K : Nat → ClassId) (t0 : Nat) (ft : List Value) (ht0 : ft[0]? = some (.int 0)) (ht3 : ft[3]? = some (.int 0)) (ht4 : ft[4]? = some (.int 0)) (ht5 : ft[5]? = some (.int 0)) (x0 : Nat) (fx : List Value) (hx1 : fx[1]? = some (.ref t0)) (p0 : Int32) : fn_CI (S := Unit) l D K yX11_famous (fn_ws yX11_famous cX11_famous 7 (some .int)) ({ frames := 8, cells := 0, slots := 0, locals := 200 }) [.ref x0, .int p0] [(x0, .inr (11, fx)), (t0, .inr (7, ft))] (fun r _ => r = (-2)) (fun _ => []) 0 0 := by
  refine fn_inI (cc := cX11_famous) (maxL := 7) (ret := (some .int)) (by decide) rfl (Nat.le_of_ble_eq_true rfl) ?_
  intro p e s m below meth c A ls B hA hP hD hS hl
  obtain ⟨hx, hb, hr, hml, hts, hown, hlocks, hin, hK⟩ := B
  have hown : s.vm.findClass RX11 = some m.cls := hown
  have hts := fun w h => hts w (List.mem_cons_of_mem _ h)
  have hl : lv_has ls 7 [(0, .ref x0), (1, .int p0)] := hl
  refine lv_aload_n hx hb dX11_famous_0 rfl (lv_at hl 0 rfl) ?_
  refine fn_goi (wc := [(x0, .inr (11, fx)), (t0, .inr (7, ft))]) (wr := []) hK hP hD hS hA [0, 1] [] rfl rfl (by decide) (fun hp => va_runV (C := RX11) (As := []) (rest := []) ⟨hx, hb, hml, hown, hts⟩ (c_X11_noTown (l := l) (D := D) (K := K) (x0 := (x0)) (fx := (fx)) (t0 := (t0)) (hx1 := hx1) (ft := (ft)) (ht0 := ht0) (ht3 := ht3) (ht4 := ht4) (ht5 := ht5) _) (cwV 0 hts (fn_ginV (fn_gin wd_709) wd_706 wd_708 wp_30 wd_1) rfl rfl rfl (by decide +kernel) ⟨Nat.le_of_ble_eq_true rfl, Nat.le_of_ble_eq_true rfl⟩) ⟨fn_blind, va_recv hK.1 hP (ci := 11) (q0 := 0) rfl rfl, hp⟩ rfl rfl hl.1 rfl (lv_room (Nat.le_of_ble_eq_true rfl)) dX11_famous_1 ⟨Nat.le_of_ble_eq_true rfl, Nat.le_of_ble_eq_true rfl⟩) (fun r2 u1 H locs hwu1 hP hD hS => ?_)
  have r2_e : r2 = 1 := hwu1
  subst r2_e
  have hP : va_P D vwCl [] H := hP
  have hD : va_D A [] := hD
  refine lv_if_ne (tgt := 16) hx hb dX11_famous_4 (by decide) (fun _ => ?_) (fun h9 => absurd h9 (by decide))
  refine lv_bipush (v := (-2)) hx hb dX11_famous_16 (by decide) ?_
  exact fn_iret hx hb hr hlocks rfl hP hD hS () (by first | rfl | decide) [] (by decide) rfl dX11_famous_18
theorem dX11_cut_0 : decode cX11_cut 0 = .ok (.aload_n 0, 1) := by decide +kernel
theorem dX11_cut_1 : decode cX11_cut 1 = .ok (.iload_n 1, 1) := by decide +kernel
theorem dX11_cut_2 : decode cX11_cut 2 = .ok (.invokevirtual 245, 3) := by decide +kernel
theorem dX11_cut_5 : decode cX11_cut 5 = .ok (.istore_n 2, 1) := by decide +kernel
theorem dX11_cut_6 : decode cX11_cut 6 = .ok (.iload_n 2, 1) := by decide +kernel
theorem dX11_cut_7 : decode cX11_cut 7 = .ok (.ifCond .ge 7, 3) := by decide +kernel
theorem dX11_cut_10 : decode cX11_cut 10 = .ok (.iload_n 2, 1) := by decide +kernel
theorem dX11_cut_11 : decode cX11_cut 11 = .ok (.goto 7, 3) := by decide +kernel
theorem dX11_cut_18 : decode cX11_cut 18 = .ok (.ireturn, 1) := by decide +kernel
set_option maxHeartbeats 4000000 in
set_option maxRecDepth 100000 in
theorem c_X11_cut (l : Launch) (D : va_G) (K : Nat → ClassId) (t0 : Nat) (ft : List Value) (ht0 : ft[0]? = some (.int 0)) (ht3 : ft[3]? = some (.int 0)) (ht4 : ft[4]? = some (.int 0)) (ht5 : ft[5]? = some (.int 0)) (x0 : Nat) (fx : List Value) (hx1 : fx[1]? = some (.ref t0)) (p0 : Int32) : fn_CI (S := Unit) l D K yX11_cut (fn_ws yX11_cut cX11_cut 3 (some .int)) ({ frames := 12, cells := 0, slots := 0, locals := 300 }) [.ref x0, .int p0] [(x0, .inr (11, fx)), (t0, .inr (7, ft))] (fun r _ => r = (-2)) (fun _ => []) 0 0 := by
  refine fn_inI (cc := cX11_cut) (maxL := 3) (ret := (some .int)) (by decide) rfl (Nat.le_of_ble_eq_true rfl) ?_
  intro p e s m below meth c A ls B hA hP hD hS hl
  obtain ⟨hx, hb, hr, hml, hts, hown, hlocks, hin, hK⟩ := B
  have hown : s.vm.findClass RX11 = some m.cls := hown
  have hts := fun w h => hts w (List.mem_cons_of_mem _ h)
  have hl : lv_has ls 3 [(0, .ref x0), (1, .int p0)] := hl
  refine lv_aload_n hx hb dX11_cut_0 rfl (lv_at hl 0 rfl) ?_
  refine lv_iload_n hx hb dX11_cut_1 rfl (lv_at hl 1 rfl) ?_
  refine fn_goi (wc := [(x0, .inr (11, fx)), (t0, .inr (7, ft))]) (wr := []) hK hP hD hS hA [0, 1] [] rfl rfl (by decide) (fun hp => va_runV (C := RX11) (As := [.int p0]) (rest := []) ⟨hx, hb, hml, hown, hts⟩ (c_X11_torn (l := l) (D := D) (K := K) (x0 := (x0)) (p0 := (p0)) (fx := (fx)) (t0 := (t0)) (hx1 := hx1) (ft := (ft)) (ht0 := ht0) (ht3 := ht3) (ht4 := ht4) (ht5 := ht5) _) (cwV 1 hts (fn_ginV (fn_gin wd_856) wd_853 wd_854 wd_855 wd_1) rfl rfl rfl (by decide +kernel) ⟨Nat.le_of_ble_eq_true rfl, Nat.le_of_ble_eq_true rfl⟩) ⟨fn_blind, va_recv hK.1 hP (ci := 11) (q0 := 0) rfl rfl, hp⟩ rfl rfl hl.1 rfl (lv_room (Nat.le_of_ble_eq_true rfl)) dX11_cut_2 ⟨Nat.le_of_ble_eq_true rfl, Nat.le_of_ble_eq_true rfl⟩) (fun r2 u1 H locs hwu1 hP hD hS => ?_)
  have r2_e : r2 = (-2) := hwu1
  subst r2_e
  have hP : va_P D vwCl [] H := hP
  have hD : va_D A [] := hD
  refine lv_istore_n (lv' := [(2, .int (-2)), (0, .ref x0), (1, .int p0)]) hx hb dX11_cut_5 rfl hl (by decide) rfl (fun ls hl => ?_)
  refine lv_iload_n hx hb dX11_cut_6 rfl (lv_at hl 0 rfl) ?_
  refine lv_if_ge (tgt := 14) hx hb dX11_cut_7 (by decide) (fun h9 => absurd h9 (by decide)) (fun _ => ?_)
  refine lv_iload_n hx hb dX11_cut_10 rfl (lv_at hl 0 rfl) ?_
  refine lv_goto (tgt := 18) hx hb dX11_cut_11 (by decide) ?_
  exact fn_iret hx hb hr hlocks rfl hP hD hS () (by first | rfl | decide) [] (by decide) rfl dX11_cut_18
theorem dX11_most_0 : decode cX11_most 0 = .ok (.aload_n 0, 1) := by decide +kernel
theorem dX11_most_1 : decode cX11_most 1 = .ok (.invokevirtual 272, 3) := by decide +kernel
theorem dX11_most_4 : decode cX11_most 4 = .ok (.istore_n 1, 1) := by decide +kernel
theorem dX11_most_5 : decode cX11_most 5 = .ok (.iload_n 1, 1) := by decide +kernel
theorem dX11_most_6 : decode cX11_most 6 = .ok (.ifCond .ge 7, 3) := by decide +kernel
theorem dX11_most_9 : decode cX11_most 9 = .ok (.iload_n 1, 1) := by decide +kernel
theorem dX11_most_10 : decode cX11_most 10 = .ok (.goto 7, 3) := by decide +kernel
theorem dX11_most_17 : decode cX11_most 17 = .ok (.ireturn, 1) := by decide +kernel
set_option maxHeartbeats 4000000 in
set_option maxRecDepth 100000 in
theorem c_X11_most (l : Launch) (D : va_G) (K : Nat → ClassId) (t0 : Nat) (ft : List Value) (ht0 : ft[0]? = some (.int 0)) (ht3 : ft[3]? = some (.int 0)) (ht4 : ft[4]? = some (.int 0)) (ht5 : ft[5]? = some (.int 0)) (x0 : Nat) (fx : List Value) (hx1 : fx[1]? = some (.ref t0)) : fn_CI (S := Unit) l D K yX11_most (fn_ws yX11_most cX11_most 2 (some .int)) ({ frames := 12, cells := 0, slots := 0, locals := 300 }) [.ref x0] [(x0, .inr (11, fx)), (t0, .inr (7, ft))] (fun r _ => r = (-2)) (fun _ => []) 0 0 := by
  refine fn_inI (cc := cX11_most) (maxL := 2) (ret := (some .int)) (by decide) rfl (Nat.le_of_ble_eq_true rfl) ?_
  intro p e s m below meth c A ls B hA hP hD hS hl
  obtain ⟨hx, hb, hr, hml, hts, hown, hlocks, hin, hK⟩ := B
  have hown : s.vm.findClass RX11 = some m.cls := hown
  have hts := fun w h => hts w (List.mem_cons_of_mem _ h)
  have hl : lv_has ls 2 [(0, .ref x0)] := hl
  refine lv_aload_n hx hb dX11_most_0 rfl (lv_at hl 0 rfl) ?_
  refine fn_goi (wc := [(x0, .inr (11, fx)), (t0, .inr (7, ft))]) (wr := []) hK hP hD hS hA [0, 1] [] rfl rfl (by decide) (fun hp => va_runV (C := RX11) (As := []) (rest := []) ⟨hx, hb, hml, hown, hts⟩ (c_X11_mostly (l := l) (D := D) (K := K) (x0 := (x0)) (fx := (fx)) (t0 := (t0)) (hx1 := hx1) (ft := (ft)) (ht0 := ht0) (ht3 := ht3) (ht4 := ht4) (ht5 := ht5) _) (cwV 0 hts (fn_ginV (fn_gin wd_900) wd_897 wd_898 wd_899 wd_1) rfl rfl rfl (by decide +kernel) ⟨Nat.le_of_ble_eq_true rfl, Nat.le_of_ble_eq_true rfl⟩) ⟨fn_blind, va_recv hK.1 hP (ci := 11) (q0 := 0) rfl rfl, hp⟩ rfl rfl hl.1 rfl (lv_room (Nat.le_of_ble_eq_true rfl)) dX11_most_1 ⟨Nat.le_of_ble_eq_true rfl, Nat.le_of_ble_eq_true rfl⟩) (fun r2 u1 H locs hwu1 hP hD hS => ?_)
  have r2_e : r2 = (-2) := hwu1
  subst r2_e
  have hP : va_P D vwCl [] H := hP
  have hD : va_D A [] := hD
  refine lv_istore_n (lv' := [(1, .int (-2)), (0, .ref x0)]) hx hb dX11_most_4 rfl hl (by decide) rfl (fun ls hl => ?_)
  refine lv_iload_n hx hb dX11_most_5 rfl (lv_at hl 0 rfl) ?_
  refine lv_if_ge (tgt := 13) hx hb dX11_most_6 (by decide) (fun h9 => absurd h9 (by decide)) (fun _ => ?_)
  refine lv_iload_n hx hb dX11_most_9 rfl (lv_at hl 0 rfl) ?_
  refine lv_goto (tgt := 17) hx hb dX11_most_10 (by decide) ?_
  exact fn_iret hx hb hr hlocks rfl hP hD hS () (by first | rfl | decide) [] (by decide) rfl dX11_most_17
theorem dX11_noSet_0 : decode cX11_noSet 0 = .ok (.aload_n 0, 1) := by decide +kernel
theorem dX11_noSet_1 : decode cX11_noSet 1 = .ok (.invokevirtual 188, 3) := by decide +kernel
theorem dX11_noSet_4 : decode cX11_noSet 4 = .ok (.ifCond .ne 20, 3) := by decide +kernel
theorem dX11_noSet_24 : decode cX11_noSet 24 = .ok (.iconst 1, 1) := by decide +kernel
theorem dX11_noSet_25 : decode cX11_noSet 25 = .ok (.goto 4, 3) := by decide +kernel
theorem dX11_noSet_29 : decode cX11_noSet 29 = .ok (.ireturn, 1) := by decide +kernel
set_option maxHeartbeats 4000000 in
set_option maxRecDepth 100000 in
theorem c_X11_noSet (l : Launch) (D : va_G) (K : Nat → ClassId) (t0 : Nat) (ft : List Value) (ht0 : ft[0]? = some (.int 0)) (ht3 : ft[3]? = some (.int 0)) (ht4 : ft[4]? = some (.int 0)) (ht5 : ft[5]? = some (.int 0)) (x0 : Nat) (fx : List Value) (hx1 : fx[1]? = some (.ref t0)) (p0 : Int32) : fn_CI (S := Unit) l D K yX11_noSet (fn_ws yX11_noSet cX11_noSet 2 (some .boolean)) ({ frames := 8, cells := 0, slots := 0, locals := 200 }) [.ref x0, .int p0] [(x0, .inr (11, fx)), (t0, .inr (7, ft))] (fun r _ => r = 1) (fun _ => []) 0 0 := by
  refine fn_inI (cc := cX11_noSet) (maxL := 2) (ret := (some .boolean)) (by decide) rfl (Nat.le_of_ble_eq_true rfl) ?_
  intro p e s m below meth c A ls B hA hP hD hS hl
  obtain ⟨hx, hb, hr, hml, hts, hown, hlocks, hin, hK⟩ := B
  have hown : s.vm.findClass RX11 = some m.cls := hown
  have hts := fun w h => hts w (List.mem_cons_of_mem _ h)
  have hl : lv_has ls 2 [(0, .ref x0), (1, .int p0)] := hl
  refine lv_aload_n hx hb dX11_noSet_0 rfl (lv_at hl 0 rfl) ?_
  refine fn_goi (wc := [(x0, .inr (11, fx)), (t0, .inr (7, ft))]) (wr := []) hK hP hD hS hA [0, 1] [] rfl rfl (by decide) (fun hp => va_runV (C := RX11) (As := []) (rest := []) ⟨hx, hb, hml, hown, hts⟩ (c_X11_noTown (l := l) (D := D) (K := K) (x0 := (x0)) (fx := (fx)) (t0 := (t0)) (hx1 := hx1) (ft := (ft)) (ht0 := ht0) (ht3 := ht3) (ht4 := ht4) (ht5 := ht5) _) (cwV 0 hts (fn_ginV (fn_gin wd_709) wd_706 wd_708 wp_30 wd_1) rfl rfl rfl (by decide +kernel) ⟨Nat.le_of_ble_eq_true rfl, Nat.le_of_ble_eq_true rfl⟩) ⟨fn_blind, va_recv hK.1 hP (ci := 11) (q0 := 0) rfl rfl, hp⟩ rfl rfl hl.1 rfl (lv_room (Nat.le_of_ble_eq_true rfl)) dX11_noSet_1 ⟨Nat.le_of_ble_eq_true rfl, Nat.le_of_ble_eq_true rfl⟩) (fun r2 u1 H locs hwu1 hP hD hS => ?_)
  have r2_e : r2 = 1 := hwu1
  subst r2_e
  have hP : va_P D vwCl [] H := hP
  have hD : va_D A [] := hD
  refine lv_if_ne (tgt := 24) hx hb dX11_noSet_4 (by decide) (fun _ => ?_) (fun h9 => absurd h9 (by decide))
  refine lv_iconst (v := 1) hx hb dX11_noSet_24 (by decide) ?_
  refine lv_goto (tgt := 29) hx hb dX11_noSet_25 (by decide) ?_
  exact fn_iret hx hb hr hlocks rfl hP hD hS () (by first | rfl | decide) [] (by decide) rfl dX11_noSet_29
theorem dX11_noPair_0 : decode cX11_noPair 0 = .ok (.aload_n 0, 1) := by decide +kernel
theorem dX11_noPair_1 : decode cX11_noPair 1 = .ok (.getfield 19, 3) := by decide +kernel
theorem dX11_noPair_4 : decode cX11_noPair 4 = .ok (.iload_n 1, 1) := by decide +kernel
theorem dX11_noPair_5 : decode cX11_noPair 5 = .ok (.invokevirtual 130, 3) := by decide +kernel
theorem dX11_noPair_8 : decode cX11_noPair 8 = .ok (.ifCond .eq 19, 3) := by decide +kernel
theorem dX11_noPair_27 : decode cX11_noPair 27 = .ok (.iconst 1, 1) := by decide +kernel
theorem dX11_noPair_28 : decode cX11_noPair 28 = .ok (.goto 4, 3) := by decide +kernel
theorem dX11_noPair_32 : decode cX11_noPair 32 = .ok (.ireturn, 1) := by decide +kernel
set_option maxHeartbeats 4000000 in
set_option maxRecDepth 100000 in
theorem c_X11_noPair (l : Launch) (D : va_G) (K : Nat → ClassId) (t0 : Nat) (ft : List Value) (ht0 : ft[0]? = some (.int 0)) (ht3 : ft[3]? = some (.int 0)) (ht4 : ft[4]? = some (.int 0)) (ht5 : ft[5]? = some (.int 0)) (x0 : Nat) (fx : List Value) (hx1 : fx[1]? = some (.ref t0)) (p0 p1 : Int32) : fn_CI (S := Unit) l D K yX11_noPair (fn_ws yX11_noPair cX11_noPair 3 (some .boolean)) ({ frames := 8, cells := 0, slots := 0, locals := 200 }) [.ref x0, .int p0, .int p1] [(x0, .inr (11, fx)), (t0, .inr (7, ft))] (fun r _ => r = 1) (fun _ => []) 0 0 := by
  refine fn_inI (cc := cX11_noPair) (maxL := 3) (ret := (some .boolean)) (by decide) rfl (Nat.le_of_ble_eq_true rfl) ?_
  intro p e s m below meth c A ls B hA hP hD hS hl
  obtain ⟨hx, hb, hr, hml, hts, hown, hlocks, hin, hK⟩ := B
  have hown : s.vm.findClass RX11 = some m.cls := hown
  have hts := fun w h => hts w (List.mem_cons_of_mem _ h)
  have hl : lv_has ls 3 [(0, .ref x0), (1, .int p0), (2, .int p1)] := hl
  refine lv_aload_n hx hb dX11_noPair_0 rfl (lv_at hl 0 rfl) ?_
  refine va_get (D := D) (own := RX11) (ci := 11) (v := .ref t0) (C := RX11) (T := TX11) (N := 13) hx hb hts inb_X11 hown hK.1 hP 0 rfl rfl 1 (by decide) (hts _ wd_423) (fun _ h9 => h9) hx1 dX11_noPair_1 ?_
  refine lv_iload_n hx hb dX11_noPair_4 rfl (lv_at hl 1 rfl) ?_
  refine fn_goi (wc := [(t0, .inr (7, ft))]) (wr := [(x0, .inr (11, fx))]) hK hP hD hS hA [1] [0] rfl rfl (by decide) (fun hp => va_runVN (C := RX7) (As := [.int p0]) (rest := []) ⟨hx, hb, hml, hown, hts⟩ (c_X7_hasPage (l := l) (D := D) (K := K) (t0 := (t0)) (p0 := (p0)) (ft := (ft)) (ht0 := ht0) (ht3 := ht3) (ht4 := ht4) (ht5 := ht5) _) ⟨va_cnB (own := RX11) 1 hts (fn_gin wd_662) rfl rfl rfl (hK.nw 108 rfl) (hts _ wd_4) (by decide +kernel) ⟨Nat.le_of_ble_eq_true rfl, Nat.le_of_ble_eq_true rfl⟩, hts _ wd_661, hts _ wp_25⟩ ⟨fn_blind, va_recv hK.1 hP (ci := 7) (q0 := 1) rfl rfl, hp⟩ rfl rfl hl.1 rfl (lv_room (Nat.le_of_ble_eq_true rfl)) dX11_noPair_5 ⟨Nat.le_of_ble_eq_true rfl, Nat.le_of_ble_eq_true rfl⟩) (fun r2 u1 H locs hwu1 hP hD hS => ?_)
  have r2_e : r2 = 0 := hwu1
  subst r2_e
  have hP : va_P D vwCl [(x0, .inr (11, fx))] H := hP
  have hD : va_D A [(x0, .inr (11, fx))] := hD
  refine lv_if_eq (tgt := 27) hx hb dX11_noPair_8 (by decide) (fun _ => ?_) (fun h9 => absurd (by decide) h9)
  refine lv_iconst (v := 1) hx hb dX11_noPair_27 (by decide) ?_
  refine lv_goto (tgt := 32) hx hb dX11_noPair_28 (by decide) ?_
  exact fn_iret hx hb hr hlocks rfl hP hD hS () (by first | rfl | decide) [] (by decide) rfl dX11_noPair_32
theorem dX11_noScholar_0 : decode cX11_noScholar 0 = .ok (.aload_n 0, 1) := by decide +kernel
theorem dX11_noScholar_1 : decode cX11_noScholar 1 = .ok (.invokevirtual 188, 3) := by decide +kernel
theorem dX11_noScholar_4 : decode cX11_noScholar 4 = .ok (.ifCond .ne 12, 3) := by decide +kernel
theorem dX11_noScholar_16 : decode cX11_noScholar 16 = .ok (.iconst 1, 1) := by decide +kernel
theorem dX11_noScholar_17 : decode cX11_noScholar 17 = .ok (.goto 4, 3) := by decide +kernel
theorem dX11_noScholar_21 : decode cX11_noScholar 21 = .ok (.ireturn, 1) := by decide +kernel
set_option maxHeartbeats 4000000 in
set_option maxRecDepth 100000 in
theorem c_X11_noScholar (l : Launch) (D : va_G) (K : Nat → ClassId) (t0 : Nat) (ft : List Value) (ht0 : ft[0]? = some (.int 0)) (ht3 : ft[3]? = some (.int 0)) (ht4 : ft[4]? = some (.int 0)) (ht5 : ft[5]? = some (.int 0)) (x0 : Nat) (fx : List Value) (hx1 : fx[1]? = some (.ref t0)) (p0 : Int32) : fn_CI (S := Unit) l D K yX11_noScholar (fn_ws yX11_noScholar cX11_noScholar 2 (some .boolean)) ({ frames := 8, cells := 0, slots := 0, locals := 200 }) [.ref x0, .int p0] [(x0, .inr (11, fx)), (t0, .inr (7, ft))] (fun r _ => r = 1) (fun _ => []) 0 0 := by
  refine fn_inI (cc := cX11_noScholar) (maxL := 2) (ret := (some .boolean)) (by decide) rfl (Nat.le_of_ble_eq_true rfl) ?_
  intro p e s m below meth c A ls B hA hP hD hS hl
  obtain ⟨hx, hb, hr, hml, hts, hown, hlocks, hin, hK⟩ := B
  have hown : s.vm.findClass RX11 = some m.cls := hown
  have hts := fun w h => hts w (List.mem_cons_of_mem _ h)
  have hl : lv_has ls 2 [(0, .ref x0), (1, .int p0)] := hl
  refine lv_aload_n hx hb dX11_noScholar_0 rfl (lv_at hl 0 rfl) ?_
  refine fn_goi (wc := [(x0, .inr (11, fx)), (t0, .inr (7, ft))]) (wr := []) hK hP hD hS hA [0, 1] [] rfl rfl (by decide) (fun hp => va_runV (C := RX11) (As := []) (rest := []) ⟨hx, hb, hml, hown, hts⟩ (c_X11_noTown (l := l) (D := D) (K := K) (x0 := (x0)) (fx := (fx)) (t0 := (t0)) (hx1 := hx1) (ft := (ft)) (ht0 := ht0) (ht3 := ht3) (ht4 := ht4) (ht5 := ht5) _) (cwV 0 hts (fn_ginV (fn_gin wd_709) wd_706 wd_708 wp_30 wd_1) rfl rfl rfl (by decide +kernel) ⟨Nat.le_of_ble_eq_true rfl, Nat.le_of_ble_eq_true rfl⟩) ⟨fn_blind, va_recv hK.1 hP (ci := 11) (q0 := 0) rfl rfl, hp⟩ rfl rfl hl.1 rfl (lv_room (Nat.le_of_ble_eq_true rfl)) dX11_noScholar_1 ⟨Nat.le_of_ble_eq_true rfl, Nat.le_of_ble_eq_true rfl⟩) (fun r2 u1 H locs hwu1 hP hD hS => ?_)
  have r2_e : r2 = 1 := hwu1
  subst r2_e
  have hP : va_P D vwCl [] H := hP
  have hD : va_D A [] := hD
  refine lv_if_ne (tgt := 16) hx hb dX11_noScholar_4 (by decide) (fun _ => ?_) (fun h9 => absurd h9 (by decide))
  refine lv_iconst (v := 1) hx hb dX11_noScholar_16 (by decide) ?_
  refine lv_goto (tgt := 21) hx hb dX11_noScholar_17 (by decide) ?_
  exact fn_iret hx hb hr hlocks rfl hP hD hS () (by first | rfl | decide) [] (by decide) rfl dX11_noScholar_21
theorem dX11_noSeed_0 : decode cX11_noSeed 0 = .ok (.aload_n 0, 1) := by decide +kernel
theorem dX11_noSeed_1 : decode cX11_noSeed 1 = .ok (.invokevirtual 188, 3) := by decide +kernel
theorem dX11_noSeed_4 : decode cX11_noSeed 4 = .ok (.ifCond .ne 14, 3) := by decide +kernel
theorem dX11_noSeed_18 : decode cX11_noSeed 18 = .ok (.iconst 1, 1) := by decide +kernel
theorem dX11_noSeed_19 : decode cX11_noSeed 19 = .ok (.goto 4, 3) := by decide +kernel
theorem dX11_noSeed_23 : decode cX11_noSeed 23 = .ok (.ireturn, 1) := by decide +kernel
set_option maxHeartbeats 4000000 in
set_option maxRecDepth 100000 in
theorem c_X11_noSeed (l : Launch) (D : va_G) (K : Nat → ClassId) (t0 : Nat) (ft : List Value) (ht0 : ft[0]? = some (.int 0)) (ht3 : ft[3]? = some (.int 0)) (ht4 : ft[4]? = some (.int 0)) (ht5 : ft[5]? = some (.int 0)) (x0 : Nat) (fx : List Value) (hx1 : fx[1]? = some (.ref t0)) (p0 : Int32) : fn_CI (S := Unit) l D K yX11_noSeed (fn_ws yX11_noSeed cX11_noSeed 2 (some .boolean)) ({ frames := 8, cells := 0, slots := 0, locals := 200 }) [.ref x0, .int p0] [(x0, .inr (11, fx)), (t0, .inr (7, ft))] (fun r _ => r = 1) (fun _ => []) 0 0 := by
  refine fn_inI (cc := cX11_noSeed) (maxL := 2) (ret := (some .boolean)) (by decide) rfl (Nat.le_of_ble_eq_true rfl) ?_
  intro p e s m below meth c A ls B hA hP hD hS hl
  obtain ⟨hx, hb, hr, hml, hts, hown, hlocks, hin, hK⟩ := B
  have hown : s.vm.findClass RX11 = some m.cls := hown
  have hts := fun w h => hts w (List.mem_cons_of_mem _ h)
  have hl : lv_has ls 2 [(0, .ref x0), (1, .int p0)] := hl
  refine lv_aload_n hx hb dX11_noSeed_0 rfl (lv_at hl 0 rfl) ?_
  refine fn_goi (wc := [(x0, .inr (11, fx)), (t0, .inr (7, ft))]) (wr := []) hK hP hD hS hA [0, 1] [] rfl rfl (by decide) (fun hp => va_runV (C := RX11) (As := []) (rest := []) ⟨hx, hb, hml, hown, hts⟩ (c_X11_noTown (l := l) (D := D) (K := K) (x0 := (x0)) (fx := (fx)) (t0 := (t0)) (hx1 := hx1) (ft := (ft)) (ht0 := ht0) (ht3 := ht3) (ht4 := ht4) (ht5 := ht5) _) (cwV 0 hts (fn_ginV (fn_gin wd_709) wd_706 wd_708 wp_30 wd_1) rfl rfl rfl (by decide +kernel) ⟨Nat.le_of_ble_eq_true rfl, Nat.le_of_ble_eq_true rfl⟩) ⟨fn_blind, va_recv hK.1 hP (ci := 11) (q0 := 0) rfl rfl, hp⟩ rfl rfl hl.1 rfl (lv_room (Nat.le_of_ble_eq_true rfl)) dX11_noSeed_1 ⟨Nat.le_of_ble_eq_true rfl, Nat.le_of_ble_eq_true rfl⟩) (fun r2 u1 H locs hwu1 hP hD hS => ?_)
  have r2_e : r2 = 1 := hwu1
  subst r2_e
  have hP : va_P D vwCl [] H := hP
  have hD : va_D A [] := hD
  refine lv_if_ne (tgt := 18) hx hb dX11_noSeed_4 (by decide) (fun _ => ?_) (fun h9 => absurd h9 (by decide))
  refine lv_iconst (v := 1) hx hb dX11_noSeed_18 (by decide) ?_
  refine lv_goto (tgt := 23) hx hb dX11_noSeed_19 (by decide) ?_
  exact fn_iret hx hb hr hlocks rfl hP hD hS () (by first | rfl | decide) [] (by decide) rfl dX11_noSeed_23
theorem dX11_holds_0 : decode cX11_holds 0 = .ok (.aload_n 0, 1) := by decide +kernel
theorem dX11_holds_1 : decode cX11_holds 1 = .ok (.iload_n 1, 1) := by decide +kernel
theorem dX11_holds_2 : decode cX11_holds 2 = .ok (.invokevirtual 256, 3) := by decide +kernel
theorem dX11_holds_5 : decode cX11_holds 5 = .ok (.ifCond .eq 6, 3) := by decide +kernel
theorem dX11_holds_8 : decode cX11_holds 8 = .ok (.bipush (-2), 2) := by decide +kernel
theorem dX11_holds_10 : decode cX11_holds 10 = .ok (.ireturn, 1) := by decide +kernel
set_option maxHeartbeats 4000000 in
set_option maxRecDepth 100000 in
theorem c_X11_holds (l : Launch) (D : va_G) (K : Nat → ClassId) (t0 : Nat) (ft : List Value) (ht0 : ft[0]? = some (.int 0)) (ht3 : ft[3]? = some (.int 0)) (ht4 : ft[4]? = some (.int 0)) (ht5 : ft[5]? = some (.int 0)) (x0 : Nat) (fx : List Value) (hx1 : fx[1]? = some (.ref t0)) (p0 : Int32) : fn_CI (S := Unit) l D K yX11_holds (fn_ws yX11_holds cX11_holds 2 (some .int)) ({ frames := 12, cells := 0, slots := 0, locals := 300 }) [.ref x0, .int p0] [(x0, .inr (11, fx)), (t0, .inr (7, ft))] (fun r _ => r = (-2)) (fun _ => []) 0 0 := by
  refine fn_inI (cc := cX11_holds) (maxL := 2) (ret := (some .int)) (by decide) rfl (Nat.le_of_ble_eq_true rfl) ?_
  intro p e s m below meth c A ls B hA hP hD hS hl
  obtain ⟨hx, hb, hr, hml, hts, hown, hlocks, hin, hK⟩ := B
  have hown : s.vm.findClass RX11 = some m.cls := hown
  have hts := fun w h => hts w (List.mem_cons_of_mem _ h)
  have hl : lv_has ls 2 [(0, .ref x0), (1, .int p0)] := hl
  refine lv_aload_n hx hb dX11_holds_0 rfl (lv_at hl 0 rfl) ?_
  refine lv_iload_n hx hb dX11_holds_1 rfl (lv_at hl 1 rfl) ?_
  refine fn_goi (wc := [(x0, .inr (11, fx)), (t0, .inr (7, ft))]) (wr := []) hK hP hD hS hA [0, 1] [] rfl rfl (by decide) (fun hp => va_runV (C := RX11) (As := [.int p0]) (rest := []) ⟨hx, hb, hml, hown, hts⟩ (c_X11_noSet (l := l) (D := D) (K := K) (x0 := (x0)) (p0 := (p0)) (fx := (fx)) (t0 := (t0)) (hx1 := hx1) (ft := (ft)) (ht0 := ht0) (ht3 := ht3) (ht4 := ht4) (ht5 := ht5) _) (cwV 1 hts (fn_ginV (fn_gin wd_871) wd_868 wd_870 wp_45 wd_1) rfl rfl rfl (by decide +kernel) ⟨Nat.le_of_ble_eq_true rfl, Nat.le_of_ble_eq_true rfl⟩) ⟨fn_blind, va_recv hK.1 hP (ci := 11) (q0 := 0) rfl rfl, hp⟩ rfl rfl hl.1 rfl (lv_room (Nat.le_of_ble_eq_true rfl)) dX11_holds_2 ⟨Nat.le_of_ble_eq_true rfl, Nat.le_of_ble_eq_true rfl⟩) (fun r2 u1 H locs hwu1 hP hD hS => ?_)
  have r2_e : r2 = 1 := hwu1
  subst r2_e
  have hP : va_P D vwCl [] H := hP
  have hD : va_D A [] := hD
  refine lv_if_eq (tgt := 11) hx hb dX11_holds_5 (by decide) (fun h9 => absurd h9 (by decide)) (fun _ => ?_)
  refine lv_bipush (v := (-2)) hx hb dX11_holds_8 (by decide) ?_
  exact fn_iret hx hb hr hlocks rfl hP hD hS () (by first | rfl | decide) [] (by decide) rfl dX11_holds_10
theorem dX11_loose_0 : decode cX11_loose 0 = .ok (.aload_n 0, 1) := by decide +kernel
theorem dX11_loose_1 : decode cX11_loose 1 = .ok (.iload_n 1, 1) := by decide +kernel
theorem dX11_loose_2 : decode cX11_loose 2 = .ok (.invokevirtual 256, 3) := by decide +kernel
theorem dX11_loose_5 : decode cX11_loose 5 = .ok (.ifCond .eq 6, 3) := by decide +kernel
theorem dX11_loose_8 : decode cX11_loose 8 = .ok (.bipush (-2), 2) := by decide +kernel
theorem dX11_loose_10 : decode cX11_loose 10 = .ok (.ireturn, 1) := by decide +kernel
set_option maxHeartbeats 4000000 in
set_option maxRecDepth 100000 in
theorem c_X11_loose (l : Launch) (D : va_G) (K : Nat → ClassId) (t0 : Nat) (ft : List Value) (ht0 : ft[0]? = some (.int 0)) (ht3 : ft[3]? = some (.int 0)) (ht4 : ft[4]? = some (.int 0)) (ht5 : ft[5]? = some (.int 0)) (x0 : Nat) (fx : List Value) (hx1 : fx[1]? = some (.ref t0)) (p0 : Int32) : fn_CI (S := Unit) l D K yX11_loose (fn_ws yX11_loose cX11_loose 2 (some .int)) ({ frames := 12, cells := 0, slots := 0, locals := 300 }) [.ref x0, .int p0] [(x0, .inr (11, fx)), (t0, .inr (7, ft))] (fun r _ => r = (-2)) (fun _ => []) 0 0 := by
  refine fn_inI (cc := cX11_loose) (maxL := 2) (ret := (some .int)) (by decide) rfl (Nat.le_of_ble_eq_true rfl) ?_
  intro p e s m below meth c A ls B hA hP hD hS hl
  obtain ⟨hx, hb, hr, hml, hts, hown, hlocks, hin, hK⟩ := B
  have hown : s.vm.findClass RX11 = some m.cls := hown
  have hts := fun w h => hts w (List.mem_cons_of_mem _ h)
  have hl : lv_has ls 2 [(0, .ref x0), (1, .int p0)] := hl
  refine lv_aload_n hx hb dX11_loose_0 rfl (lv_at hl 0 rfl) ?_
  refine lv_iload_n hx hb dX11_loose_1 rfl (lv_at hl 1 rfl) ?_
  refine fn_goi (wc := [(x0, .inr (11, fx)), (t0, .inr (7, ft))]) (wr := []) hK hP hD hS hA [0, 1] [] rfl rfl (by decide) (fun hp => va_runV (C := RX11) (As := [.int p0]) (rest := []) ⟨hx, hb, hml, hown, hts⟩ (c_X11_noSet (l := l) (D := D) (K := K) (x0 := (x0)) (p0 := (p0)) (fx := (fx)) (t0 := (t0)) (hx1 := hx1) (ft := (ft)) (ht0 := ht0) (ht3 := ht3) (ht4 := ht4) (ht5 := ht5) _) (cwV 1 hts (fn_ginV (fn_gin wd_871) wd_868 wd_870 wp_45 wd_1) rfl rfl rfl (by decide +kernel) ⟨Nat.le_of_ble_eq_true rfl, Nat.le_of_ble_eq_true rfl⟩) ⟨fn_blind, va_recv hK.1 hP (ci := 11) (q0 := 0) rfl rfl, hp⟩ rfl rfl hl.1 rfl (lv_room (Nat.le_of_ble_eq_true rfl)) dX11_loose_2 ⟨Nat.le_of_ble_eq_true rfl, Nat.le_of_ble_eq_true rfl⟩) (fun r2 u1 H locs hwu1 hP hD hS => ?_)
  have r2_e : r2 = 1 := hwu1
  subst r2_e
  have hP : va_P D vwCl [] H := hP
  have hD : va_D A [] := hD
  refine lv_if_eq (tgt := 11) hx hb dX11_loose_5 (by decide) (fun h9 => absurd h9 (by decide)) (fun _ => ?_)
  refine lv_bipush (v := (-2)) hx hb dX11_loose_8 (by decide) ?_
  exact fn_iret hx hb hr hlocks rfl hP hD hS () (by first | rfl | decide) [] (by decide) rfl dX11_loose_10
theorem dX11_loosely_0 : decode cX11_loosely 0 = .ok (.aload_n 0, 1) := by decide +kernel
theorem dX11_loosely_1 : decode cX11_loosely 1 = .ok (.iload_n 1, 1) := by decide +kernel
theorem dX11_loosely_2 : decode cX11_loosely 2 = .ok (.invokevirtual 256, 3) := by decide +kernel
theorem dX11_loosely_5 : decode cX11_loosely 5 = .ok (.ifCond .eq 6, 3) := by decide +kernel
theorem dX11_loosely_8 : decode cX11_loosely 8 = .ok (.bipush (-2), 2) := by decide +kernel
theorem dX11_loosely_10 : decode cX11_loosely 10 = .ok (.ireturn, 1) := by decide +kernel
set_option maxHeartbeats 4000000 in
set_option maxRecDepth 100000 in
theorem c_X11_loosely (l : Launch) (D : va_G) (K : Nat → ClassId) (t0 : Nat) (ft : List Value) (ht0 : ft[0]? = some (.int 0)) (ht3 : ft[3]? = some (.int 0)) (ht4 : ft[4]? = some (.int 0)) (ht5 : ft[5]? = some (.int 0)) (x0 : Nat) (fx : List Value) (hx1 : fx[1]? = some (.ref t0)) (p0 : Int32) : fn_CI (S := Unit) l D K yX11_loosely (fn_ws yX11_loosely cX11_loosely 2 (some .int)) ({ frames := 12, cells := 0, slots := 0, locals := 300 }) [.ref x0, .int p0] [(x0, .inr (11, fx)), (t0, .inr (7, ft))] (fun r _ => r = (-2)) (fun _ => []) 0 0 := by
  refine fn_inI (cc := cX11_loosely) (maxL := 2) (ret := (some .int)) (by decide) rfl (Nat.le_of_ble_eq_true rfl) ?_
  intro p e s m below meth c A ls B hA hP hD hS hl
  obtain ⟨hx, hb, hr, hml, hts, hown, hlocks, hin, hK⟩ := B
  have hown : s.vm.findClass RX11 = some m.cls := hown
  have hts := fun w h => hts w (List.mem_cons_of_mem _ h)
  have hl : lv_has ls 2 [(0, .ref x0), (1, .int p0)] := hl
  refine lv_aload_n hx hb dX11_loosely_0 rfl (lv_at hl 0 rfl) ?_
  refine lv_iload_n hx hb dX11_loosely_1 rfl (lv_at hl 1 rfl) ?_
  refine fn_goi (wc := [(x0, .inr (11, fx)), (t0, .inr (7, ft))]) (wr := []) hK hP hD hS hA [0, 1] [] rfl rfl (by decide) (fun hp => va_runV (C := RX11) (As := [.int p0]) (rest := []) ⟨hx, hb, hml, hown, hts⟩ (c_X11_noSet (l := l) (D := D) (K := K) (x0 := (x0)) (p0 := (p0)) (fx := (fx)) (t0 := (t0)) (hx1 := hx1) (ft := (ft)) (ht0 := ht0) (ht3 := ht3) (ht4 := ht4) (ht5 := ht5) _) (cwV 1 hts (fn_ginV (fn_gin wd_871) wd_868 wd_870 wp_45 wd_1) rfl rfl rfl (by decide +kernel) ⟨Nat.le_of_ble_eq_true rfl, Nat.le_of_ble_eq_true rfl⟩) ⟨fn_blind, va_recv hK.1 hP (ci := 11) (q0 := 0) rfl rfl, hp⟩ rfl rfl hl.1 rfl (lv_room (Nat.le_of_ble_eq_true rfl)) dX11_loosely_2 ⟨Nat.le_of_ble_eq_true rfl, Nat.le_of_ble_eq_true rfl⟩) (fun r2 u1 H locs hwu1 hP hD hS => ?_)
  have r2_e : r2 = 1 := hwu1
  subst r2_e
  have hP : va_P D vwCl [] H := hP
  have hD : va_D A [] := hD
  refine lv_if_eq (tgt := 11) hx hb dX11_loosely_5 (by decide) (fun h9 => absurd h9 (by decide)) (fun _ => ?_)
  refine lv_bipush (v := (-2)) hx hb dX11_loosely_8 (by decide) ?_
  exact fn_iret hx hb hr hlocks rfl hP hD hS () (by first | rfl | decide) [] (by decide) rfl dX11_loosely_10
theorem dX11_meets_0 : decode cX11_meets 0 = .ok (.aload_n 0, 1) := by decide +kernel
theorem dX11_meets_1 : decode cX11_meets 1 = .ok (.iload_n 1, 1) := by decide +kernel
theorem dX11_meets_2 : decode cX11_meets 2 = .ok (.iload_n 2, 1) := by decide +kernel
theorem dX11_meets_3 : decode cX11_meets 3 = .ok (.invokevirtual 387, 3) := by decide +kernel
theorem dX11_meets_6 : decode cX11_meets 6 = .ok (.ifCond .eq 6, 3) := by decide +kernel
theorem dX11_meets_9 : decode cX11_meets 9 = .ok (.bipush (-2), 2) := by decide +kernel
theorem dX11_meets_11 : decode cX11_meets 11 = .ok (.ireturn, 1) := by decide +kernel
set_option maxHeartbeats 4000000 in
set_option maxRecDepth 100000 in
theorem c_X11_meets (l : Launch) (D : va_G) (K : Nat → ClassId) (t0 : Nat) (ft : List Value) (ht0 : ft[0]? = some (.int 0)) (ht3 : ft[3]? = some (.int 0)) (ht4 : ft[4]? = some (.int 0)) (ht5 : ft[5]? = some (.int 0)) (x0 : Nat) (fx : List Value) (hx1 : fx[1]? = some (.ref t0)) (p0 p1 : Int32) : fn_CI (S := Unit) l D K yX11_meets (fn_ws yX11_meets cX11_meets 3 (some .int)) ({ frames := 12, cells := 0, slots := 0, locals := 300 }) [.ref x0, .int p0, .int p1] [(x0, .inr (11, fx)), (t0, .inr (7, ft))] (fun r _ => r = (-2)) (fun _ => []) 0 0 := by
  refine fn_inI (cc := cX11_meets) (maxL := 3) (ret := (some .int)) (by decide) rfl (Nat.le_of_ble_eq_true rfl) ?_
  intro p e s m below meth c A ls B hA hP hD hS hl
  obtain ⟨hx, hb, hr, hml, hts, hown, hlocks, hin, hK⟩ := B
  have hown : s.vm.findClass RX11 = some m.cls := hown
  have hts := fun w h => hts w (List.mem_cons_of_mem _ h)
  have hl : lv_has ls 3 [(0, .ref x0), (1, .int p0), (2, .int p1)] := hl
  refine lv_aload_n hx hb dX11_meets_0 rfl (lv_at hl 0 rfl) ?_
  refine lv_iload_n hx hb dX11_meets_1 rfl (lv_at hl 1 rfl) ?_
  refine lv_iload_n hx hb dX11_meets_2 rfl (lv_at hl 2 rfl) ?_
  refine fn_goi (wc := [(x0, .inr (11, fx)), (t0, .inr (7, ft))]) (wr := []) hK hP hD hS hA [0, 1] [] rfl rfl (by decide) (fun hp => va_runV (C := RX11) (As := [.int p0, .int p1]) (rest := []) ⟨hx, hb, hml, hown, hts⟩ (c_X11_noPair (l := l) (D := D) (K := K) (x0 := (x0)) (p0 := (p0)) (p1 := (p1)) (fx := (fx)) (t0 := (t0)) (hx1 := hx1) (ft := (ft)) (ht0 := ht0) (ht3 := ht3) (ht4 := ht4) (ht5 := ht5) _) (cwV 2 hts (fn_ginV (fn_gin wd_1100) wd_1097 wd_1099 wp_79 wd_1) rfl rfl rfl (by decide +kernel) ⟨Nat.le_of_ble_eq_true rfl, Nat.le_of_ble_eq_true rfl⟩) ⟨fn_blind, va_recv hK.1 hP (ci := 11) (q0 := 0) rfl rfl, hp⟩ rfl rfl hl.1 rfl (lv_room (Nat.le_of_ble_eq_true rfl)) dX11_meets_3 ⟨Nat.le_of_ble_eq_true rfl, Nat.le_of_ble_eq_true rfl⟩) (fun r2 u1 H locs hwu1 hP hD hS => ?_)
  have r2_e : r2 = 1 := hwu1
  subst r2_e
  have hP : va_P D vwCl [] H := hP
  have hD : va_D A [] := hD
  refine lv_if_eq (tgt := 12) hx hb dX11_meets_6 (by decide) (fun h9 => absurd h9 (by decide)) (fun _ => ?_)
  refine lv_bipush (v := (-2)) hx hb dX11_meets_9 (by decide) ?_
  exact fn_iret hx hb hr hlocks rfl hP hD hS () (by first | rfl | decide) [] (by decide) rfl dX11_meets_11
theorem dX11_nearest_0 : decode cX11_nearest 0 = .ok (.aload_n 0, 1) := by decide +kernel
theorem dX11_nearest_1 : decode cX11_nearest 1 = .ok (.iload_n 1, 1) := by decide +kernel
theorem dX11_nearest_2 : decode cX11_nearest 2 = .ok (.iload_n 2, 1) := by decide +kernel
theorem dX11_nearest_3 : decode cX11_nearest 3 = .ok (.invokevirtual 387, 3) := by decide +kernel
theorem dX11_nearest_6 : decode cX11_nearest 6 = .ok (.ifCond .eq 6, 3) := by decide +kernel
theorem dX11_nearest_9 : decode cX11_nearest 9 = .ok (.bipush (-2), 2) := by decide +kernel
theorem dX11_nearest_11 : decode cX11_nearest 11 = .ok (.ireturn, 1) := by decide +kernel
set_option maxHeartbeats 4000000 in
set_option maxRecDepth 100000 in
theorem c_X11_nearest (l : Launch) (D : va_G) (K : Nat → ClassId) (t0 : Nat) (ft : List Value) (ht0 : ft[0]? = some (.int 0)) (ht3 : ft[3]? = some (.int 0)) (ht4 : ft[4]? = some (.int 0)) (ht5 : ft[5]? = some (.int 0)) (x0 : Nat) (fx : List Value) (hx1 : fx[1]? = some (.ref t0)) (p0 p1 : Int32) : fn_CI (S := Unit) l D K yX11_nearest (fn_ws yX11_nearest cX11_nearest 4 (some .int)) ({ frames := 12, cells := 0, slots := 0, locals := 300 }) [.ref x0, .int p0, .int p1] [(x0, .inr (11, fx)), (t0, .inr (7, ft))] (fun r _ => r = (-2)) (fun _ => []) 0 0 := by
  refine fn_inI (cc := cX11_nearest) (maxL := 4) (ret := (some .int)) (by decide) rfl (Nat.le_of_ble_eq_true rfl) ?_
  intro p e s m below meth c A ls B hA hP hD hS hl
  obtain ⟨hx, hb, hr, hml, hts, hown, hlocks, hin, hK⟩ := B
  have hown : s.vm.findClass RX11 = some m.cls := hown
  have hts := fun w h => hts w (List.mem_cons_of_mem _ h)
  have hl : lv_has ls 4 [(0, .ref x0), (1, .int p0), (2, .int p1)] := hl
  refine lv_aload_n hx hb dX11_nearest_0 rfl (lv_at hl 0 rfl) ?_
  refine lv_iload_n hx hb dX11_nearest_1 rfl (lv_at hl 1 rfl) ?_
  refine lv_iload_n hx hb dX11_nearest_2 rfl (lv_at hl 2 rfl) ?_
  refine fn_goi (wc := [(x0, .inr (11, fx)), (t0, .inr (7, ft))]) (wr := []) hK hP hD hS hA [0, 1] [] rfl rfl (by decide) (fun hp => va_runV (C := RX11) (As := [.int p0, .int p1]) (rest := []) ⟨hx, hb, hml, hown, hts⟩ (c_X11_noPair (l := l) (D := D) (K := K) (x0 := (x0)) (p0 := (p0)) (p1 := (p1)) (fx := (fx)) (t0 := (t0)) (hx1 := hx1) (ft := (ft)) (ht0 := ht0) (ht3 := ht3) (ht4 := ht4) (ht5 := ht5) _) (cwV 2 hts (fn_ginV (fn_gin wd_1100) wd_1097 wd_1099 wp_79 wd_1) rfl rfl rfl (by decide +kernel) ⟨Nat.le_of_ble_eq_true rfl, Nat.le_of_ble_eq_true rfl⟩) ⟨fn_blind, va_recv hK.1 hP (ci := 11) (q0 := 0) rfl rfl, hp⟩ rfl rfl hl.1 rfl (lv_room (Nat.le_of_ble_eq_true rfl)) dX11_nearest_3 ⟨Nat.le_of_ble_eq_true rfl, Nat.le_of_ble_eq_true rfl⟩) (fun r2 u1 H locs hwu1 hP hD hS => ?_)
  have r2_e : r2 = 1 := hwu1
  subst r2_e
  have hP : va_P D vwCl [] H := hP
  have hD : va_D A [] := hD
  refine lv_if_eq (tgt := 12) hx hb dX11_nearest_6 (by decide) (fun h9 => absurd h9 (by decide)) (fun _ => ?_)
  refine lv_bipush (v := (-2)) hx hb dX11_nearest_9 (by decide) ?_
  exact fn_iret hx hb hr hlocks rfl hP hD hS () (by first | rfl | decide) [] (by decide) rfl dX11_nearest_11
theorem dX11_cited_0 : decode cX11_cited 0 = .ok (.aload_n 0, 1) := by decide +kernel
theorem dX11_cited_1 : decode cX11_cited 1 = .ok (.iload_n 1, 1) := by decide +kernel
theorem dX11_cited_2 : decode cX11_cited 2 = .ok (.invokevirtual 404, 3) := by decide +kernel
theorem dX11_cited_5 : decode cX11_cited 5 = .ok (.ifCond .eq 8, 3) := by decide +kernel
theorem dX11_cited_8 : decode cX11_cited 8 = .ok (.bipush (-2), 2) := by decide +kernel
theorem dX11_cited_10 : decode cX11_cited 10 = .ok (.goto 8, 3) := by decide +kernel
theorem dX11_cited_18 : decode cX11_cited 18 = .ok (.ireturn, 1) := by decide +kernel
set_option maxHeartbeats 4000000 in
set_option maxRecDepth 100000 in
theorem c_X11_cited (l : Launch) (D : va_G) (K : Nat → ClassId) (t0 : Nat) (ft : List Value) (ht0 : ft[0]? = some (.int 0)) (ht3 : ft[3]? = some (.int 0)) (ht4 : ft[4]? = some (.int 0)) (ht5 : ft[5]? = some (.int 0)) (x0 : Nat) (fx : List Value) (hx1 : fx[1]? = some (.ref t0)) (p0 : Int32) : fn_CI (S := Unit) l D K yX11_cited (fn_ws yX11_cited cX11_cited 2 (some .int)) ({ frames := 12, cells := 0, slots := 0, locals := 300 }) [.ref x0, .int p0] [(x0, .inr (11, fx)), (t0, .inr (7, ft))] (fun r _ => r = (-2)) (fun _ => []) 0 0 := by
  refine fn_inI (cc := cX11_cited) (maxL := 2) (ret := (some .int)) (by decide) rfl (Nat.le_of_ble_eq_true rfl) ?_
  intro p e s m below meth c A ls B hA hP hD hS hl
  obtain ⟨hx, hb, hr, hml, hts, hown, hlocks, hin, hK⟩ := B
  have hown : s.vm.findClass RX11 = some m.cls := hown
  have hts := fun w h => hts w (List.mem_cons_of_mem _ h)
  have hl : lv_has ls 2 [(0, .ref x0), (1, .int p0)] := hl
  refine lv_aload_n hx hb dX11_cited_0 rfl (lv_at hl 0 rfl) ?_
  refine lv_iload_n hx hb dX11_cited_1 rfl (lv_at hl 1 rfl) ?_
  refine fn_goi (wc := [(x0, .inr (11, fx)), (t0, .inr (7, ft))]) (wr := []) hK hP hD hS hA [0, 1] [] rfl rfl (by decide) (fun hp => va_runV (C := RX11) (As := [.int p0]) (rest := []) ⟨hx, hb, hml, hown, hts⟩ (c_X11_noScholar (l := l) (D := D) (K := K) (x0 := (x0)) (p0 := (p0)) (fx := (fx)) (t0 := (t0)) (hx1 := hx1) (ft := (ft)) (ht0 := ht0) (ht3 := ht3) (ht4 := ht4) (ht5 := ht5) _) (cwV 1 hts (fn_ginV (fn_gin wd_1126) wd_1123 wd_1125 wp_82 wd_1) rfl rfl rfl (by decide +kernel) ⟨Nat.le_of_ble_eq_true rfl, Nat.le_of_ble_eq_true rfl⟩) ⟨fn_blind, va_recv hK.1 hP (ci := 11) (q0 := 0) rfl rfl, hp⟩ rfl rfl hl.1 rfl (lv_room (Nat.le_of_ble_eq_true rfl)) dX11_cited_2 ⟨Nat.le_of_ble_eq_true rfl, Nat.le_of_ble_eq_true rfl⟩) (fun r2 u1 H locs hwu1 hP hD hS => ?_)
  have r2_e : r2 = 1 := hwu1
  subst r2_e
  have hP : va_P D vwCl [] H := hP
  have hD : va_D A [] := hD
  refine lv_if_eq (tgt := 13) hx hb dX11_cited_5 (by decide) (fun h9 => absurd h9 (by decide)) (fun _ => ?_)
  refine lv_bipush (v := (-2)) hx hb dX11_cited_8 (by decide) ?_
  refine lv_goto (tgt := 18) hx hb dX11_cited_10 (by decide) ?_
  exact fn_iret hx hb hr hlocks rfl hP hD hS () (by first | rfl | decide) [] (by decide) rfl dX11_cited_18
theorem dX11_quotes_0 : decode cX11_quotes 0 = .ok (.aload_n 0, 1) := by decide +kernel
theorem dX11_quotes_1 : decode cX11_quotes 1 = .ok (.iload_n 1, 1) := by decide +kernel
theorem dX11_quotes_2 : decode cX11_quotes 2 = .ok (.invokevirtual 404, 3) := by decide +kernel
theorem dX11_quotes_5 : decode cX11_quotes 5 = .ok (.ifCond .ne 11, 3) := by decide +kernel
theorem dX11_quotes_16 : decode cX11_quotes 16 = .ok (.bipush (-2), 2) := by decide +kernel
theorem dX11_quotes_18 : decode cX11_quotes 18 = .ok (.ireturn, 1) := by decide +kernel
set_option maxHeartbeats 4000000 in
set_option maxRecDepth 100000 in
theorem c_X11_quotes (l : Launch) (D : va_G) (K : Nat → ClassId) (t0 : Nat) (ft : List Value) (ht0 : ft[0]? = some (.int 0)) (ht3 : ft[3]? = some (.int 0)) (ht4 : ft[4]? = some (.int 0)) (ht5 : ft[5]? = some (.int 0)) (x0 : Nat) (fx : List Value) (hx1 : fx[1]? = some (.ref t0)) (p0 p1 : Int32) : fn_CI (S := Unit) l D K yX11_quotes (fn_ws yX11_quotes cX11_quotes 3 (some .int)) ({ frames := 12, cells := 0, slots := 0, locals := 300 }) [.ref x0, .int p0, .int p1] [(x0, .inr (11, fx)), (t0, .inr (7, ft))] (fun r _ => r = (-2)) (fun _ => []) 0 0 := by
  refine fn_inI (cc := cX11_quotes) (maxL := 3) (ret := (some .int)) (by decide) rfl (Nat.le_of_ble_eq_true rfl) ?_
  intro p e s m below meth c A ls B hA hP hD hS hl
  obtain ⟨hx, hb, hr, hml, hts, hown, hlocks, hin, hK⟩ := B
  have hown : s.vm.findClass RX11 = some m.cls := hown
  have hts := fun w h => hts w (List.mem_cons_of_mem _ h)
  have hl : lv_has ls 3 [(0, .ref x0), (1, .int p0), (2, .int p1)] := hl
  refine lv_aload_n hx hb dX11_quotes_0 rfl (lv_at hl 0 rfl) ?_
  refine lv_iload_n hx hb dX11_quotes_1 rfl (lv_at hl 1 rfl) ?_
  refine fn_goi (wc := [(x0, .inr (11, fx)), (t0, .inr (7, ft))]) (wr := []) hK hP hD hS hA [0, 1] [] rfl rfl (by decide) (fun hp => va_runV (C := RX11) (As := [.int p0]) (rest := []) ⟨hx, hb, hml, hown, hts⟩ (c_X11_noScholar (l := l) (D := D) (K := K) (x0 := (x0)) (p0 := (p0)) (fx := (fx)) (t0 := (t0)) (hx1 := hx1) (ft := (ft)) (ht0 := ht0) (ht3 := ht3) (ht4 := ht4) (ht5 := ht5) _) (cwV 1 hts (fn_ginV (fn_gin wd_1126) wd_1123 wd_1125 wp_82 wd_1) rfl rfl rfl (by decide +kernel) ⟨Nat.le_of_ble_eq_true rfl, Nat.le_of_ble_eq_true rfl⟩) ⟨fn_blind, va_recv hK.1 hP (ci := 11) (q0 := 0) rfl rfl, hp⟩ rfl rfl hl.1 rfl (lv_room (Nat.le_of_ble_eq_true rfl)) dX11_quotes_2 ⟨Nat.le_of_ble_eq_true rfl, Nat.le_of_ble_eq_true rfl⟩) (fun r2 u1 H locs hwu1 hP hD hS => ?_)
  have r2_e : r2 = 1 := hwu1
  subst r2_e
  have hP : va_P D vwCl [] H := hP
  have hD : va_D A [] := hD
  refine lv_if_ne (tgt := 16) hx hb dX11_quotes_5 (by decide) (fun _ => ?_) (fun h9 => absurd h9 (by decide))
  refine lv_bipush (v := (-2)) hx hb dX11_quotes_16 (by decide) ?_
  exact fn_iret hx hb hr hlocks rfl hP hD hS () (by first | rfl | decide) [] (by decide) rfl dX11_quotes_18
theorem dX11_drawn_0 : decode cX11_drawn 0 = .ok (.aload_n 0, 1) := by decide +kernel
theorem dX11_drawn_1 : decode cX11_drawn 1 = .ok (.iload_n 1, 1) := by decide +kernel
theorem dX11_drawn_2 : decode cX11_drawn 2 = .ok (.invokevirtual 417, 3) := by decide +kernel
theorem dX11_drawn_5 : decode cX11_drawn 5 = .ok (.ifCond .eq 8, 3) := by decide +kernel
theorem dX11_drawn_8 : decode cX11_drawn 8 = .ok (.bipush (-2), 2) := by decide +kernel
theorem dX11_drawn_10 : decode cX11_drawn 10 = .ok (.goto 9, 3) := by decide +kernel
theorem dX11_drawn_19 : decode cX11_drawn 19 = .ok (.ireturn, 1) := by decide +kernel
set_option maxHeartbeats 4000000 in
set_option maxRecDepth 100000 in
theorem c_X11_drawn (l : Launch) (D : va_G) (K : Nat → ClassId) (t0 : Nat) (ft : List Value) (ht0 : ft[0]? = some (.int 0)) (ht3 : ft[3]? = some (.int 0)) (ht4 : ft[4]? = some (.int 0)) (ht5 : ft[5]? = some (.int 0)) (x0 : Nat) (fx : List Value) (hx1 : fx[1]? = some (.ref t0)) (p0 : Int32) : fn_CI (S := Unit) l D K yX11_drawn (fn_ws yX11_drawn cX11_drawn 2 (some .int)) ({ frames := 12, cells := 0, slots := 0, locals := 300 }) [.ref x0, .int p0] [(x0, .inr (11, fx)), (t0, .inr (7, ft))] (fun r _ => r = (-2)) (fun _ => []) 0 0 := by
  refine fn_inI (cc := cX11_drawn) (maxL := 2) (ret := (some .int)) (by decide) rfl (Nat.le_of_ble_eq_true rfl) ?_
  intro p e s m below meth c A ls B hA hP hD hS hl
  obtain ⟨hx, hb, hr, hml, hts, hown, hlocks, hin, hK⟩ := B
  have hown : s.vm.findClass RX11 = some m.cls := hown
  have hts := fun w h => hts w (List.mem_cons_of_mem _ h)
  have hl : lv_has ls 2 [(0, .ref x0), (1, .int p0)] := hl
  refine lv_aload_n hx hb dX11_drawn_0 rfl (lv_at hl 0 rfl) ?_
  refine lv_iload_n hx hb dX11_drawn_1 rfl (lv_at hl 1 rfl) ?_
  refine fn_goi (wc := [(x0, .inr (11, fx)), (t0, .inr (7, ft))]) (wr := []) hK hP hD hS hA [0, 1] [] rfl rfl (by decide) (fun hp => va_runV (C := RX11) (As := [.int p0]) (rest := []) ⟨hx, hb, hml, hown, hts⟩ (c_X11_noSeed (l := l) (D := D) (K := K) (x0 := (x0)) (p0 := (p0)) (fx := (fx)) (t0 := (t0)) (hx1 := hx1) (ft := (ft)) (ht0 := ht0) (ht3 := ht3) (ht4 := ht4) (ht5 := ht5) _) (cwV 1 hts (fn_ginV (fn_gin wd_1154) wd_1151 wd_1153 wp_86 wd_1) rfl rfl rfl (by decide +kernel) ⟨Nat.le_of_ble_eq_true rfl, Nat.le_of_ble_eq_true rfl⟩) ⟨fn_blind, va_recv hK.1 hP (ci := 11) (q0 := 0) rfl rfl, hp⟩ rfl rfl hl.1 rfl (lv_room (Nat.le_of_ble_eq_true rfl)) dX11_drawn_2 ⟨Nat.le_of_ble_eq_true rfl, Nat.le_of_ble_eq_true rfl⟩) (fun r2 u1 H locs hwu1 hP hD hS => ?_)
  have r2_e : r2 = 1 := hwu1
  subst r2_e
  have hP : va_P D vwCl [] H := hP
  have hD : va_D A [] := hD
  refine lv_if_eq (tgt := 13) hx hb dX11_drawn_5 (by decide) (fun h9 => absurd h9 (by decide)) (fun _ => ?_)
  refine lv_bipush (v := (-2)) hx hb dX11_drawn_8 (by decide) ?_
  refine lv_goto (tgt := 19) hx hb dX11_drawn_10 (by decide) ?_
  exact fn_iret hx hb hr hlocks rfl hP hD hS () (by first | rfl | decide) [] (by decide) rfl dX11_drawn_19
theorem dX11_shaken_0 : decode cX11_shaken 0 = .ok (.aload_n 0, 1) := by decide +kernel
theorem dX11_shaken_1 : decode cX11_shaken 1 = .ok (.iload_n 1, 1) := by decide +kernel
theorem dX11_shaken_2 : decode cX11_shaken 2 = .ok (.invokevirtual 417, 3) := by decide +kernel
theorem dX11_shaken_5 : decode cX11_shaken 5 = .ok (.ifCond .eq 8, 3) := by decide +kernel
theorem dX11_shaken_8 : decode cX11_shaken 8 = .ok (.bipush (-2), 2) := by decide +kernel
theorem dX11_shaken_10 : decode cX11_shaken 10 = .ok (.goto 12, 3) := by decide +kernel
theorem dX11_shaken_22 : decode cX11_shaken 22 = .ok (.ireturn, 1) := by decide +kernel
set_option maxHeartbeats 4000000 in
set_option maxRecDepth 100000 in
theorem c_X11_shaken (l : Launch) (D : va_G) (K : Nat → ClassId) (t0 : Nat) (ft : List Value) (ht0 : ft[0]? = some (.int 0)) (ht3 : ft[3]? = some (.int 0)) (ht4 : ft[4]? = some (.int 0)) (ht5 : ft[5]? = some (.int 0)) (x0 : Nat) (fx : List Value) (hx1 : fx[1]? = some (.ref t0)) (p0 : Int32) : fn_CI (S := Unit) l D K yX11_shaken (fn_ws yX11_shaken cX11_shaken 2 (some .int)) ({ frames := 12, cells := 0, slots := 0, locals := 300 }) [.ref x0, .int p0] [(x0, .inr (11, fx)), (t0, .inr (7, ft))] (fun r _ => r = (-2)) (fun _ => []) 0 0 := by
  refine fn_inI (cc := cX11_shaken) (maxL := 2) (ret := (some .int)) (by decide) rfl (Nat.le_of_ble_eq_true rfl) ?_
  intro p e s m below meth c A ls B hA hP hD hS hl
  obtain ⟨hx, hb, hr, hml, hts, hown, hlocks, hin, hK⟩ := B
  have hown : s.vm.findClass RX11 = some m.cls := hown
  have hts := fun w h => hts w (List.mem_cons_of_mem _ h)
  have hl : lv_has ls 2 [(0, .ref x0), (1, .int p0)] := hl
  refine lv_aload_n hx hb dX11_shaken_0 rfl (lv_at hl 0 rfl) ?_
  refine lv_iload_n hx hb dX11_shaken_1 rfl (lv_at hl 1 rfl) ?_
  refine fn_goi (wc := [(x0, .inr (11, fx)), (t0, .inr (7, ft))]) (wr := []) hK hP hD hS hA [0, 1] [] rfl rfl (by decide) (fun hp => va_runV (C := RX11) (As := [.int p0]) (rest := []) ⟨hx, hb, hml, hown, hts⟩ (c_X11_noSeed (l := l) (D := D) (K := K) (x0 := (x0)) (p0 := (p0)) (fx := (fx)) (t0 := (t0)) (hx1 := hx1) (ft := (ft)) (ht0 := ht0) (ht3 := ht3) (ht4 := ht4) (ht5 := ht5) _) (cwV 1 hts (fn_ginV (fn_gin wd_1154) wd_1151 wd_1153 wp_86 wd_1) rfl rfl rfl (by decide +kernel) ⟨Nat.le_of_ble_eq_true rfl, Nat.le_of_ble_eq_true rfl⟩) ⟨fn_blind, va_recv hK.1 hP (ci := 11) (q0 := 0) rfl rfl, hp⟩ rfl rfl hl.1 rfl (lv_room (Nat.le_of_ble_eq_true rfl)) dX11_shaken_2 ⟨Nat.le_of_ble_eq_true rfl, Nat.le_of_ble_eq_true rfl⟩) (fun r2 u1 H locs hwu1 hP hD hS => ?_)
  have r2_e : r2 = 1 := hwu1
  subst r2_e
  have hP : va_P D vwCl [] H := hP
  have hD : va_D A [] := hD
  refine lv_if_eq (tgt := 13) hx hb dX11_shaken_5 (by decide) (fun h9 => absurd h9 (by decide)) (fun _ => ?_)
  refine lv_bipush (v := (-2)) hx hb dX11_shaken_8 (by decide) ?_
  refine lv_goto (tgt := 22) hx hb dX11_shaken_10 (by decide) ?_
  exact fn_iret hx hb hr hlocks rfl hP hD hS () (by first | rfl | decide) [] (by decide) rfl dX11_shaken_22
theorem dX11_years_0 : decode cX11_years 0 = .ok (.aload_n 0, 1) := by decide +kernel
theorem dX11_years_1 : decode cX11_years 1 = .ok (.iload_n 1, 1) := by decide +kernel
theorem dX11_years_2 : decode cX11_years 2 = .ok (.invokevirtual 417, 3) := by decide +kernel
theorem dX11_years_5 : decode cX11_years 5 = .ok (.ifCond .ne 25, 3) := by decide +kernel
theorem dX11_years_30 : decode cX11_years 30 = .ok (.bipush (-2), 2) := by decide +kernel
theorem dX11_years_32 : decode cX11_years 32 = .ok (.ireturn, 1) := by decide +kernel
set_option maxHeartbeats 4000000 in
set_option maxRecDepth 100000 in
theorem c_X11_years (l : Launch) (D : va_G) (K : Nat → ClassId) (t0 : Nat) (ft : List Value) (ht0 : ft[0]? = some (.int 0)) (ht3 : ft[3]? = some (.int 0)) (ht4 : ft[4]? = some (.int 0)) (ht5 : ft[5]? = some (.int 0)) (x0 : Nat) (fx : List Value) (hx1 : fx[1]? = some (.ref t0)) (p0 p1 p2 : Int32) : fn_CI (S := Unit) l D K yX11_years (fn_ws yX11_years cX11_years 6 (some .int)) ({ frames := 12, cells := 0, slots := 0, locals := 300 }) [.ref x0, .int p0, .int p1, .int p2] [(x0, .inr (11, fx)), (t0, .inr (7, ft))] (fun r _ => r = (-2)) (fun _ => []) 0 0 := by
  refine fn_inI (cc := cX11_years) (maxL := 6) (ret := (some .int)) (by decide) rfl (Nat.le_of_ble_eq_true rfl) ?_
  intro p e s m below meth c A ls B hA hP hD hS hl
  obtain ⟨hx, hb, hr, hml, hts, hown, hlocks, hin, hK⟩ := B
  have hown : s.vm.findClass RX11 = some m.cls := hown
  have hts := fun w h => hts w (List.mem_cons_of_mem _ h)
  have hl : lv_has ls 6 [(0, .ref x0), (1, .int p0), (2, .int p1), (3, .int p2)] := hl
  refine lv_aload_n hx hb dX11_years_0 rfl (lv_at hl 0 rfl) ?_
  refine lv_iload_n hx hb dX11_years_1 rfl (lv_at hl 1 rfl) ?_
  refine fn_goi (wc := [(x0, .inr (11, fx)), (t0, .inr (7, ft))]) (wr := []) hK hP hD hS hA [0, 1] [] rfl rfl (by decide) (fun hp => va_runV (C := RX11) (As := [.int p0]) (rest := []) ⟨hx, hb, hml, hown, hts⟩ (c_X11_noSeed (l := l) (D := D) (K := K) (x0 := (x0)) (p0 := (p0)) (fx := (fx)) (t0 := (t0)) (hx1 := hx1) (ft := (ft)) (ht0 := ht0) (ht3 := ht3) (ht4 := ht4) (ht5 := ht5) _) (cwV 1 hts (fn_ginV (fn_gin wd_1154) wd_1151 wd_1153 wp_86 wd_1) rfl rfl rfl (by decide +kernel) ⟨Nat.le_of_ble_eq_true rfl, Nat.le_of_ble_eq_true rfl⟩) ⟨fn_blind, va_recv hK.1 hP (ci := 11) (q0 := 0) rfl rfl, hp⟩ rfl rfl hl.1 rfl (lv_room (Nat.le_of_ble_eq_true rfl)) dX11_years_2 ⟨Nat.le_of_ble_eq_true rfl, Nat.le_of_ble_eq_true rfl⟩) (fun r2 u1 H locs hwu1 hP hD hS => ?_)
  have r2_e : r2 = 1 := hwu1
  subst r2_e
  have hP : va_P D vwCl [] H := hP
  have hD : va_D A [] := hD
  refine lv_if_ne (tgt := 30) hx hb dX11_years_5 (by decide) (fun _ => ?_) (fun h9 => absurd h9 (by decide))
  refine lv_bipush (v := (-2)) hx hb dX11_years_30 (by decide) ?_
  exact fn_iret hx hb hr hlocks rfl hP hD hS () (by first | rfl | decide) [] (by decide) rfl dX11_years_32
theorem dX11_third_0 : decode cX11_third 0 = .ok (.aload_n 0, 1) := by decide +kernel
theorem dX11_third_1 : decode cX11_third 1 = .ok (.iload_n 1, 1) := by decide +kernel
theorem dX11_third_2 : decode cX11_third 2 = .ok (.iload_n 2, 1) := by decide +kernel
theorem dX11_third_3 : decode cX11_third 3 = .ok (.invokevirtual 398, 3) := by decide +kernel
theorem dX11_third_6 : decode cX11_third 6 = .ok (.istore_n 3, 1) := by decide +kernel
theorem dX11_third_7 : decode cX11_third 7 = .ok (.iload_n 3, 1) := by decide +kernel
theorem dX11_third_8 : decode cX11_third 8 = .ok (.ifCond .ge 5, 3) := by decide +kernel
theorem dX11_third_11 : decode cX11_third 11 = .ok (.iload_n 3, 1) := by decide +kernel
theorem dX11_third_12 : decode cX11_third 12 = .ok (.ireturn, 1) := by decide +kernel
set_option maxHeartbeats 4000000 in
set_option maxRecDepth 100000 in
theorem c_X11_third (l : Launch) (D : va_G) (K : Nat → ClassId) (t0 : Nat) (ft : List Value) (ht0 : ft[0]? = some (.int 0)) (ht3 : ft[3]? = some (.int 0)) (ht4 : ft[4]? = some (.int 0)) (ht5 : ft[5]? = some (.int 0)) (x0 : Nat) (fx : List Value) (hx1 : fx[1]? = some (.ref t0)) (p0 p1 : Int32) : fn_CI (S := Unit) l D K yX11_third (fn_ws yX11_third cX11_third 8 (some .int)) ({ frames := 16, cells := 0, slots := 0, locals := 400 }) [.ref x0, .int p0, .int p1] [(x0, .inr (11, fx)), (t0, .inr (7, ft))] (fun r _ => r = (-2)) (fun _ => []) 0 0 := by
  refine fn_inI (cc := cX11_third) (maxL := 8) (ret := (some .int)) (by decide) rfl (Nat.le_of_ble_eq_true rfl) ?_
  intro p e s m below meth c A ls B hA hP hD hS hl
  obtain ⟨hx, hb, hr, hml, hts, hown, hlocks, hin, hK⟩ := B
  have hown : s.vm.findClass RX11 = some m.cls := hown
  have hts := fun w h => hts w (List.mem_cons_of_mem _ h)
  have hl : lv_has ls 8 [(0, .ref x0), (1, .int p0), (2, .int p1)] := hl
  refine lv_aload_n hx hb dX11_third_0 rfl (lv_at hl 0 rfl) ?_
  refine lv_iload_n hx hb dX11_third_1 rfl (lv_at hl 1 rfl) ?_
  refine lv_iload_n hx hb dX11_third_2 rfl (lv_at hl 2 rfl) ?_
  refine fn_goi (wc := [(x0, .inr (11, fx)), (t0, .inr (7, ft))]) (wr := []) hK hP hD hS hA [0, 1] [] rfl rfl (by decide) (fun hp => va_runV (C := RX11) (As := [.int p0, .int p1]) (rest := []) ⟨hx, hb, hml, hown, hts⟩ (c_X11_meets (l := l) (D := D) (K := K) (x0 := (x0)) (p0 := (p0)) (p1 := (p1)) (fx := (fx)) (t0 := (t0)) (hx1 := hx1) (ft := (ft)) (ht0 := ht0) (ht3 := ht3) (ht4 := ht4) (ht5 := ht5) _) (cwV 2 hts (fn_ginV (fn_gin wd_1096) wd_1109 wd_1094 wd_1095 wd_1) rfl rfl rfl (by decide +kernel) ⟨Nat.le_of_ble_eq_true rfl, Nat.le_of_ble_eq_true rfl⟩) ⟨fn_blind, va_recv hK.1 hP (ci := 11) (q0 := 0) rfl rfl, hp⟩ rfl rfl hl.1 rfl (lv_room (Nat.le_of_ble_eq_true rfl)) dX11_third_3 ⟨Nat.le_of_ble_eq_true rfl, Nat.le_of_ble_eq_true rfl⟩) (fun r2 u1 H locs hwu1 hP hD hS => ?_)
  have r2_e : r2 = (-2) := hwu1
  subst r2_e
  have hP : va_P D vwCl [] H := hP
  have hD : va_D A [] := hD
  refine lv_istore_n (lv' := [(3, .int (-2)), (0, .ref x0), (1, .int p0), (2, .int p1)]) hx hb dX11_third_6 rfl hl (by decide) rfl (fun ls hl => ?_)
  refine lv_iload_n hx hb dX11_third_7 rfl (lv_at hl 0 rfl) ?_
  refine lv_if_ge (tgt := 13) hx hb dX11_third_8 (by decide) (fun h9 => absurd h9 (by decide)) (fun _ => ?_)
  refine lv_iload_n hx hb dX11_third_11 rfl (lv_at hl 0 rfl) ?_
  exact fn_iret hx hb hr hlocks rfl hP hD hS () (by first | rfl | decide) [] (by decide) rfl dX11_third_12
