theorem dX7_hasPage_0 : decode cX7_hasPage 0 = .ok (.iload_n 1, 1) := by decide +kernel
theorem dX7_hasPage_1 : decode cX7_hasPage 1 = .ok (.ifCond .lt 15, 3) := by decide +kernel
theorem dX7_hasPage_16 : decode cX7_hasPage 16 = .ok (.iconst 0, 1) := by decide +kernel
theorem dX7_hasPage_17 : decode cX7_hasPage 17 = .ok (.ireturn, 1) := by decide +kernel
theorem dX7_hasPage_4 : decode cX7_hasPage 4 = .ok (.iload_n 1, 1) := by decide +kernel
theorem dX7_hasPage_5 : decode cX7_hasPage 5 = .ok (.aload_n 0, 1) := by decide +kernel
theorem dX7_hasPage_6 : decode cX7_hasPage 6 = .ok (.getfield 43, 3) := by decide +kernel
theorem dX7_hasPage_9 : decode cX7_hasPage 9 = .ok (.if_icmp .ge 7, 3) := by decide +kernel
theorem dX7_hasPage_12 : decode cX7_hasPage 12 = .ok (.iconst 1, 1) := by decide +kernel
theorem dX7_hasPage_13 : decode cX7_hasPage 13 = .ok (.goto 4, 3) := by decide +kernel
set_option maxHeartbeats 4000000 in
set_option maxRecDepth 100000 in
theorem k_X7_hasPage (l : Launch) (D : va_G) (K : Nat → ClassId) (t t_scholar t_firstPage t_bookOf t_notePage t_noteBook t_noteLeaf : Nat) (p1 t_lines t_opens t_odds t_books t_pages t_notes t_facts t_dead t_denials : Int) (hp1 : (-2147483648) ≤ p1 ∧ p1 ≤ 2147483647) (hi_t : 0 ≤ t_lines ∧ t_lines ≤ 1400 ∧ 0 ≤ t_opens ∧ t_opens ≤ 20 ∧ 0 ≤ t_odds ∧ t_odds ≤ 100 ∧ 0 ≤ t_books ∧ t_books ≤ 5 ∧ 0 ≤ t_pages ∧ t_pages ≤ 12 ∧ 0 ≤ t_notes ∧ t_notes ≤ 24 ∧ 0 ≤ t_facts ∧ t_facts ≤ 4095 ∧ 0 ≤ t_dead ∧ t_dead ≤ 31 ∧ (-2147483648) ≤ t_denials ∧ t_denials ≤ 2147483647) : fn_CI (S := (Nat → Int) × (Nat → Nat → Int)) l D K yX7_hasPage (fn_ws yX7_hasPage cX7_hasPage 2 (some .boolean)) ({ frames := 4, cells := 0, slots := 0, locals := 100 } : Room) [.ref t, .int (iI p1)] [(t, .inr (7, [.int (iI t_lines), .int (iI t_opens), .int (iI t_odds), .int (iI t_books), .int (iI t_pages), .int (iI t_notes), .int (iI t_facts), .int (iI t_dead), .int (iI t_denials), .ref t_scholar, .ref t_firstPage, .ref t_bookOf, .ref t_notePage, .ref t_noteBook, .ref t_noteLeaf]))] (fun r u => ∃ k : Int, r = iI k ∧ (0 ≤ k ∧ k ≤ 1) ∧ ((k = 1 → 0 ≤ p1 ∧ p1 < t_pages)) ∧ True) (fun u => [(t, .inr (7, [.int (iI t_lines), .int (iI t_opens), .int (iI t_odds), .int (iI t_books), .int (iI t_pages), .int (iI t_notes), .int (iI t_facts), .int (iI t_dead), .int (iI t_denials), .ref t_scholar, .ref t_firstPage, .ref t_bookOf, .ref t_notePage, .ref t_noteBook, .ref t_noteLeaf]))]) 0 0 := by
  refine g_inI (cc := cX7_hasPage) (maxL := 2) (ret := (some .boolean)) (by decide) rfl (Nat.le_of_ble_eq_true rfl) ?_
  intro p e s m below meth c A ls ag Q B hA hP hD hS hl hQ
  obtain ⟨hx, hb, hr, hml, hts, hown, hlocks, hin, hK⟩ := B
  have hown : s.vm.findClass RX7 = some m.cls := hown
  have hts := fun w h => hts w (List.mem_cons_of_mem _ h)
  have hl : lv_has ls 2 [(0, .ref t), (1, .int (iI p1))] := hl
  refine lv_iload_n hx hb dX7_hasPage_0 rfl (lv_at hl 1 rfl) ?_
  refine g_if_lt (tgt := 16) hx hb (by omega) dX7_hasPage_1 (by decide) (fun c1 => ?_) (fun c1 => ?_)
  · refine lv_iconst (v := iI 0) hx hb dX7_hasPage_16 rfl ?_
    rw [hQ]; exact fn_iret hx hb hr hlocks (iI_nz (by omega)) hP hD hS ((fun _ => 0), (fun _ _ => 0)) ⟨0, rfl, by omega, (by show (0 = 1 → 0 ≤ p1 ∧ p1 < t_pages); omega), trivial⟩ [0] (by decide) rfl dX7_hasPage_17
  · refine lv_iload_n hx hb dX7_hasPage_4 rfl (lv_at hl 1 rfl) ?_
    refine lv_aload_n hx hb dX7_hasPage_5 rfl (lv_at hl 0 rfl) ?_
    refine va_get (D := D) (own := RX7) (ci := 7) (v := .int (iI t_pages)) (C := RX7) (T := TX7) (N := 15) hx hb hts inb_X7 hown hK.1 hP 0 rfl rfl 4 (by decide) (hts _ wd_87) (fun _ h9 => h9) rfl dX7_hasPage_6 ?_
    refine g_icmp_ge (tgt := 16) hx hb (by omega) (by omega) dX7_hasPage_9 (by decide) (fun c2 => ?_) (fun c2 => ?_)
    · refine lv_iconst (v := iI 0) hx hb dX7_hasPage_16 rfl ?_
      rw [hQ]; exact fn_iret hx hb hr hlocks (iI_nz (by omega)) hP hD hS ((fun _ => 0), (fun _ _ => 0)) ⟨0, rfl, by omega, (by show (0 = 1 → 0 ≤ p1 ∧ p1 < t_pages); omega), trivial⟩ [0] (by decide) rfl dX7_hasPage_17
    · refine lv_iconst (v := iI 1) hx hb dX7_hasPage_12 rfl ?_
      refine lv_goto (tgt := 17) hx hb dX7_hasPage_13 (by decide) ?_
      rw [hQ]; exact fn_iret hx hb hr hlocks (iI_nz (by omega)) hP hD hS ((fun _ => 0), (fun _ _ => 0)) ⟨1, rfl, by omega, (by show (1 = 1 → 0 ≤ p1 ∧ p1 < t_pages); omega), trivial⟩ [0] (by decide) rfl dX7_hasPage_17
theorem dX7_hasBook_0 : decode cX7_hasBook 0 = .ok (.iload_n 1, 1) := by decide +kernel
theorem dX7_hasBook_1 : decode cX7_hasBook 1 = .ok (.ifCond .lt 15, 3) := by decide +kernel
theorem dX7_hasBook_16 : decode cX7_hasBook 16 = .ok (.iconst 0, 1) := by decide +kernel
theorem dX7_hasBook_17 : decode cX7_hasBook 17 = .ok (.ireturn, 1) := by decide +kernel
theorem dX7_hasBook_4 : decode cX7_hasBook 4 = .ok (.iload_n 1, 1) := by decide +kernel
theorem dX7_hasBook_5 : decode cX7_hasBook 5 = .ok (.aload_n 0, 1) := by decide +kernel
theorem dX7_hasBook_6 : decode cX7_hasBook 6 = .ok (.getfield 40, 3) := by decide +kernel
theorem dX7_hasBook_9 : decode cX7_hasBook 9 = .ok (.if_icmp .ge 7, 3) := by decide +kernel
theorem dX7_hasBook_12 : decode cX7_hasBook 12 = .ok (.iconst 1, 1) := by decide +kernel
theorem dX7_hasBook_13 : decode cX7_hasBook 13 = .ok (.goto 4, 3) := by decide +kernel
set_option maxHeartbeats 4000000 in
set_option maxRecDepth 100000 in
theorem k_X7_hasBook (l : Launch) (D : va_G) (K : Nat → ClassId) (t t_scholar t_firstPage t_bookOf t_notePage t_noteBook t_noteLeaf : Nat) (p1 t_lines t_opens t_odds t_books t_pages t_notes t_facts t_dead t_denials : Int) (hp1 : (-2147483648) ≤ p1 ∧ p1 ≤ 2147483647) (hi_t : 0 ≤ t_lines ∧ t_lines ≤ 1400 ∧ 0 ≤ t_opens ∧ t_opens ≤ 20 ∧ 0 ≤ t_odds ∧ t_odds ≤ 100 ∧ 0 ≤ t_books ∧ t_books ≤ 5 ∧ 0 ≤ t_pages ∧ t_pages ≤ 12 ∧ 0 ≤ t_notes ∧ t_notes ≤ 24 ∧ 0 ≤ t_facts ∧ t_facts ≤ 4095 ∧ 0 ≤ t_dead ∧ t_dead ≤ 31 ∧ (-2147483648) ≤ t_denials ∧ t_denials ≤ 2147483647) : fn_CI (S := (Nat → Int) × (Nat → Nat → Int)) l D K yX7_hasBook (fn_ws yX7_hasBook cX7_hasBook 2 (some .boolean)) ({ frames := 4, cells := 0, slots := 0, locals := 100 } : Room) [.ref t, .int (iI p1)] [(t, .inr (7, [.int (iI t_lines), .int (iI t_opens), .int (iI t_odds), .int (iI t_books), .int (iI t_pages), .int (iI t_notes), .int (iI t_facts), .int (iI t_dead), .int (iI t_denials), .ref t_scholar, .ref t_firstPage, .ref t_bookOf, .ref t_notePage, .ref t_noteBook, .ref t_noteLeaf]))] (fun r u => ∃ k : Int, r = iI k ∧ (0 ≤ k ∧ k ≤ 1) ∧ ((k = 1 → 0 ≤ p1 ∧ p1 < t_books)) ∧ True) (fun u => [(t, .inr (7, [.int (iI t_lines), .int (iI t_opens), .int (iI t_odds), .int (iI t_books), .int (iI t_pages), .int (iI t_notes), .int (iI t_facts), .int (iI t_dead), .int (iI t_denials), .ref t_scholar, .ref t_firstPage, .ref t_bookOf, .ref t_notePage, .ref t_noteBook, .ref t_noteLeaf]))]) 0 0 := by
  refine g_inI (cc := cX7_hasBook) (maxL := 2) (ret := (some .boolean)) (by decide) rfl (Nat.le_of_ble_eq_true rfl) ?_
  intro p e s m below meth c A ls ag Q B hA hP hD hS hl hQ
  obtain ⟨hx, hb, hr, hml, hts, hown, hlocks, hin, hK⟩ := B
  have hown : s.vm.findClass RX7 = some m.cls := hown
  have hts := fun w h => hts w (List.mem_cons_of_mem _ h)
  have hl : lv_has ls 2 [(0, .ref t), (1, .int (iI p1))] := hl
  refine lv_iload_n hx hb dX7_hasBook_0 rfl (lv_at hl 1 rfl) ?_
  refine g_if_lt (tgt := 16) hx hb (by omega) dX7_hasBook_1 (by decide) (fun c1 => ?_) (fun c1 => ?_)
  · refine lv_iconst (v := iI 0) hx hb dX7_hasBook_16 rfl ?_
    rw [hQ]; exact fn_iret hx hb hr hlocks (iI_nz (by omega)) hP hD hS ((fun _ => 0), (fun _ _ => 0)) ⟨0, rfl, by omega, (by show (0 = 1 → 0 ≤ p1 ∧ p1 < t_books); omega), trivial⟩ [0] (by decide) rfl dX7_hasBook_17
  · refine lv_iload_n hx hb dX7_hasBook_4 rfl (lv_at hl 1 rfl) ?_
    refine lv_aload_n hx hb dX7_hasBook_5 rfl (lv_at hl 0 rfl) ?_
    refine va_get (D := D) (own := RX7) (ci := 7) (v := .int (iI t_books)) (C := RX7) (T := TX7) (N := 15) hx hb hts inb_X7 hown hK.1 hP 0 rfl rfl 3 (by decide) (hts _ wd_80) (fun _ h9 => h9) rfl dX7_hasBook_6 ?_
    refine g_icmp_ge (tgt := 16) hx hb (by omega) (by omega) dX7_hasBook_9 (by decide) (fun c2 => ?_) (fun c2 => ?_)
    · refine lv_iconst (v := iI 0) hx hb dX7_hasBook_16 rfl ?_
      rw [hQ]; exact fn_iret hx hb hr hlocks (iI_nz (by omega)) hP hD hS ((fun _ => 0), (fun _ _ => 0)) ⟨0, rfl, by omega, (by show (0 = 1 → 0 ≤ p1 ∧ p1 < t_books); omega), trivial⟩ [0] (by decide) rfl dX7_hasBook_17
    · refine lv_iconst (v := iI 1) hx hb dX7_hasBook_12 rfl ?_
      refine lv_goto (tgt := 17) hx hb dX7_hasBook_13 (by decide) ?_
      rw [hQ]; exact fn_iret hx hb hr hlocks (iI_nz (by omega)) hP hD hS ((fun _ => 0), (fun _ _ => 0)) ⟨1, rfl, by omega, (by show (1 = 1 → 0 ≤ p1 ∧ p1 < t_books); omega), trivial⟩ [0] (by decide) rfl dX7_hasBook_17
theorem dX11_bit_0 : decode cX11_bit 0 = .ok (.iload_n 0, 1) := by decide +kernel
theorem dX11_bit_1 : decode cX11_bit 1 = .ok (.ifCond .eq 7, 3) := by decide +kernel
theorem dX11_bit_8 : decode cX11_bit 8 = .ok (.iconst 0, 1) := by decide +kernel
theorem dX11_bit_9 : decode cX11_bit 9 = .ok (.ireturn, 1) := by decide +kernel
theorem dX11_bit_4 : decode cX11_bit 4 = .ok (.iconst 1, 1) := by decide +kernel
theorem dX11_bit_5 : decode cX11_bit 5 = .ok (.goto 4, 3) := by decide +kernel
set_option maxHeartbeats 4000000 in
set_option maxRecDepth 100000 in
theorem k_X11_bit (l : Launch) (D : va_G) (K : Nat → ClassId) (p1 : Int) (hp1 : 0 ≤ p1 ∧ p1 ≤ 1) : fn_CI (S := (Nat → Int) × (Nat → Nat → Int)) l D K yX11_bit (fn_ws yX11_bit cX11_bit 1 (some .int)) ({ frames := 4, cells := 0, slots := 0, locals := 100 } : Room) [.int (iI p1)] [] (fun r u => ∃ k : Int, r = iI k ∧ (0 ≤ k ∧ k ≤ 1) ∧ True) (fun u => []) 0 0 := by
  refine g_inI (cc := cX11_bit) (maxL := 1) (ret := (some .int)) (by decide) rfl (Nat.le_of_ble_eq_true rfl) ?_
  intro p e s m below meth c A ls ag Q B hA hP hD hS hl hQ
  obtain ⟨hx, hb, hr, hml, hts, hown, hlocks, hin, hK⟩ := B
  have hown : s.vm.findClass RX11 = some m.cls := hown
  have hts := fun w h => hts w (List.mem_cons_of_mem _ h)
  have hl : lv_has ls 1 [(0, .int (iI p1))] := hl
  refine lv_iload_n hx hb dX11_bit_0 rfl (lv_at hl 0 rfl) ?_
  refine g_if_eq (tgt := 8) hx hb (by omega) dX11_bit_1 (by decide) (fun c1 => ?_) (fun c1 => ?_)
  · refine lv_iconst (v := iI 0) hx hb dX11_bit_8 rfl ?_
    rw [hQ]; exact fn_iret hx hb hr hlocks rfl hP hD hS ((fun _ => 0), (fun _ _ => 0)) ⟨0, rfl, by omega, trivial⟩ [] (by decide) rfl dX11_bit_9
  · refine lv_iconst (v := iI 1) hx hb dX11_bit_4 rfl ?_
    refine lv_goto (tgt := 9) hx hb dX11_bit_5 (by decide) ?_
    rw [hQ]; exact fn_iret hx hb hr hlocks rfl hP hD hS ((fun _ => 0), (fun _ _ => 0)) ⟨1, rfl, by omega, trivial⟩ [] (by decide) rfl dX11_bit_9
theorem dX7_notesOn_28 : decode cX7_notesOn 28 = .ok (.invokestatic 64, 3) := by decide +kernel
theorem dX7_notesOn_31 : decode cX7_notesOn 31 = .ok (.iadd, 1) := by decide +kernel
theorem dX7_notesOn_32 : decode cX7_notesOn 32 = .ok (.istore_n 2, 1) := by decide +kernel
theorem dX7_notesOn_33 : decode cX7_notesOn 33 = .ok (.iinc 3 1, 3) := by decide +kernel
theorem dX7_notesOn_36 : decode cX7_notesOn 36 = .ok (.goto (-32), 3) := by decide +kernel
theorem dX7_notesOn_4 : decode cX7_notesOn 4 = .ok (.iload_n 3, 1) := by decide +kernel
theorem dX7_notesOn_5 : decode cX7_notesOn 5 = .ok (.aload_n 0, 1) := by decide +kernel
theorem dX7_notesOn_6 : decode cX7_notesOn 6 = .ok (.getfield 46, 3) := by decide +kernel
theorem dX7_notesOn_9 : decode cX7_notesOn 9 = .ok (.if_icmp .ge 30, 3) := by decide +kernel
theorem dX7_notesOn_39 : decode cX7_notesOn 39 = .ok (.iload_n 2, 1) := by decide +kernel
theorem dX7_notesOn_40 : decode cX7_notesOn 40 = .ok (.ireturn, 1) := by decide +kernel
theorem dX7_notesOn_12 : decode cX7_notesOn 12 = .ok (.iload_n 2, 1) := by decide +kernel
theorem dX7_notesOn_13 : decode cX7_notesOn 13 = .ok (.aload_n 0, 1) := by decide +kernel
theorem dX7_notesOn_14 : decode cX7_notesOn 14 = .ok (.getfield 21, 3) := by decide +kernel
theorem dX7_notesOn_17 : decode cX7_notesOn 17 = .ok (.iload_n 3, 1) := by decide +kernel
theorem dX7_notesOn_18 : decode cX7_notesOn 18 = .ok (.iaload, 1) := by decide +kernel
theorem dX7_notesOn_19 : decode cX7_notesOn 19 = .ok (.iload_n 1, 1) := by decide +kernel
theorem dX7_notesOn_20 : decode cX7_notesOn 20 = .ok (.if_icmp .ne 7, 3) := by decide +kernel
theorem dX7_notesOn_27 : decode cX7_notesOn 27 = .ok (.iconst 0, 1) := by decide +kernel
theorem dX7_notesOn_23 : decode cX7_notesOn 23 = .ok (.iconst 1, 1) := by decide +kernel
theorem dX7_notesOn_24 : decode cX7_notesOn 24 = .ok (.goto 4, 3) := by decide +kernel
theorem dX7_notesOn_0 : decode cX7_notesOn 0 = .ok (.iconst 0, 1) := by decide +kernel
theorem dX7_notesOn_1 : decode cX7_notesOn 1 = .ok (.istore_n 2, 1) := by decide +kernel
theorem dX7_notesOn_2 : decode cX7_notesOn 2 = .ok (.iconst 0, 1) := by decide +kernel
theorem dX7_notesOn_3 : decode cX7_notesOn 3 = .ok (.istore_n 3, 1) := by decide +kernel
set_option maxHeartbeats 4000000 in
set_option maxRecDepth 100000 in
theorem k_X7_notesOn (l : Launch) (D : va_G) (K : Nat → ClassId) (t t_scholar t_firstPage t_bookOf t_notePage t_noteBook t_noteLeaf : Nat) (p1 t_lines t_opens t_odds t_books t_pages t_notes t_facts t_dead t_denials : Int) (t_notePage_c : Nat → Int) (hp1 : (-2147483648) ≤ p1 ∧ p1 ≤ 2147483647) (hi_t : 0 ≤ t_lines ∧ t_lines ≤ 1400 ∧ 0 ≤ t_opens ∧ t_opens ≤ 20 ∧ 0 ≤ t_odds ∧ t_odds ≤ 100 ∧ 0 ≤ t_books ∧ t_books ≤ 5 ∧ 0 ≤ t_pages ∧ t_pages ≤ 12 ∧ 0 ≤ t_notes ∧ t_notes ≤ 24 ∧ 0 ≤ t_facts ∧ t_facts ≤ 4095 ∧ 0 ≤ t_dead ∧ t_dead ≤ 31 ∧ (-2147483648) ≤ t_denials ∧ t_denials ≤ 2147483647) (hc_t_notePage : ∀ j, 0 ≤ t_notePage_c j ∧ t_notePage_c j ≤ 11) : fn_CI (S := (Nat → Int) × (Nat → Nat → Int)) l D K yX7_notesOn (fn_ws yX7_notesOn cX7_notesOn 4 (some .int)) ({ frames := 8, cells := 0, slots := 0, locals := 200 } : Room) [.ref t, .int (iI p1)] [(t, .inr (7, [.int (iI t_lines), .int (iI t_opens), .int (iI t_odds), .int (iI t_books), .int (iI t_pages), .int (iI t_notes), .int (iI t_facts), .int (iI t_dead), .int (iI t_denials), .ref t_scholar, .ref t_firstPage, .ref t_bookOf, .ref t_notePage, .ref t_noteBook, .ref t_noteLeaf])), (t_notePage, .inl (K 0, 24, .inl (fun j => iI (t_notePage_c j))))] (fun r u => ∃ k : Int, r = iI k ∧ ((-2147483648) ≤ k ∧ k ≤ 2147483647) ∧ True) (fun u => [(t, .inr (7, [.int (iI t_lines), .int (iI t_opens), .int (iI t_odds), .int (iI t_books), .int (iI t_pages), .int (iI t_notes), .int (iI t_facts), .int (iI t_dead), .int (iI t_denials), .ref t_scholar, .ref t_firstPage, .ref t_bookOf, .ref t_notePage, .ref t_noteBook, .ref t_noteLeaf])), (t_notePage, .inl (K 0, 24, .inl (fun j => iI (t_notePage_c j))))]) 0 0 := by
  refine g_inI (cc := cX7_notesOn) (maxL := 4) (ret := (some .int)) (by decide) rfl (Nat.le_of_ble_eq_true rfl) ?_
  intro p e s m below meth c A ls ag Q B hA hP hD hS hl hQ
  obtain ⟨hx, hb, hr, hml, hts, hown, hlocks, hin, hK⟩ := B
  have hown : s.vm.findClass RX7 = some m.cls := hown
  have hts := fun w h => hts w (List.mem_cons_of_mem _ h)
  have J4 : ∀ (n : Nat) (x4_2 : Int) (x4_3 : Int) (H : Heap) (locs : List Loc) (ls : Array Slot), (24 - x4_3).toNat < n → ((-2147483648) ≤ x4_2 ∧ x4_2 ≤ 2147483647 ∧ 0 ≤ x4_3 ∧ x4_3 ≤ 24) → va_P D vwCl [(t, .inr (7, [.int (iI t_lines), .int (iI t_opens), .int (iI t_odds), .int (iI t_books), .int (iI t_pages), .int (iI t_notes), .int (iI t_facts), .int (iI t_dead), .int (iI t_denials), .ref t_scholar, .ref t_firstPage, .ref t_bookOf, .ref t_notePage, .ref t_noteBook, .ref t_noteLeaf])), (t_notePage, .inl (K 0, 24, .inl (fun j => iI (t_notePage_c j))))] H → va_D A [(t, .inr (7, [.int (iI t_lines), .int (iI t_opens), .int (iI t_odds), .int (iI t_books), .int (iI t_pages), .int (iI t_notes), .int (iI t_facts), .int (iI t_dead), .int (iI t_denials), .ref t_scholar, .ref t_firstPage, .ref t_bookOf, .ref t_notePage, .ref t_noteBook, .ref t_noteLeaf])), (t_notePage, .inl (K 0, 24, .inl (fun j => iI (t_notePage_c j))))] → va_S A s.heap H locs → lv_has ls 4 [(0, .ref t), (1, .int (iI p1)), (2, .int (iI x4_2)), (3, .int (iI x4_3))] → W p l e ({ frames := 8, cells := 0, slots := 0, locals := 200 } : Room) s m ag below meth c H locs 0 0 Q (F0 m 4 ls []) := by
    intro n
    induction n with
    | zero =>
      intro x4_2 x4_3 H locs ls hm4 hf4 hP hD hS hl
      exact absurd hm4 (Nat.not_lt_zero _)
    | succ n ih4 =>
      intro x4_2 x4_3 H locs ls hm4 hf4 hP hD hS hl
      have J28 : ∀ (x28_2 : Int) (x28_3 : Int) (z28_1 : Int) (z28_0 : Int) (H : Heap) (locs : List Loc) (ls : Array Slot), ((-2147483648) ≤ x28_2 ∧ x28_2 ≤ 2147483647 ∧ 0 ≤ x28_3 ∧ x28_3 ≤ 23 ∧ 0 ≤ z28_1 ∧ z28_1 ≤ 1 ∧ (-2147483648) ≤ z28_0 ∧ z28_0 ≤ 2147483647 ∧ 1 ≤ t_notes ∧ t_notes ≤ 24) → va_P D vwCl [(t, .inr (7, [.int (iI t_lines), .int (iI t_opens), .int (iI t_odds), .int (iI t_books), .int (iI t_pages), .int (iI t_notes), .int (iI t_facts), .int (iI t_dead), .int (iI t_denials), .ref t_scholar, .ref t_firstPage, .ref t_bookOf, .ref t_notePage, .ref t_noteBook, .ref t_noteLeaf])), (t_notePage, .inl (K 0, 24, .inl (fun j => iI (t_notePage_c j))))] H → va_D A [(t, .inr (7, [.int (iI t_lines), .int (iI t_opens), .int (iI t_odds), .int (iI t_books), .int (iI t_pages), .int (iI t_notes), .int (iI t_facts), .int (iI t_dead), .int (iI t_denials), .ref t_scholar, .ref t_firstPage, .ref t_bookOf, .ref t_notePage, .ref t_noteBook, .ref t_noteLeaf])), (t_notePage, .inl (K 0, 24, .inl (fun j => iI (t_notePage_c j))))] → va_S A s.heap H locs → lv_has ls 4 [(0, .ref t), (1, .int (iI p1)), (2, .int (iI x28_2)), (3, .int (iI x28_3))] → W p l e ({ frames := 8, cells := 0, slots := 0, locals := 200 } : Room) s m ag below meth c H locs 0 0 Q (F0 m 28 ls [.int (iI z28_1), .int (iI z28_0)]) := by
        intro x28_2 x28_3 z28_1 z28_0 H locs ls hf28 hP hD hS hl
        refine fn_goi (wc := []) (wr := [(t, .inr (7, [.int (iI t_lines), .int (iI t_opens), .int (iI t_odds), .int (iI t_books), .int (iI t_pages), .int (iI t_notes), .int (iI t_facts), .int (iI t_dead), .int (iI t_denials), .ref t_scholar, .ref t_firstPage, .ref t_bookOf, .ref t_notePage, .ref t_noteBook, .ref t_noteLeaf])), (t_notePage, .inl (K 0, 24, .inl (fun j => iI (t_notePage_c j))))]) hK hP hD hS hA [] [0, 1] rfl rfl (by decide) (fun hp => va_runSN (As := [.int (iI z28_1)]) (rest := [.int (iI z28_0)]) ⟨hx, hb, hml, hown, hts⟩ (k_X11_bit (l := l) (D := D) (K := K) (p1 := z28_1) (hp1 := (by omega)) _) ⟨va_cnB (own := RX7) 1 hts (fn_gin wd_605) rfl rfl rfl (hK.nw 102 rfl) (hts _ wd_1) (by decide +kernel) ⟨Nat.le_of_ble_eq_true rfl, Nat.le_of_ble_eq_true rfl⟩, hts _ wd_604, trivial⟩ ⟨fn_blind, hp⟩ rfl rfl hl.1 rfl (lv_room (Nat.le_of_ble_eq_true rfl)) dX7_notesOn_28 ⟨Nat.le_of_ble_eq_true rfl, Nat.le_of_ble_eq_true rfl⟩) (fun r2 u1 H locs hwu1 hP hD hS => ?_)
        obtain ⟨u1a, u1b⟩ := u1
        obtain ⟨kr2, rfl, hkr2, -⟩ := hwu1
        have hP : va_P D vwCl [(t, .inr (7, [.int (iI t_lines), .int (iI t_opens), .int (iI t_odds), .int (iI t_books), .int (iI t_pages), .int (iI t_notes), .int (iI t_facts), .int (iI t_dead), .int (iI t_denials), .ref t_scholar, .ref t_firstPage, .ref t_bookOf, .ref t_notePage, .ref t_noteBook, .ref t_noteLeaf])), (t_notePage, .inl (K 0, 24, .inl (fun j => iI (t_notePage_c j))))] H := hP
        have hD : va_D A [(t, .inr (7, [.int (iI t_lines), .int (iI t_opens), .int (iI t_odds), .int (iI t_books), .int (iI t_pages), .int (iI t_notes), .int (iI t_facts), .int (iI t_dead), .int (iI t_denials), .ref t_scholar, .ref t_firstPage, .ref t_bookOf, .ref t_notePage, .ref t_noteBook, .ref t_noteLeaf])), (t_notePage, .inl (K 0, 24, .inl (fun j => iI (t_notePage_c j))))] := hD
        refine g_iadd hx hb dX7_notesOn_31 ?_
        refine g_any (fun w3 hw3 ew3 => ?_)
        refine lv_istore_n (lv' := [(2, .int (iI w3)), (0, .ref t), (1, .int (iI p1)), (3, .int (iI x28_3))]) hx hb dX7_notesOn_32 rfl hl (by decide) rfl (fun ls hl => ?_)
        refine lv_iinc (v := iI (x28_3 + 1)) (lv' := [(3, .int (iI (x28_3 + 1))), (2, .int (iI w3)), (0, .ref t), (1, .int (iI p1))]) hx hb dX7_notesOn_33 hl (k := 3) rfl (iI_add _ _) (by decide) rfl (fun ls hl => ?_)
        refine lv_goto (tgt := 4) hx hb dX7_notesOn_36 (by decide) ?_
        exact ih4 w3 (x28_3 + 1) H locs ls (by omega) (by omega) (hP.sub [0, 1] rfl) (hD.sub [0, 1] (by decide) rfl) hS (lv_sub hl [2, 3, 1, 0] rfl)
      refine lv_iload_n hx hb dX7_notesOn_4 rfl (lv_at hl 3 rfl) ?_
      refine lv_aload_n hx hb dX7_notesOn_5 rfl (lv_at hl 0 rfl) ?_
      refine va_get (D := D) (own := RX7) (ci := 7) (v := .int (iI t_notes)) (C := RX7) (T := TX7) (N := 15) hx hb hts inb_X7 hown hK.1 hP 0 rfl rfl 5 (by decide) (hts _ wd_92) (fun _ h9 => h9) rfl dX7_notesOn_6 ?_
      refine g_icmp_ge (tgt := 39) hx hb (by omega) (by omega) dX7_notesOn_9 (by decide) (fun c4 => ?_) (fun c4 => ?_)
      · refine lv_iload_n hx hb dX7_notesOn_39 rfl (lv_at hl 2 rfl) ?_
        rw [hQ]; exact fn_iret hx hb hr hlocks rfl hP hD hS ((fun _ => 0), (fun _ _ => 0)) ⟨x4_2, rfl, by omega, trivial⟩ [0, 1] (by decide) rfl dX7_notesOn_40
      · refine lv_iload_n hx hb dX7_notesOn_12 rfl (lv_at hl 2 rfl) ?_
        refine lv_aload_n hx hb dX7_notesOn_13 rfl (lv_at hl 0 rfl) ?_
        refine va_get (D := D) (own := RX7) (ci := 7) (v := .ref t_notePage) (C := RX7) (T := TX7) (N := 15) hx hb hts inb_X7 hown hK.1 hP 0 rfl rfl 12 (by decide) (hts _ wd_116) (fun _ h9 => h9) rfl dX7_notesOn_14 ?_
        refine lv_iload_n hx hb dX7_notesOn_17 rfl (lv_at hl 3 rfl) ?_
        refine g_iald hx hb hK.1 hP 1 0 rfl rfl (by omega) (by omega) (by decide) dX7_notesOn_18 ?_
        have y5 := hc_t_notePage x4_3.toNat
        refine lv_iload_n hx hb dX7_notesOn_19 rfl (lv_at hl 1 rfl) ?_
        refine g_icmp_ne (tgt := 27) hx hb (by omega) (by omega) dX7_notesOn_20 (by decide) (fun c6 => ?_) (fun c6 => ?_)
        · refine lv_iconst (v := iI 0) hx hb dX7_notesOn_27 rfl ?_
          exact J28 x4_2 x4_3 0 x4_2 H locs ls (by omega) (hP.sub [0, 1] rfl) (hD.sub [0, 1] (by decide) rfl) hS (lv_sub hl [0, 1, 2, 3] rfl)
        · refine lv_iconst (v := iI 1) hx hb dX7_notesOn_23 rfl ?_
          refine lv_goto (tgt := 28) hx hb dX7_notesOn_24 (by decide) ?_
          exact J28 x4_2 x4_3 1 x4_2 H locs ls (by omega) (hP.sub [0, 1] rfl) (hD.sub [0, 1] (by decide) rfl) hS (lv_sub hl [0, 1, 2, 3] rfl)
  have hl : lv_has ls 4 [(0, .ref t), (1, .int (iI p1))] := hl
  refine lv_iconst (v := iI 0) hx hb dX7_notesOn_0 rfl ?_
  refine lv_istore_n (lv' := [(2, .int (iI 0)), (0, .ref t), (1, .int (iI p1))]) hx hb dX7_notesOn_1 rfl hl (by decide) rfl (fun ls hl => ?_)
  refine lv_iconst (v := iI 0) hx hb dX7_notesOn_2 rfl ?_
  refine lv_istore_n (lv' := [(3, .int (iI 0)), (2, .int (iI 0)), (0, .ref t), (1, .int (iI p1))]) hx hb dX7_notesOn_3 rfl hl (by decide) rfl (fun ls hl => ?_)
  exact J4 _ 0 0 H locs ls (Nat.lt_succ_self _) (by omega) (hP.sub [0, 1] rfl) (hD.sub [0, 1] (by decide) rfl) hS (lv_sub hl [2, 3, 1, 0] rfl)
theorem dX7_pagesIn_0 : decode cX7_pagesIn 0 = .ok (.aload_n 0, 1) := by decide +kernel
theorem dX7_pagesIn_1 : decode cX7_pagesIn 1 = .ok (.getfield 15, 3) := by decide +kernel
theorem dX7_pagesIn_4 : decode cX7_pagesIn 4 = .ok (.iload_n 1, 1) := by decide +kernel
theorem dX7_pagesIn_5 : decode cX7_pagesIn 5 = .ok (.iconst 1, 1) := by decide +kernel
theorem dX7_pagesIn_6 : decode cX7_pagesIn 6 = .ok (.iadd, 1) := by decide +kernel
theorem dX7_pagesIn_7 : decode cX7_pagesIn 7 = .ok (.iaload, 1) := by decide +kernel
theorem dX7_pagesIn_8 : decode cX7_pagesIn 8 = .ok (.aload_n 0, 1) := by decide +kernel
theorem dX7_pagesIn_9 : decode cX7_pagesIn 9 = .ok (.getfield 15, 3) := by decide +kernel
theorem dX7_pagesIn_12 : decode cX7_pagesIn 12 = .ok (.iload_n 1, 1) := by decide +kernel
theorem dX7_pagesIn_13 : decode cX7_pagesIn 13 = .ok (.iaload, 1) := by decide +kernel
theorem dX7_pagesIn_14 : decode cX7_pagesIn 14 = .ok (.isub, 1) := by decide +kernel
theorem dX7_pagesIn_15 : decode cX7_pagesIn 15 = .ok (.ireturn, 1) := by decide +kernel
set_option maxHeartbeats 4000000 in
set_option maxRecDepth 100000 in
theorem k_X7_pagesIn (l : Launch) (D : va_G) (K : Nat → ClassId) (t t_scholar t_firstPage t_bookOf t_notePage t_noteBook t_noteLeaf : Nat) (p1 t_lines t_opens t_odds t_books t_pages t_notes t_facts t_dead t_denials : Int) (t_firstPage_c : Nat → Int) (hp1 : 0 ≤ p1 ∧ p1 ≤ 4) (hi_t : 0 ≤ t_lines ∧ t_lines ≤ 1400 ∧ 0 ≤ t_opens ∧ t_opens ≤ 20 ∧ 0 ≤ t_odds ∧ t_odds ≤ 100 ∧ 0 ≤ t_books ∧ t_books ≤ 5 ∧ 0 ≤ t_pages ∧ t_pages ≤ 12 ∧ 0 ≤ t_notes ∧ t_notes ≤ 24 ∧ 0 ≤ t_facts ∧ t_facts ≤ 4095 ∧ 0 ≤ t_dead ∧ t_dead ≤ 31 ∧ (-2147483648) ≤ t_denials ∧ t_denials ≤ 2147483647) (hc_t_firstPage : ∀ j, 0 ≤ t_firstPage_c j ∧ t_firstPage_c j ≤ 12) : fn_CI (S := (Nat → Int) × (Nat → Nat → Int)) l D K yX7_pagesIn (fn_ws yX7_pagesIn cX7_pagesIn 2 (some .int)) ({ frames := 4, cells := 0, slots := 0, locals := 100 } : Room) [.ref t, .int (iI p1)] [(t, .inr (7, [.int (iI t_lines), .int (iI t_opens), .int (iI t_odds), .int (iI t_books), .int (iI t_pages), .int (iI t_notes), .int (iI t_facts), .int (iI t_dead), .int (iI t_denials), .ref t_scholar, .ref t_firstPage, .ref t_bookOf, .ref t_notePage, .ref t_noteBook, .ref t_noteLeaf])), (t_firstPage, .inl (K 0, 6, .inl (fun j => iI (t_firstPage_c j))))] (fun r u => ∃ k : Int, r = iI k ∧ ((-12) ≤ k ∧ k ≤ 12) ∧ True) (fun u => [(t, .inr (7, [.int (iI t_lines), .int (iI t_opens), .int (iI t_odds), .int (iI t_books), .int (iI t_pages), .int (iI t_notes), .int (iI t_facts), .int (iI t_dead), .int (iI t_denials), .ref t_scholar, .ref t_firstPage, .ref t_bookOf, .ref t_notePage, .ref t_noteBook, .ref t_noteLeaf])), (t_firstPage, .inl (K 0, 6, .inl (fun j => iI (t_firstPage_c j))))]) 0 0 := by
  refine g_inI (cc := cX7_pagesIn) (maxL := 2) (ret := (some .int)) (by decide) rfl (Nat.le_of_ble_eq_true rfl) ?_
  intro p e s m below meth c A ls ag Q B hA hP hD hS hl hQ
  obtain ⟨hx, hb, hr, hml, hts, hown, hlocks, hin, hK⟩ := B
  have hown : s.vm.findClass RX7 = some m.cls := hown
  have hts := fun w h => hts w (List.mem_cons_of_mem _ h)
  have hl : lv_has ls 2 [(0, .ref t), (1, .int (iI p1))] := hl
  refine lv_aload_n hx hb dX7_pagesIn_0 rfl (lv_at hl 0 rfl) ?_
  refine va_get (D := D) (own := RX7) (ci := 7) (v := .ref t_firstPage) (C := RX7) (T := TX7) (N := 15) hx hb hts inb_X7 hown hK.1 hP 0 rfl rfl 10 (by decide) (hts _ wd_111) (fun _ h9 => h9) rfl dX7_pagesIn_1 ?_
  refine lv_iload_n hx hb dX7_pagesIn_4 rfl (lv_at hl 1 rfl) ?_
  refine lv_iconst (v := iI 1) hx hb dX7_pagesIn_5 rfl ?_
  refine g_iadd hx hb dX7_pagesIn_6 ?_
  refine g_iald hx hb hK.1 hP 1 0 rfl rfl (by omega) (by omega) (by decide) dX7_pagesIn_7 ?_
  have y1 := hc_t_firstPage ((p1 + 1).toNat)
  refine lv_aload_n hx hb dX7_pagesIn_8 rfl (lv_at hl 0 rfl) ?_
  refine va_get (D := D) (own := RX7) (ci := 7) (v := .ref t_firstPage) (C := RX7) (T := TX7) (N := 15) hx hb hts inb_X7 hown hK.1 hP 0 rfl rfl 10 (by decide) (hts _ wd_111) (fun _ h9 => h9) rfl dX7_pagesIn_9 ?_
  refine lv_iload_n hx hb dX7_pagesIn_12 rfl (lv_at hl 1 rfl) ?_
  refine g_iald hx hb hK.1 hP 1 0 rfl rfl (by omega) (by omega) (by decide) dX7_pagesIn_13 ?_
  have y2 := hc_t_firstPage p1.toNat
  refine g_isub hx hb dX7_pagesIn_14 ?_
  rw [hQ]; exact fn_iret hx hb hr hlocks rfl hP hD hS ((fun _ => 0), (fun _ _ => 0)) ⟨t_firstPage_c ((p1 + 1).toNat) - (t_firstPage_c p1.toNat), rfl, by omega, trivial⟩ [0, 1] (by decide) rfl dX7_pagesIn_15
theorem dX7_scholarOf_0 : decode cX7_scholarOf 0 = .ok (.aload_n 0, 1) := by decide +kernel
theorem dX7_scholarOf_1 : decode cX7_scholarOf 1 = .ok (.getfield 9, 3) := by decide +kernel
theorem dX7_scholarOf_4 : decode cX7_scholarOf 4 = .ok (.aload_n 0, 1) := by decide +kernel
theorem dX7_scholarOf_5 : decode cX7_scholarOf 5 = .ok (.getfield 18, 3) := by decide +kernel
theorem dX7_scholarOf_8 : decode cX7_scholarOf 8 = .ok (.iload_n 1, 1) := by decide +kernel
theorem dX7_scholarOf_9 : decode cX7_scholarOf 9 = .ok (.iaload, 1) := by decide +kernel
theorem dX7_scholarOf_10 : decode cX7_scholarOf 10 = .ok (.iaload, 1) := by decide +kernel
theorem dX7_scholarOf_11 : decode cX7_scholarOf 11 = .ok (.ireturn, 1) := by decide +kernel
set_option maxHeartbeats 4000000 in
set_option maxRecDepth 100000 in
theorem k_X7_scholarOf (l : Launch) (D : va_G) (K : Nat → ClassId) (t t_scholar t_firstPage t_bookOf t_notePage t_noteBook t_noteLeaf : Nat) (p1 t_lines t_opens t_odds t_books t_pages t_notes t_facts t_dead t_denials : Int) (t_bookOf_c t_scholar_c : Nat → Int) (hp1 : 0 ≤ p1 ∧ p1 ≤ 11) (hi_t : 0 ≤ t_lines ∧ t_lines ≤ 1400 ∧ 0 ≤ t_opens ∧ t_opens ≤ 20 ∧ 0 ≤ t_odds ∧ t_odds ≤ 100 ∧ 0 ≤ t_books ∧ t_books ≤ 5 ∧ 0 ≤ t_pages ∧ t_pages ≤ 12 ∧ 0 ≤ t_notes ∧ t_notes ≤ 24 ∧ 0 ≤ t_facts ∧ t_facts ≤ 4095 ∧ 0 ≤ t_dead ∧ t_dead ≤ 31 ∧ (-2147483648) ≤ t_denials ∧ t_denials ≤ 2147483647) (hc_t_bookOf : ∀ j, 0 ≤ t_bookOf_c j ∧ t_bookOf_c j ≤ 4) (hc_t_scholar : ∀ j, 0 ≤ t_scholar_c j ∧ t_scholar_c j ≤ 4) : fn_CI (S := (Nat → Int) × (Nat → Nat → Int)) l D K yX7_scholarOf (fn_ws yX7_scholarOf cX7_scholarOf 2 (some .int)) ({ frames := 4, cells := 0, slots := 0, locals := 100 } : Room) [.ref t, .int (iI p1)] [(t, .inr (7, [.int (iI t_lines), .int (iI t_opens), .int (iI t_odds), .int (iI t_books), .int (iI t_pages), .int (iI t_notes), .int (iI t_facts), .int (iI t_dead), .int (iI t_denials), .ref t_scholar, .ref t_firstPage, .ref t_bookOf, .ref t_notePage, .ref t_noteBook, .ref t_noteLeaf])), (t_bookOf, .inl (K 0, 12, .inl (fun j => iI (t_bookOf_c j)))), (t_scholar, .inl (K 0, 5, .inl (fun j => iI (t_scholar_c j))))] (fun r u => ∃ k : Int, r = iI k ∧ (0 ≤ k ∧ k ≤ 4) ∧ True) (fun u => [(t, .inr (7, [.int (iI t_lines), .int (iI t_opens), .int (iI t_odds), .int (iI t_books), .int (iI t_pages), .int (iI t_notes), .int (iI t_facts), .int (iI t_dead), .int (iI t_denials), .ref t_scholar, .ref t_firstPage, .ref t_bookOf, .ref t_notePage, .ref t_noteBook, .ref t_noteLeaf])), (t_bookOf, .inl (K 0, 12, .inl (fun j => iI (t_bookOf_c j)))), (t_scholar, .inl (K 0, 5, .inl (fun j => iI (t_scholar_c j))))]) 0 0 := by
  refine g_inI (cc := cX7_scholarOf) (maxL := 2) (ret := (some .int)) (by decide) rfl (Nat.le_of_ble_eq_true rfl) ?_
  intro p e s m below meth c A ls ag Q B hA hP hD hS hl hQ
  obtain ⟨hx, hb, hr, hml, hts, hown, hlocks, hin, hK⟩ := B
  have hown : s.vm.findClass RX7 = some m.cls := hown
  have hts := fun w h => hts w (List.mem_cons_of_mem _ h)
  have hl : lv_has ls 2 [(0, .ref t), (1, .int (iI p1))] := hl
  refine lv_aload_n hx hb dX7_scholarOf_0 rfl (lv_at hl 0 rfl) ?_
  refine va_get (D := D) (own := RX7) (ci := 7) (v := .ref t_scholar) (C := RX7) (T := TX7) (N := 15) hx hb hts inb_X7 hown hK.1 hP 0 rfl rfl 9 (by decide) (hts _ wd_109) (fun _ h9 => h9) rfl dX7_scholarOf_1 ?_
  refine lv_aload_n hx hb dX7_scholarOf_4 rfl (lv_at hl 0 rfl) ?_
  refine va_get (D := D) (own := RX7) (ci := 7) (v := .ref t_bookOf) (C := RX7) (T := TX7) (N := 15) hx hb hts inb_X7 hown hK.1 hP 0 rfl rfl 11 (by decide) (hts _ wd_113) (fun _ h9 => h9) rfl dX7_scholarOf_5 ?_
  refine lv_iload_n hx hb dX7_scholarOf_8 rfl (lv_at hl 1 rfl) ?_
  refine g_iald hx hb hK.1 hP 1 0 rfl rfl (by omega) (by omega) (by decide) dX7_scholarOf_9 ?_
  have y1 := hc_t_bookOf p1.toNat
  refine g_iald hx hb hK.1 hP 2 0 rfl rfl (by omega) (by omega) (by decide) dX7_scholarOf_10 ?_
  have y2 := hc_t_scholar ((t_bookOf_c p1.toNat).toNat)
  rw [hQ]; exact fn_iret hx hb hr hlocks rfl hP hD hS ((fun _ => 0), (fun _ _ => 0)) ⟨t_scholar_c ((t_bookOf_c p1.toNat).toNat), rfl, by omega, trivial⟩ [0, 1, 2] (by decide) rfl dX7_scholarOf_11
theorem dX7_targetAtFirst_0 : decode cX7_targetAtFirst 0 = .ok (.aload_n 0, 1) := by decide +kernel
theorem dX7_targetAtFirst_1 : decode cX7_targetAtFirst 1 = .ok (.getfield 24, 3) := by decide +kernel
theorem dX7_targetAtFirst_4 : decode cX7_targetAtFirst 4 = .ok (.iload_n 1, 1) := by decide +kernel
theorem dX7_targetAtFirst_5 : decode cX7_targetAtFirst 5 = .ok (.iaload, 1) := by decide +kernel
theorem dX7_targetAtFirst_6 : decode cX7_targetAtFirst 6 = .ok (.istore_n 2, 1) := by decide +kernel
theorem dX7_targetAtFirst_7 : decode cX7_targetAtFirst 7 = .ok (.aload_n 0, 1) := by decide +kernel
theorem dX7_targetAtFirst_8 : decode cX7_targetAtFirst 8 = .ok (.getfield 27, 3) := by decide +kernel
theorem dX7_targetAtFirst_11 : decode cX7_targetAtFirst 11 = .ok (.iload_n 1, 1) := by decide +kernel
theorem dX7_targetAtFirst_12 : decode cX7_targetAtFirst 12 = .ok (.iaload, 1) := by decide +kernel
theorem dX7_targetAtFirst_13 : decode cX7_targetAtFirst 13 = .ok (.aload_n 0, 1) := by decide +kernel
theorem dX7_targetAtFirst_14 : decode cX7_targetAtFirst 14 = .ok (.iload_n 2, 1) := by decide +kernel
theorem dX7_targetAtFirst_15 : decode cX7_targetAtFirst 15 = .ok (.invokevirtual 68, 3) := by decide +kernel
theorem dX7_targetAtFirst_18 : decode cX7_targetAtFirst 18 = .ok (.if_icmp .ge 19, 3) := by decide +kernel
theorem dX7_targetAtFirst_37 : decode cX7_targetAtFirst 37 = .ok (.iconst (-1), 1) := by decide +kernel
theorem dX7_targetAtFirst_38 : decode cX7_targetAtFirst 38 = .ok (.ireturn, 1) := by decide +kernel
theorem dX7_targetAtFirst_21 : decode cX7_targetAtFirst 21 = .ok (.aload_n 0, 1) := by decide +kernel
theorem dX7_targetAtFirst_22 : decode cX7_targetAtFirst 22 = .ok (.getfield 15, 3) := by decide +kernel
theorem dX7_targetAtFirst_25 : decode cX7_targetAtFirst 25 = .ok (.iload_n 2, 1) := by decide +kernel
theorem dX7_targetAtFirst_26 : decode cX7_targetAtFirst 26 = .ok (.iaload, 1) := by decide +kernel
theorem dX7_targetAtFirst_27 : decode cX7_targetAtFirst 27 = .ok (.aload_n 0, 1) := by decide +kernel
theorem dX7_targetAtFirst_28 : decode cX7_targetAtFirst 28 = .ok (.getfield 27, 3) := by decide +kernel
theorem dX7_targetAtFirst_31 : decode cX7_targetAtFirst 31 = .ok (.iload_n 1, 1) := by decide +kernel
theorem dX7_targetAtFirst_32 : decode cX7_targetAtFirst 32 = .ok (.iaload, 1) := by decide +kernel
theorem dX7_targetAtFirst_33 : decode cX7_targetAtFirst 33 = .ok (.iadd, 1) := by decide +kernel
theorem dX7_targetAtFirst_34 : decode cX7_targetAtFirst 34 = .ok (.goto 4, 3) := by decide +kernel
set_option maxHeartbeats 4000000 in
set_option maxRecDepth 100000 in
theorem k_X7_targetAtFirst (l : Launch) (D : va_G) (K : Nat → ClassId) (t t_scholar t_firstPage t_bookOf t_notePage t_noteBook t_noteLeaf : Nat) (p1 t_lines t_opens t_odds t_books t_pages t_notes t_facts t_dead t_denials : Int) (t_noteBook_c t_noteLeaf_c t_firstPage_c : Nat → Int) (hp1 : 0 ≤ p1 ∧ p1 ≤ 23) (hi_t : 0 ≤ t_lines ∧ t_lines ≤ 1400 ∧ 0 ≤ t_opens ∧ t_opens ≤ 20 ∧ 0 ≤ t_odds ∧ t_odds ≤ 100 ∧ 0 ≤ t_books ∧ t_books ≤ 5 ∧ 0 ≤ t_pages ∧ t_pages ≤ 12 ∧ 0 ≤ t_notes ∧ t_notes ≤ 24 ∧ 0 ≤ t_facts ∧ t_facts ≤ 4095 ∧ 0 ≤ t_dead ∧ t_dead ≤ 31 ∧ (-2147483648) ≤ t_denials ∧ t_denials ≤ 2147483647) (hc_t_noteBook : ∀ j, 0 ≤ t_noteBook_c j ∧ t_noteBook_c j ≤ 4) (hc_t_noteLeaf : ∀ j, 0 ≤ t_noteLeaf_c j ∧ t_noteLeaf_c j ≤ 29) (hc_t_firstPage : ∀ j, 0 ≤ t_firstPage_c j ∧ t_firstPage_c j ≤ 12) : fn_CI (S := (Nat → Int) × (Nat → Nat → Int)) l D K yX7_targetAtFirst (fn_ws yX7_targetAtFirst cX7_targetAtFirst 3 (some .int)) ({ frames := 8, cells := 0, slots := 0, locals := 200 } : Room) [.ref t, .int (iI p1)] [(t, .inr (7, [.int (iI t_lines), .int (iI t_opens), .int (iI t_odds), .int (iI t_books), .int (iI t_pages), .int (iI t_notes), .int (iI t_facts), .int (iI t_dead), .int (iI t_denials), .ref t_scholar, .ref t_firstPage, .ref t_bookOf, .ref t_notePage, .ref t_noteBook, .ref t_noteLeaf])), (t_noteBook, .inl (K 0, 24, .inl (fun j => iI (t_noteBook_c j)))), (t_noteLeaf, .inl (K 0, 24, .inl (fun j => iI (t_noteLeaf_c j)))), (t_firstPage, .inl (K 0, 6, .inl (fun j => iI (t_firstPage_c j))))] (fun r u => ∃ k : Int, r = iI k ∧ ((-1) ≤ k ∧ k ≤ 23) ∧ True) (fun u => [(t, .inr (7, [.int (iI t_lines), .int (iI t_opens), .int (iI t_odds), .int (iI t_books), .int (iI t_pages), .int (iI t_notes), .int (iI t_facts), .int (iI t_dead), .int (iI t_denials), .ref t_scholar, .ref t_firstPage, .ref t_bookOf, .ref t_notePage, .ref t_noteBook, .ref t_noteLeaf])), (t_noteBook, .inl (K 0, 24, .inl (fun j => iI (t_noteBook_c j)))), (t_noteLeaf, .inl (K 0, 24, .inl (fun j => iI (t_noteLeaf_c j)))), (t_firstPage, .inl (K 0, 6, .inl (fun j => iI (t_firstPage_c j))))]) 0 0 := by
  refine g_inI (cc := cX7_targetAtFirst) (maxL := 3) (ret := (some .int)) (by decide) rfl (Nat.le_of_ble_eq_true rfl) ?_
  intro p e s m below meth c A ls ag Q B hA hP hD hS hl hQ
  obtain ⟨hx, hb, hr, hml, hts, hown, hlocks, hin, hK⟩ := B
  have hown : s.vm.findClass RX7 = some m.cls := hown
  have hts := fun w h => hts w (List.mem_cons_of_mem _ h)
  have hl : lv_has ls 3 [(0, .ref t), (1, .int (iI p1))] := hl
  refine lv_aload_n hx hb dX7_targetAtFirst_0 rfl (lv_at hl 0 rfl) ?_
  refine va_get (D := D) (own := RX7) (ci := 7) (v := .ref t_noteBook) (C := RX7) (T := TX7) (N := 15) hx hb hts inb_X7 hown hK.1 hP 0 rfl rfl 13 (by decide) (hts _ wd_122) (fun _ h9 => h9) rfl dX7_targetAtFirst_1 ?_
  refine lv_iload_n hx hb dX7_targetAtFirst_4 rfl (lv_at hl 1 rfl) ?_
  refine g_iald hx hb hK.1 hP 1 0 rfl rfl (by omega) (by omega) (by decide) dX7_targetAtFirst_5 ?_
  have y1 := hc_t_noteBook p1.toNat
  refine lv_istore_n (lv' := [(2, .int (iI (t_noteBook_c p1.toNat))), (0, .ref t), (1, .int (iI p1))]) hx hb dX7_targetAtFirst_6 rfl hl (by decide) rfl (fun ls hl => ?_)
  refine lv_aload_n hx hb dX7_targetAtFirst_7 rfl (lv_at hl 1 rfl) ?_
  refine va_get (D := D) (own := RX7) (ci := 7) (v := .ref t_noteLeaf) (C := RX7) (T := TX7) (N := 15) hx hb hts inb_X7 hown hK.1 hP 0 rfl rfl 14 (by decide) (hts _ wd_125) (fun _ h9 => h9) rfl dX7_targetAtFirst_8 ?_
  refine lv_iload_n hx hb dX7_targetAtFirst_11 rfl (lv_at hl 2 rfl) ?_
  refine g_iald hx hb hK.1 hP 2 0 rfl rfl (by omega) (by omega) (by decide) dX7_targetAtFirst_12 ?_
  have y2 := hc_t_noteLeaf p1.toNat
  refine lv_aload_n hx hb dX7_targetAtFirst_13 rfl (lv_at hl 1 rfl) ?_
  refine lv_iload_n hx hb dX7_targetAtFirst_14 rfl (lv_at hl 0 rfl) ?_
  refine fn_goi (wc := [(t, .inr (7, [.int (iI t_lines), .int (iI t_opens), .int (iI t_odds), .int (iI t_books), .int (iI t_pages), .int (iI t_notes), .int (iI t_facts), .int (iI t_dead), .int (iI t_denials), .ref t_scholar, .ref t_firstPage, .ref t_bookOf, .ref t_notePage, .ref t_noteBook, .ref t_noteLeaf])), (t_firstPage, .inl (K 0, 6, .inl (fun j => iI (t_firstPage_c j))))]) (wr := [(t_noteBook, .inl (K 0, 24, .inl (fun j => iI (t_noteBook_c j)))), (t_noteLeaf, .inl (K 0, 24, .inl (fun j => iI (t_noteLeaf_c j))))]) hK hP hD hS hA [0, 3] [1, 2] rfl rfl (by decide) (fun hp => va_runV (C := RX7) (As := [.int (iI (t_noteBook_c p1.toNat))]) (rest := [.int (iI (t_noteLeaf_c p1.toNat))]) ⟨hx, hb, hml, hown, hts⟩ (k_X7_pagesIn (l := l) (D := D) (K := K) (t := t) (t_scholar := t_scholar) (t_firstPage := t_firstPage) (t_bookOf := t_bookOf) (t_notePage := t_notePage) (t_noteBook := t_noteBook) (t_noteLeaf := t_noteLeaf) (p1 := (t_noteBook_c p1.toNat)) (t_lines := t_lines) (t_opens := t_opens) (t_odds := t_odds) (t_books := t_books) (t_pages := t_pages) (t_notes := t_notes) (t_facts := t_facts) (t_dead := t_dead) (t_denials := t_denials) (t_firstPage_c := t_firstPage_c) (hp1 := (by omega)) (hi_t := (by omega)) (hc_t_firstPage := hc_t_firstPage) _) (cwV 1 hts (fn_ginV (fn_gin wd_630) wd_701 wd_629 wp_20 wd_4) rfl rfl rfl (by decide +kernel) ⟨Nat.le_of_ble_eq_true rfl, Nat.le_of_ble_eq_true rfl⟩) ⟨fn_blind, va_recv hK.1 hP (ci := 7) (q0 := 0) rfl rfl, hp⟩ rfl rfl hl.1 rfl (lv_room (Nat.le_of_ble_eq_true rfl)) dX7_targetAtFirst_15 ⟨Nat.le_of_ble_eq_true rfl, Nat.le_of_ble_eq_true rfl⟩) (fun r4 u3 H locs hwu3 hP hD hS => ?_)
  obtain ⟨u3a, u3b⟩ := u3
  obtain ⟨kr4, rfl, hkr4, -⟩ := hwu3
  have hP : va_P D vwCl [(t_noteBook, .inl (K 0, 24, .inl (fun j => iI (t_noteBook_c j)))), (t_noteLeaf, .inl (K 0, 24, .inl (fun j => iI (t_noteLeaf_c j)))), (t, .inr (7, [.int (iI t_lines), .int (iI t_opens), .int (iI t_odds), .int (iI t_books), .int (iI t_pages), .int (iI t_notes), .int (iI t_facts), .int (iI t_dead), .int (iI t_denials), .ref t_scholar, .ref t_firstPage, .ref t_bookOf, .ref t_notePage, .ref t_noteBook, .ref t_noteLeaf])), (t_firstPage, .inl (K 0, 6, .inl (fun j => iI (t_firstPage_c j))))] H := hP
  have hD : va_D A [(t_noteBook, .inl (K 0, 24, .inl (fun j => iI (t_noteBook_c j)))), (t_noteLeaf, .inl (K 0, 24, .inl (fun j => iI (t_noteLeaf_c j)))), (t, .inr (7, [.int (iI t_lines), .int (iI t_opens), .int (iI t_odds), .int (iI t_books), .int (iI t_pages), .int (iI t_notes), .int (iI t_facts), .int (iI t_dead), .int (iI t_denials), .ref t_scholar, .ref t_firstPage, .ref t_bookOf, .ref t_notePage, .ref t_noteBook, .ref t_noteLeaf])), (t_firstPage, .inl (K 0, 6, .inl (fun j => iI (t_firstPage_c j))))] := hD
  refine g_icmp_ge (tgt := 37) hx hb (by omega) (by omega) dX7_targetAtFirst_18 (by decide) (fun c5 => ?_) (fun c5 => ?_)
  · refine lv_iconst (v := iI (-1)) hx hb dX7_targetAtFirst_37 rfl ?_
    rw [hQ]; exact fn_iret hx hb hr hlocks rfl hP hD hS ((fun _ => 0), (fun _ _ => 0)) ⟨(-1), rfl, by omega, trivial⟩ [2, 0, 1, 3] (by decide) rfl dX7_targetAtFirst_38
  · refine lv_aload_n hx hb dX7_targetAtFirst_21 rfl (lv_at hl 1 rfl) ?_
    refine va_get (D := D) (own := RX7) (ci := 7) (v := .ref t_firstPage) (C := RX7) (T := TX7) (N := 15) hx hb hts inb_X7 hown hK.1 hP 2 rfl rfl 10 (by decide) (hts _ wd_111) (fun _ h9 => h9) rfl dX7_targetAtFirst_22 ?_
    refine lv_iload_n hx hb dX7_targetAtFirst_25 rfl (lv_at hl 0 rfl) ?_
    refine g_iald hx hb hK.1 hP 3 0 rfl rfl (by omega) (by omega) (by decide) dX7_targetAtFirst_26 ?_
    have y6 := hc_t_firstPage ((t_noteBook_c p1.toNat).toNat)
    refine lv_aload_n hx hb dX7_targetAtFirst_27 rfl (lv_at hl 1 rfl) ?_
    refine va_get (D := D) (own := RX7) (ci := 7) (v := .ref t_noteLeaf) (C := RX7) (T := TX7) (N := 15) hx hb hts inb_X7 hown hK.1 hP 2 rfl rfl 14 (by decide) (hts _ wd_125) (fun _ h9 => h9) rfl dX7_targetAtFirst_28 ?_
    refine fn_at 31 rfl ?_
    refine lv_iload_n hx hb dX7_targetAtFirst_31 rfl (lv_at hl 2 rfl) ?_
    refine g_iald hx hb hK.1 hP 1 0 rfl rfl (by omega) (by omega) (by decide) dX7_targetAtFirst_32 ?_
    refine g_iadd hx hb dX7_targetAtFirst_33 ?_
    refine lv_goto (tgt := 38) hx hb dX7_targetAtFirst_34 (by decide) ?_
    rw [hQ]; exact fn_iret hx hb hr hlocks rfl hP hD hS ((fun _ => 0), (fun _ _ => 0)) ⟨t_firstPage_c ((t_noteBook_c p1.toNat).toNat) + (t_noteLeaf_c p1.toNat), rfl, by omega, trivial⟩ [2, 0, 1, 3] (by decide) rfl dX7_targetAtFirst_38
theorem dX11_noTown_0 : decode cX11_noTown 0 = .ok (.aload_n 0, 1) := by decide +kernel
theorem dX11_noTown_1 : decode cX11_noTown 1 = .ok (.getfield 19, 3) := by decide +kernel
theorem dX11_noTown_4 : decode cX11_noTown 4 = .ok (.getfield 120, 3) := by decide +kernel
theorem dX11_noTown_7 : decode cX11_noTown 7 = .ok (.ifCond .ne 7, 3) := by decide +kernel
theorem dX11_noTown_14 : decode cX11_noTown 14 = .ok (.iconst 0, 1) := by decide +kernel
theorem dX11_noTown_15 : decode cX11_noTown 15 = .ok (.ireturn, 1) := by decide +kernel
theorem dX11_noTown_10 : decode cX11_noTown 10 = .ok (.iconst 1, 1) := by decide +kernel
theorem dX11_noTown_11 : decode cX11_noTown 11 = .ok (.goto 4, 3) := by decide +kernel
set_option maxHeartbeats 4000000 in
set_option maxRecDepth 100000 in
theorem k_X11_noTown (l : Launch) (D : va_G) (K : Nat → ClassId) (t t_reader t_text t_shelf t_imageTexts t_imageShelves t_imageKept t_rows t_web t_shakenWeb t_faith t_tour t_precedence t_ledger t_text_scholar t_text_firstPage t_text_bookOf t_text_notePage t_text_noteBook t_text_noteLeaf : Nat) (t_text_lines t_text_opens t_text_odds t_text_books t_text_pages t_text_notes t_text_facts t_text_dead t_text_denials : Int) (hi_t_text : 0 ≤ t_text_lines ∧ t_text_lines ≤ 1400 ∧ 0 ≤ t_text_opens ∧ t_text_opens ≤ 20 ∧ 0 ≤ t_text_odds ∧ t_text_odds ≤ 100 ∧ 0 ≤ t_text_books ∧ t_text_books ≤ 5 ∧ 0 ≤ t_text_pages ∧ t_text_pages ≤ 12 ∧ 0 ≤ t_text_notes ∧ t_text_notes ≤ 24 ∧ 0 ≤ t_text_facts ∧ t_text_facts ≤ 4095 ∧ 0 ≤ t_text_dead ∧ t_text_dead ≤ 31 ∧ (-2147483648) ≤ t_text_denials ∧ t_text_denials ≤ 2147483647) : fn_CI (S := (Nat → Int) × (Nat → Nat → Int)) l D K yX11_noTown (fn_ws yX11_noTown cX11_noTown 1 (some .boolean)) ({ frames := 4, cells := 0, slots := 0, locals := 100 } : Room) [.ref t] [(t, .inr (11, [.ref t_reader, .ref t_text, .ref t_shelf, .ref t_imageTexts, .ref t_imageShelves, .ref t_imageKept, .ref t_rows, .ref t_web, .ref t_shakenWeb, .ref t_faith, .ref t_tour, .ref t_precedence, .ref t_ledger])), (t_text, .inr (7, [.int (iI t_text_lines), .int (iI t_text_opens), .int (iI t_text_odds), .int (iI t_text_books), .int (iI t_text_pages), .int (iI t_text_notes), .int (iI t_text_facts), .int (iI t_text_dead), .int (iI t_text_denials), .ref t_text_scholar, .ref t_text_firstPage, .ref t_text_bookOf, .ref t_text_notePage, .ref t_text_noteBook, .ref t_text_noteLeaf]))] (fun r u => ∃ k : Int, r = iI k ∧ (0 ≤ k ∧ k ≤ 1) ∧ True) (fun u => [(t, .inr (11, [.ref t_reader, .ref t_text, .ref t_shelf, .ref t_imageTexts, .ref t_imageShelves, .ref t_imageKept, .ref t_rows, .ref t_web, .ref t_shakenWeb, .ref t_faith, .ref t_tour, .ref t_precedence, .ref t_ledger])), (t_text, .inr (7, [.int (iI t_text_lines), .int (iI t_text_opens), .int (iI t_text_odds), .int (iI t_text_books), .int (iI t_text_pages), .int (iI t_text_notes), .int (iI t_text_facts), .int (iI t_text_dead), .int (iI t_text_denials), .ref t_text_scholar, .ref t_text_firstPage, .ref t_text_bookOf, .ref t_text_notePage, .ref t_text_noteBook, .ref t_text_noteLeaf]))]) 0 0 := by
  refine g_inI (cc := cX11_noTown) (maxL := 1) (ret := (some .boolean)) (by decide) rfl (Nat.le_of_ble_eq_true rfl) ?_
  intro p e s m below meth c A ls ag Q B hA hP hD hS hl hQ
  obtain ⟨hx, hb, hr, hml, hts, hown, hlocks, hin, hK⟩ := B
  have hown : s.vm.findClass RX11 = some m.cls := hown
  have hts := fun w h => hts w (List.mem_cons_of_mem _ h)
  have hl : lv_has ls 1 [(0, .ref t)] := hl
  refine lv_aload_n hx hb dX11_noTown_0 rfl (lv_at hl 0 rfl) ?_
  refine va_get (D := D) (own := RX11) (ci := 11) (v := .ref t_text) (C := RX11) (T := TX11) (N := 13) hx hb hts inb_X11 hown hK.1 hP 0 rfl rfl 1 (by decide) (hts _ wd_423) (fun _ h9 => h9) rfl dX11_noTown_1 ?_
  refine va_getN (D := D) (own := RX11) (ci := 7) (v := .int (iI t_text_lines)) (C := RX7) (T := TX7) (N := 15) hx hb hts inb_X7 hown hK.1 hP 1 rfl rfl 0 (by decide) (hK.nf 7 rfl) (fun _ h9 => h9) rfl dX11_noTown_4 ?_
  refine g_if_ne (tgt := 14) hx hb (by omega) dX11_noTown_7 (by decide) (fun c1 => ?_) (fun c1 => ?_)
  · refine lv_iconst (v := iI 0) hx hb dX11_noTown_14 rfl ?_
    rw [hQ]; exact fn_iret hx hb hr hlocks (iI_nz (by omega)) hP hD hS ((fun _ => 0), (fun _ _ => 0)) ⟨0, rfl, by omega, trivial⟩ [0, 1] (by decide) rfl dX11_noTown_15
  · refine lv_iconst (v := iI 1) hx hb dX11_noTown_10 rfl ?_
    refine lv_goto (tgt := 15) hx hb dX11_noTown_11 (by decide) ?_
    rw [hQ]; exact fn_iret hx hb hr hlocks (iI_nz (by omega)) hP hD hS ((fun _ => 0), (fun _ _ => 0)) ⟨1, rfl, by omega, trivial⟩ [0, 1] (by decide) rfl dX11_noTown_15
theorem dX6_put_3 : decode cX6_put 3 = .ok (.iload_n 2, 1) := by decide +kernel
theorem dX6_put_4 : decode cX6_put 4 = .ok (.ifCond .lt 42, 3) := by decide +kernel
theorem dX6_put_46 : decode cX6_put 46 = .ok (.return_, 1) := by decide +kernel
theorem dX6_put_7 : decode cX6_put 7 = .ok (.aload_n 0, 1) := by decide +kernel
theorem dX6_put_8 : decode cX6_put 8 = .ok (.getfield 15, 3) := by decide +kernel
theorem dX6_put_11 : decode cX6_put 11 = .ok (.sipush 1400, 3) := by decide +kernel
theorem dX6_put_14 : decode cX6_put 14 = .ok (.if_icmp .ge 32, 3) := by decide +kernel
theorem dX6_put_17 : decode cX6_put 17 = .ok (.aload_n 0, 1) := by decide +kernel
theorem dX6_put_18 : decode cX6_put 18 = .ok (.getfield 9, 3) := by decide +kernel
theorem dX6_put_21 : decode cX6_put 21 = .ok (.aload_n 0, 1) := by decide +kernel
theorem dX6_put_22 : decode cX6_put 22 = .ok (.getfield 15, 3) := by decide +kernel
theorem dX6_put_25 : decode cX6_put 25 = .ok (.iload_n 1, 1) := by decide +kernel
theorem dX6_put_26 : decode cX6_put 26 = .ok (.iload_n 2, 1) := by decide +kernel
theorem dX6_put_27 : decode cX6_put 27 = .ok (.ishr, 1) := by decide +kernel
theorem dX6_put_28 : decode cX6_put 28 = .ok (.i2b, 1) := by decide +kernel
theorem dX6_put_29 : decode cX6_put 29 = .ok (.bastore, 1) := by decide +kernel
theorem dX6_put_30 : decode cX6_put 30 = .ok (.aload_n 0, 1) := by decide +kernel
theorem dX6_put_31 : decode cX6_put 31 = .ok (.dup, 1) := by decide +kernel
theorem dX6_put_32 : decode cX6_put 32 = .ok (.getfield 15, 3) := by decide +kernel
theorem dX6_put_35 : decode cX6_put 35 = .ok (.iconst 1, 1) := by decide +kernel
theorem dX6_put_36 : decode cX6_put 36 = .ok (.iadd, 1) := by decide +kernel
theorem dX6_put_37 : decode cX6_put 37 = .ok (.putfield 15, 3) := by decide +kernel
theorem dX6_put_40 : decode cX6_put 40 = .ok (.iinc 2 (-8), 3) := by decide +kernel
theorem dX6_put_43 : decode cX6_put 43 = .ok (.goto (-40), 3) := by decide +kernel
theorem dX6_put_0 : decode cX6_put 0 = .ok (.bipush 24, 2) := by decide +kernel
theorem dX6_put_2 : decode cX6_put 2 = .ok (.istore_n 2, 1) := by decide +kernel
set_option maxHeartbeats 4000000 in
set_option maxRecDepth 100000 in
theorem k_X6_put (l : Launch) (D : va_G) (K : Nat → ClassId) (t t_bytes : Nat) (p1 t_size t_kind t_start t_stop : Int) (t_bytes_c : Nat → Int) (hp1 : (-2147483648) ≤ p1 ∧ p1 ≤ 2147483647) (hi_t : 0 ≤ t_size ∧ t_size ≤ 1400 ∧ 0 ≤ t_kind ∧ t_kind ≤ 4 ∧ 0 ≤ t_start ∧ t_start ≤ 1400 ∧ 0 ≤ t_stop ∧ t_stop ≤ 1400) (hc_t_bytes : ∀ j, (-128) ≤ t_bytes_c j ∧ t_bytes_c j ≤ 127) : fn_CV (S := (Nat → Int) × (Nat → Nat → Int)) l D K yX6_put (fn_ws yX6_put cX6_put 3 none) ({ frames := 4, cells := 0, slots := 0, locals := 100 } : Room) [.ref t, .int (iI p1)] [(t, .inr (6, [.int (iI t_size), .ref t_bytes, .int (iI t_kind), .int (iI t_start), .int (iI t_stop)])), (t_bytes, .inl (K 1, 1400, .inl (fun j => iI (t_bytes_c j))))] (fun u => (0 ≤ (u.1 0) ∧ (u.1 0) ≤ 1400) ∧ (∀ j, (-128) ≤ (u.2 0) j ∧ (u.2 0) j ≤ 127) ∧ True) (fun u => [(t, .inr (6, [.int (iI (u.1 0)), .ref t_bytes, .int (iI t_kind), .int (iI t_start), .int (iI t_stop)])), (t_bytes, .inl (K 1, 1400, .inl (fun j => iI ((u.2 0) j))))]) 0 0 := by
  refine g_inV (cc := cX6_put) (maxL := 3) (ret := none) (by decide) rfl (Nat.le_of_ble_eq_true rfl) ?_
  intro p e s m below meth c A ls ag Q B hA hP hD hS hl hQ
  obtain ⟨hx, hb, hr, hml, hts, hown, hlocks, hin, hK⟩ := B
  have hown : s.vm.findClass RX6 = some m.cls := hown
  have hts := fun w h => hts w (List.mem_cons_of_mem _ h)
  have J3 : ∀ (n : Nat) (x3_2 : Int) (f3_t_0 : Int) (c3_t_bytes : Nat → Int) (H : Heap) (locs : List Loc) (ls : Array Slot), (x3_2 - (-8)).toNat < n → ((-8) ≤ x3_2 ∧ x3_2 ≤ 24 ∧ 0 ≤ f3_t_0 ∧ f3_t_0 ≤ 1400) → (∀ j, (-128) ≤ c3_t_bytes j ∧ c3_t_bytes j ≤ 127) → va_P D vwCl [(t, .inr (6, [.int (iI f3_t_0), .ref t_bytes, .int (iI t_kind), .int (iI t_start), .int (iI t_stop)])), (t_bytes, .inl (K 1, 1400, .inl (fun j => iI (c3_t_bytes j))))] H → va_D A [(t, .inr (6, [.int (iI f3_t_0), .ref t_bytes, .int (iI t_kind), .int (iI t_start), .int (iI t_stop)])), (t_bytes, .inl (K 1, 1400, .inl (fun j => iI (c3_t_bytes j))))] → va_S A s.heap H locs → lv_has ls 3 [(0, .ref t), (1, .int (iI p1)), (2, .int (iI x3_2))] → W p l e ({ frames := 4, cells := 0, slots := 0, locals := 100 } : Room) s m ag below meth c H locs 0 0 Q (F0 m 3 ls []) := by
    intro n
    induction n with
    | zero =>
      intro x3_2 f3_t_0 c3_t_bytes H locs ls hm3 hf3 hc3_t_bytes hP hD hS hl
      exact absurd hm3 (Nat.not_lt_zero _)
    | succ n ih3 =>
      intro x3_2 f3_t_0 c3_t_bytes H locs ls hm3 hf3 hc3_t_bytes hP hD hS hl
      refine lv_iload_n hx hb dX6_put_3 rfl (lv_at hl 2 rfl) ?_
      refine g_if_lt (tgt := 46) hx hb (by omega) dX6_put_4 (by decide) (fun c1 => ?_) (fun c1 => ?_)
      · rw [hQ]; exact fn_vret hx hb hr hlocks hP hD hS ((fun k => ([f3_t_0] : List Int).getD k 0), (fun k => ([c3_t_bytes] : List (Nat → Int)).getD k (fun _ => 0))) ⟨(by show 0 ≤ f3_t_0 ∧ f3_t_0 ≤ 1400; omega), (fun j => by have h9 := hc3_t_bytes j; show (-128) ≤ c3_t_bytes j ∧ c3_t_bytes j ≤ 127; omega), trivial⟩ [0, 1] (by decide) rfl dX6_put_46
      · refine lv_aload_n hx hb dX6_put_7 rfl (lv_at hl 0 rfl) ?_
        refine va_get (D := D) (own := RX6) (ci := 6) (v := .int (iI f3_t_0)) (C := RX6) (T := TX6) (N := 5) hx hb hts inb_X6 hown hK.1 hP 0 rfl rfl 0 (by decide) (hts _ wd_42) (fun _ h9 => h9) rfl dX6_put_8 ?_
        refine lv_sipush (v := iI 1400) hx hb dX6_put_11 (by decide) ?_
        refine g_icmp_ge (tgt := 46) hx hb (by omega) (by omega) dX6_put_14 (by decide) (fun c2 => ?_) (fun c2 => ?_)
        · rw [hQ]; exact fn_vret hx hb hr hlocks hP hD hS ((fun k => ([f3_t_0] : List Int).getD k 0), (fun k => ([c3_t_bytes] : List (Nat → Int)).getD k (fun _ => 0))) ⟨(by show 0 ≤ f3_t_0 ∧ f3_t_0 ≤ 1400; omega), (fun j => by have h9 := hc3_t_bytes j; show (-128) ≤ c3_t_bytes j ∧ c3_t_bytes j ≤ 127; omega), trivial⟩ [0, 1] (by decide) rfl dX6_put_46
        · refine lv_aload_n hx hb dX6_put_17 rfl (lv_at hl 0 rfl) ?_
          refine va_get (D := D) (own := RX6) (ci := 6) (v := .ref t_bytes) (C := RX6) (T := TX6) (N := 5) hx hb hts inb_X6 hown hK.1 hP 0 rfl rfl 1 (by decide) (hts _ wd_44) (fun _ h9 => h9) rfl dX6_put_18 ?_
          refine lv_aload_n hx hb dX6_put_21 rfl (lv_at hl 0 rfl) ?_
          refine va_get (D := D) (own := RX6) (ci := 6) (v := .int (iI f3_t_0)) (C := RX6) (T := TX6) (N := 5) hx hb hts inb_X6 hown hK.1 hP 0 rfl rfl 0 (by decide) (hts _ wd_42) (fun _ h9 => h9) rfl dX6_put_22 ?_
          refine lv_iload_n hx hb dX6_put_25 rfl (lv_at hl 1 rfl) ?_
          refine lv_iload_n hx hb dX6_put_26 rfl (lv_at hl 2 rfl) ?_
          refine lv_ishr hx hb dX6_put_27 ?_
          refine g_any (fun w3 hw3 ew3 => ?_)
          refine lv_i2b hx hb dX6_put_28 rfl ?_
          obtain ⟨w4, hw4, ew4⟩ := iI_i2b w3
          refine fn_top (iI w4) ew4 ?_
          refine g_bast hx hb hK.1 hP hD hS 1 1 rfl rfl (by omega) (by omega) (by decide) (by omega) dX6_put_29 (fun H locs g5 eg5 hP hD hS => ?_)
          have hg5 : ∀ j, (-128) ≤ g5 j ∧ g5 j ≤ 127 := by rw [eg5]; exact uI_all (fun j => by have h9 := hc3_t_bytes j; omega) (by omega)
          have hP : va_P D vwCl [(t, .inr (6, [.int (iI f3_t_0), .ref t_bytes, .int (iI t_kind), .int (iI t_start), .int (iI t_stop)])), (t_bytes, .inl (K 1, 1400, .inl (fun j => iI (g5 j))))] H := hP
          have hD : va_D A [(t, .inr (6, [.int (iI f3_t_0), .ref t_bytes, .int (iI t_kind), .int (iI t_start), .int (iI t_stop)])), (t_bytes, .inl (K 1, 1400, .inl (fun j => iI (g5 j))))] := hD
          refine lv_aload_n hx hb dX6_put_30 rfl (lv_at hl 0 rfl) ?_
          refine lv_dup hx hb dX6_put_31 rfl ?_
          refine va_get (D := D) (own := RX6) (ci := 6) (v := .int (iI f3_t_0)) (C := RX6) (T := TX6) (N := 5) hx hb hts inb_X6 hown hK.1 hP 0 rfl rfl 0 (by decide) (hts _ wd_42) (fun _ h9 => h9) rfl dX6_put_32 ?_
          refine lv_iconst (v := iI 1) hx hb dX6_put_35 rfl ?_
          refine fn_at 36 rfl ?_
          refine g_iadd hx hb dX6_put_36 ?_
          refine va_put (D := D) (own := RX6) (ci := 6) (v := .int (iI (f3_t_0 + 1))) (ty := .int) (C := RX6) (T := TX6) (N := 5) hx hb hts inb_X6 tyX6 tyX6_ok nmX6 hown hK.1 hP hD hS 0 rfl rfl 0 (by decide) (hts _ wd_42) (fun _ h9 => h9) rfl (by decide +kernel) rfl rfl (Nat.le_of_ble_eq_true rfl) dX6_put_37 (fun H locs hP hD hS => ?_)
          have hP : va_P D vwCl [(t, .inr (6, [.int (iI (f3_t_0 + 1)), .ref t_bytes, .int (iI t_kind), .int (iI t_start), .int (iI t_stop)])), (t_bytes, .inl (K 1, 1400, .inl (fun j => iI (g5 j))))] H := hP
          have hD : va_D A [(t, .inr (6, [.int (iI (f3_t_0 + 1)), .ref t_bytes, .int (iI t_kind), .int (iI t_start), .int (iI t_stop)])), (t_bytes, .inl (K 1, 1400, .inl (fun j => iI (g5 j))))] := hD
          refine lv_iinc (v := iI (x3_2 + (-8))) (lv' := [(2, .int (iI (x3_2 + (-8)))), (0, .ref t), (1, .int (iI p1))]) hx hb dX6_put_40 hl (k := 2) rfl (iI_add _ _) (by decide) rfl (fun ls hl => ?_)
          refine lv_goto (tgt := 3) hx hb dX6_put_43 (by decide) ?_
          exact ih3 (x3_2 + (-8)) (f3_t_0 + 1) g5 H locs ls (by omega) (by omega) (fun j => by have h9 := hg5 j; omega) (hP.sub [0, 1] rfl) (hD.sub [0, 1] (by decide) rfl) hS (lv_sub hl [1, 2, 0] rfl)
  have hl : lv_has ls 3 [(0, .ref t), (1, .int (iI p1))] := hl
  refine lv_bipush (v := iI 24) hx hb dX6_put_0 (by decide) ?_
  refine lv_istore_n (lv' := [(2, .int (iI 24)), (0, .ref t), (1, .int (iI p1))]) hx hb dX6_put_2 rfl hl (by decide) rfl (fun ls hl => ?_)
  exact J3 _ 24 t_size t_bytes_c H locs ls (Nat.lt_succ_self _) (by omega) (fun j => by have h9 := hc_t_bytes j; omega) (hP.sub [0, 1] rfl) (hD.sub [0, 1] (by decide) rfl) hS (lv_sub hl [1, 2, 0] rfl)
