theorem wd_934 : Cond.code ⟨"FootNotes$Turns", "arrive", "([III)V"⟩ prog_11_method_7_code 4 (Option.none : Option Jvm.ClassFile.FieldType) ∈ fn_big := fn_tb (fn_l4 (List.mem_of_getElem? (i := 214) (by decide +kernel))) (by decide +kernel)
theorem wd_931 : Cond.methodLink "FootNotes$Turns" 43 ⟨"FootNotes$Turns", "arrive", "([III)V"⟩ ∈ fn_big := fn_tb (fn_l4 (List.mem_of_getElem? (i := 211) (by decide +kernel))) (by decide +kernel)
theorem wd_933 : Cond.instanceMethod ⟨"FootNotes$Turns", "arrive", "([III)V"⟩ ∈ fn_big := fn_tb (fn_l4 (List.mem_of_getElem? (i := 213) (by decide +kernel))) (by decide +kernel)
theorem wp_53 : Cond.selects "FootNotes$Turns" ⟨"FootNotes$Turns", "arrive", "([III)V"⟩ ⟨"FootNotes$Turns", "arrive", "([III)V"⟩ ∈ fn_big := fn_sel (q := (⟨"FootNotes$Turns", "arrive", "([III)V"⟩, 6)) 53 (by decide +kernel) (by decide +kernel)
theorem dX9_followNotes_46 : decode cX9_followNotes 46 = .ok (.iinc 5 1, 3) := by decide +kernel
theorem dX9_followNotes_49 : decode cX9_followNotes 49 = .ok (.goto (-41), 3) := by decide +kernel
theorem dX9_followNotes_8 : decode cX9_followNotes 8 = .ok (.iload 5, 2) := by decide +kernel
theorem dX9_followNotes_10 : decode cX9_followNotes 10 = .ok (.aload_n 2, 1) := by decide +kernel
theorem dX9_followNotes_11 : decode cX9_followNotes 11 = .ok (.getfield 60, 3) := by decide +kernel
theorem dX9_followNotes_14 : decode cX9_followNotes 14 = .ok (.if_icmp .ge 38, 3) := by decide +kernel
theorem dX9_followNotes_52 : decode cX9_followNotes 52 = .ok (.return_, 1) := by decide +kernel
theorem dX9_followNotes_17 : decode cX9_followNotes 17 = .ok (.aload_n 2, 1) := by decide +kernel
theorem dX9_followNotes_18 : decode cX9_followNotes 18 = .ok (.getfield 76, 3) := by decide +kernel
theorem dX9_followNotes_21 : decode cX9_followNotes 21 = .ok (.iload_n 3, 1) := by decide +kernel
theorem dX9_followNotes_22 : decode cX9_followNotes 22 = .ok (.iaload, 1) := by decide +kernel
theorem dX9_followNotes_23 : decode cX9_followNotes 23 = .ok (.iload 5, 2) := by decide +kernel
theorem dX9_followNotes_25 : decode cX9_followNotes 25 = .ok (.ishr, 1) := by decide +kernel
theorem dX9_followNotes_26 : decode cX9_followNotes 26 = .ok (.iconst 1, 1) := by decide +kernel
theorem dX9_followNotes_27 : decode cX9_followNotes 27 = .ok (.iand, 1) := by decide +kernel
theorem dX9_followNotes_28 : decode cX9_followNotes 28 = .ok (.iconst 1, 1) := by decide +kernel
theorem dX9_followNotes_29 : decode cX9_followNotes 29 = .ok (.if_icmp .ne 17, 3) := by decide +kernel
theorem dX9_followNotes_32 : decode cX9_followNotes 32 = .ok (.aload_n 0, 1) := by decide +kernel
theorem dX9_followNotes_33 : decode cX9_followNotes 33 = .ok (.aload_n 1, 1) := by decide +kernel
theorem dX9_followNotes_34 : decode cX9_followNotes 34 = .ok (.aload_n 2, 1) := by decide +kernel
theorem dX9_followNotes_35 : decode cX9_followNotes 35 = .ok (.getfield 57, 3) := by decide +kernel
theorem dX9_followNotes_38 : decode cX9_followNotes 38 = .ok (.iload 5, 2) := by decide +kernel
theorem dX9_followNotes_40 : decode cX9_followNotes 40 = .ok (.iaload, 1) := by decide +kernel
theorem dX9_followNotes_41 : decode cX9_followNotes 41 = .ok (.iload 4, 2) := by decide +kernel
theorem dX9_followNotes_43 : decode cX9_followNotes 43 = .ok (.invokevirtual 43, 3) := by decide +kernel
theorem dX9_followNotes_0 : decode cX9_followNotes 0 = .ok (.iload_n 3, 1) := by decide +kernel
theorem dX9_followNotes_1 : decode cX9_followNotes 1 = .ok (.ifCond .ge 4, 3) := by decide +kernel
theorem dX9_followNotes_5 : decode cX9_followNotes 5 = .ok (.iconst 0, 1) := by decide +kernel
theorem dX9_followNotes_6 : decode cX9_followNotes 6 = .ok (.istore 5, 2) := by decide +kernel
theorem dX9_followNotes_4 : decode cX9_followNotes 4 = .ok (.return_, 1) := by decide +kernel
set_option maxHeartbeats 4000000 in
set_option maxRecDepth 100000 in
theorem k_X9_followNotes (l : Launch) (D : va_G) (K : Nat → ClassId) (t a1 a2 : Nat) (a2_q t_q : Nat → Nat) (p3 p4 a2_x0 a2_x1 a2_x6 t_x0 t_x4 : Int) (a2_4_c : Nat → Int) (a2_2_c : Nat → Int) (a1_c : Nat → Int) (t_3_c : Nat → Int) (hp3 : (-4) ≤ p3 ∧ p3 ≤ 11) (hp4 : (-2147483648) ≤ p4 ∧ p4 ≤ 2147483647) (hi_a2 : bX10 a2_x0 a2_x1 a2_x6) (hc_a2_4 : ∀ j : Nat, 0 ≤ a2_4_c j ∧ a2_4_c j ≤ 4095) (hc_a2_2 : ∀ j : Nat, (-1) ≤ a2_2_c j ∧ a2_2_c j ≤ 149) (hi_t : bX9 t_x0 t_x4) (hc_a1 : ∀ j : Nat, (-2147483648) ≤ a1_c j ∧ a1_c j ≤ 2147483647) (hc_t_3 : ∀ j : Nat, 0 ≤ t_3_c j ∧ t_3_c j ≤ 149) : fn_CV (S := (Nat → Int) × (Nat → Nat → Int)) l D K yX9_followNotes (fn_ws yX9_followNotes cX9_followNotes 6 none) ({ frames := 8, cells := 0, slots := 0, locals := 200 } : Room) [.ref t, .ref a1, .ref a2, .int (iI p3), .int (iI p4)] [(a2, .inr (10, oX10 a2_q a2_x0 a2_x1 a2_x6)), ((a2_q 4), .inl (K 0, 12, .inl (fun j => iI (a2_4_c j)))), ((a2_q 2), .inl (K 0, 12, .inl (fun j => iI (a2_2_c j)))), (t, .inr (9, oX9 t_q t_x0 t_x4)), (a1, .inl (K 0, 150, .inl (fun j => iI (a1_c j)))), ((t_q 3), .inl (K 0, 150, .inl (fun j => iI (t_3_c j))))] (fun u => (0 ≤ (u.1 0) ∧ (u.1 0) ≤ 150) ∧ (∀ j : Nat, (-2147483648) ≤ (u.2 0) j ∧ (u.2 0) j ≤ 2147483647) ∧ (∀ j : Nat, 0 ≤ (u.2 1) j ∧ (u.2 1) j ≤ 149) ∧ True) (fun u => [(a2, .inr (10, oX10 a2_q a2_x0 a2_x1 a2_x6)), ((a2_q 4), .inl (K 0, 12, .inl (fun j => iI (a2_4_c j)))), ((a2_q 2), .inl (K 0, 12, .inl (fun j => iI (a2_2_c j)))), (t, .inr (9, oX9 t_q t_x0 (u.1 0))), (a1, .inl (K 0, 150, .inl (fun j => iI ((u.2 0) j)))), ((t_q 3), .inl (K 0, 150, .inl (fun j => iI ((u.2 1) j))))]) 0 0 := by
  refine g_inV (cc := cX9_followNotes) (maxL := 6) (ret := none) (by decide) rfl (Nat.le_of_ble_eq_true rfl) ?_
  intro p e s m below meth c A ls ag Q B hA hP hD hS hl hQ
  obtain ⟨hx, hb, hr, hml, hts, hown, hlocks, hin, hK⟩ := B
  have hown : s.vm.findClass RX9 = some m.cls := hown
  have hts := fun w h => hts w (List.mem_cons_of_mem _ h)
  have J8 : ∀ (n : Nat) (x8_5 : Int) (f8_t_4 : Int) (c8_a1 : Nat → Int) (c8_t_3 : Nat → Int) (H : Heap) (locs : List Loc) (ls : Array Slot), (12 - x8_5).toNat < n → (0 ≤ p3 ∧ p3 ≤ 11 ∧ 0 ≤ x8_5 ∧ x8_5 ≤ 12 ∧ 0 ≤ f8_t_4 ∧ f8_t_4 ≤ 150) → (∀ j : Nat, (-2147483648) ≤ c8_a1 j ∧ c8_a1 j ≤ 2147483647) → (∀ j : Nat, 0 ≤ c8_t_3 j ∧ c8_t_3 j ≤ 149) → va_P D vwCl [(a2, .inr (10, oX10 a2_q a2_x0 a2_x1 a2_x6)), ((a2_q 4), .inl (K 0, 12, .inl (fun j => iI (a2_4_c j)))), ((a2_q 2), .inl (K 0, 12, .inl (fun j => iI (a2_2_c j)))), (t, .inr (9, oX9 t_q t_x0 f8_t_4)), (a1, .inl (K 0, 150, .inl (fun j => iI (c8_a1 j)))), ((t_q 3), .inl (K 0, 150, .inl (fun j => iI (c8_t_3 j))))] H → va_D A [(a2, .inr (10, oX10 a2_q a2_x0 a2_x1 a2_x6)), ((a2_q 4), .inl (K 0, 12, .inl (fun j => iI (a2_4_c j)))), ((a2_q 2), .inl (K 0, 12, .inl (fun j => iI (a2_2_c j)))), (t, .inr (9, oX9 t_q t_x0 f8_t_4)), (a1, .inl (K 0, 150, .inl (fun j => iI (c8_a1 j)))), ((t_q 3), .inl (K 0, 150, .inl (fun j => iI (c8_t_3 j))))] → va_S A s.heap H locs → lv_has ls 6 [(0, .ref t), (1, .ref a1), (2, .ref a2), (3, .int (iI p3)), (4, .int (iI p4)), (5, .int (iI x8_5))] → W p l e ({ frames := 8, cells := 0, slots := 0, locals := 200 } : Room) s m ag below meth c H locs 0 0 Q (F0 m 8 ls []) := by
    intro n
    induction n with
    | zero =>
      intro x8_5 f8_t_4 c8_a1 c8_t_3 H locs ls hm8 hf8 hc8_a1 hc8_t_3 hP hD hS hl
      exact absurd hm8 (Nat.not_lt_zero _)
    | succ n ih8 =>
      intro x8_5 f8_t_4 c8_a1 c8_t_3 H locs ls hm8 hf8 hc8_a1 hc8_t_3 hP hD hS hl
      have J46 : ∀ (f46_t_4 : Int) (c46_a1 : Nat → Int) (c46_t_3 : Nat → Int) (H : Heap) (locs : List Loc) (ls : Array Slot), (0 ≤ p3 ∧ p3 ≤ 11 ∧ 0 ≤ x8_5 ∧ x8_5 ≤ 11 ∧ 1 ≤ a2_x0 ∧ a2_x0 ≤ 12 ∧ 0 ≤ f46_t_4 ∧ f46_t_4 ≤ 150) → (∀ j : Nat, (-2147483648) ≤ c46_a1 j ∧ c46_a1 j ≤ 2147483647) → (∀ j : Nat, 0 ≤ c46_t_3 j ∧ c46_t_3 j ≤ 149) → va_P D vwCl [(a2, .inr (10, oX10 a2_q a2_x0 a2_x1 a2_x6)), ((a2_q 4), .inl (K 0, 12, .inl (fun j => iI (a2_4_c j)))), ((a2_q 2), .inl (K 0, 12, .inl (fun j => iI (a2_2_c j)))), (t, .inr (9, oX9 t_q t_x0 f46_t_4)), (a1, .inl (K 0, 150, .inl (fun j => iI (c46_a1 j)))), ((t_q 3), .inl (K 0, 150, .inl (fun j => iI (c46_t_3 j))))] H → va_D A [(a2, .inr (10, oX10 a2_q a2_x0 a2_x1 a2_x6)), ((a2_q 4), .inl (K 0, 12, .inl (fun j => iI (a2_4_c j)))), ((a2_q 2), .inl (K 0, 12, .inl (fun j => iI (a2_2_c j)))), (t, .inr (9, oX9 t_q t_x0 f46_t_4)), (a1, .inl (K 0, 150, .inl (fun j => iI (c46_a1 j)))), ((t_q 3), .inl (K 0, 150, .inl (fun j => iI (c46_t_3 j))))] → va_S A s.heap H locs → lv_has ls 6 [(0, .ref t), (1, .ref a1), (2, .ref a2), (3, .int (iI p3)), (4, .int (iI p4)), (5, .int (iI x8_5))] → W p l e ({ frames := 8, cells := 0, slots := 0, locals := 200 } : Room) s m ag below meth c H locs 0 0 Q (F0 m 46 ls []) := by
        intro f46_t_4 c46_a1 c46_t_3 H locs ls hf46 hc46_a1 hc46_t_3 hP hD hS hl
        refine lv_iinc (v := iI (x8_5 + 1)) (lv' := [(5, .int (iI (x8_5 + 1))), (0, .ref t), (1, .ref a1), (2, .ref a2), (3, .int (iI p3)), (4, .int (iI p4))]) hx hb dX9_followNotes_46 hl (k := 5) rfl (iI_add _ _) (by decide) rfl (fun ls hl => ?_)
        refine lv_goto (tgt := 8) hx hb dX9_followNotes_49 (by decide) ?_
        exact ih8 (x8_5 + 1) f46_t_4 c46_a1 c46_t_3 _ _ ls (by omega) (by omega) hc46_a1 hc46_t_3 (hP.sub [0, 1, 2, 3, 4, 5] rfl) (hD.sub [0, 1, 2, 3, 4, 5] (by decide) rfl) hS (lv_sub hl [1, 2, 3, 4, 5, 0] rfl)
      refine lv_iload hx hb dX9_followNotes_8 (lv_at hl 5 rfl) ?_
      refine lv_aload_n hx hb dX9_followNotes_10 rfl (lv_at hl 2 rfl) ?_
      refine va_getN (D := D) (own := RX9) (ci := 10) (v := .int (iI a2_x0)) (C := RX10) (T := TX10) (N := 7) hx hb hts inb_X10 hown hK.1 hP 0 rfl rfl 0 (by decide) (hK.nf 63 rfl) (fun _ h9 => h9) rfl dX9_followNotes_11 ?_
      have y11_1 : 0 ≤ a2_x0 ∧ a2_x0 ≤ 12 := hi_a2.1
      refine g_icmp_ge (tgt := 52) hx hb (by omega) (by omega) dX9_followNotes_14 (by decide) (fun c14 => ?_) (fun c14 => ?_)
      · rw [hQ]; exact fn_vret hx hb hr hlocks hP hD hS ((fun k => ([f8_t_4] : List Int).getD k 0), (fun k => ([c8_a1, c8_t_3] : List (Nat → Int)).getD k (fun _ => 0))) ⟨(by show 0 ≤ f8_t_4 ∧ f8_t_4 ≤ 150; omega), (hc8_a1), (hc8_t_3), trivial⟩ [0, 1, 2, 3, 4, 5] (by decide) rfl dX9_followNotes_52
      · refine lv_aload_n hx hb dX9_followNotes_17 rfl (lv_at hl 2 rfl) ?_
        refine va_getN (D := D) (own := RX9) (ci := 10) (v := .ref (a2_q 4)) (C := RX10) (T := TX10) (N := 7) hx hb hts inb_X10 hown hK.1 hP 0 rfl rfl 4 (by decide) (hK.nf 70 rfl) (fun _ h9 => h9) rfl dX9_followNotes_18 ?_
        refine lv_iload_n hx hb dX9_followNotes_21 rfl (lv_at hl 3 rfl) ?_
        refine g_iald hx hb hK.1 hP 1 0 rfl rfl (by omega) (by omega) (by decide) dX9_followNotes_22 ?_
        have y22 : 0 ≤ (a2_4_c p3.toNat) ∧ (a2_4_c p3.toNat) ≤ 4095 := hc_a2_4 p3.toNat
        refine lv_iload hx hb dX9_followNotes_23 (lv_at hl 5 rfl) ?_
        refine lv_ishr hx hb dX9_followNotes_25 ?_
        obtain ⟨w25, ew25, hw25⟩ := iI_shr (a2_4_c p3.toNat) x8_5 (by omega) (by omega)
        refine fn_top (iI w25) ew25 ?_
        refine lv_iconst (v := iI 1) hx hb dX9_followNotes_26 rfl ?_
        refine lv_iand hx hb dX9_followNotes_27 ?_
        obtain ⟨w27, ew27, hw27⟩ := iI_and1 w25 (by omega)
        refine fn_top (iI w27) ew27 ?_
        refine lv_iconst (v := iI 1) hx hb dX9_followNotes_28 rfl ?_
        refine g_icmp_ne (tgt := 46) hx hb (by omega) (by omega) dX9_followNotes_29 (by decide) (fun c29 => ?_) (fun c29 => ?_)
        · exact J46 f8_t_4 c8_a1 c8_t_3 _ _ ls (by omega) hc8_a1 hc8_t_3 (hP.sub [0, 1, 2, 3, 4, 5] rfl) (hD.sub [0, 1, 2, 3, 4, 5] (by decide) rfl) hS (lv_sub hl [0, 1, 2, 3, 4, 5] rfl)
        · refine lv_aload_n hx hb dX9_followNotes_32 rfl (lv_at hl 0 rfl) ?_
          refine lv_aload_n hx hb dX9_followNotes_33 rfl (lv_at hl 1 rfl) ?_
          refine lv_aload_n hx hb dX9_followNotes_34 rfl (lv_at hl 2 rfl) ?_
          refine va_getN (D := D) (own := RX9) (ci := 10) (v := .ref (a2_q 2)) (C := RX10) (T := TX10) (N := 7) hx hb hts inb_X10 hown hK.1 hP 0 rfl rfl 2 (by decide) (hK.nf 64 rfl) (fun _ h9 => h9) rfl dX9_followNotes_35 ?_
          refine lv_iload hx hb dX9_followNotes_38 (lv_at hl 5 rfl) ?_
          refine fn_at 40 rfl ?_
          refine g_iald hx hb hK.1 hP 2 0 rfl rfl (by omega) (by omega) (by decide) dX9_followNotes_40 ?_
          have y40 : (-1) ≤ (a2_2_c x8_5.toNat) ∧ (a2_2_c x8_5.toNat) ≤ 149 := hc_a2_2 x8_5.toNat
          refine lv_iload hx hb dX9_followNotes_41 (lv_at hl 4 rfl) ?_
          refine fn_gov (wc := [(a1, .inl (K 0, 150, .inl (fun j => iI (c8_a1 j)))), (t, .inr (9, oX9 t_q t_x0 f8_t_4)), ((t_q 3), .inl (K 0, 150, .inl (fun j => iI (c8_t_3 j))))]) (wr := [(a2, .inr (10, oX10 a2_q a2_x0 a2_x1 a2_x6)), ((a2_q 4), .inl (K 0, 12, .inl (fun j => iI (a2_4_c j)))), ((a2_q 2), .inl (K 0, 12, .inl (fun j => iI (a2_2_c j))))]) hK hP hD hS hA [4, 3, 5] [0, 1, 2] rfl rfl (by decide) (fun hp => va_runV (C := RX9) (As := [.ref a1, .int (iI (a2_2_c x8_5.toNat)), .int (iI p4)]) (rest := []) ⟨hx, hb, hml, hown, hts⟩ (k_X9_arrive (l := l) (D := D) (K := K) (t := t) (a1 := a1) (p2 := (a2_2_c x8_5.toNat)) (p3 := p4) (a1_c := c8_a1) (t_q := t_q) (t_x0 := t_x0) (t_x4 := f8_t_4) (t_3_c := c8_t_3) (hp2 := (by omega)) (hp3 := (by omega)) (hc_a1 := hc8_a1) (hi_t := ⟨hi_t.1, (by omega)⟩) (hc_t_3 := hc8_t_3) _) (cwV 3 hts (fn_ginV (fn_gin wd_934) wd_931 wd_933 wp_53 wd_9) rfl rfl rfl (by decide +kernel) ⟨Nat.le_of_ble_eq_true rfl, Nat.le_of_ble_eq_true rfl⟩) ⟨fn_blind, va_recv hK.1 hP (ci := 9) (q0 := 3) rfl rfl, hp⟩ rfl rfl hl.1 rfl (lv_room (Nat.le_of_ble_eq_true rfl)) dX9_followNotes_43 ⟨Nat.le_of_ble_eq_true rfl, Nat.le_of_ble_eq_true rfl⟩) (fun u43 H locs hwu43 hP hD hS => ?_)
          obtain ⟨u43a, u43b⟩ := u43
          obtain ⟨hqu430, hu43_00, hu43_10, -⟩ := hwu43
          have hqu43 : 0 ≤ (u43a 0) ∧ (u43a 0) ≤ 150 := hqu430
          have hu43_0 : ∀ j : Nat, (-2147483648) ≤ (u43b 0) j ∧ (u43b 0) j ≤ 2147483647 := hu43_00
          have hu43_1 : ∀ j : Nat, 0 ≤ (u43b 1) j ∧ (u43b 1) j ≤ 149 := hu43_10
          clear hqu430 hu43_00 hu43_10
          have hP : va_P D vwCl [(a2, .inr (10, oX10 a2_q a2_x0 a2_x1 a2_x6)), ((a2_q 4), .inl (K 0, 12, .inl (fun j => iI (a2_4_c j)))), ((a2_q 2), .inl (K 0, 12, .inl (fun j => iI (a2_2_c j)))), (a1, .inl (K 0, 150, .inl (fun j => iI ((u43b 0) j)))), (t, .inr (9, oX9 t_q t_x0 (u43a 0))), ((t_q 3), .inl (K 0, 150, .inl (fun j => iI ((u43b 1) j))))] H := hP
          have hD : va_D A [(a2, .inr (10, oX10 a2_q a2_x0 a2_x1 a2_x6)), ((a2_q 4), .inl (K 0, 12, .inl (fun j => iI (a2_4_c j)))), ((a2_q 2), .inl (K 0, 12, .inl (fun j => iI (a2_2_c j)))), (a1, .inl (K 0, 150, .inl (fun j => iI ((u43b 0) j)))), (t, .inr (9, oX9 t_q t_x0 (u43a 0))), ((t_q 3), .inl (K 0, 150, .inl (fun j => iI ((u43b 1) j))))] := hD
          exact J46 (u43a 0) (u43b 0) (u43b 1) _ _ ls (by omega) hu43_0 hu43_1 (hP.sub [0, 1, 2, 4, 3, 5] rfl) (hD.sub [0, 1, 2, 4, 3, 5] (by decide) rfl) hS (lv_sub hl [0, 1, 2, 3, 4, 5] rfl)
  have hl : lv_has ls 6 [(0, .ref t), (1, .ref a1), (2, .ref a2), (3, .int (iI p3)), (4, .int (iI p4))] := hl
  refine lv_iload_n hx hb dX9_followNotes_0 rfl (lv_at hl 3 rfl) ?_
  refine g_if_ge (tgt := 5) hx hb (by omega) dX9_followNotes_1 (by decide) (fun c1 => ?_) (fun c1 => ?_)
  · refine lv_iconst (v := iI 0) hx hb dX9_followNotes_5 rfl ?_
    refine lv_istore (lv' := [(5, .int (iI 0)), (0, .ref t), (1, .ref a1), (2, .ref a2), (3, .int (iI p3)), (4, .int (iI p4))]) hx hb dX9_followNotes_6 hl (by decide) rfl (fun ls hl => ?_)
    have y8_1 : 0 ≤ t_x4 ∧ t_x4 ≤ 150 := hi_t.2
    exact J8 _ 0 t_x4 a1_c t_3_c _ _ ls (Nat.lt_succ_self _) (by omega) hc_a1 hc_t_3 (hP.sub [0, 1, 2, 3, 4, 5] rfl) (hD.sub [0, 1, 2, 3, 4, 5] (by decide) rfl) hS (lv_sub hl [1, 2, 3, 4, 5, 0] rfl)
  · have y4_1 : 0 ≤ t_x4 ∧ t_x4 ≤ 150 := hi_t.2
    rw [hQ]; exact fn_vret hx hb hr hlocks hP hD hS ((fun k => ([t_x4] : List Int).getD k 0), (fun k => ([a1_c, t_3_c] : List (Nat → Int)).getD k (fun _ => 0))) ⟨(by show 0 ≤ t_x4 ∧ t_x4 ≤ 150; omega), (hc_a1), (hc_t_3), trivial⟩ [0, 1, 2, 3, 4, 5] (by decide) rfl dX9_followNotes_4
theorem wd_943 : Cond.code ⟨"FootNotes$Turns", "followNotes", "([ILFootNotes$Web;II)V"⟩ prog_11_method_6_code 6 (Option.none : Option Jvm.ClassFile.FieldType) ∈ fn_big := fn_tb (fn_l4 (List.mem_of_getElem? (i := 223) (by decide +kernel))) (by decide +kernel)
theorem wd_940 : Cond.methodLink "FootNotes$Turns" 72 ⟨"FootNotes$Turns", "followNotes", "([ILFootNotes$Web;II)V"⟩ ∈ fn_big := fn_tb (fn_l4 (List.mem_of_getElem? (i := 220) (by decide +kernel))) (by decide +kernel)
theorem wd_942 : Cond.instanceMethod ⟨"FootNotes$Turns", "followNotes", "([ILFootNotes$Web;II)V"⟩ ∈ fn_big := fn_tb (fn_l4 (List.mem_of_getElem? (i := 222) (by decide +kernel))) (by decide +kernel)
theorem wp_55 : Cond.selects "FootNotes$Turns" ⟨"FootNotes$Turns", "followNotes", "([ILFootNotes$Web;II)V"⟩ ⟨"FootNotes$Turns", "followNotes", "([ILFootNotes$Web;II)V"⟩ ∈ fn_big := fn_sel (q := (⟨"FootNotes$Turns", "followNotes", "([ILFootNotes$Web;II)V"⟩, 6)) 55 (by decide +kernel) (by decide +kernel)
theorem dX9_spread_94 : decode cX9_spread 94 = .ok (.aload_n 0, 1) := by decide +kernel
theorem dX9_spread_95 : decode cX9_spread 95 = .ok (.aload_n 1, 1) := by decide +kernel
theorem dX9_spread_96 : decode cX9_spread 96 = .ok (.aload_n 3, 1) := by decide +kernel
theorem dX9_spread_97 : decode cX9_spread 97 = .ok (.aload_n 2, 1) := by decide +kernel
theorem dX9_spread_98 : decode cX9_spread 98 = .ok (.iload 7, 2) := by decide +kernel
theorem dX9_spread_100 : decode cX9_spread 100 = .ok (.iload 8, 2) := by decide +kernel
theorem dX9_spread_102 : decode cX9_spread 102 = .ok (.invokevirtual 68, 3) := by decide +kernel
theorem dX9_spread_105 : decode cX9_spread 105 = .ok (.iload 6, 2) := by decide +kernel
theorem dX9_spread_107 : decode cX9_spread 107 = .ok (.invokevirtual 72, 3) := by decide +kernel
theorem dX9_spread_110 : decode cX9_spread 110 = .ok (.iinc 4 1, 3) := by decide +kernel
theorem dX9_spread_113 : decode cX9_spread 113 = .ok (.goto (-110), 3) := by decide +kernel
theorem dX9_spread_69 : decode cX9_spread 69 = .ok (.iload 8, 2) := by decide +kernel
theorem dX9_spread_71 : decode cX9_spread 71 = .ok (.iconst 1, 1) := by decide +kernel
theorem dX9_spread_72 : decode cX9_spread 72 = .ok (.iadd, 1) := by decide +kernel
theorem dX9_spread_73 : decode cX9_spread 73 = .ok (.aload_n 2, 1) := by decide +kernel
theorem dX9_spread_74 : decode cX9_spread 74 = .ok (.getfield 63, 3) := by decide +kernel
theorem dX9_spread_77 : decode cX9_spread 77 = .ok (.iload 7, 2) := by decide +kernel
theorem dX9_spread_79 : decode cX9_spread 79 = .ok (.iaload, 1) := by decide +kernel
theorem dX9_spread_80 : decode cX9_spread 80 = .ok (.if_icmp .ge 14, 3) := by decide +kernel
theorem dX9_spread_83 : decode cX9_spread 83 = .ok (.aload_n 0, 1) := by decide +kernel
theorem dX9_spread_84 : decode cX9_spread 84 = .ok (.aload_n 1, 1) := by decide +kernel
theorem dX9_spread_85 : decode cX9_spread 85 = .ok (.iload 5, 2) := by decide +kernel
theorem dX9_spread_87 : decode cX9_spread 87 = .ok (.iconst 1, 1) := by decide +kernel
theorem dX9_spread_88 : decode cX9_spread 88 = .ok (.iadd, 1) := by decide +kernel
theorem dX9_spread_89 : decode cX9_spread 89 = .ok (.iload 6, 2) := by decide +kernel
theorem dX9_spread_91 : decode cX9_spread 91 = .ok (.invokevirtual 43, 3) := by decide +kernel
theorem dX9_spread_3 : decode cX9_spread 3 = .ok (.iload 4, 2) := by decide +kernel
theorem dX9_spread_5 : decode cX9_spread 5 = .ok (.aload_n 0, 1) := by decide +kernel
theorem dX9_spread_6 : decode cX9_spread 6 = .ok (.getfield 37, 3) := by decide +kernel
theorem dX9_spread_9 : decode cX9_spread 9 = .ok (.if_icmp .ge 107, 3) := by decide +kernel
theorem dX9_spread_116 : decode cX9_spread 116 = .ok (.return_, 1) := by decide +kernel
theorem dX9_spread_12 : decode cX9_spread 12 = .ok (.iload 4, 2) := by decide +kernel
theorem dX9_spread_14 : decode cX9_spread 14 = .ok (.aload_n 0, 1) := by decide +kernel
theorem dX9_spread_15 : decode cX9_spread 15 = .ok (.getfield 18, 3) := by decide +kernel
theorem dX9_spread_18 : decode cX9_spread 18 = .ok (.arraylength, 1) := by decide +kernel
theorem dX9_spread_19 : decode cX9_spread 19 = .ok (.if_icmp .ge 97, 3) := by decide +kernel
theorem dX9_spread_22 : decode cX9_spread 22 = .ok (.aload_n 0, 1) := by decide +kernel
theorem dX9_spread_23 : decode cX9_spread 23 = .ok (.getfield 18, 3) := by decide +kernel
theorem dX9_spread_26 : decode cX9_spread 26 = .ok (.iload 4, 2) := by decide +kernel
theorem dX9_spread_28 : decode cX9_spread 28 = .ok (.iaload, 1) := by decide +kernel
theorem dX9_spread_29 : decode cX9_spread 29 = .ok (.istore 5, 2) := by decide +kernel
theorem dX9_spread_31 : decode cX9_spread 31 = .ok (.aload_n 1, 1) := by decide +kernel
theorem dX9_spread_32 : decode cX9_spread 32 = .ok (.iload 5, 2) := by decide +kernel
theorem dX9_spread_34 : decode cX9_spread 34 = .ok (.iaload, 1) := by decide +kernel
theorem dX9_spread_35 : decode cX9_spread 35 = .ok (.iconst 1, 1) := by decide +kernel
theorem dX9_spread_36 : decode cX9_spread 36 = .ok (.iadd, 1) := by decide +kernel
theorem dX9_spread_37 : decode cX9_spread 37 = .ok (.istore 6, 2) := by decide +kernel
theorem dX9_spread_39 : decode cX9_spread 39 = .ok (.iload 5, 2) := by decide +kernel
theorem dX9_spread_41 : decode cX9_spread 41 = .ok (.bipush 30, 2) := by decide +kernel
theorem dX9_spread_43 : decode cX9_spread 43 = .ok (.idiv, 1) := by decide +kernel
theorem dX9_spread_44 : decode cX9_spread 44 = .ok (.istore 7, 2) := by decide +kernel
theorem dX9_spread_46 : decode cX9_spread 46 = .ok (.iload 5, 2) := by decide +kernel
theorem dX9_spread_48 : decode cX9_spread 48 = .ok (.bipush 30, 2) := by decide +kernel
theorem dX9_spread_50 : decode cX9_spread 50 = .ok (.irem, 1) := by decide +kernel
theorem dX9_spread_51 : decode cX9_spread 51 = .ok (.istore 8, 2) := by decide +kernel
theorem dX9_spread_53 : decode cX9_spread 53 = .ok (.iload 8, 2) := by decide +kernel
theorem dX9_spread_55 : decode cX9_spread 55 = .ok (.ifCond .le 14, 3) := by decide +kernel
theorem dX9_spread_58 : decode cX9_spread 58 = .ok (.aload_n 0, 1) := by decide +kernel
theorem dX9_spread_59 : decode cX9_spread 59 = .ok (.aload_n 1, 1) := by decide +kernel
theorem dX9_spread_60 : decode cX9_spread 60 = .ok (.iload 5, 2) := by decide +kernel
theorem dX9_spread_62 : decode cX9_spread 62 = .ok (.iconst 1, 1) := by decide +kernel
theorem dX9_spread_63 : decode cX9_spread 63 = .ok (.isub, 1) := by decide +kernel
theorem dX9_spread_64 : decode cX9_spread 64 = .ok (.iload 6, 2) := by decide +kernel
theorem dX9_spread_66 : decode cX9_spread 66 = .ok (.invokevirtual 43, 3) := by decide +kernel
theorem dX9_spread_0 : decode cX9_spread 0 = .ok (.iconst 0, 1) := by decide +kernel
theorem dX9_spread_1 : decode cX9_spread 1 = .ok (.istore 4, 2) := by decide +kernel
set_option maxHeartbeats 4000000 in
set_option maxRecDepth 100000 in
theorem k_X9_spread (l : Launch) (D : va_G) (K : Nat → ClassId) (t a1 a2 a3 : Nat) (t_q a2_q a3_q : Nat → Nat) (t_x0 t_x4 a2_x0 a3_x0 a3_x1 a3_x6 : Int) (t_3_c : Nat → Int) (a1_c : Nat → Int) (a2_1_c : Nat → Int) (a2_2_c : Nat → Int) (a3_4_c : Nat → Int) (a3_2_c : Nat → Int) (hi_t : bX9 t_x0 t_x4) (hc_t_3 : ∀ j : Nat, 0 ≤ t_3_c j ∧ t_3_c j ≤ 149) (hc_a1 : ∀ j : Nat, (-2147483648) ≤ a1_c j ∧ a1_c j ≤ 2147483647) (hi_a2 : bX5 a2_x0) (hc_a2_1 : ∀ j : Nat, (-1000) ≤ a2_1_c j ∧ a2_1_c j ≤ 30) (hc_a2_2 : ∀ j : Nat, (-4) ≤ a2_2_c j ∧ a2_2_c j ≤ 11) (hi_a3 : bX10 a3_x0 a3_x1 a3_x6) (hc_a3_4 : ∀ j : Nat, 0 ≤ a3_4_c j ∧ a3_4_c j ≤ 4095) (hc_a3_2 : ∀ j : Nat, (-1) ≤ a3_2_c j ∧ a3_2_c j ≤ 149) : fn_CV (S := (Nat → Int) × (Nat → Nat → Int)) l D K yX9_spread (fn_ws yX9_spread cX9_spread 9 none) ({ frames := 12, cells := 0, slots := 0, locals := 300 } : Room) [.ref t, .ref a1, .ref a2, .ref a3] [(t, .inr (9, oX9 t_q t_x0 t_x4)), ((t_q 3), .inl (K 0, 150, .inl (fun j => iI (t_3_c j)))), (a1, .inl (K 0, 150, .inl (fun j => iI (a1_c j)))), (a2, .inr (5, oX5 a2_q a2_x0)), ((a2_q 1), .inl (K 0, 5, .inl (fun j => iI (a2_1_c j)))), ((a2_q 2), .inl (K 0, 150, .inl (fun j => iI (a2_2_c j)))), (a3, .inr (10, oX10 a3_q a3_x0 a3_x1 a3_x6)), ((a3_q 4), .inl (K 0, 12, .inl (fun j => iI (a3_4_c j)))), ((a3_q 2), .inl (K 0, 12, .inl (fun j => iI (a3_2_c j))))] (fun u => (0 ≤ (u.1 0) ∧ (u.1 0) ≤ 150) ∧ (∀ j : Nat, (-2147483648) ≤ (u.2 0) j ∧ (u.2 0) j ≤ 2147483647) ∧ (∀ j : Nat, 0 ≤ (u.2 1) j ∧ (u.2 1) j ≤ 149) ∧ True) (fun u => [(t, .inr (9, oX9 t_q t_x0 (u.1 0))), ((t_q 3), .inl (K 0, 150, .inl (fun j => iI ((u.2 1) j)))), (a1, .inl (K 0, 150, .inl (fun j => iI ((u.2 0) j)))), (a2, .inr (5, oX5 a2_q a2_x0)), ((a2_q 1), .inl (K 0, 5, .inl (fun j => iI (a2_1_c j)))), ((a2_q 2), .inl (K 0, 150, .inl (fun j => iI (a2_2_c j)))), (a3, .inr (10, oX10 a3_q a3_x0 a3_x1 a3_x6)), ((a3_q 4), .inl (K 0, 12, .inl (fun j => iI (a3_4_c j)))), ((a3_q 2), .inl (K 0, 12, .inl (fun j => iI (a3_2_c j))))]) 0 0 := by
  refine g_inV (cc := cX9_spread) (maxL := 9) (ret := none) (by decide) rfl (Nat.le_of_ble_eq_true rfl) ?_
  intro p e s m below meth c A ls ag Q B hA hP hD hS hl hQ
  obtain ⟨hx, hb, hr, hml, hts, hown, hlocks, hin, hK⟩ := B
  have hown : s.vm.findClass RX9 = some m.cls := hown
  have hts := fun w h => hts w (List.mem_cons_of_mem _ h)
  have J3 : ∀ (n : Nat) (x3_4 : Int) (f3_t_4 : Int) (c3_t_3 : Nat → Int) (c3_a1 : Nat → Int) (H : Heap) (locs : List Loc) (ls : Array Slot), (150 - x3_4).toNat < n → (0 ≤ x3_4 ∧ x3_4 ≤ 150 ∧ 0 ≤ f3_t_4 ∧ f3_t_4 ≤ 150) → (∀ j : Nat, 0 ≤ c3_t_3 j ∧ c3_t_3 j ≤ 149) → (∀ j : Nat, (-2147483648) ≤ c3_a1 j ∧ c3_a1 j ≤ 2147483647) → va_P D vwCl [(t, .inr (9, oX9 t_q t_x0 f3_t_4)), ((t_q 3), .inl (K 0, 150, .inl (fun j => iI (c3_t_3 j)))), (a1, .inl (K 0, 150, .inl (fun j => iI (c3_a1 j)))), (a2, .inr (5, oX5 a2_q a2_x0)), ((a2_q 1), .inl (K 0, 5, .inl (fun j => iI (a2_1_c j)))), ((a2_q 2), .inl (K 0, 150, .inl (fun j => iI (a2_2_c j)))), (a3, .inr (10, oX10 a3_q a3_x0 a3_x1 a3_x6)), ((a3_q 4), .inl (K 0, 12, .inl (fun j => iI (a3_4_c j)))), ((a3_q 2), .inl (K 0, 12, .inl (fun j => iI (a3_2_c j))))] H → va_D A [(t, .inr (9, oX9 t_q t_x0 f3_t_4)), ((t_q 3), .inl (K 0, 150, .inl (fun j => iI (c3_t_3 j)))), (a1, .inl (K 0, 150, .inl (fun j => iI (c3_a1 j)))), (a2, .inr (5, oX5 a2_q a2_x0)), ((a2_q 1), .inl (K 0, 5, .inl (fun j => iI (a2_1_c j)))), ((a2_q 2), .inl (K 0, 150, .inl (fun j => iI (a2_2_c j)))), (a3, .inr (10, oX10 a3_q a3_x0 a3_x1 a3_x6)), ((a3_q 4), .inl (K 0, 12, .inl (fun j => iI (a3_4_c j)))), ((a3_q 2), .inl (K 0, 12, .inl (fun j => iI (a3_2_c j))))] → va_S A s.heap H locs → lv_has ls 9 [(0, .ref t), (1, .ref a1), (2, .ref a2), (3, .ref a3), (4, .int (iI x3_4))] → W p l e ({ frames := 12, cells := 0, slots := 0, locals := 300 } : Room) s m ag below meth c H locs 0 0 Q (F0 m 3 ls []) := by
    intro n
    induction n with
    | zero =>
      intro x3_4 f3_t_4 c3_t_3 c3_a1 H locs ls hm3 hf3 hc3_t_3 hc3_a1 hP hD hS hl
      exact absurd hm3 (Nat.not_lt_zero _)
    | succ n ih3 =>
      intro x3_4 f3_t_4 c3_t_3 c3_a1 H locs ls hm3 hf3 hc3_t_3 hc3_a1 hP hD hS hl
      have J94 : ∀ (x94_5 : Int) (x94_6 : Int) (x94_7 : Int) (x94_8 : Int) (f94_t_4 : Int) (c94_t_3 : Nat → Int) (c94_a1 : Nat → Int) (H : Heap) (locs : List Loc) (ls : Array Slot), (0 ≤ x3_4 ∧ x3_4 ≤ 149 ∧ 0 ≤ x94_5 ∧ x94_5 ≤ 149 ∧ (-2147483648) ≤ x94_6 ∧ x94_6 ≤ 2147483647 ∧ 0 ≤ x94_7 ∧ x94_7 ≤ 4 ∧ 0 ≤ x94_8 ∧ x94_8 ≤ 29 ∧ 0 ≤ f94_t_4 ∧ f94_t_4 ≤ 150) → (∀ j : Nat, 0 ≤ c94_t_3 j ∧ c94_t_3 j ≤ 149) → (∀ j : Nat, (-2147483648) ≤ c94_a1 j ∧ c94_a1 j ≤ 2147483647) → va_P D vwCl [(t, .inr (9, oX9 t_q t_x0 f94_t_4)), ((t_q 3), .inl (K 0, 150, .inl (fun j => iI (c94_t_3 j)))), (a1, .inl (K 0, 150, .inl (fun j => iI (c94_a1 j)))), (a2, .inr (5, oX5 a2_q a2_x0)), ((a2_q 1), .inl (K 0, 5, .inl (fun j => iI (a2_1_c j)))), ((a2_q 2), .inl (K 0, 150, .inl (fun j => iI (a2_2_c j)))), (a3, .inr (10, oX10 a3_q a3_x0 a3_x1 a3_x6)), ((a3_q 4), .inl (K 0, 12, .inl (fun j => iI (a3_4_c j)))), ((a3_q 2), .inl (K 0, 12, .inl (fun j => iI (a3_2_c j))))] H → va_D A [(t, .inr (9, oX9 t_q t_x0 f94_t_4)), ((t_q 3), .inl (K 0, 150, .inl (fun j => iI (c94_t_3 j)))), (a1, .inl (K 0, 150, .inl (fun j => iI (c94_a1 j)))), (a2, .inr (5, oX5 a2_q a2_x0)), ((a2_q 1), .inl (K 0, 5, .inl (fun j => iI (a2_1_c j)))), ((a2_q 2), .inl (K 0, 150, .inl (fun j => iI (a2_2_c j)))), (a3, .inr (10, oX10 a3_q a3_x0 a3_x1 a3_x6)), ((a3_q 4), .inl (K 0, 12, .inl (fun j => iI (a3_4_c j)))), ((a3_q 2), .inl (K 0, 12, .inl (fun j => iI (a3_2_c j))))] → va_S A s.heap H locs → lv_has ls 9 [(0, .ref t), (1, .ref a1), (2, .ref a2), (3, .ref a3), (4, .int (iI x3_4)), (5, .int (iI x94_5)), (6, .int (iI x94_6)), (7, .int (iI x94_7)), (8, .int (iI x94_8))] → W p l e ({ frames := 12, cells := 0, slots := 0, locals := 300 } : Room) s m ag below meth c H locs 0 0 Q (F0 m 94 ls []) := by
        intro x94_5 x94_6 x94_7 x94_8 f94_t_4 c94_t_3 c94_a1 H locs ls hf94 hc94_t_3 hc94_a1 hP hD hS hl
        refine lv_aload_n hx hb dX9_spread_94 rfl (lv_at hl 0 rfl) ?_
        refine lv_aload_n hx hb dX9_spread_95 rfl (lv_at hl 1 rfl) ?_
        refine lv_aload_n hx hb dX9_spread_96 rfl (lv_at hl 3 rfl) ?_
        refine lv_aload_n hx hb dX9_spread_97 rfl (lv_at hl 2 rfl) ?_
        refine lv_iload hx hb dX9_spread_98 (lv_at hl 7 rfl) ?_
        refine lv_iload hx hb dX9_spread_100 (lv_at hl 8 rfl) ?_
        refine fn_goi (wc := [(a2, .inr (5, oX5 a2_q a2_x0)), ((a2_q 1), .inl (K 0, 5, .inl (fun j => iI (a2_1_c j)))), ((a2_q 2), .inl (K 0, 150, .inl (fun j => iI (a2_2_c j))))]) (wr := [(t, .inr (9, oX9 t_q t_x0 f94_t_4)), ((t_q 3), .inl (K 0, 150, .inl (fun j => iI (c94_t_3 j)))), (a1, .inl (K 0, 150, .inl (fun j => iI (c94_a1 j)))), (a3, .inr (10, oX10 a3_q a3_x0 a3_x1 a3_x6)), ((a3_q 4), .inl (K 0, 12, .inl (fun j => iI (a3_4_c j)))), ((a3_q 2), .inl (K 0, 12, .inl (fun j => iI (a3_2_c j))))]) hK hP hD hS hA [3, 4, 5] [0, 1, 2, 6, 7, 8] rfl rfl (by decide) (fun hp => va_runVN (C := RX5) (As := [.int (iI x94_7), .int (iI x94_8)]) (rest := [.ref a3, .ref a1, .ref t]) ⟨hx, hb, hml, hown, hts⟩ (k_X5_onLeaf (l := l) (D := D) (K := K) (t := a2) (p1 := x94_7) (p2 := x94_8) (t_q := a2_q) (t_x0 := a2_x0) (t_1_c := a2_1_c) (t_2_c := a2_2_c) (hp1 := (by omega)) (hp2 := (by omega)) (hi_t := hi_a2) (hc_t_1 := hc_a2_1) (hc_t_2 := hc_a2_2) _) ⟨va_cnB (own := RX9) 2 hts (fn_gin wd_650) rfl rfl rfl (hK.nw 133 rfl) (hts _ wd_5) (by decide +kernel) ⟨Nat.le_of_ble_eq_true rfl, Nat.le_of_ble_eq_true rfl⟩, hts _ wd_649, hts _ wp_24⟩ ⟨fn_blind, va_recv hK.1 hP (ci := 5) (q0 := 3) rfl rfl, hp⟩ rfl rfl hl.1 rfl (lv_room (Nat.le_of_ble_eq_true rfl)) dX9_spread_102 ⟨Nat.le_of_ble_eq_true rfl, Nat.le_of_ble_eq_true rfl⟩) (fun r102 u102 H locs hwu102 hP hD hS => ?_)
        obtain ⟨u102a, u102b⟩ := u102
        obtain ⟨kr102, rfl, hkr102, -⟩ := hwu102
        have hP : va_P D vwCl [(t, .inr (9, oX9 t_q t_x0 f94_t_4)), ((t_q 3), .inl (K 0, 150, .inl (fun j => iI (c94_t_3 j)))), (a1, .inl (K 0, 150, .inl (fun j => iI (c94_a1 j)))), (a3, .inr (10, oX10 a3_q a3_x0 a3_x1 a3_x6)), ((a3_q 4), .inl (K 0, 12, .inl (fun j => iI (a3_4_c j)))), ((a3_q 2), .inl (K 0, 12, .inl (fun j => iI (a3_2_c j)))), (a2, .inr (5, oX5 a2_q a2_x0)), ((a2_q 1), .inl (K 0, 5, .inl (fun j => iI (a2_1_c j)))), ((a2_q 2), .inl (K 0, 150, .inl (fun j => iI (a2_2_c j))))] H := hP
        have hD : va_D A [(t, .inr (9, oX9 t_q t_x0 f94_t_4)), ((t_q 3), .inl (K 0, 150, .inl (fun j => iI (c94_t_3 j)))), (a1, .inl (K 0, 150, .inl (fun j => iI (c94_a1 j)))), (a3, .inr (10, oX10 a3_q a3_x0 a3_x1 a3_x6)), ((a3_q 4), .inl (K 0, 12, .inl (fun j => iI (a3_4_c j)))), ((a3_q 2), .inl (K 0, 12, .inl (fun j => iI (a3_2_c j)))), (a2, .inr (5, oX5 a2_q a2_x0)), ((a2_q 1), .inl (K 0, 5, .inl (fun j => iI (a2_1_c j)))), ((a2_q 2), .inl (K 0, 150, .inl (fun j => iI (a2_2_c j))))] := hD
        refine lv_iload hx hb dX9_spread_105 (lv_at hl 6 rfl) ?_
        refine fn_gov (wc := [(a3, .inr (10, oX10 a3_q a3_x0 a3_x1 a3_x6)), ((a3_q 4), .inl (K 0, 12, .inl (fun j => iI (a3_4_c j)))), ((a3_q 2), .inl (K 0, 12, .inl (fun j => iI (a3_2_c j)))), (t, .inr (9, oX9 t_q t_x0 f94_t_4)), (a1, .inl (K 0, 150, .inl (fun j => iI (c94_a1 j)))), ((t_q 3), .inl (K 0, 150, .inl (fun j => iI (c94_t_3 j))))]) (wr := [(a2, .inr (5, oX5 a2_q a2_x0)), ((a2_q 1), .inl (K 0, 5, .inl (fun j => iI (a2_1_c j)))), ((a2_q 2), .inl (K 0, 150, .inl (fun j => iI (a2_2_c j))))]) hK hP hD hS hA [3, 4, 5, 0, 2, 1] [6, 7, 8] rfl rfl (by decide) (fun hp => va_runV (C := RX9) (As := [.ref a1, .ref a3, .int (iI kr102), .int (iI x94_6)]) (rest := []) ⟨hx, hb, hml, hown, hts⟩ (k_X9_followNotes (l := l) (D := D) (K := K) (t := t) (a1 := a1) (a2 := a3) (p3 := kr102) (p4 := x94_6) (a2_q := a3_q) (a2_x0 := a3_x0) (a2_x1 := a3_x1) (a2_x6 := a3_x6) (a2_4_c := a3_4_c) (a2_2_c := a3_2_c) (t_q := t_q) (t_x0 := t_x0) (t_x4 := f94_t_4) (a1_c := c94_a1) (t_3_c := c94_t_3) (hp3 := (by omega)) (hp4 := (by omega)) (hi_a2 := hi_a3) (hc_a2_4 := hc_a3_4) (hc_a2_2 := hc_a3_2) (hi_t := ⟨hi_t.1, (by omega)⟩) (hc_a1 := hc94_a1) (hc_t_3 := hc94_t_3) _) (cwV 4 hts (fn_ginV (fn_gin wd_943) wd_940 wd_942 wp_55 wd_9) rfl rfl rfl (by decide +kernel) ⟨Nat.le_of_ble_eq_true rfl, Nat.le_of_ble_eq_true rfl⟩) ⟨fn_blind, va_recv hK.1 hP (ci := 9) (q0 := 0) rfl rfl, hp⟩ rfl rfl hl.1 rfl (lv_room (Nat.le_of_ble_eq_true rfl)) dX9_spread_107 ⟨Nat.le_of_ble_eq_true rfl, Nat.le_of_ble_eq_true rfl⟩) (fun u107 H locs hwu107 hP hD hS => ?_)
        obtain ⟨u107a, u107b⟩ := u107
        obtain ⟨hqu1070, hu107_00, hu107_10, -⟩ := hwu107
        have hqu107 : 0 ≤ (u107a 0) ∧ (u107a 0) ≤ 150 := hqu1070
        have hu107_0 : ∀ j : Nat, (-2147483648) ≤ (u107b 0) j ∧ (u107b 0) j ≤ 2147483647 := hu107_00
        have hu107_1 : ∀ j : Nat, 0 ≤ (u107b 1) j ∧ (u107b 1) j ≤ 149 := hu107_10
        clear hqu1070 hu107_00 hu107_10
        have hP : va_P D vwCl [(a2, .inr (5, oX5 a2_q a2_x0)), ((a2_q 1), .inl (K 0, 5, .inl (fun j => iI (a2_1_c j)))), ((a2_q 2), .inl (K 0, 150, .inl (fun j => iI (a2_2_c j)))), (a3, .inr (10, oX10 a3_q a3_x0 a3_x1 a3_x6)), ((a3_q 4), .inl (K 0, 12, .inl (fun j => iI (a3_4_c j)))), ((a3_q 2), .inl (K 0, 12, .inl (fun j => iI (a3_2_c j)))), (t, .inr (9, oX9 t_q t_x0 (u107a 0))), (a1, .inl (K 0, 150, .inl (fun j => iI ((u107b 0) j)))), ((t_q 3), .inl (K 0, 150, .inl (fun j => iI ((u107b 1) j))))] H := hP
        have hD : va_D A [(a2, .inr (5, oX5 a2_q a2_x0)), ((a2_q 1), .inl (K 0, 5, .inl (fun j => iI (a2_1_c j)))), ((a2_q 2), .inl (K 0, 150, .inl (fun j => iI (a2_2_c j)))), (a3, .inr (10, oX10 a3_q a3_x0 a3_x1 a3_x6)), ((a3_q 4), .inl (K 0, 12, .inl (fun j => iI (a3_4_c j)))), ((a3_q 2), .inl (K 0, 12, .inl (fun j => iI (a3_2_c j)))), (t, .inr (9, oX9 t_q t_x0 (u107a 0))), (a1, .inl (K 0, 150, .inl (fun j => iI ((u107b 0) j)))), ((t_q 3), .inl (K 0, 150, .inl (fun j => iI ((u107b 1) j))))] := hD
        refine lv_iinc (v := iI (x3_4 + 1)) (lv' := [(4, .int (iI (x3_4 + 1))), (0, .ref t), (1, .ref a1), (2, .ref a2), (3, .ref a3), (5, .int (iI x94_5)), (6, .int (iI x94_6)), (7, .int (iI x94_7)), (8, .int (iI x94_8))]) hx hb dX9_spread_110 hl (k := 4) rfl (iI_add _ _) (by decide) rfl (fun ls hl => ?_)
        refine lv_goto (tgt := 3) hx hb dX9_spread_113 (by decide) ?_
        exact ih3 (x3_4 + 1) (u107a 0) (u107b 1) (u107b 0) _ _ ls (by omega) (by omega) hu107_1 hu107_0 (hP.sub [6, 8, 7, 0, 1, 2, 3, 4, 5] rfl) (hD.sub [6, 8, 7, 0, 1, 2, 3, 4, 5] (by decide) rfl) hS (lv_sub hl [1, 2, 3, 4, 0] rfl)
      have J69 : ∀ (x69_5 : Int) (x69_6 : Int) (x69_7 : Int) (x69_8 : Int) (f69_t_4 : Int) (c69_t_3 : Nat → Int) (c69_a1 : Nat → Int) (H : Heap) (locs : List Loc) (ls : Array Slot), (0 ≤ x3_4 ∧ x3_4 ≤ 149 ∧ 0 ≤ x69_5 ∧ x69_5 ≤ 149 ∧ (-2147483648) ≤ x69_6 ∧ x69_6 ≤ 2147483647 ∧ 0 ≤ x69_7 ∧ x69_7 ≤ 4 ∧ 0 ≤ x69_8 ∧ x69_8 ≤ 29 ∧ 0 ≤ f69_t_4 ∧ f69_t_4 ≤ 150 ∧ x69_5 = 30 * x69_7 + x69_8) → (∀ j : Nat, 0 ≤ c69_t_3 j ∧ c69_t_3 j ≤ 149) → (∀ j : Nat, (-2147483648) ≤ c69_a1 j ∧ c69_a1 j ≤ 2147483647) → va_P D vwCl [(t, .inr (9, oX9 t_q t_x0 f69_t_4)), ((t_q 3), .inl (K 0, 150, .inl (fun j => iI (c69_t_3 j)))), (a1, .inl (K 0, 150, .inl (fun j => iI (c69_a1 j)))), (a2, .inr (5, oX5 a2_q a2_x0)), ((a2_q 1), .inl (K 0, 5, .inl (fun j => iI (a2_1_c j)))), ((a2_q 2), .inl (K 0, 150, .inl (fun j => iI (a2_2_c j)))), (a3, .inr (10, oX10 a3_q a3_x0 a3_x1 a3_x6)), ((a3_q 4), .inl (K 0, 12, .inl (fun j => iI (a3_4_c j)))), ((a3_q 2), .inl (K 0, 12, .inl (fun j => iI (a3_2_c j))))] H → va_D A [(t, .inr (9, oX9 t_q t_x0 f69_t_4)), ((t_q 3), .inl (K 0, 150, .inl (fun j => iI (c69_t_3 j)))), (a1, .inl (K 0, 150, .inl (fun j => iI (c69_a1 j)))), (a2, .inr (5, oX5 a2_q a2_x0)), ((a2_q 1), .inl (K 0, 5, .inl (fun j => iI (a2_1_c j)))), ((a2_q 2), .inl (K 0, 150, .inl (fun j => iI (a2_2_c j)))), (a3, .inr (10, oX10 a3_q a3_x0 a3_x1 a3_x6)), ((a3_q 4), .inl (K 0, 12, .inl (fun j => iI (a3_4_c j)))), ((a3_q 2), .inl (K 0, 12, .inl (fun j => iI (a3_2_c j))))] → va_S A s.heap H locs → lv_has ls 9 [(0, .ref t), (1, .ref a1), (2, .ref a2), (3, .ref a3), (4, .int (iI x3_4)), (5, .int (iI x69_5)), (6, .int (iI x69_6)), (7, .int (iI x69_7)), (8, .int (iI x69_8))] → W p l e ({ frames := 12, cells := 0, slots := 0, locals := 300 } : Room) s m ag below meth c H locs 0 0 Q (F0 m 69 ls []) := by
        intro x69_5 x69_6 x69_7 x69_8 f69_t_4 c69_t_3 c69_a1 H locs ls hf69 hc69_t_3 hc69_a1 hP hD hS hl
        refine lv_iload hx hb dX9_spread_69 (lv_at hl 8 rfl) ?_
        refine lv_iconst (v := iI 1) hx hb dX9_spread_71 rfl ?_
        refine g_iadd hx hb dX9_spread_72 ?_
        refine lv_aload_n hx hb dX9_spread_73 rfl (lv_at hl 2 rfl) ?_
        refine va_getN (D := D) (own := RX9) (ci := 5) (v := .ref (a2_q 1)) (C := RX5) (T := TX5) (N := 8) hx hb hts inb_X5 hown hK.1 hP 3 rfl rfl 1 (by decide) (hK.nf 58 rfl) (fun _ h9 => h9) rfl dX9_spread_74 ?_
        refine lv_iload hx hb dX9_spread_77 (lv_at hl 7 rfl) ?_
        refine g_iald hx hb hK.1 hP 4 0 rfl rfl (by omega) (by omega) (by decide) dX9_spread_79 ?_
        have y79 : (-1000) ≤ (a2_1_c x69_7.toNat) ∧ (a2_1_c x69_7.toNat) ≤ 30 := hc_a2_1 x69_7.toNat
        refine g_icmp_ge (tgt := 94) hx hb (by omega) (by omega) dX9_spread_80 (by decide) (fun c80 => ?_) (fun c80 => ?_)
        · exact J94 x69_5 x69_6 x69_7 x69_8 f69_t_4 c69_t_3 c69_a1 _ _ ls (by omega) hc69_t_3 hc69_a1 (hP.sub [0, 1, 2, 3, 4, 5, 6, 7, 8] rfl) (hD.sub [0, 1, 2, 3, 4, 5, 6, 7, 8] (by decide) rfl) hS (lv_sub hl [0, 1, 2, 3, 4, 5, 6, 7, 8] rfl)
        · refine lv_aload_n hx hb dX9_spread_83 rfl (lv_at hl 0 rfl) ?_
          refine lv_aload_n hx hb dX9_spread_84 rfl (lv_at hl 1 rfl) ?_
          refine lv_iload hx hb dX9_spread_85 (lv_at hl 5 rfl) ?_
          refine lv_iconst (v := iI 1) hx hb dX9_spread_87 rfl ?_
          refine g_iadd hx hb dX9_spread_88 ?_
          refine lv_iload hx hb dX9_spread_89 (lv_at hl 6 rfl) ?_
          refine fn_gov (wc := [(a1, .inl (K 0, 150, .inl (fun j => iI (c69_a1 j)))), (t, .inr (9, oX9 t_q t_x0 f69_t_4)), ((t_q 3), .inl (K 0, 150, .inl (fun j => iI (c69_t_3 j))))]) (wr := [(a2, .inr (5, oX5 a2_q a2_x0)), ((a2_q 1), .inl (K 0, 5, .inl (fun j => iI (a2_1_c j)))), ((a2_q 2), .inl (K 0, 150, .inl (fun j => iI (a2_2_c j)))), (a3, .inr (10, oX10 a3_q a3_x0 a3_x1 a3_x6)), ((a3_q 4), .inl (K 0, 12, .inl (fun j => iI (a3_4_c j)))), ((a3_q 2), .inl (K 0, 12, .inl (fun j => iI (a3_2_c j))))]) hK hP hD hS hA [2, 0, 1] [3, 4, 5, 6, 7, 8] rfl rfl (by decide) (fun hp => va_runV (C := RX9) (As := [.ref a1, .int (iI (x69_5 + 1)), .int (iI x69_6)]) (rest := []) ⟨hx, hb, hml, hown, hts⟩ (k_X9_arrive (l := l) (D := D) (K := K) (t := t) (a1 := a1) (p2 := (x69_5 + 1)) (p3 := x69_6) (a1_c := c69_a1) (t_q := t_q) (t_x0 := t_x0) (t_x4 := f69_t_4) (t_3_c := c69_t_3) (hp2 := (by omega)) (hp3 := (by omega)) (hc_a1 := hc69_a1) (hi_t := ⟨hi_t.1, (by omega)⟩) (hc_t_3 := hc69_t_3) _) (cwV 3 hts (fn_ginV (fn_gin wd_934) wd_931 wd_933 wp_53 wd_9) rfl rfl rfl (by decide +kernel) ⟨Nat.le_of_ble_eq_true rfl, Nat.le_of_ble_eq_true rfl⟩) ⟨fn_blind, va_recv hK.1 hP (ci := 9) (q0 := 0) rfl rfl, hp⟩ rfl rfl hl.1 rfl (lv_room (Nat.le_of_ble_eq_true rfl)) dX9_spread_91 ⟨Nat.le_of_ble_eq_true rfl, Nat.le_of_ble_eq_true rfl⟩) (fun u91 H locs hwu91 hP hD hS => ?_)
          obtain ⟨u91a, u91b⟩ := u91
          obtain ⟨hqu910, hu91_00, hu91_10, -⟩ := hwu91
          have hqu91 : 0 ≤ (u91a 0) ∧ (u91a 0) ≤ 150 := hqu910
          have hu91_0 : ∀ j : Nat, (-2147483648) ≤ (u91b 0) j ∧ (u91b 0) j ≤ 2147483647 := hu91_00
          have hu91_1 : ∀ j : Nat, 0 ≤ (u91b 1) j ∧ (u91b 1) j ≤ 149 := hu91_10
          clear hqu910 hu91_00 hu91_10
          have hP : va_P D vwCl [(a2, .inr (5, oX5 a2_q a2_x0)), ((a2_q 1), .inl (K 0, 5, .inl (fun j => iI (a2_1_c j)))), ((a2_q 2), .inl (K 0, 150, .inl (fun j => iI (a2_2_c j)))), (a3, .inr (10, oX10 a3_q a3_x0 a3_x1 a3_x6)), ((a3_q 4), .inl (K 0, 12, .inl (fun j => iI (a3_4_c j)))), ((a3_q 2), .inl (K 0, 12, .inl (fun j => iI (a3_2_c j)))), (a1, .inl (K 0, 150, .inl (fun j => iI ((u91b 0) j)))), (t, .inr (9, oX9 t_q t_x0 (u91a 0))), ((t_q 3), .inl (K 0, 150, .inl (fun j => iI ((u91b 1) j))))] H := hP
          have hD : va_D A [(a2, .inr (5, oX5 a2_q a2_x0)), ((a2_q 1), .inl (K 0, 5, .inl (fun j => iI (a2_1_c j)))), ((a2_q 2), .inl (K 0, 150, .inl (fun j => iI (a2_2_c j)))), (a3, .inr (10, oX10 a3_q a3_x0 a3_x1 a3_x6)), ((a3_q 4), .inl (K 0, 12, .inl (fun j => iI (a3_4_c j)))), ((a3_q 2), .inl (K 0, 12, .inl (fun j => iI (a3_2_c j)))), (a1, .inl (K 0, 150, .inl (fun j => iI ((u91b 0) j)))), (t, .inr (9, oX9 t_q t_x0 (u91a 0))), ((t_q 3), .inl (K 0, 150, .inl (fun j => iI ((u91b 1) j))))] := hD
          exact J94 x69_5 x69_6 x69_7 x69_8 (u91a 0) (u91b 1) (u91b 0) _ _ ls (by omega) hu91_1 hu91_0 (hP.sub [7, 8, 6, 0, 1, 2, 3, 4, 5] rfl) (hD.sub [7, 8, 6, 0, 1, 2, 3, 4, 5] (by decide) rfl) hS (lv_sub hl [0, 1, 2, 3, 4, 5, 6, 7, 8] rfl)
      refine lv_iload hx hb dX9_spread_3 (lv_at hl 4 rfl) ?_
      refine lv_aload_n hx hb dX9_spread_5 rfl (lv_at hl 0 rfl) ?_
      refine va_get (D := D) (own := RX9) (ci := 9) (v := .int (iI f3_t_4)) (C := RX9) (T := TX9) (N := 6) hx hb hts inb_X9 hown hK.1 hP 0 rfl rfl 4 (by decide) (hts _ wd_322) (fun _ h9 => h9) rfl dX9_spread_6 ?_
      refine g_icmp_ge (tgt := 116) hx hb (by omega) (by omega) dX9_spread_9 (by decide) (fun c9 => ?_) (fun c9 => ?_)
      · rw [hQ]; exact fn_vret hx hb hr hlocks hP hD hS ((fun k => ([f3_t_4] : List Int).getD k 0), (fun k => ([c3_a1, c3_t_3] : List (Nat → Int)).getD k (fun _ => 0))) ⟨(by show 0 ≤ f3_t_4 ∧ f3_t_4 ≤ 150; omega), (hc3_a1), (hc3_t_3), trivial⟩ [0, 1, 2, 3, 4, 5, 6, 7, 8] (by decide) rfl dX9_spread_116
      · refine lv_iload hx hb dX9_spread_12 (lv_at hl 4 rfl) ?_
        refine lv_aload_n hx hb dX9_spread_14 rfl (lv_at hl 0 rfl) ?_
        refine va_get (D := D) (own := RX9) (ci := 9) (v := .ref (t_q 3)) (C := RX9) (T := TX9) (N := 6) hx hb hts inb_X9 hown hK.1 hP 0 rfl rfl 3 (by decide) (hts _ wd_321) (fun _ h9 => h9) rfl dX9_spread_15 ?_
        refine va_alen (v := iI 150) hx hb hK.1 hP 1 0 rfl rfl (by show Int32.ofNat 150 = iI 150; decide) dX9_spread_18 ?_
        refine g_icmp_ge (tgt := 116) hx hb (by omega) (by omega) dX9_spread_19 (by decide) (fun c19 => ?_) (fun c19 => ?_)
        · exfalso; omega
        · refine lv_aload_n hx hb dX9_spread_22 rfl (lv_at hl 0 rfl) ?_
          refine va_get (D := D) (own := RX9) (ci := 9) (v := .ref (t_q 3)) (C := RX9) (T := TX9) (N := 6) hx hb hts inb_X9 hown hK.1 hP 0 rfl rfl 3 (by decide) (hts _ wd_321) (fun _ h9 => h9) rfl dX9_spread_23 ?_
          refine lv_iload hx hb dX9_spread_26 (lv_at hl 4 rfl) ?_
          refine g_iald hx hb hK.1 hP 1 0 rfl rfl (by omega) (by omega) (by decide) dX9_spread_28 ?_
          have y28 : 0 ≤ (c3_t_3 x3_4.toNat) ∧ (c3_t_3 x3_4.toNat) ≤ 149 := hc3_t_3 x3_4.toNat
          refine lv_istore (lv' := [(5, .int (iI (c3_t_3 x3_4.toNat))), (0, .ref t), (1, .ref a1), (2, .ref a2), (3, .ref a3), (4, .int (iI x3_4))]) hx hb dX9_spread_29 hl (by decide) rfl (fun ls hl => ?_)
          refine lv_aload_n hx hb dX9_spread_31 rfl (lv_at hl 2 rfl) ?_
          refine lv_iload hx hb dX9_spread_32 (lv_at hl 0 rfl) ?_
          refine g_iald hx hb hK.1 hP 2 0 rfl rfl (by omega) (by omega) (by decide) dX9_spread_34 ?_
          have y34 : (-2147483648) ≤ (c3_a1 ((c3_t_3 x3_4.toNat).toNat)) ∧ (c3_a1 ((c3_t_3 x3_4.toNat).toNat)) ≤ 2147483647 := hc3_a1 ((c3_t_3 x3_4.toNat).toNat)
          refine lv_iconst (v := iI 1) hx hb dX9_spread_35 rfl ?_
          refine g_iadd hx hb dX9_spread_36 ?_
          refine g_any (fun w36 hw36 ew36 => ?_)
          refine fn_at 37 rfl ?_
          refine lv_istore (lv' := [(6, .int (iI w36)), (5, .int (iI (c3_t_3 x3_4.toNat))), (0, .ref t), (1, .ref a1), (2, .ref a2), (3, .ref a3), (4, .int (iI x3_4))]) hx hb dX9_spread_37 hl (by decide) rfl (fun ls hl => ?_)
          refine lv_iload hx hb dX9_spread_39 (lv_at hl 1 rfl) ?_
          refine lv_bipush (v := iI 30) hx hb dX9_spread_41 (by decide) ?_
          refine g_idiv hx hb (by omega) (by omega) dX9_spread_43 ?_
          refine lv_istore (lv' := [(7, .int (iI ((c3_t_3 x3_4.toNat) / 30))), (6, .int (iI w36)), (5, .int (iI (c3_t_3 x3_4.toNat))), (0, .ref t), (1, .ref a1), (2, .ref a2), (3, .ref a3), (4, .int (iI x3_4))]) hx hb dX9_spread_44 hl (by decide) rfl (fun ls hl => ?_)
          refine lv_iload hx hb dX9_spread_46 (lv_at hl 2 rfl) ?_
          refine lv_bipush (v := iI 30) hx hb dX9_spread_48 (by decide) ?_
          refine g_irem hx hb (by omega) (by omega) dX9_spread_50 ?_
          refine lv_istore (lv' := [(8, .int (iI ((c3_t_3 x3_4.toNat) % 30))), (7, .int (iI ((c3_t_3 x3_4.toNat) / 30))), (6, .int (iI w36)), (5, .int (iI (c3_t_3 x3_4.toNat))), (0, .ref t), (1, .ref a1), (2, .ref a2), (3, .ref a3), (4, .int (iI x3_4))]) hx hb dX9_spread_51 hl (by decide) rfl (fun ls hl => ?_)
          refine lv_iload hx hb dX9_spread_53 (lv_at hl 0 rfl) ?_
          refine g_if_le (tgt := 69) hx hb (by omega) dX9_spread_55 (by decide) (fun c55 => ?_) (fun c55 => ?_)
          · exact J69 (c3_t_3 x3_4.toNat) w36 ((c3_t_3 x3_4.toNat) / 30) ((c3_t_3 x3_4.toNat) % 30) f3_t_4 c3_t_3 c3_a1 _ _ ls (by omega) hc3_t_3 hc3_a1 (hP.sub [0, 1, 2, 3, 4, 5, 6, 7, 8] rfl) (hD.sub [0, 1, 2, 3, 4, 5, 6, 7, 8] (by decide) rfl) hS (lv_sub hl [4, 5, 6, 7, 8, 3, 2, 1, 0] rfl)
          · refine lv_aload_n hx hb dX9_spread_58 rfl (lv_at hl 4 rfl) ?_
            refine lv_aload_n hx hb dX9_spread_59 rfl (lv_at hl 5 rfl) ?_
            refine lv_iload hx hb dX9_spread_60 (lv_at hl 3 rfl) ?_
            refine lv_iconst (v := iI 1) hx hb dX9_spread_62 rfl ?_
            refine g_isub hx hb dX9_spread_63 ?_
            refine lv_iload hx hb dX9_spread_64 (lv_at hl 2 rfl) ?_
            refine fn_gov (wc := [(a1, .inl (K 0, 150, .inl (fun j => iI (c3_a1 j)))), (t, .inr (9, oX9 t_q t_x0 f3_t_4)), ((t_q 3), .inl (K 0, 150, .inl (fun j => iI (c3_t_3 j))))]) (wr := [(a2, .inr (5, oX5 a2_q a2_x0)), ((a2_q 1), .inl (K 0, 5, .inl (fun j => iI (a2_1_c j)))), ((a2_q 2), .inl (K 0, 150, .inl (fun j => iI (a2_2_c j)))), (a3, .inr (10, oX10 a3_q a3_x0 a3_x1 a3_x6)), ((a3_q 4), .inl (K 0, 12, .inl (fun j => iI (a3_4_c j)))), ((a3_q 2), .inl (K 0, 12, .inl (fun j => iI (a3_2_c j))))]) hK hP hD hS hA [2, 0, 1] [3, 4, 5, 6, 7, 8] rfl rfl (by decide) (fun hp => va_runV (C := RX9) (As := [.ref a1, .int (iI (c3_t_3 x3_4.toNat - 1)), .int (iI w36)]) (rest := []) ⟨hx, hb, hml, hown, hts⟩ (k_X9_arrive (l := l) (D := D) (K := K) (t := t) (a1 := a1) (p2 := (c3_t_3 x3_4.toNat - 1)) (p3 := w36) (a1_c := c3_a1) (t_q := t_q) (t_x0 := t_x0) (t_x4 := f3_t_4) (t_3_c := c3_t_3) (hp2 := (by omega)) (hp3 := (by omega)) (hc_a1 := hc3_a1) (hi_t := ⟨hi_t.1, (by omega)⟩) (hc_t_3 := hc3_t_3) _) (cwV 3 hts (fn_ginV (fn_gin wd_934) wd_931 wd_933 wp_53 wd_9) rfl rfl rfl (by decide +kernel) ⟨Nat.le_of_ble_eq_true rfl, Nat.le_of_ble_eq_true rfl⟩) ⟨fn_blind, va_recv hK.1 hP (ci := 9) (q0 := 0) rfl rfl, hp⟩ rfl rfl hl.1 rfl (lv_room (Nat.le_of_ble_eq_true rfl)) dX9_spread_66 ⟨Nat.le_of_ble_eq_true rfl, Nat.le_of_ble_eq_true rfl⟩) (fun u66 H locs hwu66 hP hD hS => ?_)
            obtain ⟨u66a, u66b⟩ := u66
            obtain ⟨hqu660, hu66_00, hu66_10, -⟩ := hwu66
            have hqu66 : 0 ≤ (u66a 0) ∧ (u66a 0) ≤ 150 := hqu660
            have hu66_0 : ∀ j : Nat, (-2147483648) ≤ (u66b 0) j ∧ (u66b 0) j ≤ 2147483647 := hu66_00
            have hu66_1 : ∀ j : Nat, 0 ≤ (u66b 1) j ∧ (u66b 1) j ≤ 149 := hu66_10
            clear hqu660 hu66_00 hu66_10
            have hP : va_P D vwCl [(a2, .inr (5, oX5 a2_q a2_x0)), ((a2_q 1), .inl (K 0, 5, .inl (fun j => iI (a2_1_c j)))), ((a2_q 2), .inl (K 0, 150, .inl (fun j => iI (a2_2_c j)))), (a3, .inr (10, oX10 a3_q a3_x0 a3_x1 a3_x6)), ((a3_q 4), .inl (K 0, 12, .inl (fun j => iI (a3_4_c j)))), ((a3_q 2), .inl (K 0, 12, .inl (fun j => iI (a3_2_c j)))), (a1, .inl (K 0, 150, .inl (fun j => iI ((u66b 0) j)))), (t, .inr (9, oX9 t_q t_x0 (u66a 0))), ((t_q 3), .inl (K 0, 150, .inl (fun j => iI ((u66b 1) j))))] H := hP
            have hD : va_D A [(a2, .inr (5, oX5 a2_q a2_x0)), ((a2_q 1), .inl (K 0, 5, .inl (fun j => iI (a2_1_c j)))), ((a2_q 2), .inl (K 0, 150, .inl (fun j => iI (a2_2_c j)))), (a3, .inr (10, oX10 a3_q a3_x0 a3_x1 a3_x6)), ((a3_q 4), .inl (K 0, 12, .inl (fun j => iI (a3_4_c j)))), ((a3_q 2), .inl (K 0, 12, .inl (fun j => iI (a3_2_c j)))), (a1, .inl (K 0, 150, .inl (fun j => iI ((u66b 0) j)))), (t, .inr (9, oX9 t_q t_x0 (u66a 0))), ((t_q 3), .inl (K 0, 150, .inl (fun j => iI ((u66b 1) j))))] := hD
            exact J69 (c3_t_3 x3_4.toNat) w36 ((c3_t_3 x3_4.toNat) / 30) ((c3_t_3 x3_4.toNat) % 30) (u66a 0) (u66b 1) (u66b 0) _ _ ls (by omega) hu66_1 hu66_0 (hP.sub [7, 8, 6, 0, 1, 2, 3, 4, 5] rfl) (hD.sub [7, 8, 6, 0, 1, 2, 3, 4, 5] (by decide) rfl) hS (lv_sub hl [4, 5, 6, 7, 8, 3, 2, 1, 0] rfl)
  have hl : lv_has ls 9 [(0, .ref t), (1, .ref a1), (2, .ref a2), (3, .ref a3)] := hl
  refine lv_iconst (v := iI 0) hx hb dX9_spread_0 rfl ?_
  refine lv_istore (lv' := [(4, .int (iI 0)), (0, .ref t), (1, .ref a1), (2, .ref a2), (3, .ref a3)]) hx hb dX9_spread_1 hl (by decide) rfl (fun ls hl => ?_)
  have y3_1 : 0 ≤ t_x4 ∧ t_x4 ≤ 150 := hi_t.2
  exact J3 _ 0 t_x4 t_3_c a1_c _ _ ls (Nat.lt_succ_self _) (by omega) hc_t_3 hc_a1 (hP.sub [0, 1, 2, 3, 4, 5, 6, 7, 8] rfl) (hD.sub [0, 1, 2, 3, 4, 5, 6, 7, 8] (by decide) rfl) hS (lv_sub hl [1, 2, 3, 4, 0] rfl)
theorem wd_318 : Cond.fieldLink "FootNotes$Turns" 30 "FootNotes$Turns" "opens" "I" ∈ fn_big := fn_tb (fn_l2 (List.mem_of_getElem? (i := 78) (by decide +kernel))) (by decide +kernel)
theorem wd_319 : Cond.fieldLink "FootNotes$Turns" 9 "FootNotes$Turns" "fromDoors" "[I" ∈ fn_big := fn_tb (fn_l2 (List.mem_of_getElem? (i := 79) (by decide +kernel))) (by decide +kernel)
theorem wd_938 : Cond.code ⟨"FootNotes$Turns", "spread", "([ILFootNotes$Shelf;LFootNotes$Web;)V"⟩ prog_11_method_5_code 9 (Option.none : Option Jvm.ClassFile.FieldType) ∈ fn_big := fn_tb (fn_l4 (List.mem_of_getElem? (i := 218) (by decide +kernel))) (by decide +kernel)
theorem wd_935 : Cond.methodLink "FootNotes$Turns" 47 ⟨"FootNotes$Turns", "spread", "([ILFootNotes$Shelf;LFootNotes$Web;)V"⟩ ∈ fn_big := fn_tb (fn_l4 (List.mem_of_getElem? (i := 215) (by decide +kernel))) (by decide +kernel)
theorem wd_937 : Cond.instanceMethod ⟨"FootNotes$Turns", "spread", "([ILFootNotes$Shelf;LFootNotes$Web;)V"⟩ ∈ fn_big := fn_tb (fn_l4 (List.mem_of_getElem? (i := 217) (by decide +kernel))) (by decide +kernel)
theorem wp_54 : Cond.selects "FootNotes$Turns" ⟨"FootNotes$Turns", "spread", "([ILFootNotes$Shelf;LFootNotes$Web;)V"⟩ ⟨"FootNotes$Turns", "spread", "([ILFootNotes$Shelf;LFootNotes$Web;)V"⟩ ∈ fn_big := fn_sel (q := (⟨"FootNotes$Turns", "spread", "([ILFootNotes$Shelf;LFootNotes$Web;)V"⟩, 6)) 54 (by decide +kernel) (by decide +kernel)
theorem wd_930 : Cond.methodLink "FootNotes$Turns" 31 ⟨"java/util/Arrays", "fill", "([II)V"⟩ ∈ fn_big := fn_tb (fn_l4 (List.mem_of_getElem? (i := 210) (by decide +kernel))) (by decide +kernel)
theorem dX9_measureFromDoors_24 : decode cX9_measureFromDoors 24 = .ok (.iload 4, 2) := by decide +kernel
theorem dX9_measureFromDoors_26 : decode cX9_measureFromDoors 26 = .ok (.aload_n 1, 1) := by decide +kernel
theorem dX9_measureFromDoors_27 : decode cX9_measureFromDoors 27 = .ok (.getfield 40, 3) := by decide +kernel
theorem dX9_measureFromDoors_30 : decode cX9_measureFromDoors 30 = .ok (.if_icmp .ge 23, 3) := by decide +kernel
theorem dX9_measureFromDoors_53 : decode cX9_measureFromDoors 53 = .ok (.aload_n 0, 1) := by decide +kernel
theorem dX9_measureFromDoors_54 : decode cX9_measureFromDoors 54 = .ok (.aload_n 0, 1) := by decide +kernel
theorem dX9_measureFromDoors_55 : decode cX9_measureFromDoors 55 = .ok (.getfield 9, 3) := by decide +kernel
theorem dX9_measureFromDoors_58 : decode cX9_measureFromDoors 58 = .ok (.aload_n 2, 1) := by decide +kernel
theorem dX9_measureFromDoors_59 : decode cX9_measureFromDoors 59 = .ok (.aload_n 3, 1) := by decide +kernel
theorem dX9_measureFromDoors_60 : decode cX9_measureFromDoors 60 = .ok (.invokevirtual 47, 3) := by decide +kernel
theorem dX9_measureFromDoors_63 : decode cX9_measureFromDoors 63 = .ok (.return_, 1) := by decide +kernel
theorem dX9_measureFromDoors_33 : decode cX9_measureFromDoors 33 = .ok (.aload_n 0, 1) := by decide +kernel
theorem dX9_measureFromDoors_34 : decode cX9_measureFromDoors 34 = .ok (.aload_n 0, 1) := by decide +kernel
theorem dX9_measureFromDoors_35 : decode cX9_measureFromDoors 35 = .ok (.getfield 9, 3) := by decide +kernel
theorem dX9_measureFromDoors_38 : decode cX9_measureFromDoors 38 = .ok (.iload 4, 2) := by decide +kernel
theorem dX9_measureFromDoors_40 : decode cX9_measureFromDoors 40 = .ok (.bipush 30, 2) := by decide +kernel
theorem dX9_measureFromDoors_42 : decode cX9_measureFromDoors 42 = .ok (.imul, 1) := by decide +kernel
theorem dX9_measureFromDoors_43 : decode cX9_measureFromDoors 43 = .ok (.iconst 0, 1) := by decide +kernel
theorem dX9_measureFromDoors_44 : decode cX9_measureFromDoors 44 = .ok (.invokevirtual 43, 3) := by decide +kernel
theorem dX9_measureFromDoors_47 : decode cX9_measureFromDoors 47 = .ok (.iinc 4 1, 3) := by decide +kernel
theorem dX9_measureFromDoors_50 : decode cX9_measureFromDoors 50 = .ok (.goto (-26), 3) := by decide +kernel
theorem dX9_measureFromDoors_0 : decode cX9_measureFromDoors 0 = .ok (.aload_n 0, 1) := by decide +kernel
theorem dX9_measureFromDoors_1 : decode cX9_measureFromDoors 1 = .ok (.aload_n 1, 1) := by decide +kernel
theorem dX9_measureFromDoors_2 : decode cX9_measureFromDoors 2 = .ok (.getfield 24, 3) := by decide +kernel
theorem dX9_measureFromDoors_5 : decode cX9_measureFromDoors 5 = .ok (.putfield 30, 3) := by decide +kernel
theorem dX9_measureFromDoors_8 : decode cX9_measureFromDoors 8 = .ok (.aload_n 0, 1) := by decide +kernel
theorem dX9_measureFromDoors_9 : decode cX9_measureFromDoors 9 = .ok (.getfield 9, 3) := by decide +kernel
theorem dX9_measureFromDoors_12 : decode cX9_measureFromDoors 12 = .ok (.iconst (-1), 1) := by decide +kernel
theorem dX9_measureFromDoors_13 : decode cX9_measureFromDoors 13 = .ok (.invokestatic 31, 3) := by decide +kernel
theorem dX9_measureFromDoors_16 : decode cX9_measureFromDoors 16 = .ok (.aload_n 0, 1) := by decide +kernel
theorem dX9_measureFromDoors_17 : decode cX9_measureFromDoors 17 = .ok (.iconst 0, 1) := by decide +kernel
theorem dX9_measureFromDoors_18 : decode cX9_measureFromDoors 18 = .ok (.putfield 37, 3) := by decide +kernel
theorem dX9_measureFromDoors_21 : decode cX9_measureFromDoors 21 = .ok (.iconst 0, 1) := by decide +kernel
theorem dX9_measureFromDoors_22 : decode cX9_measureFromDoors 22 = .ok (.istore 4, 2) := by decide +kernel
set_option maxHeartbeats 4000000 in
set_option maxRecDepth 100000 in
theorem k_X9_measureFromDoors (l : Launch) (D : va_G) (K : Nat → ClassId) (t a1 a2 a3 : Nat) (a1_q t_q a2_q a3_q : Nat → Nat) (a1_x0 a1_x1 a1_x2 a1_x3 a1_x4 a1_x5 a1_x6 a1_x7 a1_x8 t_x0 t_x4 a2_x0 a3_x0 a3_x1 a3_x6 : Int) (t_1_c : Nat → Int) (t_3_c : Nat → Int) (a2_1_c : Nat → Int) (a2_2_c : Nat → Int) (a3_4_c : Nat → Int) (a3_2_c : Nat → Int) (hi_a1 : bX7 a1_x0 a1_x1 a1_x2 a1_x3 a1_x4 a1_x5 a1_x6 a1_x7 a1_x8) (hi_t : bX9 t_x0 t_x4) (hc_t_1 : ∀ j : Nat, (-2147483648) ≤ t_1_c j ∧ t_1_c j ≤ 2147483647) (hc_t_3 : ∀ j : Nat, 0 ≤ t_3_c j ∧ t_3_c j ≤ 149) (hi_a2 : bX5 a2_x0) (hc_a2_1 : ∀ j : Nat, (-1000) ≤ a2_1_c j ∧ a2_1_c j ≤ 30) (hc_a2_2 : ∀ j : Nat, (-4) ≤ a2_2_c j ∧ a2_2_c j ≤ 11) (hi_a3 : bX10 a3_x0 a3_x1 a3_x6) (hc_a3_4 : ∀ j : Nat, 0 ≤ a3_4_c j ∧ a3_4_c j ≤ 4095) (hc_a3_2 : ∀ j : Nat, (-1) ≤ a3_2_c j ∧ a3_2_c j ≤ 149) : fn_CV (S := (Nat → Int) × (Nat → Nat → Int)) l D K yX9_measureFromDoors (fn_ws yX9_measureFromDoors cX9_measureFromDoors 5 none) ({ frames := 16, cells := 0, slots := 0, locals := 400 } : Room) [.ref t, .ref a1, .ref a2, .ref a3] [(a1, .inr (7, oX7 a1_q a1_x0 a1_x1 a1_x2 a1_x3 a1_x4 a1_x5 a1_x6 a1_x7 a1_x8)), (t, .inr (9, oX9 t_q t_x0 t_x4)), ((t_q 1), .inl (K 0, 150, .inl (fun j => iI (t_1_c j)))), ((t_q 3), .inl (K 0, 150, .inl (fun j => iI (t_3_c j)))), (a2, .inr (5, oX5 a2_q a2_x0)), ((a2_q 1), .inl (K 0, 5, .inl (fun j => iI (a2_1_c j)))), ((a2_q 2), .inl (K 0, 150, .inl (fun j => iI (a2_2_c j)))), (a3, .inr (10, oX10 a3_q a3_x0 a3_x1 a3_x6)), ((a3_q 4), .inl (K 0, 12, .inl (fun j => iI (a3_4_c j)))), ((a3_q 2), .inl (K 0, 12, .inl (fun j => iI (a3_2_c j))))] (fun u => ((-2147483648) ≤ (u.1 0) ∧ (u.1 0) ≤ 2147483647 ∧ 0 ≤ (u.1 1) ∧ (u.1 1) ≤ 150) ∧ (∀ j : Nat, (-2147483648) ≤ (u.2 0) j ∧ (u.2 0) j ≤ 2147483647) ∧ (∀ j : Nat, 0 ≤ (u.2 1) j ∧ (u.2 1) j ≤ 149) ∧ True) (fun u => [(a1, .inr (7, oX7 a1_q a1_x0 a1_x1 a1_x2 a1_x3 a1_x4 a1_x5 a1_x6 a1_x7 a1_x8)), (t, .inr (9, oX9 t_q (u.1 0) (u.1 1))), ((t_q 1), .inl (K 0, 150, .inl (fun j => iI ((u.2 0) j)))), ((t_q 3), .inl (K 0, 150, .inl (fun j => iI ((u.2 1) j)))), (a2, .inr (5, oX5 a2_q a2_x0)), ((a2_q 1), .inl (K 0, 5, .inl (fun j => iI (a2_1_c j)))), ((a2_q 2), .inl (K 0, 150, .inl (fun j => iI (a2_2_c j)))), (a3, .inr (10, oX10 a3_q a3_x0 a3_x1 a3_x6)), ((a3_q 4), .inl (K 0, 12, .inl (fun j => iI (a3_4_c j)))), ((a3_q 2), .inl (K 0, 12, .inl (fun j => iI (a3_2_c j))))]) 0 0 := by
  refine g_inV (cc := cX9_measureFromDoors) (maxL := 5) (ret := none) (by decide) rfl (Nat.le_of_ble_eq_true rfl) ?_
  intro p e s m below meth c A ls ag Q B hA hP hD hS hl hQ
  obtain ⟨hx, hb, hr, hml, hts, hown, hlocks, hin, hK⟩ := B
  have hown : s.vm.findClass RX9 = some m.cls := hown
  have hts := fun w h => hts w (List.mem_cons_of_mem _ h)
  have J24 : ∀ (n : Nat) (x24_4 : Int) (f24_t_4 : Int) (c24_t_1 : Nat → Int) (c24_t_3 : Nat → Int) (H : Heap) (locs : List Loc) (ls : Array Slot), (5 - x24_4).toNat < n → (0 ≤ x24_4 ∧ x24_4 ≤ 5 ∧ 0 ≤ f24_t_4 ∧ f24_t_4 ≤ 150) → (∀ j : Nat, (-2147483648) ≤ c24_t_1 j ∧ c24_t_1 j ≤ 2147483647) → (∀ j : Nat, 0 ≤ c24_t_3 j ∧ c24_t_3 j ≤ 149) → va_P D vwCl [(a1, .inr (7, oX7 a1_q a1_x0 a1_x1 a1_x2 a1_x3 a1_x4 a1_x5 a1_x6 a1_x7 a1_x8)), (t, .inr (9, oX9 t_q a1_x1 f24_t_4)), ((t_q 1), .inl (K 0, 150, .inl (fun j => iI (c24_t_1 j)))), ((t_q 3), .inl (K 0, 150, .inl (fun j => iI (c24_t_3 j)))), (a2, .inr (5, oX5 a2_q a2_x0)), ((a2_q 1), .inl (K 0, 5, .inl (fun j => iI (a2_1_c j)))), ((a2_q 2), .inl (K 0, 150, .inl (fun j => iI (a2_2_c j)))), (a3, .inr (10, oX10 a3_q a3_x0 a3_x1 a3_x6)), ((a3_q 4), .inl (K 0, 12, .inl (fun j => iI (a3_4_c j)))), ((a3_q 2), .inl (K 0, 12, .inl (fun j => iI (a3_2_c j))))] H → va_D A [(a1, .inr (7, oX7 a1_q a1_x0 a1_x1 a1_x2 a1_x3 a1_x4 a1_x5 a1_x6 a1_x7 a1_x8)), (t, .inr (9, oX9 t_q a1_x1 f24_t_4)), ((t_q 1), .inl (K 0, 150, .inl (fun j => iI (c24_t_1 j)))), ((t_q 3), .inl (K 0, 150, .inl (fun j => iI (c24_t_3 j)))), (a2, .inr (5, oX5 a2_q a2_x0)), ((a2_q 1), .inl (K 0, 5, .inl (fun j => iI (a2_1_c j)))), ((a2_q 2), .inl (K 0, 150, .inl (fun j => iI (a2_2_c j)))), (a3, .inr (10, oX10 a3_q a3_x0 a3_x1 a3_x6)), ((a3_q 4), .inl (K 0, 12, .inl (fun j => iI (a3_4_c j)))), ((a3_q 2), .inl (K 0, 12, .inl (fun j => iI (a3_2_c j))))] → va_S A s.heap H locs → lv_has ls 5 [(0, .ref t), (1, .ref a1), (2, .ref a2), (3, .ref a3), (4, .int (iI x24_4))] → W p l e ({ frames := 16, cells := 0, slots := 0, locals := 400 } : Room) s m ag below meth c H locs 0 0 Q (F0 m 24 ls []) := by
    intro n
    induction n with
    | zero =>
      intro x24_4 f24_t_4 c24_t_1 c24_t_3 H locs ls hm24 hf24 hc24_t_1 hc24_t_3 hP hD hS hl
      exact absurd hm24 (Nat.not_lt_zero _)
    | succ n ih24 =>
      intro x24_4 f24_t_4 c24_t_1 c24_t_3 H locs ls hm24 hf24 hc24_t_1 hc24_t_3 hP hD hS hl
      refine lv_iload hx hb dX9_measureFromDoors_24 (lv_at hl 4 rfl) ?_
      refine lv_aload_n hx hb dX9_measureFromDoors_26 rfl (lv_at hl 1 rfl) ?_
      refine va_getN (D := D) (own := RX9) (ci := 7) (v := .int (iI a1_x3)) (C := RX7) (T := TX7) (N := 15) hx hb hts inb_X7 hown hK.1 hP 0 rfl rfl 3 (by decide) (hK.nf 15 rfl) (fun _ h9 => h9) rfl dX9_measureFromDoors_27 ?_
      have y27_1 : 0 ≤ a1_x3 ∧ a1_x3 ≤ 5 := hi_a1.2.2.2.1
      refine g_icmp_ge (tgt := 53) hx hb (by omega) (by omega) dX9_measureFromDoors_30 (by decide) (fun c30 => ?_) (fun c30 => ?_)
      · refine lv_aload_n hx hb dX9_measureFromDoors_53 rfl (lv_at hl 0 rfl) ?_
        refine lv_aload_n hx hb dX9_measureFromDoors_54 rfl (lv_at hl 0 rfl) ?_
        refine va_get (D := D) (own := RX9) (ci := 9) (v := .ref (t_q 1)) (C := RX9) (T := TX9) (N := 6) hx hb hts inb_X9 hown hK.1 hP 1 rfl rfl 1 (by decide) (hts _ wd_319) (fun _ h9 => h9) rfl dX9_measureFromDoors_55 ?_
        refine lv_aload_n hx hb dX9_measureFromDoors_58 rfl (lv_at hl 2 rfl) ?_
        refine lv_aload_n hx hb dX9_measureFromDoors_59 rfl (lv_at hl 3 rfl) ?_
        have y60_2 : 0 ≤ a1_x1 ∧ a1_x1 ≤ 20 := hi_a1.2.1
        refine fn_gov (wc := [(t, .inr (9, oX9 t_q a1_x1 f24_t_4)), ((t_q 3), .inl (K 0, 150, .inl (fun j => iI (c24_t_3 j)))), ((t_q 1), .inl (K 0, 150, .inl (fun j => iI (c24_t_1 j)))), (a2, .inr (5, oX5 a2_q a2_x0)), ((a2_q 1), .inl (K 0, 5, .inl (fun j => iI (a2_1_c j)))), ((a2_q 2), .inl (K 0, 150, .inl (fun j => iI (a2_2_c j)))), (a3, .inr (10, oX10 a3_q a3_x0 a3_x1 a3_x6)), ((a3_q 4), .inl (K 0, 12, .inl (fun j => iI (a3_4_c j)))), ((a3_q 2), .inl (K 0, 12, .inl (fun j => iI (a3_2_c j))))]) (wr := [(a1, .inr (7, oX7 a1_q a1_x0 a1_x1 a1_x2 a1_x3 a1_x4 a1_x5 a1_x6 a1_x7 a1_x8))]) hK hP hD hS hA [1, 3, 2, 4, 5, 6, 7, 8, 9] [0] rfl rfl (by decide) (fun hp => va_runV (C := RX9) (As := [.ref (t_q 1), .ref a2, .ref a3]) (rest := []) ⟨hx, hb, hml, hown, hts⟩ (k_X9_spread (l := l) (D := D) (K := K) (t := t) (a1 := (t_q 1)) (a2 := a2) (a3 := a3) (t_q := t_q) (t_x0 := a1_x1) (t_x4 := f24_t_4) (t_3_c := c24_t_3) (a1_c := c24_t_1) (a2_q := a2_q) (a2_x0 := a2_x0) (a2_1_c := a2_1_c) (a2_2_c := a2_2_c) (a3_q := a3_q) (a3_x0 := a3_x0) (a3_x1 := a3_x1) (a3_x6 := a3_x6) (a3_4_c := a3_4_c) (a3_2_c := a3_2_c) (hi_t := ⟨(by omega), (by omega)⟩) (hc_t_3 := hc24_t_3) (hc_a1 := hc24_t_1) (hi_a2 := hi_a2) (hc_a2_1 := hc_a2_1) (hc_a2_2 := hc_a2_2) (hi_a3 := hi_a3) (hc_a3_4 := hc_a3_4) (hc_a3_2 := hc_a3_2) _) (cwV 3 hts (fn_ginV (fn_gin wd_938) wd_935 wd_937 wp_54 wd_9) rfl rfl rfl (by decide +kernel) ⟨Nat.le_of_ble_eq_true rfl, Nat.le_of_ble_eq_true rfl⟩) ⟨fn_blind, va_recv hK.1 hP (ci := 9) (q0 := 1) rfl rfl, hp⟩ rfl rfl hl.1 rfl (lv_room (Nat.le_of_ble_eq_true rfl)) dX9_measureFromDoors_60 ⟨Nat.le_of_ble_eq_true rfl, Nat.le_of_ble_eq_true rfl⟩) (fun u60 H locs hwu60 hP hD hS => ?_)
        obtain ⟨u60a, u60b⟩ := u60
        obtain ⟨hqu600, hu60_00, hu60_10, -⟩ := hwu60
        have hqu60 : 0 ≤ (u60a 0) ∧ (u60a 0) ≤ 150 := hqu600
        have hu60_0 : ∀ j : Nat, (-2147483648) ≤ (u60b 0) j ∧ (u60b 0) j ≤ 2147483647 := hu60_00
        have hu60_1 : ∀ j : Nat, 0 ≤ (u60b 1) j ∧ (u60b 1) j ≤ 149 := hu60_10
        clear hqu600 hu60_00 hu60_10
        have hP : va_P D vwCl [(a1, .inr (7, oX7 a1_q a1_x0 a1_x1 a1_x2 a1_x3 a1_x4 a1_x5 a1_x6 a1_x7 a1_x8)), (t, .inr (9, oX9 t_q a1_x1 (u60a 0))), ((t_q 3), .inl (K 0, 150, .inl (fun j => iI ((u60b 1) j)))), ((t_q 1), .inl (K 0, 150, .inl (fun j => iI ((u60b 0) j)))), (a2, .inr (5, oX5 a2_q a2_x0)), ((a2_q 1), .inl (K 0, 5, .inl (fun j => iI (a2_1_c j)))), ((a2_q 2), .inl (K 0, 150, .inl (fun j => iI (a2_2_c j)))), (a3, .inr (10, oX10 a3_q a3_x0 a3_x1 a3_x6)), ((a3_q 4), .inl (K 0, 12, .inl (fun j => iI (a3_4_c j)))), ((a3_q 2), .inl (K 0, 12, .inl (fun j => iI (a3_2_c j))))] H := hP
        have hD : va_D A [(a1, .inr (7, oX7 a1_q a1_x0 a1_x1 a1_x2 a1_x3 a1_x4 a1_x5 a1_x6 a1_x7 a1_x8)), (t, .inr (9, oX9 t_q a1_x1 (u60a 0))), ((t_q 3), .inl (K 0, 150, .inl (fun j => iI ((u60b 1) j)))), ((t_q 1), .inl (K 0, 150, .inl (fun j => iI ((u60b 0) j)))), (a2, .inr (5, oX5 a2_q a2_x0)), ((a2_q 1), .inl (K 0, 5, .inl (fun j => iI (a2_1_c j)))), ((a2_q 2), .inl (K 0, 150, .inl (fun j => iI (a2_2_c j)))), (a3, .inr (10, oX10 a3_q a3_x0 a3_x1 a3_x6)), ((a3_q 4), .inl (K 0, 12, .inl (fun j => iI (a3_4_c j)))), ((a3_q 2), .inl (K 0, 12, .inl (fun j => iI (a3_2_c j))))] := hD
        rw [hQ]; exact fn_vret hx hb hr hlocks hP hD hS ((fun k => ([a1_x1, (u60a 0)] : List Int).getD k 0), (fun k => ([(u60b 0), (u60b 1)] : List (Nat → Int)).getD k (fun _ => 0))) ⟨(by show (-2147483648) ≤ a1_x1 ∧ a1_x1 ≤ 2147483647 ∧ 0 ≤ (u60a 0) ∧ (u60a 0) ≤ 150; omega), (hu60_0), (hu60_1), trivial⟩ [0, 1, 3, 2, 4, 5, 6, 7, 8, 9] (by decide) rfl dX9_measureFromDoors_63
      · refine lv_aload_n hx hb dX9_measureFromDoors_33 rfl (lv_at hl 0 rfl) ?_
        refine lv_aload_n hx hb dX9_measureFromDoors_34 rfl (lv_at hl 0 rfl) ?_
        refine va_get (D := D) (own := RX9) (ci := 9) (v := .ref (t_q 1)) (C := RX9) (T := TX9) (N := 6) hx hb hts inb_X9 hown hK.1 hP 1 rfl rfl 1 (by decide) (hts _ wd_319) (fun _ h9 => h9) rfl dX9_measureFromDoors_35 ?_
        refine lv_iload hx hb dX9_measureFromDoors_38 (lv_at hl 4 rfl) ?_
        refine lv_bipush (v := iI 30) hx hb dX9_measureFromDoors_40 (by decide) ?_
        refine g_imul hx hb dX9_measureFromDoors_42 ?_
        refine lv_iconst (v := iI 0) hx hb dX9_measureFromDoors_43 rfl ?_
        have y44_2 : 0 ≤ a1_x1 ∧ a1_x1 ≤ 20 := hi_a1.2.1
        refine fn_gov (wc := [((t_q 1), .inl (K 0, 150, .inl (fun j => iI (c24_t_1 j)))), (t, .inr (9, oX9 t_q a1_x1 f24_t_4)), ((t_q 3), .inl (K 0, 150, .inl (fun j => iI (c24_t_3 j))))]) (wr := [(a1, .inr (7, oX7 a1_q a1_x0 a1_x1 a1_x2 a1_x3 a1_x4 a1_x5 a1_x6 a1_x7 a1_x8)), (a2, .inr (5, oX5 a2_q a2_x0)), ((a2_q 1), .inl (K 0, 5, .inl (fun j => iI (a2_1_c j)))), ((a2_q 2), .inl (K 0, 150, .inl (fun j => iI (a2_2_c j)))), (a3, .inr (10, oX10 a3_q a3_x0 a3_x1 a3_x6)), ((a3_q 4), .inl (K 0, 12, .inl (fun j => iI (a3_4_c j)))), ((a3_q 2), .inl (K 0, 12, .inl (fun j => iI (a3_2_c j))))]) hK hP hD hS hA [2, 1, 3] [0, 4, 5, 6, 7, 8, 9] rfl rfl (by decide) (fun hp => va_runV (C := RX9) (As := [.ref (t_q 1), .int (iI (x24_4 * 30)), .int (iI 0)]) (rest := []) ⟨hx, hb, hml, hown, hts⟩ (k_X9_arrive (l := l) (D := D) (K := K) (t := t) (a1 := (t_q 1)) (p2 := (x24_4 * 30)) (p3 := 0) (a1_c := c24_t_1) (t_q := t_q) (t_x0 := a1_x1) (t_x4 := f24_t_4) (t_3_c := c24_t_3) (hp2 := (by omega)) (hp3 := (by omega)) (hc_a1 := hc24_t_1) (hi_t := ⟨(by omega), (by omega)⟩) (hc_t_3 := hc24_t_3) _) (cwV 3 hts (fn_ginV (fn_gin wd_934) wd_931 wd_933 wp_53 wd_9) rfl rfl rfl (by decide +kernel) ⟨Nat.le_of_ble_eq_true rfl, Nat.le_of_ble_eq_true rfl⟩) ⟨fn_blind, va_recv hK.1 hP (ci := 9) (q0 := 1) rfl rfl, hp⟩ rfl rfl hl.1 rfl (lv_room (Nat.le_of_ble_eq_true rfl)) dX9_measureFromDoors_44 ⟨Nat.le_of_ble_eq_true rfl, Nat.le_of_ble_eq_true rfl⟩) (fun u44 H locs hwu44 hP hD hS => ?_)
        obtain ⟨u44a, u44b⟩ := u44
        obtain ⟨hqu440, hu44_00, hu44_10, -⟩ := hwu44
        have hqu44 : 0 ≤ (u44a 0) ∧ (u44a 0) ≤ 150 := hqu440
        have hu44_0 : ∀ j : Nat, (-2147483648) ≤ (u44b 0) j ∧ (u44b 0) j ≤ 2147483647 := hu44_00
        have hu44_1 : ∀ j : Nat, 0 ≤ (u44b 1) j ∧ (u44b 1) j ≤ 149 := hu44_10
        clear hqu440 hu44_00 hu44_10
        have hP : va_P D vwCl [(a1, .inr (7, oX7 a1_q a1_x0 a1_x1 a1_x2 a1_x3 a1_x4 a1_x5 a1_x6 a1_x7 a1_x8)), (a2, .inr (5, oX5 a2_q a2_x0)), ((a2_q 1), .inl (K 0, 5, .inl (fun j => iI (a2_1_c j)))), ((a2_q 2), .inl (K 0, 150, .inl (fun j => iI (a2_2_c j)))), (a3, .inr (10, oX10 a3_q a3_x0 a3_x1 a3_x6)), ((a3_q 4), .inl (K 0, 12, .inl (fun j => iI (a3_4_c j)))), ((a3_q 2), .inl (K 0, 12, .inl (fun j => iI (a3_2_c j)))), ((t_q 1), .inl (K 0, 150, .inl (fun j => iI ((u44b 0) j)))), (t, .inr (9, oX9 t_q a1_x1 (u44a 0))), ((t_q 3), .inl (K 0, 150, .inl (fun j => iI ((u44b 1) j))))] H := hP
        have hD : va_D A [(a1, .inr (7, oX7 a1_q a1_x0 a1_x1 a1_x2 a1_x3 a1_x4 a1_x5 a1_x6 a1_x7 a1_x8)), (a2, .inr (5, oX5 a2_q a2_x0)), ((a2_q 1), .inl (K 0, 5, .inl (fun j => iI (a2_1_c j)))), ((a2_q 2), .inl (K 0, 150, .inl (fun j => iI (a2_2_c j)))), (a3, .inr (10, oX10 a3_q a3_x0 a3_x1 a3_x6)), ((a3_q 4), .inl (K 0, 12, .inl (fun j => iI (a3_4_c j)))), ((a3_q 2), .inl (K 0, 12, .inl (fun j => iI (a3_2_c j)))), ((t_q 1), .inl (K 0, 150, .inl (fun j => iI ((u44b 0) j)))), (t, .inr (9, oX9 t_q a1_x1 (u44a 0))), ((t_q 3), .inl (K 0, 150, .inl (fun j => iI ((u44b 1) j))))] := hD
        refine lv_iinc (v := iI (x24_4 + 1)) (lv' := [(4, .int (iI (x24_4 + 1))), (0, .ref t), (1, .ref a1), (2, .ref a2), (3, .ref a3)]) hx hb dX9_measureFromDoors_47 hl (k := 4) rfl (iI_add _ _) (by decide) rfl (fun ls hl => ?_)
        refine lv_goto (tgt := 24) hx hb dX9_measureFromDoors_50 (by decide) ?_
        exact ih24 (x24_4 + 1) (u44a 0) (u44b 0) (u44b 1) _ _ ls (by omega) (by omega) hu44_0 hu44_1 (hP.sub [0, 8, 7, 9, 1, 2, 3, 4, 5, 6] rfl) (hD.sub [0, 8, 7, 9, 1, 2, 3, 4, 5, 6] (by decide) rfl) hS (lv_sub hl [1, 2, 3, 4, 0] rfl)
  have hl : lv_has ls 5 [(0, .ref t), (1, .ref a1), (2, .ref a2), (3, .ref a3)] := hl
  refine lv_aload_n hx hb dX9_measureFromDoors_0 rfl (lv_at hl 0 rfl) ?_
  refine lv_aload_n hx hb dX9_measureFromDoors_1 rfl (lv_at hl 1 rfl) ?_
  refine va_getN (D := D) (own := RX9) (ci := 7) (v := .int (iI a1_x1)) (C := RX7) (T := TX7) (N := 15) hx hb hts inb_X7 hown hK.1 hP 0 rfl rfl 1 (by decide) (hK.nf 8 rfl) (fun _ h9 => h9) rfl dX9_measureFromDoors_2 ?_
  have y2_1 : 0 ≤ a1_x1 ∧ a1_x1 ≤ 20 := hi_a1.2.1
  refine va_put (D := D) (own := RX9) (ci := 9) (v := .int (iI a1_x1)) (ty := .int) (C := RX9) (T := TX9) (N := 6) hx hb hts inb_X9 tyX9 tyX9_ok nmX9 hown hK.1 hP hD hS 1 rfl rfl 0 (by decide) (hts _ wd_318) (fun _ h9 => h9) rfl (by decide +kernel) rfl rfl (Nat.le_of_ble_eq_true rfl) dX9_measureFromDoors_5 (fun H locs hP hD hS => ?_)
  have hP : va_P D vwCl [(a1, .inr (7, oX7 a1_q a1_x0 a1_x1 a1_x2 a1_x3 a1_x4 a1_x5 a1_x6 a1_x7 a1_x8)), (t, .inr (9, oX9 t_q a1_x1 t_x4)), ((t_q 1), .inl (K 0, 150, .inl (fun j => iI (t_1_c j)))), ((t_q 3), .inl (K 0, 150, .inl (fun j => iI (t_3_c j)))), (a2, .inr (5, oX5 a2_q a2_x0)), ((a2_q 1), .inl (K 0, 5, .inl (fun j => iI (a2_1_c j)))), ((a2_q 2), .inl (K 0, 150, .inl (fun j => iI (a2_2_c j)))), (a3, .inr (10, oX10 a3_q a3_x0 a3_x1 a3_x6)), ((a3_q 4), .inl (K 0, 12, .inl (fun j => iI (a3_4_c j)))), ((a3_q 2), .inl (K 0, 12, .inl (fun j => iI (a3_2_c j))))] H := hP
  have hD : va_D A [(a1, .inr (7, oX7 a1_q a1_x0 a1_x1 a1_x2 a1_x3 a1_x4 a1_x5 a1_x6 a1_x7 a1_x8)), (t, .inr (9, oX9 t_q a1_x1 t_x4)), ((t_q 1), .inl (K 0, 150, .inl (fun j => iI (t_1_c j)))), ((t_q 3), .inl (K 0, 150, .inl (fun j => iI (t_3_c j)))), (a2, .inr (5, oX5 a2_q a2_x0)), ((a2_q 1), .inl (K 0, 5, .inl (fun j => iI (a2_1_c j)))), ((a2_q 2), .inl (K 0, 150, .inl (fun j => iI (a2_2_c j)))), (a3, .inr (10, oX10 a3_q a3_x0 a3_x1 a3_x6)), ((a3_q 4), .inl (K 0, 12, .inl (fun j => iI (a3_4_c j)))), ((a3_q 2), .inl (K 0, 12, .inl (fun j => iI (a3_2_c j))))] := hD
  refine lv_aload_n hx hb dX9_measureFromDoors_8 rfl (lv_at hl 0 rfl) ?_
  refine va_get (D := D) (own := RX9) (ci := 9) (v := .ref (t_q 1)) (C := RX9) (T := TX9) (N := 6) hx hb hts inb_X9 hown hK.1 hP 1 rfl rfl 1 (by decide) (hts _ wd_319) (fun _ h9 => h9) rfl dX9_measureFromDoors_9 ?_
  refine lv_iconst (v := iI (-1)) hx hb dX9_measureFromDoors_12 rfl ?_
  refine fn_gov (wc := [((t_q 1), .inl (K 0, 150, .inl (fun j => iI (t_1_c j))))]) (wr := [(a1, .inr (7, oX7 a1_q a1_x0 a1_x1 a1_x2 a1_x3 a1_x4 a1_x5 a1_x6 a1_x7 a1_x8)), (t, .inr (9, oX9 t_q a1_x1 t_x4)), ((t_q 3), .inl (K 0, 150, .inl (fun j => iI (t_3_c j)))), (a2, .inr (5, oX5 a2_q a2_x0)), ((a2_q 1), .inl (K 0, 5, .inl (fun j => iI (a2_1_c j)))), ((a2_q 2), .inl (K 0, 150, .inl (fun j => iI (a2_2_c j)))), (a3, .inr (10, oX10 a3_q a3_x0 a3_x1 a3_x6)), ((a3_q 4), .inl (K 0, 12, .inl (fun j => iI (a3_4_c j)))), ((a3_q 2), .inl (K 0, 12, .inl (fun j => iI (a3_2_c j))))]) hK hP hD hS hA [2] [0, 1, 3, 4, 5, 6, 7, 8, 9] rfl rfl (by decide) (fun hp => va_runS (As := [.ref (t_q 1), .int (iI (-1))]) (rest := []) ⟨hx, hb, hml, hown, hts⟩ (k_J7_fill_53178 (l := l) (D := D) (K := K) (a1 := (t_q 1)) (p2 := (-1)) (a1_c := t_1_c) (a1_n := 150) (hp2 := (by omega)) (hn_a1 := (by decide)) (hc_a1 := hc_t_1) _) (va_cwS 2 hts (fn_ginS (fn_gin wd_646) wd_930 wd_645 wd_20) rfl rfl rfl (by decide +kernel) ⟨Nat.le_of_ble_eq_true rfl, Nat.le_of_ble_eq_true rfl⟩) ⟨fn_blind, hp⟩ rfl rfl hl.1 rfl (lv_room (Nat.le_of_ble_eq_true rfl)) dX9_measureFromDoors_13 ⟨Nat.le_of_ble_eq_true rfl, Nat.le_of_ble_eq_true rfl⟩) (fun u13 H locs hwu13 hP hD hS => ?_)
  obtain ⟨u13a, u13b⟩ := u13
  obtain ⟨hqu13_f0, hu13_00, -⟩ := hwu13
  have hqu13_f : ∀ j : Nat, (u13b 0) j = (-1 : Int) ∨ (u13b 0) j = t_1_c j := hqu13_f0
  have hu13_0 : ∀ j : Nat, (-2147483648) ≤ (u13b 0) j ∧ (u13b 0) j ≤ 2147483647 := hu13_00
  clear hqu13_f0 hu13_00
  have hu13_0 : ∀ j : Nat, (-2147483648) ≤ (u13b 0) j ∧ (u13b 0) j ≤ 2147483647 := (fun j => by have h9 := hqu13_f j; have h8 := hc_t_1 j; omega)
  have hP : va_P D vwCl [(a1, .inr (7, oX7 a1_q a1_x0 a1_x1 a1_x2 a1_x3 a1_x4 a1_x5 a1_x6 a1_x7 a1_x8)), (t, .inr (9, oX9 t_q a1_x1 t_x4)), ((t_q 3), .inl (K 0, 150, .inl (fun j => iI (t_3_c j)))), (a2, .inr (5, oX5 a2_q a2_x0)), ((a2_q 1), .inl (K 0, 5, .inl (fun j => iI (a2_1_c j)))), ((a2_q 2), .inl (K 0, 150, .inl (fun j => iI (a2_2_c j)))), (a3, .inr (10, oX10 a3_q a3_x0 a3_x1 a3_x6)), ((a3_q 4), .inl (K 0, 12, .inl (fun j => iI (a3_4_c j)))), ((a3_q 2), .inl (K 0, 12, .inl (fun j => iI (a3_2_c j)))), ((t_q 1), .inl (K 0, 150, .inl (fun j => iI ((u13b 0) j))))] H := hP
  have hD : va_D A [(a1, .inr (7, oX7 a1_q a1_x0 a1_x1 a1_x2 a1_x3 a1_x4 a1_x5 a1_x6 a1_x7 a1_x8)), (t, .inr (9, oX9 t_q a1_x1 t_x4)), ((t_q 3), .inl (K 0, 150, .inl (fun j => iI (t_3_c j)))), (a2, .inr (5, oX5 a2_q a2_x0)), ((a2_q 1), .inl (K 0, 5, .inl (fun j => iI (a2_1_c j)))), ((a2_q 2), .inl (K 0, 150, .inl (fun j => iI (a2_2_c j)))), (a3, .inr (10, oX10 a3_q a3_x0 a3_x1 a3_x6)), ((a3_q 4), .inl (K 0, 12, .inl (fun j => iI (a3_4_c j)))), ((a3_q 2), .inl (K 0, 12, .inl (fun j => iI (a3_2_c j)))), ((t_q 1), .inl (K 0, 150, .inl (fun j => iI ((u13b 0) j))))] := hD
  refine lv_aload_n hx hb dX9_measureFromDoors_16 rfl (lv_at hl 0 rfl) ?_
  refine lv_iconst (v := iI 0) hx hb dX9_measureFromDoors_17 rfl ?_
  refine va_put (D := D) (own := RX9) (ci := 9) (v := .int (iI 0)) (ty := .int) (C := RX9) (T := TX9) (N := 6) hx hb hts inb_X9 tyX9 tyX9_ok nmX9 hown hK.1 hP hD hS 1 rfl rfl 4 (by decide) (hts _ wd_322) (fun _ h9 => h9) rfl (by decide +kernel) rfl rfl (Nat.le_of_ble_eq_true rfl) dX9_measureFromDoors_18 (fun H locs hP hD hS => ?_)
  have hP : va_P D vwCl [(a1, .inr (7, oX7 a1_q a1_x0 a1_x1 a1_x2 a1_x3 a1_x4 a1_x5 a1_x6 a1_x7 a1_x8)), (t, .inr (9, oX9 t_q a1_x1 0)), ((t_q 3), .inl (K 0, 150, .inl (fun j => iI (t_3_c j)))), (a2, .inr (5, oX5 a2_q a2_x0)), ((a2_q 1), .inl (K 0, 5, .inl (fun j => iI (a2_1_c j)))), ((a2_q 2), .inl (K 0, 150, .inl (fun j => iI (a2_2_c j)))), (a3, .inr (10, oX10 a3_q a3_x0 a3_x1 a3_x6)), ((a3_q 4), .inl (K 0, 12, .inl (fun j => iI (a3_4_c j)))), ((a3_q 2), .inl (K 0, 12, .inl (fun j => iI (a3_2_c j)))), ((t_q 1), .inl (K 0, 150, .inl (fun j => iI ((u13b 0) j))))] H := hP
  have hD : va_D A [(a1, .inr (7, oX7 a1_q a1_x0 a1_x1 a1_x2 a1_x3 a1_x4 a1_x5 a1_x6 a1_x7 a1_x8)), (t, .inr (9, oX9 t_q a1_x1 0)), ((t_q 3), .inl (K 0, 150, .inl (fun j => iI (t_3_c j)))), (a2, .inr (5, oX5 a2_q a2_x0)), ((a2_q 1), .inl (K 0, 5, .inl (fun j => iI (a2_1_c j)))), ((a2_q 2), .inl (K 0, 150, .inl (fun j => iI (a2_2_c j)))), (a3, .inr (10, oX10 a3_q a3_x0 a3_x1 a3_x6)), ((a3_q 4), .inl (K 0, 12, .inl (fun j => iI (a3_4_c j)))), ((a3_q 2), .inl (K 0, 12, .inl (fun j => iI (a3_2_c j)))), ((t_q 1), .inl (K 0, 150, .inl (fun j => iI ((u13b 0) j))))] := hD
  refine lv_iconst (v := iI 0) hx hb dX9_measureFromDoors_21 rfl ?_
  refine lv_istore (lv' := [(4, .int (iI 0)), (0, .ref t), (1, .ref a1), (2, .ref a2), (3, .ref a3)]) hx hb dX9_measureFromDoors_22 hl (by decide) rfl (fun ls hl => ?_)
  exact J24 _ 0 0 (u13b 0) t_3_c _ _ ls (Nat.lt_succ_self _) (by omega) hu13_0 hc_t_3 (hP.sub [0, 1, 9, 2, 3, 4, 5, 6, 7, 8] rfl) (hD.sub [0, 1, 9, 2, 3, 4, 5, 6, 7, 8] (by decide) rfl) hS (lv_sub hl [1, 2, 3, 4, 0] rfl)
theorem wd_228 : Cond.fieldLink "FootNotes$Web" 9 "FootNotes$Web" "place" "[I" ∈ fn_big := fn_tb (fn_l1 (List.mem_of_getElem? (i := 228) (by decide +kernel))) (by decide +kernel)
theorem dX10_isTorn_0 : decode cX10_isTorn 0 = .ok (.aload_n 0, 1) := by decide +kernel
theorem dX10_isTorn_1 : decode cX10_isTorn 1 = .ok (.getfield 9, 3) := by decide +kernel
theorem dX10_isTorn_4 : decode cX10_isTorn 4 = .ok (.iload_n 1, 1) := by decide +kernel
theorem dX10_isTorn_5 : decode cX10_isTorn 5 = .ok (.iaload, 1) := by decide +kernel
theorem dX10_isTorn_6 : decode cX10_isTorn 6 = .ok (.ifCond .ge 7, 3) := by decide +kernel
theorem dX10_isTorn_13 : decode cX10_isTorn 13 = .ok (.iconst 0, 1) := by decide +kernel
theorem dX10_isTorn_14 : decode cX10_isTorn 14 = .ok (.ireturn, 1) := by decide +kernel
theorem dX10_isTorn_9 : decode cX10_isTorn 9 = .ok (.iconst 1, 1) := by decide +kernel
theorem dX10_isTorn_10 : decode cX10_isTorn 10 = .ok (.goto 4, 3) := by decide +kernel
set_option maxHeartbeats 4000000 in
set_option maxRecDepth 100000 in
theorem k_X10_isTorn (l : Launch) (D : va_G) (K : Nat → ClassId) (t : Nat) (t_q : Nat → Nat) (p1 t_x0 t_x1 t_x6 : Int) (t_2_c : Nat → Int) (hp1 : 0 ≤ p1 ∧ p1 ≤ 11) (hi_t : bX10 t_x0 t_x1 t_x6) (hc_t_2 : ∀ j : Nat, (-1) ≤ t_2_c j ∧ t_2_c j ≤ 149) : fn_CI (S := (Nat → Int) × (Nat → Nat → Int)) l D K yX10_isTorn (fn_ws yX10_isTorn cX10_isTorn 2 (some .boolean)) ({ frames := 4, cells := 0, slots := 0, locals := 100 } : Room) [.ref t, .int (iI p1)] [(t, .inr (10, oX10 t_q t_x0 t_x1 t_x6)), ((t_q 2), .inl (K 0, 12, .inl (fun j => iI (t_2_c j))))] (fun r u => ∃ k : Int, r = iI k ∧ (0 ≤ k ∧ k ≤ 1) ∧ ((k = 0 → 0 ≤ t_2_c (Int.toNat p1))) ∧ True) (fun u => [(t, .inr (10, oX10 t_q t_x0 t_x1 t_x6)), ((t_q 2), .inl (K 0, 12, .inl (fun j => iI (t_2_c j))))]) 0 0 := by
  refine g_inI (cc := cX10_isTorn) (maxL := 2) (ret := (some .boolean)) (by decide) rfl (Nat.le_of_ble_eq_true rfl) ?_
  intro p e s m below meth c A ls ag Q B hA hP hD hS hl hQ
  obtain ⟨hx, hb, hr, hml, hts, hown, hlocks, hin, hK⟩ := B
  have hown : s.vm.findClass RX10 = some m.cls := hown
  have hts := fun w h => hts w (List.mem_cons_of_mem _ h)
  have hl : lv_has ls 2 [(0, .ref t), (1, .int (iI p1))] := hl
  refine lv_aload_n hx hb dX10_isTorn_0 rfl (lv_at hl 0 rfl) ?_
  refine va_get (D := D) (own := RX10) (ci := 10) (v := .ref (t_q 2)) (C := RX10) (T := TX10) (N := 7) hx hb hts inb_X10 hown hK.1 hP 0 rfl rfl 2 (by decide) (hts _ wd_228) (fun _ h9 => h9) rfl dX10_isTorn_1 ?_
  refine lv_iload_n hx hb dX10_isTorn_4 rfl (lv_at hl 1 rfl) ?_
  refine g_iald hx hb hK.1 hP 1 0 rfl rfl (by omega) (by omega) (by decide) dX10_isTorn_5 ?_
  have y5 : (-1) ≤ (t_2_c p1.toNat) ∧ (t_2_c p1.toNat) ≤ 149 := hc_t_2 p1.toNat
  refine g_if_ge (tgt := 13) hx hb (by omega) dX10_isTorn_6 (by decide) (fun c6 => ?_) (fun c6 => ?_)
  · refine lv_iconst (v := iI 0) hx hb dX10_isTorn_13 rfl ?_
    rw [hQ]; exact fn_iret hx hb hr hlocks (iI_nz (by omega)) hP hD hS ((fun _ => 0), (fun _ _ => 0)) ⟨0, rfl, by omega, (by show ((0 : Int) = 0 → 0 ≤ t_2_c (Int.toNat p1)); omega), trivial⟩ [0, 1] (by decide) rfl dX10_isTorn_14
  · refine lv_iconst (v := iI 1) hx hb dX10_isTorn_9 rfl ?_
    refine lv_goto (tgt := 14) hx hb dX10_isTorn_10 (by decide) ?_
    rw [hQ]; exact fn_iret hx hb hr hlocks (iI_nz (by omega)) hP hD hS ((fun _ => 0), (fun _ _ => 0)) ⟨1, rfl, by omega, (by show ((1 : Int) = 0 → 0 ≤ t_2_c (Int.toNat p1)); omega), trivial⟩ [0, 1] (by decide) rfl dX10_isTorn_14
theorem wd_320 : Cond.fieldLink "FootNotes$Turns" 15 "FootNotes$Turns" "fromPage" "[I" ∈ fn_big := fn_tb (fn_l2 (List.mem_of_getElem? (i := 80) (by decide +kernel))) (by decide +kernel)
theorem wd_925 : Cond.code ⟨"FootNotes$Web", "isTorn", "(I)Z"⟩ prog_12_method_4_code 2 (Option.some Jvm.ClassFile.FieldType.boolean) ∈ fn_big := fn_tb (fn_l4 (List.mem_of_getElem? (i := 205) (by decide +kernel))) (by decide +kernel)
theorem wd_6 : Cond.initialized "FootNotes$Web" ∈ fn_big := fn_tb (fn_l1 (List.mem_of_getElem? (i := 6) (by decide +kernel))) (by decide +kernel)
theorem wd_924 : Cond.instanceMethod ⟨"FootNotes$Web", "isTorn", "(I)Z"⟩ ∈ fn_big := fn_tb (fn_l4 (List.mem_of_getElem? (i := 204) (by decide +kernel))) (by decide +kernel)
theorem wp_51 : Cond.selects "FootNotes$Web" ⟨"FootNotes$Web", "isTorn", "(I)Z"⟩ ⟨"FootNotes$Web", "isTorn", "(I)Z"⟩ ∈ fn_big := fn_sel (q := (⟨"FootNotes$Web", "isTorn", "(I)Z"⟩, 7)) 51 (by decide +kernel) (by decide +kernel)
theorem dX9_measureFrom_144 : decode cX9_measureFrom 144 = .ok (.iinc 4 1, 3) := by decide +kernel
theorem dX9_measureFrom_147 : decode cX9_measureFrom 147 = .ok (.goto (-97), 3) := by decide +kernel
theorem dX9_measureFrom_143 : decode cX9_measureFrom 143 = .ok (.iastore, 1) := by decide +kernel
theorem dX9_measureFrom_118 : decode cX9_measureFrom 118 = .ok (.istore 7, 2) := by decide +kernel
theorem dX9_measureFrom_120 : decode cX9_measureFrom 120 = .ok (.aload_n 0, 1) := by decide +kernel
theorem dX9_measureFrom_121 : decode cX9_measureFrom 121 = .ok (.getfield 21, 3) := by decide +kernel
theorem dX9_measureFrom_124 : decode cX9_measureFrom 124 = .ok (.iload_n 1, 1) := by decide +kernel
theorem dX9_measureFrom_125 : decode cX9_measureFrom 125 = .ok (.bipush 12, 2) := by decide +kernel
theorem dX9_measureFrom_127 : decode cX9_measureFrom 127 = .ok (.imul, 1) := by decide +kernel
theorem dX9_measureFrom_128 : decode cX9_measureFrom 128 = .ok (.iload 4, 2) := by decide +kernel
theorem dX9_measureFrom_130 : decode cX9_measureFrom 130 = .ok (.iadd, 1) := by decide +kernel
theorem dX9_measureFrom_131 : decode cX9_measureFrom 131 = .ok (.iload 7, 2) := by decide +kernel
theorem dX9_measureFrom_133 : decode cX9_measureFrom 133 = .ok (.ifCond .eq 8, 3) := by decide +kernel
theorem dX9_measureFrom_141 : decode cX9_measureFrom 141 = .ok (.iload 5, 2) := by decide +kernel
theorem dX9_measureFrom_136 : decode cX9_measureFrom 136 = .ok (.iload 6, 2) := by decide +kernel
theorem dX9_measureFrom_138 : decode cX9_measureFrom 138 = .ok (.goto 5, 3) := by decide +kernel
theorem dX9_measureFrom_117 : decode cX9_measureFrom 117 = .ok (.iconst 0, 1) := by decide +kernel
theorem dX9_measureFrom_50 : decode cX9_measureFrom 50 = .ok (.iload 4, 2) := by decide +kernel
theorem dX9_measureFrom_52 : decode cX9_measureFrom 52 = .ok (.aload_n 3, 1) := by decide +kernel
theorem dX9_measureFrom_53 : decode cX9_measureFrom 53 = .ok (.getfield 60, 3) := by decide +kernel
theorem dX9_measureFrom_56 : decode cX9_measureFrom 56 = .ok (.if_icmp .ge 94, 3) := by decide +kernel
theorem dX9_measureFrom_150 : decode cX9_measureFrom 150 = .ok (.return_, 1) := by decide +kernel
theorem dX9_measureFrom_59 : decode cX9_measureFrom 59 = .ok (.aload_n 3, 1) := by decide +kernel
theorem dX9_measureFrom_60 : decode cX9_measureFrom 60 = .ok (.iload 4, 2) := by decide +kernel
theorem dX9_measureFrom_62 : decode cX9_measureFrom 62 = .ok (.invokevirtual 51, 3) := by decide +kernel
theorem dX9_measureFrom_65 : decode cX9_measureFrom 65 = .ok (.ifCond .ne 79, 3) := by decide +kernel
theorem dX9_measureFrom_68 : decode cX9_measureFrom 68 = .ok (.aload_n 0, 1) := by decide +kernel
theorem dX9_measureFrom_69 : decode cX9_measureFrom 69 = .ok (.getfield 30, 3) := by decide +kernel
theorem dX9_measureFrom_72 : decode cX9_measureFrom 72 = .ok (.aload_n 0, 1) := by decide +kernel
theorem dX9_measureFrom_73 : decode cX9_measureFrom 73 = .ok (.getfield 9, 3) := by decide +kernel
theorem dX9_measureFrom_76 : decode cX9_measureFrom 76 = .ok (.aload_n 3, 1) := by decide +kernel
theorem dX9_measureFrom_77 : decode cX9_measureFrom 77 = .ok (.getfield 57, 3) := by decide +kernel
theorem dX9_measureFrom_80 : decode cX9_measureFrom 80 = .ok (.iload 4, 2) := by decide +kernel
theorem dX9_measureFrom_82 : decode cX9_measureFrom 82 = .ok (.iaload, 1) := by decide +kernel
theorem dX9_measureFrom_83 : decode cX9_measureFrom 83 = .ok (.iaload, 1) := by decide +kernel
theorem dX9_measureFrom_84 : decode cX9_measureFrom 84 = .ok (.iadd, 1) := by decide +kernel
theorem dX9_measureFrom_85 : decode cX9_measureFrom 85 = .ok (.istore 5, 2) := by decide +kernel
theorem dX9_measureFrom_87 : decode cX9_measureFrom 87 = .ok (.aload_n 0, 1) := by decide +kernel
theorem dX9_measureFrom_88 : decode cX9_measureFrom 88 = .ok (.getfield 15, 3) := by decide +kernel
theorem dX9_measureFrom_91 : decode cX9_measureFrom 91 = .ok (.aload_n 3, 1) := by decide +kernel
theorem dX9_measureFrom_92 : decode cX9_measureFrom 92 = .ok (.getfield 57, 3) := by decide +kernel
theorem dX9_measureFrom_95 : decode cX9_measureFrom 95 = .ok (.iload 4, 2) := by decide +kernel
theorem dX9_measureFrom_97 : decode cX9_measureFrom 97 = .ok (.iaload, 1) := by decide +kernel
theorem dX9_measureFrom_98 : decode cX9_measureFrom 98 = .ok (.iaload, 1) := by decide +kernel
theorem dX9_measureFrom_99 : decode cX9_measureFrom 99 = .ok (.istore 6, 2) := by decide +kernel
theorem dX9_measureFrom_101 : decode cX9_measureFrom 101 = .ok (.iload 6, 2) := by decide +kernel
theorem dX9_measureFrom_103 : decode cX9_measureFrom 103 = .ok (.ifCond .lt 14, 3) := by decide +kernel
theorem dX9_measureFrom_106 : decode cX9_measureFrom 106 = .ok (.iload 6, 2) := by decide +kernel
theorem dX9_measureFrom_108 : decode cX9_measureFrom 108 = .ok (.iload 5, 2) := by decide +kernel
theorem dX9_measureFrom_110 : decode cX9_measureFrom 110 = .ok (.if_icmp .ge 7, 3) := by decide +kernel
theorem dX9_measureFrom_113 : decode cX9_measureFrom 113 = .ok (.iconst 1, 1) := by decide +kernel
theorem dX9_measureFrom_114 : decode cX9_measureFrom 114 = .ok (.goto 4, 3) := by decide +kernel
theorem dX9_measureFrom_0 : decode cX9_measureFrom 0 = .ok (.aload_n 3, 1) := by decide +kernel
theorem dX9_measureFrom_1 : decode cX9_measureFrom 1 = .ok (.iload_n 1, 1) := by decide +kernel
theorem dX9_measureFrom_2 : decode cX9_measureFrom 2 = .ok (.invokevirtual 51, 3) := by decide +kernel
theorem dX9_measureFrom_5 : decode cX9_measureFrom 5 = .ok (.ifCond .eq 4, 3) := by decide +kernel
theorem dX9_measureFrom_9 : decode cX9_measureFrom 9 = .ok (.aload_n 0, 1) := by decide +kernel
theorem dX9_measureFrom_10 : decode cX9_measureFrom 10 = .ok (.getfield 15, 3) := by decide +kernel
theorem dX9_measureFrom_13 : decode cX9_measureFrom 13 = .ok (.iconst (-1), 1) := by decide +kernel
theorem dX9_measureFrom_14 : decode cX9_measureFrom 14 = .ok (.invokestatic 31, 3) := by decide +kernel
theorem dX9_measureFrom_17 : decode cX9_measureFrom 17 = .ok (.aload_n 0, 1) := by decide +kernel
theorem dX9_measureFrom_18 : decode cX9_measureFrom 18 = .ok (.iconst 0, 1) := by decide +kernel
theorem dX9_measureFrom_19 : decode cX9_measureFrom 19 = .ok (.putfield 37, 3) := by decide +kernel
theorem dX9_measureFrom_22 : decode cX9_measureFrom 22 = .ok (.aload_n 0, 1) := by decide +kernel
theorem dX9_measureFrom_23 : decode cX9_measureFrom 23 = .ok (.aload_n 0, 1) := by decide +kernel
theorem dX9_measureFrom_24 : decode cX9_measureFrom 24 = .ok (.getfield 15, 3) := by decide +kernel
theorem dX9_measureFrom_27 : decode cX9_measureFrom 27 = .ok (.aload_n 3, 1) := by decide +kernel
theorem dX9_measureFrom_28 : decode cX9_measureFrom 28 = .ok (.getfield 57, 3) := by decide +kernel
theorem dX9_measureFrom_31 : decode cX9_measureFrom 31 = .ok (.iload_n 1, 1) := by decide +kernel
theorem dX9_measureFrom_32 : decode cX9_measureFrom 32 = .ok (.iaload, 1) := by decide +kernel
theorem dX9_measureFrom_33 : decode cX9_measureFrom 33 = .ok (.iconst 0, 1) := by decide +kernel
theorem dX9_measureFrom_34 : decode cX9_measureFrom 34 = .ok (.invokevirtual 43, 3) := by decide +kernel
theorem dX9_measureFrom_37 : decode cX9_measureFrom 37 = .ok (.aload_n 0, 1) := by decide +kernel
theorem dX9_measureFrom_38 : decode cX9_measureFrom 38 = .ok (.aload_n 0, 1) := by decide +kernel
theorem dX9_measureFrom_39 : decode cX9_measureFrom 39 = .ok (.getfield 15, 3) := by decide +kernel
theorem dX9_measureFrom_42 : decode cX9_measureFrom 42 = .ok (.aload_n 2, 1) := by decide +kernel
theorem dX9_measureFrom_43 : decode cX9_measureFrom 43 = .ok (.aload_n 3, 1) := by decide +kernel
theorem dX9_measureFrom_44 : decode cX9_measureFrom 44 = .ok (.invokevirtual 47, 3) := by decide +kernel
theorem dX9_measureFrom_47 : decode cX9_measureFrom 47 = .ok (.iconst 0, 1) := by decide +kernel
theorem dX9_measureFrom_48 : decode cX9_measureFrom 48 = .ok (.istore 4, 2) := by decide +kernel
theorem dX9_measureFrom_8 : decode cX9_measureFrom 8 = .ok (.return_, 1) := by decide +kernel
set_option maxHeartbeats 4000000 in
set_option maxRecDepth 100000 in
theorem k_X9_measureFrom (l : Launch) (D : va_G) (K : Nat → ClassId) (t a2 a3 : Nat) (a3_q t_q a2_q : Nat → Nat) (p1 a3_x0 a3_x1 a3_x6 t_x0 t_x4 a2_x0 : Int) (a3_2_c : Nat → Int) (t_2_c : Nat → Int) (t_3_c : Nat → Int) (a2_1_c : Nat → Int) (a2_2_c : Nat → Int) (a3_4_c : Nat → Int) (t_1_c : Nat → Int) (t_5_c : Nat → Int) (hp1 : 0 ≤ p1 ∧ p1 ≤ 11) (hi_a3 : bX10 a3_x0 a3_x1 a3_x6) (hc_a3_2 : ∀ j : Nat, (-1) ≤ a3_2_c j ∧ a3_2_c j ≤ 149) (hi_t : bX9 t_x0 t_x4) (hc_t_2 : ∀ j : Nat, (-2147483648) ≤ t_2_c j ∧ t_2_c j ≤ 2147483647) (hc_t_3 : ∀ j : Nat, 0 ≤ t_3_c j ∧ t_3_c j ≤ 149) (hi_a2 : bX5 a2_x0) (hc_a2_1 : ∀ j : Nat, (-1000) ≤ a2_1_c j ∧ a2_1_c j ≤ 30) (hc_a2_2 : ∀ j : Nat, (-4) ≤ a2_2_c j ∧ a2_2_c j ≤ 11) (hc_a3_4 : ∀ j : Nat, 0 ≤ a3_4_c j ∧ a3_4_c j ≤ 4095) (hc_t_1 : ∀ j : Nat, (-2147483648) ≤ t_1_c j ∧ t_1_c j ≤ 2147483647) (hc_t_5 : ∀ j : Nat, (-2147483648) ≤ t_5_c j ∧ t_5_c j ≤ 2147483647) : fn_CV (S := (Nat → Int) × (Nat → Nat → Int)) l D K yX9_measureFrom (fn_ws yX9_measureFrom cX9_measureFrom 8 none) ({ frames := 16, cells := 0, slots := 0, locals := 400 } : Room) [.ref t, .int (iI p1), .ref a2, .ref a3] [(a3, .inr (10, oX10 a3_q a3_x0 a3_x1 a3_x6)), ((a3_q 2), .inl (K 0, 12, .inl (fun j => iI (a3_2_c j)))), (t, .inr (9, oX9 t_q t_x0 t_x4)), ((t_q 2), .inl (K 0, 150, .inl (fun j => iI (t_2_c j)))), ((t_q 3), .inl (K 0, 150, .inl (fun j => iI (t_3_c j)))), (a2, .inr (5, oX5 a2_q a2_x0)), ((a2_q 1), .inl (K 0, 5, .inl (fun j => iI (a2_1_c j)))), ((a2_q 2), .inl (K 0, 150, .inl (fun j => iI (a2_2_c j)))), ((a3_q 4), .inl (K 0, 12, .inl (fun j => iI (a3_4_c j)))), ((t_q 1), .inl (K 0, 150, .inl (fun j => iI (t_1_c j)))), ((t_q 5), .inl (K 0, 144, .inl (fun j => iI (t_5_c j))))] (fun u => (0 ≤ (u.1 0) ∧ (u.1 0) ≤ 150) ∧ (∀ j : Nat, (-2147483648) ≤ (u.2 0) j ∧ (u.2 0) j ≤ 2147483647) ∧ (∀ j : Nat, 0 ≤ (u.2 1) j ∧ (u.2 1) j ≤ 149) ∧ (∀ j : Nat, (-2147483648) ≤ (u.2 2) j ∧ (u.2 2) j ≤ 2147483647) ∧ True) (fun u => [(a3, .inr (10, oX10 a3_q a3_x0 a3_x1 a3_x6)), ((a3_q 2), .inl (K 0, 12, .inl (fun j => iI (a3_2_c j)))), (t, .inr (9, oX9 t_q t_x0 (u.1 0))), ((t_q 2), .inl (K 0, 150, .inl (fun j => iI ((u.2 0) j)))), ((t_q 3), .inl (K 0, 150, .inl (fun j => iI ((u.2 1) j)))), (a2, .inr (5, oX5 a2_q a2_x0)), ((a2_q 1), .inl (K 0, 5, .inl (fun j => iI (a2_1_c j)))), ((a2_q 2), .inl (K 0, 150, .inl (fun j => iI (a2_2_c j)))), ((a3_q 4), .inl (K 0, 12, .inl (fun j => iI (a3_4_c j)))), ((t_q 1), .inl (K 0, 150, .inl (fun j => iI (t_1_c j)))), ((t_q 5), .inl (K 0, 144, .inl (fun j => iI ((u.2 2) j))))]) 0 0 := by
  refine g_inV (cc := cX9_measureFrom) (maxL := 8) (ret := none) (by decide) rfl (Nat.le_of_ble_eq_true rfl) ?_
  intro p e s m below meth c A ls ag Q B hA hP hD hS hl hQ
  obtain ⟨hx, hb, hr, hml, hts, hown, hlocks, hin, hK⟩ := B
  have hown : s.vm.findClass RX9 = some m.cls := hown
  have hts := fun w h => hts w (List.mem_cons_of_mem _ h)
  have J50 : ∀ (n : Nat) (x50_4 : Int) (f50_t_4 : Int) (c50_t_2 : Nat → Int) (c50_t_3 : Nat → Int) (c50_t_5 : Nat → Int) (H : Heap) (locs : List Loc) (ls : Array Slot), (12 - x50_4).toNat < n → (0 ≤ x50_4 ∧ x50_4 ≤ 12 ∧ 0 ≤ f50_t_4 ∧ f50_t_4 ≤ 150) → (∀ j : Nat, (-2147483648) ≤ c50_t_2 j ∧ c50_t_2 j ≤ 2147483647) → (∀ j : Nat, 0 ≤ c50_t_3 j ∧ c50_t_3 j ≤ 149) → (∀ j : Nat, (-2147483648) ≤ c50_t_5 j ∧ c50_t_5 j ≤ 2147483647) → va_P D vwCl [(a3, .inr (10, oX10 a3_q a3_x0 a3_x1 a3_x6)), ((a3_q 2), .inl (K 0, 12, .inl (fun j => iI (a3_2_c j)))), (t, .inr (9, oX9 t_q t_x0 f50_t_4)), ((t_q 2), .inl (K 0, 150, .inl (fun j => iI (c50_t_2 j)))), ((t_q 3), .inl (K 0, 150, .inl (fun j => iI (c50_t_3 j)))), (a2, .inr (5, oX5 a2_q a2_x0)), ((a2_q 1), .inl (K 0, 5, .inl (fun j => iI (a2_1_c j)))), ((a2_q 2), .inl (K 0, 150, .inl (fun j => iI (a2_2_c j)))), ((a3_q 4), .inl (K 0, 12, .inl (fun j => iI (a3_4_c j)))), ((t_q 1), .inl (K 0, 150, .inl (fun j => iI (t_1_c j)))), ((t_q 5), .inl (K 0, 144, .inl (fun j => iI (c50_t_5 j))))] H → va_D A [(a3, .inr (10, oX10 a3_q a3_x0 a3_x1 a3_x6)), ((a3_q 2), .inl (K 0, 12, .inl (fun j => iI (a3_2_c j)))), (t, .inr (9, oX9 t_q t_x0 f50_t_4)), ((t_q 2), .inl (K 0, 150, .inl (fun j => iI (c50_t_2 j)))), ((t_q 3), .inl (K 0, 150, .inl (fun j => iI (c50_t_3 j)))), (a2, .inr (5, oX5 a2_q a2_x0)), ((a2_q 1), .inl (K 0, 5, .inl (fun j => iI (a2_1_c j)))), ((a2_q 2), .inl (K 0, 150, .inl (fun j => iI (a2_2_c j)))), ((a3_q 4), .inl (K 0, 12, .inl (fun j => iI (a3_4_c j)))), ((t_q 1), .inl (K 0, 150, .inl (fun j => iI (t_1_c j)))), ((t_q 5), .inl (K 0, 144, .inl (fun j => iI (c50_t_5 j))))] → va_S A s.heap H locs → lv_has ls 8 [(0, .ref t), (1, .int (iI p1)), (2, .ref a2), (3, .ref a3), (4, .int (iI x50_4))] → W p l e ({ frames := 16, cells := 0, slots := 0, locals := 400 } : Room) s m ag below meth c H locs 0 0 Q (F0 m 50 ls []) := by
    intro n
    induction n with
    | zero =>
      intro x50_4 f50_t_4 c50_t_2 c50_t_3 c50_t_5 H locs ls hm50 hf50 hc50_t_2 hc50_t_3 hc50_t_5 hP hD hS hl
      exact absurd hm50 (Nat.not_lt_zero _)
    | succ n ih50 =>
      intro x50_4 f50_t_4 c50_t_2 c50_t_3 c50_t_5 H locs ls hm50 hf50 hc50_t_2 hc50_t_3 hc50_t_5 hP hD hS hl
      have J144 : ∀ (c144_t_5 : Nat → Int) (H : Heap) (locs : List Loc) (ls : Array Slot), (0 ≤ x50_4 ∧ x50_4 ≤ 11 ∧ 1 ≤ a3_x0 ∧ a3_x0 ≤ 12) → (∀ j : Nat, (-2147483648) ≤ c144_t_5 j ∧ c144_t_5 j ≤ 2147483647) → va_P D vwCl [(a3, .inr (10, oX10 a3_q a3_x0 a3_x1 a3_x6)), ((a3_q 2), .inl (K 0, 12, .inl (fun j => iI (a3_2_c j)))), (t, .inr (9, oX9 t_q t_x0 f50_t_4)), ((t_q 2), .inl (K 0, 150, .inl (fun j => iI (c50_t_2 j)))), ((t_q 3), .inl (K 0, 150, .inl (fun j => iI (c50_t_3 j)))), (a2, .inr (5, oX5 a2_q a2_x0)), ((a2_q 1), .inl (K 0, 5, .inl (fun j => iI (a2_1_c j)))), ((a2_q 2), .inl (K 0, 150, .inl (fun j => iI (a2_2_c j)))), ((a3_q 4), .inl (K 0, 12, .inl (fun j => iI (a3_4_c j)))), ((t_q 1), .inl (K 0, 150, .inl (fun j => iI (t_1_c j)))), ((t_q 5), .inl (K 0, 144, .inl (fun j => iI (c144_t_5 j))))] H → va_D A [(a3, .inr (10, oX10 a3_q a3_x0 a3_x1 a3_x6)), ((a3_q 2), .inl (K 0, 12, .inl (fun j => iI (a3_2_c j)))), (t, .inr (9, oX9 t_q t_x0 f50_t_4)), ((t_q 2), .inl (K 0, 150, .inl (fun j => iI (c50_t_2 j)))), ((t_q 3), .inl (K 0, 150, .inl (fun j => iI (c50_t_3 j)))), (a2, .inr (5, oX5 a2_q a2_x0)), ((a2_q 1), .inl (K 0, 5, .inl (fun j => iI (a2_1_c j)))), ((a2_q 2), .inl (K 0, 150, .inl (fun j => iI (a2_2_c j)))), ((a3_q 4), .inl (K 0, 12, .inl (fun j => iI (a3_4_c j)))), ((t_q 1), .inl (K 0, 150, .inl (fun j => iI (t_1_c j)))), ((t_q 5), .inl (K 0, 144, .inl (fun j => iI (c144_t_5 j))))] → va_S A s.heap H locs → lv_has ls 8 [(0, .ref t), (1, .int (iI p1)), (2, .ref a2), (3, .ref a3), (4, .int (iI x50_4))] → W p l e ({ frames := 16, cells := 0, slots := 0, locals := 400 } : Room) s m ag below meth c H locs 0 0 Q (F0 m 144 ls []) := by
        intro c144_t_5 H locs ls hf144 hc144_t_5 hP hD hS hl
        refine lv_iinc (v := iI (x50_4 + 1)) (lv' := [(4, .int (iI (x50_4 + 1))), (0, .ref t), (1, .int (iI p1)), (2, .ref a2), (3, .ref a3)]) hx hb dX9_measureFrom_144 hl (k := 4) rfl (iI_add _ _) (by decide) rfl (fun ls hl => ?_)
        refine lv_goto (tgt := 50) hx hb dX9_measureFrom_147 (by decide) ?_
        exact ih50 (x50_4 + 1) f50_t_4 c50_t_2 c50_t_3 c144_t_5 _ _ ls (by omega) (by omega) hc50_t_2 hc50_t_3 hc144_t_5 (hP.sub [0, 1, 2, 3, 4, 5, 6, 7, 8, 9, 10] rfl) (hD.sub [0, 1, 2, 3, 4, 5, 6, 7, 8, 9, 10] (by decide) rfl) hS (lv_sub hl [1, 2, 3, 4, 0] rfl)
      have J143 : ∀ (x143_5 : Int) (x143_6 : Int) (x143_7 : Int) (z143_2 : Int) (z143_1 : Int) (H : Heap) (locs : List Loc) (ls : Array Slot), (0 ≤ x50_4 ∧ x50_4 ≤ 11 ∧ (-2147483648) ≤ x143_5 ∧ x143_5 ≤ 2147483647 ∧ (-2147483648) ≤ x143_6 ∧ x143_6 ≤ 2147483647 ∧ 0 ≤ x143_7 ∧ x143_7 ≤ 1 ∧ (-2147483648) ≤ z143_2 ∧ z143_2 ≤ 2147483647 ∧ 0 ≤ z143_1 ∧ z143_1 ≤ 143 ∧ 1 ≤ a3_x0 ∧ a3_x0 ≤ 12) → va_P D vwCl [(a3, .inr (10, oX10 a3_q a3_x0 a3_x1 a3_x6)), ((a3_q 2), .inl (K 0, 12, .inl (fun j => iI (a3_2_c j)))), (t, .inr (9, oX9 t_q t_x0 f50_t_4)), ((t_q 2), .inl (K 0, 150, .inl (fun j => iI (c50_t_2 j)))), ((t_q 3), .inl (K 0, 150, .inl (fun j => iI (c50_t_3 j)))), (a2, .inr (5, oX5 a2_q a2_x0)), ((a2_q 1), .inl (K 0, 5, .inl (fun j => iI (a2_1_c j)))), ((a2_q 2), .inl (K 0, 150, .inl (fun j => iI (a2_2_c j)))), ((a3_q 4), .inl (K 0, 12, .inl (fun j => iI (a3_4_c j)))), ((t_q 1), .inl (K 0, 150, .inl (fun j => iI (t_1_c j)))), ((t_q 5), .inl (K 0, 144, .inl (fun j => iI (c50_t_5 j))))] H → va_D A [(a3, .inr (10, oX10 a3_q a3_x0 a3_x1 a3_x6)), ((a3_q 2), .inl (K 0, 12, .inl (fun j => iI (a3_2_c j)))), (t, .inr (9, oX9 t_q t_x0 f50_t_4)), ((t_q 2), .inl (K 0, 150, .inl (fun j => iI (c50_t_2 j)))), ((t_q 3), .inl (K 0, 150, .inl (fun j => iI (c50_t_3 j)))), (a2, .inr (5, oX5 a2_q a2_x0)), ((a2_q 1), .inl (K 0, 5, .inl (fun j => iI (a2_1_c j)))), ((a2_q 2), .inl (K 0, 150, .inl (fun j => iI (a2_2_c j)))), ((a3_q 4), .inl (K 0, 12, .inl (fun j => iI (a3_4_c j)))), ((t_q 1), .inl (K 0, 150, .inl (fun j => iI (t_1_c j)))), ((t_q 5), .inl (K 0, 144, .inl (fun j => iI (c50_t_5 j))))] → va_S A s.heap H locs → lv_has ls 8 [(0, .ref t), (1, .int (iI p1)), (2, .ref a2), (3, .ref a3), (4, .int (iI x50_4)), (5, .int (iI x143_5)), (6, .int (iI x143_6)), (7, .int (iI x143_7))] → W p l e ({ frames := 16, cells := 0, slots := 0, locals := 400 } : Room) s m ag below meth c H locs 0 0 Q (F0 m 143 ls [.int (iI z143_2), .int (iI z143_1), .ref (t_q 5)]) := by
        intro x143_5 x143_6 x143_7 z143_2 z143_1 H locs ls hf143 hP hD hS hl
        refine g_iast hx hb hK.1 hP hD hS 10 0 rfl rfl (by omega) (by omega) (by decide) dX9_measureFrom_143 (fun H locs g143 eg143 hP hD hS => ?_)
        have hg143 : ∀ j : Nat, (-2147483648) ≤ g143 j ∧ g143 j ≤ 2147483647 := by rw [eg143]; exact uI_all hc50_t_5 (by omega)
        have hP : va_P D vwCl [(a3, .inr (10, oX10 a3_q a3_x0 a3_x1 a3_x6)), ((a3_q 2), .inl (K 0, 12, .inl (fun j => iI (a3_2_c j)))), (t, .inr (9, oX9 t_q t_x0 f50_t_4)), ((t_q 2), .inl (K 0, 150, .inl (fun j => iI (c50_t_2 j)))), ((t_q 3), .inl (K 0, 150, .inl (fun j => iI (c50_t_3 j)))), (a2, .inr (5, oX5 a2_q a2_x0)), ((a2_q 1), .inl (K 0, 5, .inl (fun j => iI (a2_1_c j)))), ((a2_q 2), .inl (K 0, 150, .inl (fun j => iI (a2_2_c j)))), ((a3_q 4), .inl (K 0, 12, .inl (fun j => iI (a3_4_c j)))), ((t_q 1), .inl (K 0, 150, .inl (fun j => iI (t_1_c j)))), ((t_q 5), .inl (K 0, 144, .inl (fun j => iI (g143 j))))] H := hP
        have hD : va_D A [(a3, .inr (10, oX10 a3_q a3_x0 a3_x1 a3_x6)), ((a3_q 2), .inl (K 0, 12, .inl (fun j => iI (a3_2_c j)))), (t, .inr (9, oX9 t_q t_x0 f50_t_4)), ((t_q 2), .inl (K 0, 150, .inl (fun j => iI (c50_t_2 j)))), ((t_q 3), .inl (K 0, 150, .inl (fun j => iI (c50_t_3 j)))), (a2, .inr (5, oX5 a2_q a2_x0)), ((a2_q 1), .inl (K 0, 5, .inl (fun j => iI (a2_1_c j)))), ((a2_q 2), .inl (K 0, 150, .inl (fun j => iI (a2_2_c j)))), ((a3_q 4), .inl (K 0, 12, .inl (fun j => iI (a3_4_c j)))), ((t_q 1), .inl (K 0, 150, .inl (fun j => iI (t_1_c j)))), ((t_q 5), .inl (K 0, 144, .inl (fun j => iI (g143 j))))] := hD
        exact J144 g143 _ _ ls (by omega) hg143 (hP.sub [0, 1, 2, 3, 4, 5, 6, 7, 8, 9, 10] rfl) (hD.sub [0, 1, 2, 3, 4, 5, 6, 7, 8, 9, 10] (by decide) rfl) hS (lv_sub hl [0, 1, 2, 3, 4] rfl)
      have J118 : ∀ (x118_5 : Int) (x118_6 : Int) (z118_0 : Int) (H : Heap) (locs : List Loc) (ls : Array Slot), (0 ≤ x50_4 ∧ x50_4 ≤ 11 ∧ (-2147483648) ≤ x118_5 ∧ x118_5 ≤ 2147483647 ∧ (-2147483648) ≤ x118_6 ∧ x118_6 ≤ 2147483647 ∧ 0 ≤ z118_0 ∧ z118_0 ≤ 1 ∧ 1 ≤ a3_x0 ∧ a3_x0 ≤ 12) → va_P D vwCl [(a3, .inr (10, oX10 a3_q a3_x0 a3_x1 a3_x6)), ((a3_q 2), .inl (K 0, 12, .inl (fun j => iI (a3_2_c j)))), (t, .inr (9, oX9 t_q t_x0 f50_t_4)), ((t_q 2), .inl (K 0, 150, .inl (fun j => iI (c50_t_2 j)))), ((t_q 3), .inl (K 0, 150, .inl (fun j => iI (c50_t_3 j)))), (a2, .inr (5, oX5 a2_q a2_x0)), ((a2_q 1), .inl (K 0, 5, .inl (fun j => iI (a2_1_c j)))), ((a2_q 2), .inl (K 0, 150, .inl (fun j => iI (a2_2_c j)))), ((a3_q 4), .inl (K 0, 12, .inl (fun j => iI (a3_4_c j)))), ((t_q 1), .inl (K 0, 150, .inl (fun j => iI (t_1_c j)))), ((t_q 5), .inl (K 0, 144, .inl (fun j => iI (c50_t_5 j))))] H → va_D A [(a3, .inr (10, oX10 a3_q a3_x0 a3_x1 a3_x6)), ((a3_q 2), .inl (K 0, 12, .inl (fun j => iI (a3_2_c j)))), (t, .inr (9, oX9 t_q t_x0 f50_t_4)), ((t_q 2), .inl (K 0, 150, .inl (fun j => iI (c50_t_2 j)))), ((t_q 3), .inl (K 0, 150, .inl (fun j => iI (c50_t_3 j)))), (a2, .inr (5, oX5 a2_q a2_x0)), ((a2_q 1), .inl (K 0, 5, .inl (fun j => iI (a2_1_c j)))), ((a2_q 2), .inl (K 0, 150, .inl (fun j => iI (a2_2_c j)))), ((a3_q 4), .inl (K 0, 12, .inl (fun j => iI (a3_4_c j)))), ((t_q 1), .inl (K 0, 150, .inl (fun j => iI (t_1_c j)))), ((t_q 5), .inl (K 0, 144, .inl (fun j => iI (c50_t_5 j))))] → va_S A s.heap H locs → lv_has ls 8 [(0, .ref t), (1, .int (iI p1)), (2, .ref a2), (3, .ref a3), (4, .int (iI x50_4)), (5, .int (iI x118_5)), (6, .int (iI x118_6))] → W p l e ({ frames := 16, cells := 0, slots := 0, locals := 400 } : Room) s m ag below meth c H locs 0 0 Q (F0 m 118 ls [.int (iI z118_0)]) := by
        intro x118_5 x118_6 z118_0 H locs ls hf118 hP hD hS hl
        refine lv_istore (lv' := [(7, .int (iI z118_0)), (0, .ref t), (1, .int (iI p1)), (2, .ref a2), (3, .ref a3), (4, .int (iI x50_4)), (5, .int (iI x118_5)), (6, .int (iI x118_6))]) hx hb dX9_measureFrom_118 hl (by decide) rfl (fun ls hl => ?_)
        refine lv_aload_n hx hb dX9_measureFrom_120 rfl (lv_at hl 1 rfl) ?_
        refine va_get (D := D) (own := RX9) (ci := 9) (v := .ref (t_q 5)) (C := RX9) (T := TX9) (N := 6) hx hb hts inb_X9 hown hK.1 hP 2 rfl rfl 5 (by decide) (hts _ wd_323) (fun _ h9 => h9) rfl dX9_measureFrom_121 ?_
        refine lv_iload_n hx hb dX9_measureFrom_124 rfl (lv_at hl 2 rfl) ?_
        refine lv_bipush (v := iI 12) hx hb dX9_measureFrom_125 (by decide) ?_
        refine g_imul hx hb dX9_measureFrom_127 ?_
        refine lv_iload hx hb dX9_measureFrom_128 (lv_at hl 5 rfl) ?_
        refine g_iadd hx hb dX9_measureFrom_130 ?_
        refine lv_iload hx hb dX9_measureFrom_131 (lv_at hl 0 rfl) ?_
        refine g_if_eq (tgt := 141) hx hb (by omega) dX9_measureFrom_133 (by decide) (fun c133 => ?_) (fun c133 => ?_)
        · refine lv_iload hx hb dX9_measureFrom_141 (lv_at hl 6 rfl) ?_
          exact J143 x118_5 x118_6 z118_0 x118_5 (p1 * 12 + x50_4) _ _ ls (by omega) (hP.sub [0, 1, 2, 3, 4, 5, 6, 7, 8, 9, 10] rfl) (hD.sub [0, 1, 2, 3, 4, 5, 6, 7, 8, 9, 10] (by decide) rfl) hS (lv_sub hl [1, 2, 3, 4, 5, 6, 7, 0] rfl)
        · refine lv_iload hx hb dX9_measureFrom_136 (lv_at hl 7 rfl) ?_
          refine lv_goto (tgt := 143) hx hb dX9_measureFrom_138 (by decide) ?_
          exact J143 x118_5 x118_6 z118_0 x118_6 (p1 * 12 + x50_4) _ _ ls (by omega) (hP.sub [0, 1, 2, 3, 4, 5, 6, 7, 8, 9, 10] rfl) (hD.sub [0, 1, 2, 3, 4, 5, 6, 7, 8, 9, 10] (by decide) rfl) hS (lv_sub hl [1, 2, 3, 4, 5, 6, 7, 0] rfl)
      have J117 : ∀ (x117_5 : Int) (x117_6 : Int) (H : Heap) (locs : List Loc) (ls : Array Slot), (0 ≤ x50_4 ∧ x50_4 ≤ 11 ∧ (-2147483648) ≤ x117_5 ∧ x117_5 ≤ 2147483647 ∧ (-2147483648) ≤ x117_6 ∧ x117_6 ≤ 2147483647 ∧ 1 ≤ a3_x0 ∧ a3_x0 ≤ 12) → va_P D vwCl [(a3, .inr (10, oX10 a3_q a3_x0 a3_x1 a3_x6)), ((a3_q 2), .inl (K 0, 12, .inl (fun j => iI (a3_2_c j)))), (t, .inr (9, oX9 t_q t_x0 f50_t_4)), ((t_q 2), .inl (K 0, 150, .inl (fun j => iI (c50_t_2 j)))), ((t_q 3), .inl (K 0, 150, .inl (fun j => iI (c50_t_3 j)))), (a2, .inr (5, oX5 a2_q a2_x0)), ((a2_q 1), .inl (K 0, 5, .inl (fun j => iI (a2_1_c j)))), ((a2_q 2), .inl (K 0, 150, .inl (fun j => iI (a2_2_c j)))), ((a3_q 4), .inl (K 0, 12, .inl (fun j => iI (a3_4_c j)))), ((t_q 1), .inl (K 0, 150, .inl (fun j => iI (t_1_c j)))), ((t_q 5), .inl (K 0, 144, .inl (fun j => iI (c50_t_5 j))))] H → va_D A [(a3, .inr (10, oX10 a3_q a3_x0 a3_x1 a3_x6)), ((a3_q 2), .inl (K 0, 12, .inl (fun j => iI (a3_2_c j)))), (t, .inr (9, oX9 t_q t_x0 f50_t_4)), ((t_q 2), .inl (K 0, 150, .inl (fun j => iI (c50_t_2 j)))), ((t_q 3), .inl (K 0, 150, .inl (fun j => iI (c50_t_3 j)))), (a2, .inr (5, oX5 a2_q a2_x0)), ((a2_q 1), .inl (K 0, 5, .inl (fun j => iI (a2_1_c j)))), ((a2_q 2), .inl (K 0, 150, .inl (fun j => iI (a2_2_c j)))), ((a3_q 4), .inl (K 0, 12, .inl (fun j => iI (a3_4_c j)))), ((t_q 1), .inl (K 0, 150, .inl (fun j => iI (t_1_c j)))), ((t_q 5), .inl (K 0, 144, .inl (fun j => iI (c50_t_5 j))))] → va_S A s.heap H locs → lv_has ls 8 [(0, .ref t), (1, .int (iI p1)), (2, .ref a2), (3, .ref a3), (4, .int (iI x50_4)), (5, .int (iI x117_5)), (6, .int (iI x117_6))] → W p l e ({ frames := 16, cells := 0, slots := 0, locals := 400 } : Room) s m ag below meth c H locs 0 0 Q (F0 m 117 ls []) := by
        intro x117_5 x117_6 H locs ls hf117 hP hD hS hl
        refine lv_iconst (v := iI 0) hx hb dX9_measureFrom_117 rfl ?_
        exact J118 x117_5 x117_6 0 _ _ ls (by omega) (hP.sub [0, 1, 2, 3, 4, 5, 6, 7, 8, 9, 10] rfl) (hD.sub [0, 1, 2, 3, 4, 5, 6, 7, 8, 9, 10] (by decide) rfl) hS (lv_sub hl [0, 1, 2, 3, 4, 5, 6] rfl)
      refine lv_iload hx hb dX9_measureFrom_50 (lv_at hl 4 rfl) ?_
      refine lv_aload_n hx hb dX9_measureFrom_52 rfl (lv_at hl 3 rfl) ?_
      refine va_getN (D := D) (own := RX9) (ci := 10) (v := .int (iI a3_x0)) (C := RX10) (T := TX10) (N := 7) hx hb hts inb_X10 hown hK.1 hP 0 rfl rfl 0 (by decide) (hK.nf 63 rfl) (fun _ h9 => h9) rfl dX9_measureFrom_53 ?_
      have y53_1 : 0 ≤ a3_x0 ∧ a3_x0 ≤ 12 := hi_a3.1
      refine g_icmp_ge (tgt := 150) hx hb (by omega) (by omega) dX9_measureFrom_56 (by decide) (fun c56 => ?_) (fun c56 => ?_)
      · rw [hQ]; exact fn_vret hx hb hr hlocks hP hD hS ((fun k => ([f50_t_4] : List Int).getD k 0), (fun k => ([c50_t_2, c50_t_3, c50_t_5] : List (Nat → Int)).getD k (fun _ => 0))) ⟨(by show 0 ≤ f50_t_4 ∧ f50_t_4 ≤ 150; omega), (hc50_t_2), (hc50_t_3), (hc50_t_5), trivial⟩ [0, 1, 2, 3, 4, 5, 6, 7, 8, 9, 10] (by decide) rfl dX9_measureFrom_150
      · refine lv_aload_n hx hb dX9_measureFrom_59 rfl (lv_at hl 3 rfl) ?_
        refine lv_iload hx hb dX9_measureFrom_60 (lv_at hl 4 rfl) ?_
        refine fn_goi (wc := [(a3, .inr (10, oX10 a3_q a3_x0 a3_x1 a3_x6)), ((a3_q 2), .inl (K 0, 12, .inl (fun j => iI (a3_2_c j))))]) (wr := [(t, .inr (9, oX9 t_q t_x0 f50_t_4)), ((t_q 2), .inl (K 0, 150, .inl (fun j => iI (c50_t_2 j)))), ((t_q 3), .inl (K 0, 150, .inl (fun j => iI (c50_t_3 j)))), (a2, .inr (5, oX5 a2_q a2_x0)), ((a2_q 1), .inl (K 0, 5, .inl (fun j => iI (a2_1_c j)))), ((a2_q 2), .inl (K 0, 150, .inl (fun j => iI (a2_2_c j)))), ((a3_q 4), .inl (K 0, 12, .inl (fun j => iI (a3_4_c j)))), ((t_q 1), .inl (K 0, 150, .inl (fun j => iI (t_1_c j)))), ((t_q 5), .inl (K 0, 144, .inl (fun j => iI (c50_t_5 j))))]) hK hP hD hS hA [0, 1] [2, 3, 4, 5, 6, 7, 8, 9, 10] rfl rfl (by decide) (fun hp => va_runVN (C := RX10) (As := [.int (iI x50_4)]) (rest := []) ⟨hx, hb, hml, hown, hts⟩ (k_X10_isTorn (l := l) (D := D) (K := K) (t := a3) (p1 := x50_4) (t_q := a3_q) (t_x0 := a3_x0) (t_x1 := a3_x1) (t_x6 := a3_x6) (t_2_c := a3_2_c) (hp1 := (by omega)) (hi_t := hi_a3) (hc_t_2 := hc_a3_2) _) ⟨va_cnB (own := RX9) 1 hts (fn_gin wd_925) rfl rfl rfl (hK.nw 135 rfl) (hts _ wd_6) (by decide +kernel) ⟨Nat.le_of_ble_eq_true rfl, Nat.le_of_ble_eq_true rfl⟩, hts _ wd_924, hts _ wp_51⟩ ⟨fn_blind, va_recv hK.1 hP (ci := 10) (q0 := 0) rfl rfl, hp⟩ rfl rfl hl.1 rfl (lv_room (Nat.le_of_ble_eq_true rfl)) dX9_measureFrom_62 ⟨Nat.le_of_ble_eq_true rfl, Nat.le_of_ble_eq_true rfl⟩) (fun r62 u62 H locs hwu62 hP hD hS => ?_)
        obtain ⟨u62a, u62b⟩ := u62
        obtain ⟨kr62, rfl, hkr62, hqu620, -⟩ := hwu62
        have hqu62 : (kr62 = 0 → 0 ≤ a3_2_c (Int.toNat x50_4)) := hqu620
        clear hqu620
        have hP : va_P D vwCl [(t, .inr (9, oX9 t_q t_x0 f50_t_4)), ((t_q 2), .inl (K 0, 150, .inl (fun j => iI (c50_t_2 j)))), ((t_q 3), .inl (K 0, 150, .inl (fun j => iI (c50_t_3 j)))), (a2, .inr (5, oX5 a2_q a2_x0)), ((a2_q 1), .inl (K 0, 5, .inl (fun j => iI (a2_1_c j)))), ((a2_q 2), .inl (K 0, 150, .inl (fun j => iI (a2_2_c j)))), ((a3_q 4), .inl (K 0, 12, .inl (fun j => iI (a3_4_c j)))), ((t_q 1), .inl (K 0, 150, .inl (fun j => iI (t_1_c j)))), ((t_q 5), .inl (K 0, 144, .inl (fun j => iI (c50_t_5 j)))), (a3, .inr (10, oX10 a3_q a3_x0 a3_x1 a3_x6)), ((a3_q 2), .inl (K 0, 12, .inl (fun j => iI (a3_2_c j))))] H := hP
        have hD : va_D A [(t, .inr (9, oX9 t_q t_x0 f50_t_4)), ((t_q 2), .inl (K 0, 150, .inl (fun j => iI (c50_t_2 j)))), ((t_q 3), .inl (K 0, 150, .inl (fun j => iI (c50_t_3 j)))), (a2, .inr (5, oX5 a2_q a2_x0)), ((a2_q 1), .inl (K 0, 5, .inl (fun j => iI (a2_1_c j)))), ((a2_q 2), .inl (K 0, 150, .inl (fun j => iI (a2_2_c j)))), ((a3_q 4), .inl (K 0, 12, .inl (fun j => iI (a3_4_c j)))), ((t_q 1), .inl (K 0, 150, .inl (fun j => iI (t_1_c j)))), ((t_q 5), .inl (K 0, 144, .inl (fun j => iI (c50_t_5 j)))), (a3, .inr (10, oX10 a3_q a3_x0 a3_x1 a3_x6)), ((a3_q 2), .inl (K 0, 12, .inl (fun j => iI (a3_2_c j))))] := hD
        refine g_if_ne (tgt := 144) hx hb (by omega) dX9_measureFrom_65 (by decide) (fun c65 => ?_) (fun c65 => ?_)
        · exact J144 c50_t_5 _ _ ls (by omega) hc50_t_5 (hP.sub [9, 10, 0, 1, 2, 3, 4, 5, 6, 7, 8] rfl) (hD.sub [9, 10, 0, 1, 2, 3, 4, 5, 6, 7, 8] (by decide) rfl) hS (lv_sub hl [0, 1, 2, 3, 4] rfl)
        · refine lv_aload_n hx hb dX9_measureFrom_68 rfl (lv_at hl 0 rfl) ?_
          refine va_get (D := D) (own := RX9) (ci := 9) (v := .int (iI t_x0)) (C := RX9) (T := TX9) (N := 6) hx hb hts inb_X9 hown hK.1 hP 0 rfl rfl 0 (by decide) (hts _ wd_318) (fun _ h9 => h9) rfl dX9_measureFrom_69 ?_
          have y69_2 : (-2147483648) ≤ t_x0 ∧ t_x0 ≤ 2147483647 := hi_t.1
          refine lv_aload_n hx hb dX9_measureFrom_72 rfl (lv_at hl 0 rfl) ?_
          refine va_get (D := D) (own := RX9) (ci := 9) (v := .ref (t_q 1)) (C := RX9) (T := TX9) (N := 6) hx hb hts inb_X9 hown hK.1 hP 0 rfl rfl 1 (by decide) (hts _ wd_319) (fun _ h9 => h9) rfl dX9_measureFrom_73 ?_
          refine lv_aload_n hx hb dX9_measureFrom_76 rfl (lv_at hl 3 rfl) ?_
          refine va_getN (D := D) (own := RX9) (ci := 10) (v := .ref (a3_q 2)) (C := RX10) (T := TX10) (N := 7) hx hb hts inb_X10 hown hK.1 hP 9 rfl rfl 2 (by decide) (hK.nf 64 rfl) (fun _ h9 => h9) rfl dX9_measureFrom_77 ?_
          refine lv_iload hx hb dX9_measureFrom_80 (lv_at hl 4 rfl) ?_
          refine g_iald hx hb hK.1 hP 10 0 rfl rfl (by omega) (by omega) (by decide) dX9_measureFrom_82 ?_
          have y82 : (-1) ≤ (a3_2_c x50_4.toNat) ∧ (a3_2_c x50_4.toNat) ≤ 149 := hc_a3_2 x50_4.toNat
          refine g_iald hx hb hK.1 hP 7 0 rfl rfl (by omega) (by omega) (by decide) dX9_measureFrom_83 ?_
          have y83 : (-2147483648) ≤ (t_1_c ((a3_2_c x50_4.toNat).toNat)) ∧ (t_1_c ((a3_2_c x50_4.toNat).toNat)) ≤ 2147483647 := hc_t_1 ((a3_2_c x50_4.toNat).toNat)
          refine g_iadd hx hb dX9_measureFrom_84 ?_
          refine g_any (fun w84 hw84 ew84 => ?_)
          refine lv_istore (lv' := [(5, .int (iI w84)), (0, .ref t), (1, .int (iI p1)), (2, .ref a2), (3, .ref a3), (4, .int (iI x50_4))]) hx hb dX9_measureFrom_85 hl (by decide) rfl (fun ls hl => ?_)
          refine fn_at 87 rfl ?_
          refine lv_aload_n hx hb dX9_measureFrom_87 rfl (lv_at hl 1 rfl) ?_
          refine va_get (D := D) (own := RX9) (ci := 9) (v := .ref (t_q 2)) (C := RX9) (T := TX9) (N := 6) hx hb hts inb_X9 hown hK.1 hP 0 rfl rfl 2 (by decide) (hts _ wd_320) (fun _ h9 => h9) rfl dX9_measureFrom_88 ?_
          refine lv_aload_n hx hb dX9_measureFrom_91 rfl (lv_at hl 4 rfl) ?_
          refine va_getN (D := D) (own := RX9) (ci := 10) (v := .ref (a3_q 2)) (C := RX10) (T := TX10) (N := 7) hx hb hts inb_X10 hown hK.1 hP 9 rfl rfl 2 (by decide) (hK.nf 64 rfl) (fun _ h9 => h9) rfl dX9_measureFrom_92 ?_
          refine lv_iload hx hb dX9_measureFrom_95 (lv_at hl 5 rfl) ?_
          refine g_iald hx hb hK.1 hP 10 0 rfl rfl (by omega) (by omega) (by decide) dX9_measureFrom_97 ?_
          refine g_iald hx hb hK.1 hP 1 0 rfl rfl (by omega) (by omega) (by decide) dX9_measureFrom_98 ?_
          have y98 : (-2147483648) ≤ (c50_t_2 ((a3_2_c x50_4.toNat).toNat)) ∧ (c50_t_2 ((a3_2_c x50_4.toNat).toNat)) ≤ 2147483647 := hc50_t_2 ((a3_2_c x50_4.toNat).toNat)
          refine lv_istore (lv' := [(6, .int (iI (c50_t_2 ((a3_2_c x50_4.toNat).toNat)))), (5, .int (iI w84)), (0, .ref t), (1, .int (iI p1)), (2, .ref a2), (3, .ref a3), (4, .int (iI x50_4))]) hx hb dX9_measureFrom_99 hl (by decide) rfl (fun ls hl => ?_)
          refine lv_iload hx hb dX9_measureFrom_101 (lv_at hl 0 rfl) ?_
          refine g_if_lt (tgt := 117) hx hb (by omega) dX9_measureFrom_103 (by decide) (fun c103 => ?_) (fun c103 => ?_)
          · exact J117 w84 (c50_t_2 ((a3_2_c x50_4.toNat).toNat)) _ _ ls (by omega) (hP.sub [9, 10, 0, 1, 2, 3, 4, 5, 6, 7, 8] rfl) (hD.sub [9, 10, 0, 1, 2, 3, 4, 5, 6, 7, 8] (by decide) rfl) hS (lv_sub hl [2, 3, 4, 5, 6, 1, 0] rfl)
          · refine lv_iload hx hb dX9_measureFrom_106 (lv_at hl 0 rfl) ?_
            refine lv_iload hx hb dX9_measureFrom_108 (lv_at hl 1 rfl) ?_
            refine g_icmp_ge (tgt := 117) hx hb (by omega) (by omega) dX9_measureFrom_110 (by decide) (fun c110 => ?_) (fun c110 => ?_)
            · exact J117 w84 (c50_t_2 ((a3_2_c x50_4.toNat).toNat)) _ _ ls (by omega) (hP.sub [9, 10, 0, 1, 2, 3, 4, 5, 6, 7, 8] rfl) (hD.sub [9, 10, 0, 1, 2, 3, 4, 5, 6, 7, 8] (by decide) rfl) hS (lv_sub hl [2, 3, 4, 5, 6, 1, 0] rfl)
            · refine lv_iconst (v := iI 1) hx hb dX9_measureFrom_113 rfl ?_
              refine lv_goto (tgt := 118) hx hb dX9_measureFrom_114 (by decide) ?_
              exact J118 w84 (c50_t_2 ((a3_2_c x50_4.toNat).toNat)) 1 _ _ ls (by omega) (hP.sub [9, 10, 0, 1, 2, 3, 4, 5, 6, 7, 8] rfl) (hD.sub [9, 10, 0, 1, 2, 3, 4, 5, 6, 7, 8] (by decide) rfl) hS (lv_sub hl [2, 3, 4, 5, 6, 1, 0] rfl)
  have hl : lv_has ls 8 [(0, .ref t), (1, .int (iI p1)), (2, .ref a2), (3, .ref a3)] := hl
  refine lv_aload_n hx hb dX9_measureFrom_0 rfl (lv_at hl 3 rfl) ?_
  refine lv_iload_n hx hb dX9_measureFrom_1 rfl (lv_at hl 1 rfl) ?_
  refine fn_goi (wc := [(a3, .inr (10, oX10 a3_q a3_x0 a3_x1 a3_x6)), ((a3_q 2), .inl (K 0, 12, .inl (fun j => iI (a3_2_c j))))]) (wr := [(t, .inr (9, oX9 t_q t_x0 t_x4)), ((t_q 2), .inl (K 0, 150, .inl (fun j => iI (t_2_c j)))), ((t_q 3), .inl (K 0, 150, .inl (fun j => iI (t_3_c j)))), (a2, .inr (5, oX5 a2_q a2_x0)), ((a2_q 1), .inl (K 0, 5, .inl (fun j => iI (a2_1_c j)))), ((a2_q 2), .inl (K 0, 150, .inl (fun j => iI (a2_2_c j)))), ((a3_q 4), .inl (K 0, 12, .inl (fun j => iI (a3_4_c j)))), ((t_q 1), .inl (K 0, 150, .inl (fun j => iI (t_1_c j)))), ((t_q 5), .inl (K 0, 144, .inl (fun j => iI (t_5_c j))))]) hK hP hD hS hA [0, 1] [2, 3, 4, 5, 6, 7, 8, 9, 10] rfl rfl (by decide) (fun hp => va_runVN (C := RX10) (As := [.int (iI p1)]) (rest := []) ⟨hx, hb, hml, hown, hts⟩ (k_X10_isTorn (l := l) (D := D) (K := K) (t := a3) (p1 := p1) (t_q := a3_q) (t_x0 := a3_x0) (t_x1 := a3_x1) (t_x6 := a3_x6) (t_2_c := a3_2_c) (hp1 := (by omega)) (hi_t := hi_a3) (hc_t_2 := hc_a3_2) _) ⟨va_cnB (own := RX9) 1 hts (fn_gin wd_925) rfl rfl rfl (hK.nw 135 rfl) (hts _ wd_6) (by decide +kernel) ⟨Nat.le_of_ble_eq_true rfl, Nat.le_of_ble_eq_true rfl⟩, hts _ wd_924, hts _ wp_51⟩ ⟨fn_blind, va_recv hK.1 hP (ci := 10) (q0 := 0) rfl rfl, hp⟩ rfl rfl hl.1 rfl (lv_room (Nat.le_of_ble_eq_true rfl)) dX9_measureFrom_2 ⟨Nat.le_of_ble_eq_true rfl, Nat.le_of_ble_eq_true rfl⟩) (fun r2 u2 H locs hwu2 hP hD hS => ?_)
  obtain ⟨u2a, u2b⟩ := u2
  obtain ⟨kr2, rfl, hkr2, hqu20, -⟩ := hwu2
  have hqu2 : (kr2 = 0 → 0 ≤ a3_2_c (Int.toNat p1)) := hqu20
  clear hqu20
  have hP : va_P D vwCl [(t, .inr (9, oX9 t_q t_x0 t_x4)), ((t_q 2), .inl (K 0, 150, .inl (fun j => iI (t_2_c j)))), ((t_q 3), .inl (K 0, 150, .inl (fun j => iI (t_3_c j)))), (a2, .inr (5, oX5 a2_q a2_x0)), ((a2_q 1), .inl (K 0, 5, .inl (fun j => iI (a2_1_c j)))), ((a2_q 2), .inl (K 0, 150, .inl (fun j => iI (a2_2_c j)))), ((a3_q 4), .inl (K 0, 12, .inl (fun j => iI (a3_4_c j)))), ((t_q 1), .inl (K 0, 150, .inl (fun j => iI (t_1_c j)))), ((t_q 5), .inl (K 0, 144, .inl (fun j => iI (t_5_c j)))), (a3, .inr (10, oX10 a3_q a3_x0 a3_x1 a3_x6)), ((a3_q 2), .inl (K 0, 12, .inl (fun j => iI (a3_2_c j))))] H := hP
  have hD : va_D A [(t, .inr (9, oX9 t_q t_x0 t_x4)), ((t_q 2), .inl (K 0, 150, .inl (fun j => iI (t_2_c j)))), ((t_q 3), .inl (K 0, 150, .inl (fun j => iI (t_3_c j)))), (a2, .inr (5, oX5 a2_q a2_x0)), ((a2_q 1), .inl (K 0, 5, .inl (fun j => iI (a2_1_c j)))), ((a2_q 2), .inl (K 0, 150, .inl (fun j => iI (a2_2_c j)))), ((a3_q 4), .inl (K 0, 12, .inl (fun j => iI (a3_4_c j)))), ((t_q 1), .inl (K 0, 150, .inl (fun j => iI (t_1_c j)))), ((t_q 5), .inl (K 0, 144, .inl (fun j => iI (t_5_c j)))), (a3, .inr (10, oX10 a3_q a3_x0 a3_x1 a3_x6)), ((a3_q 2), .inl (K 0, 12, .inl (fun j => iI (a3_2_c j))))] := hD
  refine g_if_eq (tgt := 9) hx hb (by omega) dX9_measureFrom_5 (by decide) (fun c5 => ?_) (fun c5 => ?_)
  · refine lv_aload_n hx hb dX9_measureFrom_9 rfl (lv_at hl 0 rfl) ?_
    refine va_get (D := D) (own := RX9) (ci := 9) (v := .ref (t_q 2)) (C := RX9) (T := TX9) (N := 6) hx hb hts inb_X9 hown hK.1 hP 0 rfl rfl 2 (by decide) (hts _ wd_320) (fun _ h9 => h9) rfl dX9_measureFrom_10 ?_
    refine lv_iconst (v := iI (-1)) hx hb dX9_measureFrom_13 rfl ?_
    refine fn_gov (wc := [((t_q 2), .inl (K 0, 150, .inl (fun j => iI (t_2_c j))))]) (wr := [(t, .inr (9, oX9 t_q t_x0 t_x4)), ((t_q 3), .inl (K 0, 150, .inl (fun j => iI (t_3_c j)))), (a2, .inr (5, oX5 a2_q a2_x0)), ((a2_q 1), .inl (K 0, 5, .inl (fun j => iI (a2_1_c j)))), ((a2_q 2), .inl (K 0, 150, .inl (fun j => iI (a2_2_c j)))), ((a3_q 4), .inl (K 0, 12, .inl (fun j => iI (a3_4_c j)))), ((t_q 1), .inl (K 0, 150, .inl (fun j => iI (t_1_c j)))), ((t_q 5), .inl (K 0, 144, .inl (fun j => iI (t_5_c j)))), (a3, .inr (10, oX10 a3_q a3_x0 a3_x1 a3_x6)), ((a3_q 2), .inl (K 0, 12, .inl (fun j => iI (a3_2_c j))))]) hK hP hD hS hA [1] [0, 2, 3, 4, 5, 6, 7, 8, 9, 10] rfl rfl (by decide) (fun hp => va_runS (As := [.ref (t_q 2), .int (iI (-1))]) (rest := []) ⟨hx, hb, hml, hown, hts⟩ (k_J7_fill_53178 (l := l) (D := D) (K := K) (a1 := (t_q 2)) (p2 := (-1)) (a1_c := t_2_c) (a1_n := 150) (hp2 := (by omega)) (hn_a1 := (by decide)) (hc_a1 := hc_t_2) _) (va_cwS 2 hts (fn_ginS (fn_gin wd_646) wd_930 wd_645 wd_20) rfl rfl rfl (by decide +kernel) ⟨Nat.le_of_ble_eq_true rfl, Nat.le_of_ble_eq_true rfl⟩) ⟨fn_blind, hp⟩ rfl rfl hl.1 rfl (lv_room (Nat.le_of_ble_eq_true rfl)) dX9_measureFrom_14 ⟨Nat.le_of_ble_eq_true rfl, Nat.le_of_ble_eq_true rfl⟩) (fun u14 H locs hwu14 hP hD hS => ?_)
    obtain ⟨u14a, u14b⟩ := u14
    obtain ⟨hqu14_f0, hu14_00, -⟩ := hwu14
    have hqu14_f : ∀ j : Nat, (u14b 0) j = (-1 : Int) ∨ (u14b 0) j = t_2_c j := hqu14_f0
    have hu14_0 : ∀ j : Nat, (-2147483648) ≤ (u14b 0) j ∧ (u14b 0) j ≤ 2147483647 := hu14_00
    clear hqu14_f0 hu14_00
    have hu14_0 : ∀ j : Nat, (-2147483648) ≤ (u14b 0) j ∧ (u14b 0) j ≤ 2147483647 := (fun j => by have h9 := hqu14_f j; have h8 := hc_t_2 j; omega)
    have hP : va_P D vwCl [(t, .inr (9, oX9 t_q t_x0 t_x4)), ((t_q 3), .inl (K 0, 150, .inl (fun j => iI (t_3_c j)))), (a2, .inr (5, oX5 a2_q a2_x0)), ((a2_q 1), .inl (K 0, 5, .inl (fun j => iI (a2_1_c j)))), ((a2_q 2), .inl (K 0, 150, .inl (fun j => iI (a2_2_c j)))), ((a3_q 4), .inl (K 0, 12, .inl (fun j => iI (a3_4_c j)))), ((t_q 1), .inl (K 0, 150, .inl (fun j => iI (t_1_c j)))), ((t_q 5), .inl (K 0, 144, .inl (fun j => iI (t_5_c j)))), (a3, .inr (10, oX10 a3_q a3_x0 a3_x1 a3_x6)), ((a3_q 2), .inl (K 0, 12, .inl (fun j => iI (a3_2_c j)))), ((t_q 2), .inl (K 0, 150, .inl (fun j => iI ((u14b 0) j))))] H := hP
    have hD : va_D A [(t, .inr (9, oX9 t_q t_x0 t_x4)), ((t_q 3), .inl (K 0, 150, .inl (fun j => iI (t_3_c j)))), (a2, .inr (5, oX5 a2_q a2_x0)), ((a2_q 1), .inl (K 0, 5, .inl (fun j => iI (a2_1_c j)))), ((a2_q 2), .inl (K 0, 150, .inl (fun j => iI (a2_2_c j)))), ((a3_q 4), .inl (K 0, 12, .inl (fun j => iI (a3_4_c j)))), ((t_q 1), .inl (K 0, 150, .inl (fun j => iI (t_1_c j)))), ((t_q 5), .inl (K 0, 144, .inl (fun j => iI (t_5_c j)))), (a3, .inr (10, oX10 a3_q a3_x0 a3_x1 a3_x6)), ((a3_q 2), .inl (K 0, 12, .inl (fun j => iI (a3_2_c j)))), ((t_q 2), .inl (K 0, 150, .inl (fun j => iI ((u14b 0) j))))] := hD
    refine lv_aload_n hx hb dX9_measureFrom_17 rfl (lv_at hl 0 rfl) ?_
    refine lv_iconst (v := iI 0) hx hb dX9_measureFrom_18 rfl ?_
    refine va_put (D := D) (own := RX9) (ci := 9) (v := .int (iI 0)) (ty := .int) (C := RX9) (T := TX9) (N := 6) hx hb hts inb_X9 tyX9 tyX9_ok nmX9 hown hK.1 hP hD hS 0 rfl rfl 4 (by decide) (hts _ wd_322) (fun _ h9 => h9) rfl (by decide +kernel) rfl rfl (Nat.le_of_ble_eq_true rfl) dX9_measureFrom_19 (fun H locs hP hD hS => ?_)
    have hP : va_P D vwCl [(t, .inr (9, oX9 t_q t_x0 0)), ((t_q 3), .inl (K 0, 150, .inl (fun j => iI (t_3_c j)))), (a2, .inr (5, oX5 a2_q a2_x0)), ((a2_q 1), .inl (K 0, 5, .inl (fun j => iI (a2_1_c j)))), ((a2_q 2), .inl (K 0, 150, .inl (fun j => iI (a2_2_c j)))), ((a3_q 4), .inl (K 0, 12, .inl (fun j => iI (a3_4_c j)))), ((t_q 1), .inl (K 0, 150, .inl (fun j => iI (t_1_c j)))), ((t_q 5), .inl (K 0, 144, .inl (fun j => iI (t_5_c j)))), (a3, .inr (10, oX10 a3_q a3_x0 a3_x1 a3_x6)), ((a3_q 2), .inl (K 0, 12, .inl (fun j => iI (a3_2_c j)))), ((t_q 2), .inl (K 0, 150, .inl (fun j => iI ((u14b 0) j))))] H := hP
    have hD : va_D A [(t, .inr (9, oX9 t_q t_x0 0)), ((t_q 3), .inl (K 0, 150, .inl (fun j => iI (t_3_c j)))), (a2, .inr (5, oX5 a2_q a2_x0)), ((a2_q 1), .inl (K 0, 5, .inl (fun j => iI (a2_1_c j)))), ((a2_q 2), .inl (K 0, 150, .inl (fun j => iI (a2_2_c j)))), ((a3_q 4), .inl (K 0, 12, .inl (fun j => iI (a3_4_c j)))), ((t_q 1), .inl (K 0, 150, .inl (fun j => iI (t_1_c j)))), ((t_q 5), .inl (K 0, 144, .inl (fun j => iI (t_5_c j)))), (a3, .inr (10, oX10 a3_q a3_x0 a3_x1 a3_x6)), ((a3_q 2), .inl (K 0, 12, .inl (fun j => iI (a3_2_c j)))), ((t_q 2), .inl (K 0, 150, .inl (fun j => iI ((u14b 0) j))))] := hD
    refine lv_aload_n hx hb dX9_measureFrom_22 rfl (lv_at hl 0 rfl) ?_
    refine lv_aload_n hx hb dX9_measureFrom_23 rfl (lv_at hl 0 rfl) ?_
    refine va_get (D := D) (own := RX9) (ci := 9) (v := .ref (t_q 2)) (C := RX9) (T := TX9) (N := 6) hx hb hts inb_X9 hown hK.1 hP 0 rfl rfl 2 (by decide) (hts _ wd_320) (fun _ h9 => h9) rfl dX9_measureFrom_24 ?_
    refine lv_aload_n hx hb dX9_measureFrom_27 rfl (lv_at hl 3 rfl) ?_
    refine va_getN (D := D) (own := RX9) (ci := 10) (v := .ref (a3_q 2)) (C := RX10) (T := TX10) (N := 7) hx hb hts inb_X10 hown hK.1 hP 8 rfl rfl 2 (by decide) (hK.nf 64 rfl) (fun _ h9 => h9) rfl dX9_measureFrom_28 ?_
    refine lv_iload_n hx hb dX9_measureFrom_31 rfl (lv_at hl 1 rfl) ?_
    refine g_iald hx hb hK.1 hP 9 0 rfl rfl (by omega) (by omega) (by decide) dX9_measureFrom_32 ?_
    have y32 : (-1) ≤ (a3_2_c p1.toNat) ∧ (a3_2_c p1.toNat) ≤ 149 := hc_a3_2 p1.toNat
    refine lv_iconst (v := iI 0) hx hb dX9_measureFrom_33 rfl ?_
    refine fn_at 34 rfl ?_
    refine fn_gov (wc := [((t_q 2), .inl (K 0, 150, .inl (fun j => iI ((u14b 0) j)))), (t, .inr (9, oX9 t_q t_x0 0)), ((t_q 3), .inl (K 0, 150, .inl (fun j => iI (t_3_c j))))]) (wr := [(a2, .inr (5, oX5 a2_q a2_x0)), ((a2_q 1), .inl (K 0, 5, .inl (fun j => iI (a2_1_c j)))), ((a2_q 2), .inl (K 0, 150, .inl (fun j => iI (a2_2_c j)))), ((a3_q 4), .inl (K 0, 12, .inl (fun j => iI (a3_4_c j)))), ((t_q 1), .inl (K 0, 150, .inl (fun j => iI (t_1_c j)))), ((t_q 5), .inl (K 0, 144, .inl (fun j => iI (t_5_c j)))), (a3, .inr (10, oX10 a3_q a3_x0 a3_x1 a3_x6)), ((a3_q 2), .inl (K 0, 12, .inl (fun j => iI (a3_2_c j))))]) hK hP hD hS hA [10, 0, 1] [2, 3, 4, 5, 6, 7, 8, 9] rfl rfl (by decide) (fun hp => va_runV (C := RX9) (As := [.ref (t_q 2), .int (iI (a3_2_c p1.toNat)), .int (iI 0)]) (rest := []) ⟨hx, hb, hml, hown, hts⟩ (k_X9_arrive (l := l) (D := D) (K := K) (t := t) (a1 := (t_q 2)) (p2 := (a3_2_c p1.toNat)) (p3 := 0) (a1_c := (u14b 0)) (t_q := t_q) (t_x0 := t_x0) (t_x4 := 0) (t_3_c := t_3_c) (hp2 := (by omega)) (hp3 := (by omega)) (hc_a1 := hu14_0) (hi_t := ⟨hi_t.1, (by omega)⟩) (hc_t_3 := hc_t_3) _) (cwV 3 hts (fn_ginV (fn_gin wd_934) wd_931 wd_933 wp_53 wd_9) rfl rfl rfl (by decide +kernel) ⟨Nat.le_of_ble_eq_true rfl, Nat.le_of_ble_eq_true rfl⟩) ⟨fn_blind, va_recv hK.1 hP (ci := 9) (q0 := 0) rfl rfl, hp⟩ rfl rfl hl.1 rfl (lv_room (Nat.le_of_ble_eq_true rfl)) dX9_measureFrom_34 ⟨Nat.le_of_ble_eq_true rfl, Nat.le_of_ble_eq_true rfl⟩) (fun u34 H locs hwu34 hP hD hS => ?_)
    obtain ⟨u34a, u34b⟩ := u34
    obtain ⟨hqu340, hu34_00, hu34_10, -⟩ := hwu34
    have hqu34 : 0 ≤ (u34a 0) ∧ (u34a 0) ≤ 150 := hqu340
    have hu34_0 : ∀ j : Nat, (-2147483648) ≤ (u34b 0) j ∧ (u34b 0) j ≤ 2147483647 := hu34_00
    have hu34_1 : ∀ j : Nat, 0 ≤ (u34b 1) j ∧ (u34b 1) j ≤ 149 := hu34_10
    clear hqu340 hu34_00 hu34_10
    have hP : va_P D vwCl [(a2, .inr (5, oX5 a2_q a2_x0)), ((a2_q 1), .inl (K 0, 5, .inl (fun j => iI (a2_1_c j)))), ((a2_q 2), .inl (K 0, 150, .inl (fun j => iI (a2_2_c j)))), ((a3_q 4), .inl (K 0, 12, .inl (fun j => iI (a3_4_c j)))), ((t_q 1), .inl (K 0, 150, .inl (fun j => iI (t_1_c j)))), ((t_q 5), .inl (K 0, 144, .inl (fun j => iI (t_5_c j)))), (a3, .inr (10, oX10 a3_q a3_x0 a3_x1 a3_x6)), ((a3_q 2), .inl (K 0, 12, .inl (fun j => iI (a3_2_c j)))), ((t_q 2), .inl (K 0, 150, .inl (fun j => iI ((u34b 0) j)))), (t, .inr (9, oX9 t_q t_x0 (u34a 0))), ((t_q 3), .inl (K 0, 150, .inl (fun j => iI ((u34b 1) j))))] H := hP
    have hD : va_D A [(a2, .inr (5, oX5 a2_q a2_x0)), ((a2_q 1), .inl (K 0, 5, .inl (fun j => iI (a2_1_c j)))), ((a2_q 2), .inl (K 0, 150, .inl (fun j => iI (a2_2_c j)))), ((a3_q 4), .inl (K 0, 12, .inl (fun j => iI (a3_4_c j)))), ((t_q 1), .inl (K 0, 150, .inl (fun j => iI (t_1_c j)))), ((t_q 5), .inl (K 0, 144, .inl (fun j => iI (t_5_c j)))), (a3, .inr (10, oX10 a3_q a3_x0 a3_x1 a3_x6)), ((a3_q 2), .inl (K 0, 12, .inl (fun j => iI (a3_2_c j)))), ((t_q 2), .inl (K 0, 150, .inl (fun j => iI ((u34b 0) j)))), (t, .inr (9, oX9 t_q t_x0 (u34a 0))), ((t_q 3), .inl (K 0, 150, .inl (fun j => iI ((u34b 1) j))))] := hD
    refine lv_aload_n hx hb dX9_measureFrom_37 rfl (lv_at hl 0 rfl) ?_
    refine lv_aload_n hx hb dX9_measureFrom_38 rfl (lv_at hl 0 rfl) ?_
    refine va_get (D := D) (own := RX9) (ci := 9) (v := .ref (t_q 2)) (C := RX9) (T := TX9) (N := 6) hx hb hts inb_X9 hown hK.1 hP 9 rfl rfl 2 (by decide) (hts _ wd_320) (fun _ h9 => h9) rfl dX9_measureFrom_39 ?_
    refine lv_aload_n hx hb dX9_measureFrom_42 rfl (lv_at hl 2 rfl) ?_
    refine lv_aload_n hx hb dX9_measureFrom_43 rfl (lv_at hl 3 rfl) ?_
    refine fn_gov (wc := [(t, .inr (9, oX9 t_q t_x0 (u34a 0))), ((t_q 3), .inl (K 0, 150, .inl (fun j => iI ((u34b 1) j)))), ((t_q 2), .inl (K 0, 150, .inl (fun j => iI ((u34b 0) j)))), (a2, .inr (5, oX5 a2_q a2_x0)), ((a2_q 1), .inl (K 0, 5, .inl (fun j => iI (a2_1_c j)))), ((a2_q 2), .inl (K 0, 150, .inl (fun j => iI (a2_2_c j)))), (a3, .inr (10, oX10 a3_q a3_x0 a3_x1 a3_x6)), ((a3_q 4), .inl (K 0, 12, .inl (fun j => iI (a3_4_c j)))), ((a3_q 2), .inl (K 0, 12, .inl (fun j => iI (a3_2_c j))))]) (wr := [((t_q 1), .inl (K 0, 150, .inl (fun j => iI (t_1_c j)))), ((t_q 5), .inl (K 0, 144, .inl (fun j => iI (t_5_c j))))]) hK hP hD hS hA [9, 10, 8, 0, 1, 2, 6, 3, 7] [4, 5] rfl rfl (by decide) (fun hp => va_runV (C := RX9) (As := [.ref (t_q 2), .ref a2, .ref a3]) (rest := []) ⟨hx, hb, hml, hown, hts⟩ (k_X9_spread (l := l) (D := D) (K := K) (t := t) (a1 := (t_q 2)) (a2 := a2) (a3 := a3) (t_q := t_q) (t_x0 := t_x0) (t_x4 := (u34a 0)) (t_3_c := (u34b 1)) (a1_c := (u34b 0)) (a2_q := a2_q) (a2_x0 := a2_x0) (a2_1_c := a2_1_c) (a2_2_c := a2_2_c) (a3_q := a3_q) (a3_x0 := a3_x0) (a3_x1 := a3_x1) (a3_x6 := a3_x6) (a3_4_c := a3_4_c) (a3_2_c := a3_2_c) (hi_t := ⟨hi_t.1, (by omega)⟩) (hc_t_3 := hu34_1) (hc_a1 := hu34_0) (hi_a2 := hi_a2) (hc_a2_1 := hc_a2_1) (hc_a2_2 := hc_a2_2) (hi_a3 := hi_a3) (hc_a3_4 := hc_a3_4) (hc_a3_2 := hc_a3_2) _) (cwV 3 hts (fn_ginV (fn_gin wd_938) wd_935 wd_937 wp_54 wd_9) rfl rfl rfl (by decide +kernel) ⟨Nat.le_of_ble_eq_true rfl, Nat.le_of_ble_eq_true rfl⟩) ⟨fn_blind, va_recv hK.1 hP (ci := 9) (q0 := 9) rfl rfl, hp⟩ rfl rfl hl.1 rfl (lv_room (Nat.le_of_ble_eq_true rfl)) dX9_measureFrom_44 ⟨Nat.le_of_ble_eq_true rfl, Nat.le_of_ble_eq_true rfl⟩) (fun u44 H locs hwu44 hP hD hS => ?_)
    obtain ⟨u44a, u44b⟩ := u44
    obtain ⟨hqu440, hu44_00, hu44_10, -⟩ := hwu44
    have hqu44 : 0 ≤ (u44a 0) ∧ (u44a 0) ≤ 150 := hqu440
    have hu44_0 : ∀ j : Nat, (-2147483648) ≤ (u44b 0) j ∧ (u44b 0) j ≤ 2147483647 := hu44_00
    have hu44_1 : ∀ j : Nat, 0 ≤ (u44b 1) j ∧ (u44b 1) j ≤ 149 := hu44_10
    clear hqu440 hu44_00 hu44_10
    have hP : va_P D vwCl [((t_q 1), .inl (K 0, 150, .inl (fun j => iI (t_1_c j)))), ((t_q 5), .inl (K 0, 144, .inl (fun j => iI (t_5_c j)))), (t, .inr (9, oX9 t_q t_x0 (u44a 0))), ((t_q 3), .inl (K 0, 150, .inl (fun j => iI ((u44b 1) j)))), ((t_q 2), .inl (K 0, 150, .inl (fun j => iI ((u44b 0) j)))), (a2, .inr (5, oX5 a2_q a2_x0)), ((a2_q 1), .inl (K 0, 5, .inl (fun j => iI (a2_1_c j)))), ((a2_q 2), .inl (K 0, 150, .inl (fun j => iI (a2_2_c j)))), (a3, .inr (10, oX10 a3_q a3_x0 a3_x1 a3_x6)), ((a3_q 4), .inl (K 0, 12, .inl (fun j => iI (a3_4_c j)))), ((a3_q 2), .inl (K 0, 12, .inl (fun j => iI (a3_2_c j))))] H := hP
    have hD : va_D A [((t_q 1), .inl (K 0, 150, .inl (fun j => iI (t_1_c j)))), ((t_q 5), .inl (K 0, 144, .inl (fun j => iI (t_5_c j)))), (t, .inr (9, oX9 t_q t_x0 (u44a 0))), ((t_q 3), .inl (K 0, 150, .inl (fun j => iI ((u44b 1) j)))), ((t_q 2), .inl (K 0, 150, .inl (fun j => iI ((u44b 0) j)))), (a2, .inr (5, oX5 a2_q a2_x0)), ((a2_q 1), .inl (K 0, 5, .inl (fun j => iI (a2_1_c j)))), ((a2_q 2), .inl (K 0, 150, .inl (fun j => iI (a2_2_c j)))), (a3, .inr (10, oX10 a3_q a3_x0 a3_x1 a3_x6)), ((a3_q 4), .inl (K 0, 12, .inl (fun j => iI (a3_4_c j)))), ((a3_q 2), .inl (K 0, 12, .inl (fun j => iI (a3_2_c j))))] := hD
    refine lv_iconst (v := iI 0) hx hb dX9_measureFrom_47 rfl ?_
    refine lv_istore (lv' := [(4, .int (iI 0)), (0, .ref t), (1, .int (iI p1)), (2, .ref a2), (3, .ref a3)]) hx hb dX9_measureFrom_48 hl (by decide) rfl (fun ls hl => ?_)
    exact J50 _ 0 (u44a 0) (u44b 0) (u44b 1) t_5_c _ _ ls (Nat.lt_succ_self _) (by omega) hu44_0 hu44_1 hc_t_5 (hP.sub [8, 10, 2, 4, 3, 5, 6, 7, 9, 0, 1] rfl) (hD.sub [8, 10, 2, 4, 3, 5, 6, 7, 9, 0, 1] (by decide) rfl) hS (lv_sub hl [1, 2, 3, 4, 0] rfl)
  · have y8_1 : 0 ≤ t_x4 ∧ t_x4 ≤ 150 := hi_t.2
    rw [hQ]; exact fn_vret hx hb hr hlocks hP hD hS ((fun k => ([t_x4] : List Int).getD k 0), (fun k => ([t_2_c, t_3_c, t_5_c] : List (Nat → Int)).getD k (fun _ => 0))) ⟨(by show 0 ≤ t_x4 ∧ t_x4 ≤ 150; omega), (hc_t_2), (hc_t_3), (hc_t_5), trivial⟩ [9, 10, 0, 1, 2, 3, 4, 5, 6, 7, 8] (by decide) rfl dX9_measureFrom_8
theorem wd_227 : Cond.fieldLink "FootNotes$Web" 59 "FootNotes$Web" "standingFacts" "I" ∈ fn_big := fn_tb (fn_l1 (List.mem_of_getElem? (i := 227) (by decide +kernel))) (by decide +kernel)
theorem wd_644 : Cond.methodLink "FootNotes$Web" 35 ⟨"java/util/Arrays", "fill", "([II)V"⟩ ∈ fn_big := fn_tb (fn_l3 (List.mem_of_getElem? (i := 164) (by decide +kernel))) (by decide +kernel)
theorem dX10_locatePages_83 : decode cX10_locatePages 83 = .ok (.iinc 4 1, 3) := by decide +kernel
theorem dX10_locatePages_86 : decode cX10_locatePages 86 = .ok (.goto (-60), 3) := by decide +kernel
theorem dX10_locatePages_26 : decode cX10_locatePages 26 = .ok (.iload 4, 2) := by decide +kernel
theorem dX10_locatePages_28 : decode cX10_locatePages 28 = .ok (.aload_n 2, 1) := by decide +kernel
theorem dX10_locatePages_29 : decode cX10_locatePages 29 = .ok (.getfield 65, 3) := by decide +kernel
theorem dX10_locatePages_32 : decode cX10_locatePages 32 = .ok (.iload_n 3, 1) := by decide +kernel
theorem dX10_locatePages_33 : decode cX10_locatePages 33 = .ok (.iaload, 1) := by decide +kernel
theorem dX10_locatePages_34 : decode cX10_locatePages 34 = .ok (.if_icmp .ge 55, 3) := by decide +kernel
theorem dX10_locatePages_89 : decode cX10_locatePages 89 = .ok (.iinc 3 1, 3) := by decide +kernel
theorem dX10_locatePages_92 : decode cX10_locatePages 92 = .ok (.goto (-77), 3) := by decide +kernel
theorem dX10_locatePages_37 : decode cX10_locatePages 37 = .ok (.aload_n 2, 1) := by decide +kernel
theorem dX10_locatePages_38 : decode cX10_locatePages 38 = .ok (.iload_n 3, 1) := by decide +kernel
theorem dX10_locatePages_39 : decode cX10_locatePages 39 = .ok (.iload 4, 2) := by decide +kernel
theorem dX10_locatePages_41 : decode cX10_locatePages 41 = .ok (.invokevirtual 55, 3) := by decide +kernel
theorem dX10_locatePages_44 : decode cX10_locatePages 44 = .ok (.istore 5, 2) := by decide +kernel
theorem dX10_locatePages_46 : decode cX10_locatePages 46 = .ok (.iload 5, 2) := by decide +kernel
theorem dX10_locatePages_48 : decode cX10_locatePages 48 = .ok (.ifCond .lt 35, 3) := by decide +kernel
theorem dX10_locatePages_51 : decode cX10_locatePages 51 = .ok (.aload_n 0, 1) := by decide +kernel
theorem dX10_locatePages_52 : decode cX10_locatePages 52 = .ok (.getfield 9, 3) := by decide +kernel
theorem dX10_locatePages_55 : decode cX10_locatePages 55 = .ok (.iload 5, 2) := by decide +kernel
theorem dX10_locatePages_57 : decode cX10_locatePages 57 = .ok (.iload_n 3, 1) := by decide +kernel
theorem dX10_locatePages_58 : decode cX10_locatePages 58 = .ok (.bipush 30, 2) := by decide +kernel
theorem dX10_locatePages_60 : decode cX10_locatePages 60 = .ok (.imul, 1) := by decide +kernel
theorem dX10_locatePages_61 : decode cX10_locatePages 61 = .ok (.iload 4, 2) := by decide +kernel
theorem dX10_locatePages_63 : decode cX10_locatePages 63 = .ok (.iadd, 1) := by decide +kernel
theorem dX10_locatePages_64 : decode cX10_locatePages 64 = .ok (.iastore, 1) := by decide +kernel
theorem dX10_locatePages_65 : decode cX10_locatePages 65 = .ok (.aload_n 0, 1) := by decide +kernel
theorem dX10_locatePages_66 : decode cX10_locatePages 66 = .ok (.dup, 1) := by decide +kernel
theorem dX10_locatePages_67 : decode cX10_locatePages 67 = .ok (.getfield 59, 3) := by decide +kernel
theorem dX10_locatePages_70 : decode cX10_locatePages 70 = .ok (.aload_n 1, 1) := by decide +kernel
theorem dX10_locatePages_71 : decode cX10_locatePages 71 = .ok (.getfield 68, 3) := by decide +kernel
theorem dX10_locatePages_74 : decode cX10_locatePages 74 = .ok (.iconst 1, 1) := by decide +kernel
theorem dX10_locatePages_75 : decode cX10_locatePages 75 = .ok (.iload 5, 2) := by decide +kernel
theorem dX10_locatePages_77 : decode cX10_locatePages 77 = .ok (.ishl, 1) := by decide +kernel
theorem dX10_locatePages_78 : decode cX10_locatePages 78 = .ok (.iand, 1) := by decide +kernel
theorem dX10_locatePages_79 : decode cX10_locatePages 79 = .ok (.ior, 1) := by decide +kernel
theorem dX10_locatePages_80 : decode cX10_locatePages 80 = .ok (.putfield 59, 3) := by decide +kernel
theorem dX10_locatePages_15 : decode cX10_locatePages 15 = .ok (.iload_n 3, 1) := by decide +kernel
theorem dX10_locatePages_16 : decode cX10_locatePages 16 = .ok (.aload_n 1, 1) := by decide +kernel
theorem dX10_locatePages_17 : decode cX10_locatePages 17 = .ok (.getfield 62, 3) := by decide +kernel
theorem dX10_locatePages_20 : decode cX10_locatePages 20 = .ok (.if_icmp .ge 75, 3) := by decide +kernel
theorem dX10_locatePages_95 : decode cX10_locatePages 95 = .ok (.return_, 1) := by decide +kernel
theorem dX10_locatePages_23 : decode cX10_locatePages 23 = .ok (.iconst 0, 1) := by decide +kernel
theorem dX10_locatePages_24 : decode cX10_locatePages 24 = .ok (.istore 4, 2) := by decide +kernel
theorem dX10_locatePages_0 : decode cX10_locatePages 0 = .ok (.aload_n 0, 1) := by decide +kernel
theorem dX10_locatePages_1 : decode cX10_locatePages 1 = .ok (.getfield 9, 3) := by decide +kernel
theorem dX10_locatePages_4 : decode cX10_locatePages 4 = .ok (.iconst (-1), 1) := by decide +kernel
theorem dX10_locatePages_5 : decode cX10_locatePages 5 = .ok (.invokestatic 35, 3) := by decide +kernel
theorem dX10_locatePages_8 : decode cX10_locatePages 8 = .ok (.aload_n 0, 1) := by decide +kernel
theorem dX10_locatePages_9 : decode cX10_locatePages 9 = .ok (.iconst 0, 1) := by decide +kernel
theorem dX10_locatePages_10 : decode cX10_locatePages 10 = .ok (.putfield 59, 3) := by decide +kernel
theorem dX10_locatePages_13 : decode cX10_locatePages 13 = .ok (.iconst 0, 1) := by decide +kernel
theorem dX10_locatePages_14 : decode cX10_locatePages 14 = .ok (.istore_n 3, 1) := by decide +kernel
set_option maxHeartbeats 4000000 in
set_option maxRecDepth 100000 in
theorem k_X10_locatePages (l : Launch) (D : va_G) (K : Nat → ClassId) (t a1 a2 : Nat) (t_q a1_q a2_q : Nat → Nat) (t_x0 t_x1 t_x6 a1_x0 a1_x1 a1_x2 a1_x3 a1_x4 a1_x5 a1_x6 a1_x7 a1_x8 a2_x0 : Int) (t_2_c : Nat → Int) (a2_1_c : Nat → Int) (a2_2_c : Nat → Int) (hi_t : bX10 t_x0 t_x1 t_x6) (hc_t_2 : ∀ j : Nat, (-1) ≤ t_2_c j ∧ t_2_c j ≤ 149) (hi_a1 : bX7 a1_x0 a1_x1 a1_x2 a1_x3 a1_x4 a1_x5 a1_x6 a1_x7 a1_x8) (hi_a2 : bX5 a2_x0) (hc_a2_1 : ∀ j : Nat, (-1000) ≤ a2_1_c j ∧ a2_1_c j ≤ 30) (hc_a2_2 : ∀ j : Nat, (-4) ≤ a2_2_c j ∧ a2_2_c j ≤ 11) : fn_CV (S := (Nat → Int) × (Nat → Nat → Int)) l D K yX10_locatePages (fn_ws yX10_locatePages cX10_locatePages 6 none) ({ frames := 8, cells := 0, slots := 0, locals := 200 } : Room) [.ref t, .ref a1, .ref a2] [(t, .inr (10, oX10 t_q t_x0 t_x1 t_x6)), ((t_q 2), .inl (K 0, 12, .inl (fun j => iI (t_2_c j)))), (a1, .inr (7, oX7 a1_q a1_x0 a1_x1 a1_x2 a1_x3 a1_x4 a1_x5 a1_x6 a1_x7 a1_x8)), (a2, .inr (5, oX5 a2_q a2_x0)), ((a2_q 1), .inl (K 0, 5, .inl (fun j => iI (a2_1_c j)))), ((a2_q 2), .inl (K 0, 150, .inl (fun j => iI (a2_2_c j))))] (fun u => (0 ≤ (u.1 0) ∧ (u.1 0) ≤ 4095) ∧ (∀ j : Nat, (-1) ≤ (u.2 0) j ∧ (u.2 0) j ≤ 149) ∧ True) (fun u => [(t, .inr (10, oX10 t_q t_x0 (u.1 0) t_x6)), ((t_q 2), .inl (K 0, 12, .inl (fun j => iI ((u.2 0) j)))), (a1, .inr (7, oX7 a1_q a1_x0 a1_x1 a1_x2 a1_x3 a1_x4 a1_x5 a1_x6 a1_x7 a1_x8)), (a2, .inr (5, oX5 a2_q a2_x0)), ((a2_q 1), .inl (K 0, 5, .inl (fun j => iI (a2_1_c j)))), ((a2_q 2), .inl (K 0, 150, .inl (fun j => iI (a2_2_c j))))]) 0 0 := by
  refine g_inV (cc := cX10_locatePages) (maxL := 6) (ret := none) (by decide) rfl (Nat.le_of_ble_eq_true rfl) ?_
  intro p e s m below meth c A ls ag Q B hA hP hD hS hl hQ
  obtain ⟨hx, hb, hr, hml, hts, hown, hlocks, hin, hK⟩ := B
  have hown : s.vm.findClass RX10 = some m.cls := hown
  have hts := fun w h => hts w (List.mem_cons_of_mem _ h)
  have J15 : ∀ (n : Nat) (x15_3 : Int) (f15_t_1 : Int) (c15_t_2 : Nat → Int) (H : Heap) (locs : List Loc) (ls : Array Slot), (5 - x15_3).toNat < n → (0 ≤ x15_3 ∧ x15_3 ≤ 5 ∧ 0 ≤ f15_t_1 ∧ f15_t_1 ≤ 4095) → (∀ j : Nat, (-1) ≤ c15_t_2 j ∧ c15_t_2 j ≤ 149) → va_P D vwCl [(t, .inr (10, oX10 t_q t_x0 f15_t_1 t_x6)), ((t_q 2), .inl (K 0, 12, .inl (fun j => iI (c15_t_2 j)))), (a1, .inr (7, oX7 a1_q a1_x0 a1_x1 a1_x2 a1_x3 a1_x4 a1_x5 a1_x6 a1_x7 a1_x8)), (a2, .inr (5, oX5 a2_q a2_x0)), ((a2_q 1), .inl (K 0, 5, .inl (fun j => iI (a2_1_c j)))), ((a2_q 2), .inl (K 0, 150, .inl (fun j => iI (a2_2_c j))))] H → va_D A [(t, .inr (10, oX10 t_q t_x0 f15_t_1 t_x6)), ((t_q 2), .inl (K 0, 12, .inl (fun j => iI (c15_t_2 j)))), (a1, .inr (7, oX7 a1_q a1_x0 a1_x1 a1_x2 a1_x3 a1_x4 a1_x5 a1_x6 a1_x7 a1_x8)), (a2, .inr (5, oX5 a2_q a2_x0)), ((a2_q 1), .inl (K 0, 5, .inl (fun j => iI (a2_1_c j)))), ((a2_q 2), .inl (K 0, 150, .inl (fun j => iI (a2_2_c j))))] → va_S A s.heap H locs → lv_has ls 6 [(0, .ref t), (1, .ref a1), (2, .ref a2), (3, .int (iI x15_3))] → W p l e ({ frames := 8, cells := 0, slots := 0, locals := 200 } : Room) s m ag below meth c H locs 0 0 Q (F0 m 15 ls []) := by
    intro n
    induction n with
    | zero =>
      intro x15_3 f15_t_1 c15_t_2 H locs ls hm15 hf15 hc15_t_2 hP hD hS hl
      exact absurd hm15 (Nat.not_lt_zero _)
    | succ n ih15 =>
      intro x15_3 f15_t_1 c15_t_2 H locs ls hm15 hf15 hc15_t_2 hP hD hS hl
      have J26 : ∀ (n : Nat) (x26_4 : Int) (f26_t_1 : Int) (c26_t_2 : Nat → Int) (H : Heap) (locs : List Loc) (ls : Array Slot), (30 - x26_4).toNat < n → (0 ≤ x15_3 ∧ x15_3 ≤ 4 ∧ 0 ≤ x26_4 ∧ x26_4 ≤ 30 ∧ 0 ≤ f26_t_1 ∧ f26_t_1 ≤ 4095 ∧ 1 ≤ a1_x3 ∧ a1_x3 ≤ 5) → (∀ j : Nat, (-1) ≤ c26_t_2 j ∧ c26_t_2 j ≤ 149) → va_P D vwCl [(t, .inr (10, oX10 t_q t_x0 f26_t_1 t_x6)), ((t_q 2), .inl (K 0, 12, .inl (fun j => iI (c26_t_2 j)))), (a1, .inr (7, oX7 a1_q a1_x0 a1_x1 a1_x2 a1_x3 a1_x4 a1_x5 a1_x6 a1_x7 a1_x8)), (a2, .inr (5, oX5 a2_q a2_x0)), ((a2_q 1), .inl (K 0, 5, .inl (fun j => iI (a2_1_c j)))), ((a2_q 2), .inl (K 0, 150, .inl (fun j => iI (a2_2_c j))))] H → va_D A [(t, .inr (10, oX10 t_q t_x0 f26_t_1 t_x6)), ((t_q 2), .inl (K 0, 12, .inl (fun j => iI (c26_t_2 j)))), (a1, .inr (7, oX7 a1_q a1_x0 a1_x1 a1_x2 a1_x3 a1_x4 a1_x5 a1_x6 a1_x7 a1_x8)), (a2, .inr (5, oX5 a2_q a2_x0)), ((a2_q 1), .inl (K 0, 5, .inl (fun j => iI (a2_1_c j)))), ((a2_q 2), .inl (K 0, 150, .inl (fun j => iI (a2_2_c j))))] → va_S A s.heap H locs → lv_has ls 6 [(0, .ref t), (1, .ref a1), (2, .ref a2), (3, .int (iI x15_3)), (4, .int (iI x26_4))] → W p l e ({ frames := 8, cells := 0, slots := 0, locals := 200 } : Room) s m ag below meth c H locs 0 0 Q (F0 m 26 ls []) := by
        intro n
        induction n with
        | zero =>
          intro x26_4 f26_t_1 c26_t_2 H locs ls hm26 hf26 hc26_t_2 hP hD hS hl
          exact absurd hm26 (Nat.not_lt_zero _)
        | succ n ih26 =>
          intro x26_4 f26_t_1 c26_t_2 H locs ls hm26 hf26 hc26_t_2 hP hD hS hl
          have J83 : ∀ (x83_5 : Int) (f83_t_1 : Int) (c83_t_2 : Nat → Int) (H : Heap) (locs : List Loc) (ls : Array Slot), (0 ≤ x15_3 ∧ x15_3 ≤ 4 ∧ 0 ≤ x26_4 ∧ x26_4 ≤ 29 ∧ (-4) ≤ x83_5 ∧ x83_5 ≤ 11 ∧ 0 ≤ f83_t_1 ∧ f83_t_1 ≤ 4095 ∧ 1 ≤ a1_x3 ∧ a1_x3 ≤ 5) → (∀ j : Nat, (-1) ≤ c83_t_2 j ∧ c83_t_2 j ≤ 149) → va_P D vwCl [(t, .inr (10, oX10 t_q t_x0 f83_t_1 t_x6)), ((t_q 2), .inl (K 0, 12, .inl (fun j => iI (c83_t_2 j)))), (a1, .inr (7, oX7 a1_q a1_x0 a1_x1 a1_x2 a1_x3 a1_x4 a1_x5 a1_x6 a1_x7 a1_x8)), (a2, .inr (5, oX5 a2_q a2_x0)), ((a2_q 1), .inl (K 0, 5, .inl (fun j => iI (a2_1_c j)))), ((a2_q 2), .inl (K 0, 150, .inl (fun j => iI (a2_2_c j))))] H → va_D A [(t, .inr (10, oX10 t_q t_x0 f83_t_1 t_x6)), ((t_q 2), .inl (K 0, 12, .inl (fun j => iI (c83_t_2 j)))), (a1, .inr (7, oX7 a1_q a1_x0 a1_x1 a1_x2 a1_x3 a1_x4 a1_x5 a1_x6 a1_x7 a1_x8)), (a2, .inr (5, oX5 a2_q a2_x0)), ((a2_q 1), .inl (K 0, 5, .inl (fun j => iI (a2_1_c j)))), ((a2_q 2), .inl (K 0, 150, .inl (fun j => iI (a2_2_c j))))] → va_S A s.heap H locs → lv_has ls 6 [(0, .ref t), (1, .ref a1), (2, .ref a2), (3, .int (iI x15_3)), (4, .int (iI x26_4)), (5, .int (iI x83_5))] → W p l e ({ frames := 8, cells := 0, slots := 0, locals := 200 } : Room) s m ag below meth c H locs 0 0 Q (F0 m 83 ls []) := by
            intro x83_5 f83_t_1 c83_t_2 H locs ls hf83 hc83_t_2 hP hD hS hl
            refine lv_iinc (v := iI (x26_4 + 1)) (lv' := [(4, .int (iI (x26_4 + 1))), (0, .ref t), (1, .ref a1), (2, .ref a2), (3, .int (iI x15_3)), (5, .int (iI x83_5))]) hx hb dX10_locatePages_83 hl (k := 4) rfl (iI_add _ _) (by decide) rfl (fun ls hl => ?_)
            refine lv_goto (tgt := 26) hx hb dX10_locatePages_86 (by decide) ?_
            exact ih26 (x26_4 + 1) f83_t_1 c83_t_2 _ _ ls (by omega) (by omega) hc83_t_2 (hP.sub [0, 1, 2, 3, 4, 5] rfl) (hD.sub [0, 1, 2, 3, 4, 5] (by decide) rfl) hS (lv_sub hl [1, 2, 3, 4, 0] rfl)
          refine lv_iload hx hb dX10_locatePages_26 (lv_at hl 4 rfl) ?_
          refine lv_aload_n hx hb dX10_locatePages_28 rfl (lv_at hl 2 rfl) ?_
          refine va_getN (D := D) (own := RX10) (ci := 5) (v := .ref (a2_q 1)) (C := RX5) (T := TX5) (N := 8) hx hb hts inb_X5 hown hK.1 hP 3 rfl rfl 1 (by decide) (hK.nf 57 rfl) (fun _ h9 => h9) rfl dX10_locatePages_29 ?_
          refine lv_iload_n hx hb dX10_locatePages_32 rfl (lv_at hl 3 rfl) ?_
          refine g_iald hx hb hK.1 hP 4 0 rfl rfl (by omega) (by omega) (by decide) dX10_locatePages_33 ?_
          have y33 : (-1000) ≤ (a2_1_c x15_3.toNat) ∧ (a2_1_c x15_3.toNat) ≤ 30 := hc_a2_1 x15_3.toNat
          refine g_icmp_ge (tgt := 89) hx hb (by omega) (by omega) dX10_locatePages_34 (by decide) (fun c34 => ?_) (fun c34 => ?_)
          · refine lv_iinc (v := iI (x15_3 + 1)) (lv' := [(3, .int (iI (x15_3 + 1))), (0, .ref t), (1, .ref a1), (2, .ref a2), (4, .int (iI x26_4))]) hx hb dX10_locatePages_89 hl (k := 3) rfl (iI_add _ _) (by decide) rfl (fun ls hl => ?_)
            refine lv_goto (tgt := 15) hx hb dX10_locatePages_92 (by decide) ?_
            exact ih15 (x15_3 + 1) f26_t_1 c26_t_2 _ _ ls (by omega) (by omega) hc26_t_2 (hP.sub [0, 1, 2, 3, 4, 5] rfl) (hD.sub [0, 1, 2, 3, 4, 5] (by decide) rfl) hS (lv_sub hl [1, 2, 3, 0] rfl)
          · refine lv_aload_n hx hb dX10_locatePages_37 rfl (lv_at hl 2 rfl) ?_
            refine lv_iload_n hx hb dX10_locatePages_38 rfl (lv_at hl 3 rfl) ?_
            refine lv_iload hx hb dX10_locatePages_39 (lv_at hl 4 rfl) ?_
            refine fn_goi (wc := [(a2, .inr (5, oX5 a2_q a2_x0)), ((a2_q 1), .inl (K 0, 5, .inl (fun j => iI (a2_1_c j)))), ((a2_q 2), .inl (K 0, 150, .inl (fun j => iI (a2_2_c j))))]) (wr := [(t, .inr (10, oX10 t_q t_x0 f26_t_1 t_x6)), ((t_q 2), .inl (K 0, 12, .inl (fun j => iI (c26_t_2 j)))), (a1, .inr (7, oX7 a1_q a1_x0 a1_x1 a1_x2 a1_x3 a1_x4 a1_x5 a1_x6 a1_x7 a1_x8))]) hK hP hD hS hA [3, 4, 5] [0, 1, 2] rfl rfl (by decide) (fun hp => va_runVN (C := RX5) (As := [.int (iI x15_3), .int (iI x26_4)]) (rest := []) ⟨hx, hb, hml, hown, hts⟩ (k_X5_onLeaf (l := l) (D := D) (K := K) (t := a2) (p1 := x15_3) (p2 := x26_4) (t_q := a2_q) (t_x0 := a2_x0) (t_1_c := a2_1_c) (t_2_c := a2_2_c) (hp1 := (by omega)) (hp2 := (by omega)) (hi_t := hi_a2) (hc_t_1 := hc_a2_1) (hc_t_2 := hc_a2_2) _) ⟨va_cnB (own := RX10) 2 hts (fn_gin wd_650) rfl rfl rfl (hK.nw 107 rfl) (hts _ wd_5) (by decide +kernel) ⟨Nat.le_of_ble_eq_true rfl, Nat.le_of_ble_eq_true rfl⟩, hts _ wd_649, hts _ wp_24⟩ ⟨fn_blind, va_recv hK.1 hP (ci := 5) (q0 := 3) rfl rfl, hp⟩ rfl rfl hl.1 rfl (lv_room (Nat.le_of_ble_eq_true rfl)) dX10_locatePages_41 ⟨Nat.le_of_ble_eq_true rfl, Nat.le_of_ble_eq_true rfl⟩) (fun r41 u41 H locs hwu41 hP hD hS => ?_)
            obtain ⟨u41a, u41b⟩ := u41
            obtain ⟨kr41, rfl, hkr41, -⟩ := hwu41
            have hP : va_P D vwCl [(t, .inr (10, oX10 t_q t_x0 f26_t_1 t_x6)), ((t_q 2), .inl (K 0, 12, .inl (fun j => iI (c26_t_2 j)))), (a1, .inr (7, oX7 a1_q a1_x0 a1_x1 a1_x2 a1_x3 a1_x4 a1_x5 a1_x6 a1_x7 a1_x8)), (a2, .inr (5, oX5 a2_q a2_x0)), ((a2_q 1), .inl (K 0, 5, .inl (fun j => iI (a2_1_c j)))), ((a2_q 2), .inl (K 0, 150, .inl (fun j => iI (a2_2_c j))))] H := hP
            have hD : va_D A [(t, .inr (10, oX10 t_q t_x0 f26_t_1 t_x6)), ((t_q 2), .inl (K 0, 12, .inl (fun j => iI (c26_t_2 j)))), (a1, .inr (7, oX7 a1_q a1_x0 a1_x1 a1_x2 a1_x3 a1_x4 a1_x5 a1_x6 a1_x7 a1_x8)), (a2, .inr (5, oX5 a2_q a2_x0)), ((a2_q 1), .inl (K 0, 5, .inl (fun j => iI (a2_1_c j)))), ((a2_q 2), .inl (K 0, 150, .inl (fun j => iI (a2_2_c j))))] := hD
            refine lv_istore (lv' := [(5, .int (iI kr41)), (0, .ref t), (1, .ref a1), (2, .ref a2), (3, .int (iI x15_3)), (4, .int (iI x26_4))]) hx hb dX10_locatePages_44 hl (by decide) rfl (fun ls hl => ?_)
            refine lv_iload hx hb dX10_locatePages_46 (lv_at hl 0 rfl) ?_
            refine g_if_lt (tgt := 83) hx hb (by omega) dX10_locatePages_48 (by decide) (fun c48 => ?_) (fun c48 => ?_)
            · exact J83 kr41 f26_t_1 c26_t_2 _ _ ls (by omega) hc26_t_2 (hP.sub [0, 1, 2, 3, 4, 5] rfl) (hD.sub [0, 1, 2, 3, 4, 5] (by decide) rfl) hS (lv_sub hl [1, 2, 3, 4, 5, 0] rfl)
            · refine lv_aload_n hx hb dX10_locatePages_51 rfl (lv_at hl 1 rfl) ?_
              refine va_get (D := D) (own := RX10) (ci := 10) (v := .ref (t_q 2)) (C := RX10) (T := TX10) (N := 7) hx hb hts inb_X10 hown hK.1 hP 0 rfl rfl 2 (by decide) (hts _ wd_228) (fun _ h9 => h9) rfl dX10_locatePages_52 ?_
              refine lv_iload hx hb dX10_locatePages_55 (lv_at hl 0 rfl) ?_
              refine lv_iload_n hx hb dX10_locatePages_57 rfl (lv_at hl 4 rfl) ?_
              refine lv_bipush (v := iI 30) hx hb dX10_locatePages_58 (by decide) ?_
              refine g_imul hx hb dX10_locatePages_60 ?_
              refine fn_at 61 rfl ?_
              refine lv_iload hx hb dX10_locatePages_61 (lv_at hl 5 rfl) ?_
              refine g_iadd hx hb dX10_locatePages_63 ?_
              refine g_iast hx hb hK.1 hP hD hS 1 0 rfl rfl (by omega) (by omega) (by decide) dX10_locatePages_64 (fun H locs g64 eg64 hP hD hS => ?_)
              have hg64 : ∀ j : Nat, (-1) ≤ g64 j ∧ g64 j ≤ 149 := by rw [eg64]; exact uI_all hc26_t_2 (by omega)
              have hP : va_P D vwCl [(t, .inr (10, oX10 t_q t_x0 f26_t_1 t_x6)), ((t_q 2), .inl (K 0, 12, .inl (fun j => iI (g64 j)))), (a1, .inr (7, oX7 a1_q a1_x0 a1_x1 a1_x2 a1_x3 a1_x4 a1_x5 a1_x6 a1_x7 a1_x8)), (a2, .inr (5, oX5 a2_q a2_x0)), ((a2_q 1), .inl (K 0, 5, .inl (fun j => iI (a2_1_c j)))), ((a2_q 2), .inl (K 0, 150, .inl (fun j => iI (a2_2_c j))))] H := hP
              have hD : va_D A [(t, .inr (10, oX10 t_q t_x0 f26_t_1 t_x6)), ((t_q 2), .inl (K 0, 12, .inl (fun j => iI (g64 j)))), (a1, .inr (7, oX7 a1_q a1_x0 a1_x1 a1_x2 a1_x3 a1_x4 a1_x5 a1_x6 a1_x7 a1_x8)), (a2, .inr (5, oX5 a2_q a2_x0)), ((a2_q 1), .inl (K 0, 5, .inl (fun j => iI (a2_1_c j)))), ((a2_q 2), .inl (K 0, 150, .inl (fun j => iI (a2_2_c j))))] := hD
              refine lv_aload_n hx hb dX10_locatePages_65 rfl (lv_at hl 1 rfl) ?_
              refine lv_dup hx hb dX10_locatePages_66 rfl ?_
              refine va_get (D := D) (own := RX10) (ci := 10) (v := .int (iI f26_t_1)) (C := RX10) (T := TX10) (N := 7) hx hb hts inb_X10 hown hK.1 hP 0 rfl rfl 1 (by decide) (hts _ wd_227) (fun _ h9 => h9) rfl dX10_locatePages_67 ?_
              refine lv_aload_n hx hb dX10_locatePages_70 rfl (lv_at hl 2 rfl) ?_
              refine va_getN (D := D) (own := RX10) (ci := 7) (v := .int (iI a1_x6)) (C := RX7) (T := TX7) (N := 15) hx hb hts inb_X7 hown hK.1 hP 2 rfl rfl 6 (by decide) (hK.nf 31 rfl) (fun _ h9 => h9) rfl dX10_locatePages_71 ?_
              have y71_1 : 0 ≤ a1_x6 ∧ a1_x6 ≤ 4095 := hi_a1.2.2.2.2.2.2.1
              refine lv_iconst (v := iI 1) hx hb dX10_locatePages_74 rfl ?_
              refine lv_iload hx hb dX10_locatePages_75 (lv_at hl 0 rfl) ?_
              refine lv_ishl hx hb dX10_locatePages_77 ?_
              obtain ⟨w77, ew77, hw77⟩ := iI_shl1 11 kr41 (by omega) (by omega) (by decide)
              refine fn_top (iI w77) ew77 ?_
              refine lv_iand hx hb dX10_locatePages_78 ?_
              obtain ⟨w78, ew78, hw78⟩ := iI_and a1_x6 w77 (by omega)
              refine fn_top (iI w78) ew78 ?_
              refine lv_ior hx hb dX10_locatePages_79 ?_
              obtain ⟨w79, ew79, hw79⟩ := iI_or 12 f26_t_1 w78 (by omega) (by omega) (by decide)
              refine fn_top (iI w79) ew79 ?_
              refine va_put (D := D) (own := RX10) (ci := 10) (v := .int (iI w79)) (ty := .int) (C := RX10) (T := TX10) (N := 7) hx hb hts inb_X10 tyX10 tyX10_ok nmX10 hown hK.1 hP hD hS 0 rfl rfl 1 (by decide) (hts _ wd_227) (fun _ h9 => h9) rfl (by decide +kernel) rfl rfl (Nat.le_of_ble_eq_true rfl) dX10_locatePages_80 (fun H locs hP hD hS => ?_)
              have hP : va_P D vwCl [(t, .inr (10, oX10 t_q t_x0 w79 t_x6)), ((t_q 2), .inl (K 0, 12, .inl (fun j => iI (g64 j)))), (a1, .inr (7, oX7 a1_q a1_x0 a1_x1 a1_x2 a1_x3 a1_x4 a1_x5 a1_x6 a1_x7 a1_x8)), (a2, .inr (5, oX5 a2_q a2_x0)), ((a2_q 1), .inl (K 0, 5, .inl (fun j => iI (a2_1_c j)))), ((a2_q 2), .inl (K 0, 150, .inl (fun j => iI (a2_2_c j))))] H := hP
              have hD : va_D A [(t, .inr (10, oX10 t_q t_x0 w79 t_x6)), ((t_q 2), .inl (K 0, 12, .inl (fun j => iI (g64 j)))), (a1, .inr (7, oX7 a1_q a1_x0 a1_x1 a1_x2 a1_x3 a1_x4 a1_x5 a1_x6 a1_x7 a1_x8)), (a2, .inr (5, oX5 a2_q a2_x0)), ((a2_q 1), .inl (K 0, 5, .inl (fun j => iI (a2_1_c j)))), ((a2_q 2), .inl (K 0, 150, .inl (fun j => iI (a2_2_c j))))] := hD
              exact J83 kr41 w79 g64 _ _ ls (by omega) hg64 (hP.sub [0, 1, 2, 3, 4, 5] rfl) (hD.sub [0, 1, 2, 3, 4, 5] (by decide) rfl) hS (lv_sub hl [1, 2, 3, 4, 5, 0] rfl)
      refine lv_iload_n hx hb dX10_locatePages_15 rfl (lv_at hl 3 rfl) ?_
      refine lv_aload_n hx hb dX10_locatePages_16 rfl (lv_at hl 1 rfl) ?_
      refine va_getN (D := D) (own := RX10) (ci := 7) (v := .int (iI a1_x3)) (C := RX7) (T := TX7) (N := 15) hx hb hts inb_X7 hown hK.1 hP 2 rfl rfl 3 (by decide) (hK.nf 16 rfl) (fun _ h9 => h9) rfl dX10_locatePages_17 ?_
      have y17_1 : 0 ≤ a1_x3 ∧ a1_x3 ≤ 5 := hi_a1.2.2.2.1
      refine g_icmp_ge (tgt := 95) hx hb (by omega) (by omega) dX10_locatePages_20 (by decide) (fun c20 => ?_) (fun c20 => ?_)
      · rw [hQ]; exact fn_vret hx hb hr hlocks hP hD hS ((fun k => ([f15_t_1] : List Int).getD k 0), (fun k => ([c15_t_2] : List (Nat → Int)).getD k (fun _ => 0))) ⟨(by show 0 ≤ f15_t_1 ∧ f15_t_1 ≤ 4095; omega), (hc15_t_2), trivial⟩ [0, 1, 2, 3, 4, 5] (by decide) rfl dX10_locatePages_95
      · refine lv_iconst (v := iI 0) hx hb dX10_locatePages_23 rfl ?_
        refine lv_istore (lv' := [(4, .int (iI 0)), (0, .ref t), (1, .ref a1), (2, .ref a2), (3, .int (iI x15_3))]) hx hb dX10_locatePages_24 hl (by decide) rfl (fun ls hl => ?_)
        exact J26 _ 0 f15_t_1 c15_t_2 _ _ ls (Nat.lt_succ_self _) (by omega) hc15_t_2 (hP.sub [0, 1, 2, 3, 4, 5] rfl) (hD.sub [0, 1, 2, 3, 4, 5] (by decide) rfl) hS (lv_sub hl [1, 2, 3, 4, 0] rfl)
  have hl : lv_has ls 6 [(0, .ref t), (1, .ref a1), (2, .ref a2)] := hl
  refine lv_aload_n hx hb dX10_locatePages_0 rfl (lv_at hl 0 rfl) ?_
  refine va_get (D := D) (own := RX10) (ci := 10) (v := .ref (t_q 2)) (C := RX10) (T := TX10) (N := 7) hx hb hts inb_X10 hown hK.1 hP 0 rfl rfl 2 (by decide) (hts _ wd_228) (fun _ h9 => h9) rfl dX10_locatePages_1 ?_
  refine lv_iconst (v := iI (-1)) hx hb dX10_locatePages_4 rfl ?_
  refine fn_gov (wc := [((t_q 2), .inl (K 0, 12, .inl (fun j => iI (t_2_c j))))]) (wr := [(t, .inr (10, oX10 t_q t_x0 t_x1 t_x6)), (a1, .inr (7, oX7 a1_q a1_x0 a1_x1 a1_x2 a1_x3 a1_x4 a1_x5 a1_x6 a1_x7 a1_x8)), (a2, .inr (5, oX5 a2_q a2_x0)), ((a2_q 1), .inl (K 0, 5, .inl (fun j => iI (a2_1_c j)))), ((a2_q 2), .inl (K 0, 150, .inl (fun j => iI (a2_2_c j))))]) hK hP hD hS hA [1] [0, 2, 3, 4, 5] rfl rfl (by decide) (fun hp => va_runS (As := [.ref (t_q 2), .int (iI (-1))]) (rest := []) ⟨hx, hb, hml, hown, hts⟩ (k_J7_fill_53178 (l := l) (D := D) (K := K) (a1 := (t_q 2)) (p2 := (-1)) (a1_c := t_2_c) (a1_n := 12) (hp2 := (by omega)) (hn_a1 := (by decide)) (hc_a1 := (fun j => by have h9 := hc_t_2 j; omega)) _) (va_cwS 2 hts (fn_ginS (fn_gin wd_646) wd_644 wd_645 wd_20) rfl rfl rfl (by decide +kernel) ⟨Nat.le_of_ble_eq_true rfl, Nat.le_of_ble_eq_true rfl⟩) ⟨fn_blind, hp⟩ rfl rfl hl.1 rfl (lv_room (Nat.le_of_ble_eq_true rfl)) dX10_locatePages_5 ⟨Nat.le_of_ble_eq_true rfl, Nat.le_of_ble_eq_true rfl⟩) (fun u5 H locs hwu5 hP hD hS => ?_)
  obtain ⟨u5a, u5b⟩ := u5
  obtain ⟨hqu5_f0, hu5_00, -⟩ := hwu5
  have hqu5_f : ∀ j : Nat, (u5b 0) j = (-1 : Int) ∨ (u5b 0) j = t_2_c j := hqu5_f0
  have hu5_0 : ∀ j : Nat, (-2147483648) ≤ (u5b 0) j ∧ (u5b 0) j ≤ 2147483647 := hu5_00
  clear hqu5_f0 hu5_00
  have hu5_0 : ∀ j : Nat, (-1) ≤ (u5b 0) j ∧ (u5b 0) j ≤ 149 := (fun j => by have h9 := hqu5_f j; have h8 := hc_t_2 j; omega)
  have hP : va_P D vwCl [(t, .inr (10, oX10 t_q t_x0 t_x1 t_x6)), (a1, .inr (7, oX7 a1_q a1_x0 a1_x1 a1_x2 a1_x3 a1_x4 a1_x5 a1_x6 a1_x7 a1_x8)), (a2, .inr (5, oX5 a2_q a2_x0)), ((a2_q 1), .inl (K 0, 5, .inl (fun j => iI (a2_1_c j)))), ((a2_q 2), .inl (K 0, 150, .inl (fun j => iI (a2_2_c j)))), ((t_q 2), .inl (K 0, 12, .inl (fun j => iI ((u5b 0) j))))] H := hP
  have hD : va_D A [(t, .inr (10, oX10 t_q t_x0 t_x1 t_x6)), (a1, .inr (7, oX7 a1_q a1_x0 a1_x1 a1_x2 a1_x3 a1_x4 a1_x5 a1_x6 a1_x7 a1_x8)), (a2, .inr (5, oX5 a2_q a2_x0)), ((a2_q 1), .inl (K 0, 5, .inl (fun j => iI (a2_1_c j)))), ((a2_q 2), .inl (K 0, 150, .inl (fun j => iI (a2_2_c j)))), ((t_q 2), .inl (K 0, 12, .inl (fun j => iI ((u5b 0) j))))] := hD
  refine lv_aload_n hx hb dX10_locatePages_8 rfl (lv_at hl 0 rfl) ?_
  refine lv_iconst (v := iI 0) hx hb dX10_locatePages_9 rfl ?_
  refine va_put (D := D) (own := RX10) (ci := 10) (v := .int (iI 0)) (ty := .int) (C := RX10) (T := TX10) (N := 7) hx hb hts inb_X10 tyX10 tyX10_ok nmX10 hown hK.1 hP hD hS 0 rfl rfl 1 (by decide) (hts _ wd_227) (fun _ h9 => h9) rfl (by decide +kernel) rfl rfl (Nat.le_of_ble_eq_true rfl) dX10_locatePages_10 (fun H locs hP hD hS => ?_)
  have hP : va_P D vwCl [(t, .inr (10, oX10 t_q t_x0 0 t_x6)), (a1, .inr (7, oX7 a1_q a1_x0 a1_x1 a1_x2 a1_x3 a1_x4 a1_x5 a1_x6 a1_x7 a1_x8)), (a2, .inr (5, oX5 a2_q a2_x0)), ((a2_q 1), .inl (K 0, 5, .inl (fun j => iI (a2_1_c j)))), ((a2_q 2), .inl (K 0, 150, .inl (fun j => iI (a2_2_c j)))), ((t_q 2), .inl (K 0, 12, .inl (fun j => iI ((u5b 0) j))))] H := hP
  have hD : va_D A [(t, .inr (10, oX10 t_q t_x0 0 t_x6)), (a1, .inr (7, oX7 a1_q a1_x0 a1_x1 a1_x2 a1_x3 a1_x4 a1_x5 a1_x6 a1_x7 a1_x8)), (a2, .inr (5, oX5 a2_q a2_x0)), ((a2_q 1), .inl (K 0, 5, .inl (fun j => iI (a2_1_c j)))), ((a2_q 2), .inl (K 0, 150, .inl (fun j => iI (a2_2_c j)))), ((t_q 2), .inl (K 0, 12, .inl (fun j => iI ((u5b 0) j))))] := hD
  refine lv_iconst (v := iI 0) hx hb dX10_locatePages_13 rfl ?_
  refine lv_istore_n (lv' := [(3, .int (iI 0)), (0, .ref t), (1, .ref a1), (2, .ref a2)]) hx hb dX10_locatePages_14 rfl hl (by decide) rfl (fun ls hl => ?_)
  exact J15 _ 0 0 (u5b 0) _ _ ls (Nat.lt_succ_self _) (by omega) hu5_0 (hP.sub [0, 5, 1, 2, 3, 4] rfl) (hD.sub [0, 5, 1, 2, 3, 4] (by decide) rfl) hS (lv_sub hl [1, 2, 3, 0] rfl)
theorem wd_225 : Cond.fieldLink "FootNotes$Web" 30 "FootNotes$Web" "pages" "I" ∈ fn_big := fn_tb (fn_l1 (List.mem_of_getElem? (i := 225) (by decide +kernel))) (by decide +kernel)
theorem wd_236 : Cond.fieldLink "FootNotes$Web" 18 "FootNotes$Web" "next" "[I" ∈ fn_big := fn_tb (fn_l1 (List.mem_of_getElem? (i := 236) (by decide +kernel))) (by decide +kernel)
theorem wd_231 : Cond.fieldLink "FootNotes$Web" 15 "FootNotes$Web" "target" "[I" ∈ fn_big := fn_tb (fn_l1 (List.mem_of_getElem? (i := 231) (by decide +kernel))) (by decide +kernel)
theorem wd_643 : Cond.code ⟨"FootNotes$Web", "locatePages", "(LFootNotes$Text;LFootNotes$Shelf;)V"⟩ prog_12_method_3_code 6 (Option.none : Option Jvm.ClassFile.FieldType) ∈ fn_big := fn_tb (fn_l3 (List.mem_of_getElem? (i := 163) (by decide +kernel))) (by decide +kernel)
theorem wd_640 : Cond.methodLink "FootNotes$Web" 31 ⟨"FootNotes$Web", "locatePages", "(LFootNotes$Text;LFootNotes$Shelf;)V"⟩ ∈ fn_big := fn_tb (fn_l3 (List.mem_of_getElem? (i := 160) (by decide +kernel))) (by decide +kernel)
theorem wd_642 : Cond.instanceMethod ⟨"FootNotes$Web", "locatePages", "(LFootNotes$Text;LFootNotes$Shelf;)V"⟩ ∈ fn_big := fn_tb (fn_l3 (List.mem_of_getElem? (i := 162) (by decide +kernel))) (by decide +kernel)
theorem wp_23 : Cond.selects "FootNotes$Web" ⟨"FootNotes$Web", "locatePages", "(LFootNotes$Text;LFootNotes$Shelf;)V"⟩ ⟨"FootNotes$Web", "locatePages", "(LFootNotes$Text;LFootNotes$Shelf;)V"⟩ ∈ fn_big := fn_sel (q := (⟨"FootNotes$Web", "locatePages", "(LFootNotes$Text;LFootNotes$Shelf;)V"⟩, 7)) 23 (by decide +kernel) (by decide +kernel)
theorem dX10_weave_131 : decode cX10_weave 131 = .ok (.iinc 4 1, 3) := by decide +kernel
theorem dX10_weave_134 : decode cX10_weave 134 = .ok (.goto (-109), 3) := by decide +kernel
theorem dX10_weave_101 : decode cX10_weave 101 = .ok (.iastore, 1) := by decide +kernel
theorem dX10_weave_102 : decode cX10_weave 102 = .ok (.aload_n 0, 1) := by decide +kernel
theorem dX10_weave_103 : decode cX10_weave 103 = .ok (.getfield 15, 3) := by decide +kernel
theorem dX10_weave_106 : decode cX10_weave 106 = .ok (.iload 4, 2) := by decide +kernel
theorem dX10_weave_108 : decode cX10_weave 108 = .ok (.iaload, 1) := by decide +kernel
theorem dX10_weave_109 : decode cX10_weave 109 = .ok (.ifCond .lt 22, 3) := by decide +kernel
theorem dX10_weave_112 : decode cX10_weave 112 = .ok (.aload_n 0, 1) := by decide +kernel
theorem dX10_weave_113 : decode cX10_weave 113 = .ok (.getfield 18, 3) := by decide +kernel
theorem dX10_weave_116 : decode cX10_weave 116 = .ok (.iload 5, 2) := by decide +kernel
theorem dX10_weave_118 : decode cX10_weave 118 = .ok (.dup2, 1) := by decide +kernel
theorem dX10_weave_119 : decode cX10_weave 119 = .ok (.iaload, 1) := by decide +kernel
theorem dX10_weave_120 : decode cX10_weave 120 = .ok (.iconst 1, 1) := by decide +kernel
theorem dX10_weave_121 : decode cX10_weave 121 = .ok (.aload_n 0, 1) := by decide +kernel
theorem dX10_weave_122 : decode cX10_weave 122 = .ok (.getfield 15, 3) := by decide +kernel
theorem dX10_weave_125 : decode cX10_weave 125 = .ok (.iload 4, 2) := by decide +kernel
theorem dX10_weave_127 : decode cX10_weave 127 = .ok (.iaload, 1) := by decide +kernel
theorem dX10_weave_128 : decode cX10_weave 128 = .ok (.ishl, 1) := by decide +kernel
theorem dX10_weave_129 : decode cX10_weave 129 = .ok (.ior, 1) := by decide +kernel
theorem dX10_weave_130 : decode cX10_weave 130 = .ok (.iastore, 1) := by decide +kernel
theorem dX10_weave_100 : decode cX10_weave 100 = .ok (.iconst (-1), 1) := by decide +kernel
theorem dX10_weave_25 : decode cX10_weave 25 = .ok (.iload 4, 2) := by decide +kernel
theorem dX10_weave_27 : decode cX10_weave 27 = .ok (.aload_n 1, 1) := by decide +kernel
theorem dX10_weave_28 : decode cX10_weave 28 = .ok (.getfield 41, 3) := by decide +kernel
theorem dX10_weave_31 : decode cX10_weave 31 = .ok (.if_icmp .ge 106, 3) := by decide +kernel
theorem dX10_weave_137 : decode cX10_weave 137 = .ok (.return_, 1) := by decide +kernel
theorem dX10_weave_34 : decode cX10_weave 34 = .ok (.aload_n 1, 1) := by decide +kernel
theorem dX10_weave_35 : decode cX10_weave 35 = .ok (.getfield 44, 3) := by decide +kernel
theorem dX10_weave_38 : decode cX10_weave 38 = .ok (.iload 4, 2) := by decide +kernel
theorem dX10_weave_40 : decode cX10_weave 40 = .ok (.iaload, 1) := by decide +kernel
theorem dX10_weave_41 : decode cX10_weave 41 = .ok (.istore 5, 2) := by decide +kernel
theorem dX10_weave_43 : decode cX10_weave 43 = .ok (.aload_n 2, 1) := by decide +kernel
theorem dX10_weave_44 : decode cX10_weave 44 = .ok (.getfield 47, 3) := by decide +kernel
theorem dX10_weave_47 : decode cX10_weave 47 = .ok (.iload 4, 2) := by decide +kernel
theorem dX10_weave_49 : decode cX10_weave 49 = .ok (.iaload, 1) := by decide +kernel
theorem dX10_weave_50 : decode cX10_weave 50 = .ok (.iload_n 3, 1) := by decide +kernel
theorem dX10_weave_51 : decode cX10_weave 51 = .ok (.iload 4, 2) := by decide +kernel
theorem dX10_weave_53 : decode cX10_weave 53 = .ok (.ishr, 1) := by decide +kernel
theorem dX10_weave_54 : decode cX10_weave 54 = .ok (.iconst 1, 1) := by decide +kernel
theorem dX10_weave_55 : decode cX10_weave 55 = .ok (.iand, 1) := by decide +kernel
theorem dX10_weave_56 : decode cX10_weave 56 = .ok (.iadd, 1) := by decide +kernel
theorem dX10_weave_57 : decode cX10_weave 57 = .ok (.istore 6, 2) := by decide +kernel
theorem dX10_weave_59 : decode cX10_weave 59 = .ok (.aload_n 2, 1) := by decide +kernel
theorem dX10_weave_60 : decode cX10_weave 60 = .ok (.aload_n 1, 1) := by decide +kernel
theorem dX10_weave_61 : decode cX10_weave 61 = .ok (.getfield 52, 3) := by decide +kernel
theorem dX10_weave_64 : decode cX10_weave 64 = .ok (.iload 4, 2) := by decide +kernel
theorem dX10_weave_66 : decode cX10_weave 66 = .ok (.iaload, 1) := by decide +kernel
theorem dX10_weave_67 : decode cX10_weave 67 = .ok (.iload 6, 2) := by decide +kernel
theorem dX10_weave_69 : decode cX10_weave 69 = .ok (.invokevirtual 55, 3) := by decide +kernel
theorem dX10_weave_72 : decode cX10_weave 72 = .ok (.istore 7, 2) := by decide +kernel
theorem dX10_weave_74 : decode cX10_weave 74 = .ok (.aload_n 0, 1) := by decide +kernel
theorem dX10_weave_75 : decode cX10_weave 75 = .ok (.getfield 15, 3) := by decide +kernel
theorem dX10_weave_78 : decode cX10_weave 78 = .ok (.iload 4, 2) := by decide +kernel
theorem dX10_weave_80 : decode cX10_weave 80 = .ok (.iload 7, 2) := by decide +kernel
theorem dX10_weave_82 : decode cX10_weave 82 = .ok (.ifCond .lt 18, 3) := by decide +kernel
theorem dX10_weave_85 : decode cX10_weave 85 = .ok (.aload_n 0, 1) := by decide +kernel
theorem dX10_weave_86 : decode cX10_weave 86 = .ok (.getfield 9, 3) := by decide +kernel
theorem dX10_weave_89 : decode cX10_weave 89 = .ok (.iload 5, 2) := by decide +kernel
theorem dX10_weave_91 : decode cX10_weave 91 = .ok (.iaload, 1) := by decide +kernel
theorem dX10_weave_92 : decode cX10_weave 92 = .ok (.ifCond .lt 8, 3) := by decide +kernel
theorem dX10_weave_95 : decode cX10_weave 95 = .ok (.iload 7, 2) := by decide +kernel
theorem dX10_weave_97 : decode cX10_weave 97 = .ok (.goto 4, 3) := by decide +kernel
theorem dX10_weave_0 : decode cX10_weave 0 = .ok (.aload_n 0, 1) := by decide +kernel
theorem dX10_weave_1 : decode cX10_weave 1 = .ok (.aload_n 1, 1) := by decide +kernel
theorem dX10_weave_2 : decode cX10_weave 2 = .ok (.getfield 24, 3) := by decide +kernel
theorem dX10_weave_5 : decode cX10_weave 5 = .ok (.putfield 30, 3) := by decide +kernel
theorem dX10_weave_8 : decode cX10_weave 8 = .ok (.aload_n 0, 1) := by decide +kernel
theorem dX10_weave_9 : decode cX10_weave 9 = .ok (.aload_n 1, 1) := by decide +kernel
theorem dX10_weave_10 : decode cX10_weave 10 = .ok (.aload_n 2, 1) := by decide +kernel
theorem dX10_weave_11 : decode cX10_weave 11 = .ok (.invokevirtual 31, 3) := by decide +kernel
theorem dX10_weave_14 : decode cX10_weave 14 = .ok (.aload_n 0, 1) := by decide +kernel
theorem dX10_weave_15 : decode cX10_weave 15 = .ok (.getfield 18, 3) := by decide +kernel
theorem dX10_weave_18 : decode cX10_weave 18 = .ok (.iconst 0, 1) := by decide +kernel
theorem dX10_weave_19 : decode cX10_weave 19 = .ok (.invokestatic 35, 3) := by decide +kernel
theorem dX10_weave_22 : decode cX10_weave 22 = .ok (.iconst 0, 1) := by decide +kernel
theorem dX10_weave_23 : decode cX10_weave 23 = .ok (.istore 4, 2) := by decide +kernel
set_option maxHeartbeats 4000000 in
set_option maxRecDepth 100000 in
theorem k_X10_weave (l : Launch) (D : va_G) (K : Nat → ClassId) (t a1 a2 : Nat) (a1_q t_q a2_q : Nat → Nat) (p3 a1_x0 a1_x1 a1_x2 a1_x3 a1_x4 a1_x5 a1_x6 a1_x7 a1_x8 t_x0 t_x1 t_x6 a2_x0 : Int) (t_2_c : Nat → Int) (a2_1_c : Nat → Int) (a2_2_c : Nat → Int) (t_4_c : Nat → Int) (a1_12_c : Nat → Int) (a2_3_c : Nat → Int) (a1_13_c : Nat → Int) (t_3_c : Nat → Int) (hp3 : (-2147483648) ≤ p3 ∧ p3 ≤ 2147483647) (hi_a1 : bX7 a1_x0 a1_x1 a1_x2 a1_x3 a1_x4 a1_x5 a1_x6 a1_x7 a1_x8) (hi_t : bX10 t_x0 t_x1 t_x6) (hc_t_2 : ∀ j : Nat, (-1) ≤ t_2_c j ∧ t_2_c j ≤ 149) (hi_a2 : bX5 a2_x0) (hc_a2_1 : ∀ j : Nat, (-1000) ≤ a2_1_c j ∧ a2_1_c j ≤ 30) (hc_a2_2 : ∀ j : Nat, (-4) ≤ a2_2_c j ∧ a2_2_c j ≤ 11) (hc_t_4 : ∀ j : Nat, 0 ≤ t_4_c j ∧ t_4_c j ≤ 4095) (hc_a1_12 : ∀ j : Nat, 0 ≤ a1_12_c j ∧ a1_12_c j ≤ 11) (hc_a2_3 : ∀ j : Nat, 0 ≤ a2_3_c j ∧ a2_3_c j ≤ 29) (hc_a1_13 : ∀ j : Nat, 0 ≤ a1_13_c j ∧ a1_13_c j ≤ 4) (hc_t_3 : ∀ j : Nat, (-1) ≤ t_3_c j ∧ t_3_c j ≤ 11) : fn_CV (S := (Nat → Int) × (Nat → Nat → Int)) l D K yX10_weave (fn_ws yX10_weave cX10_weave 8 none) ({ frames := 12, cells := 0, slots := 0, locals := 300 } : Room) [.ref t, .ref a1, .ref a2, .int (iI p3)] [(a1, .inr (7, oX7 a1_q a1_x0 a1_x1 a1_x2 a1_x3 a1_x4 a1_x5 a1_x6 a1_x7 a1_x8)), (t, .inr (10, oX10 t_q t_x0 t_x1 t_x6)), ((t_q 2), .inl (K 0, 12, .inl (fun j => iI (t_2_c j)))), (a2, .inr (5, oX5 a2_q a2_x0)), ((a2_q 1), .inl (K 0, 5, .inl (fun j => iI (a2_1_c j)))), ((a2_q 2), .inl (K 0, 150, .inl (fun j => iI (a2_2_c j)))), ((t_q 4), .inl (K 0, 12, .inl (fun j => iI (t_4_c j)))), ((a1_q 12), .inl (K 0, 24, .inl (fun j => iI (a1_12_c j)))), ((a2_q 3), .inl (K 0, 24, .inl (fun j => iI (a2_3_c j)))), ((a1_q 13), .inl (K 0, 24, .inl (fun j => iI (a1_13_c j)))), ((t_q 3), .inl (K 0, 24, .inl (fun j => iI (t_3_c j))))] (fun u => (0 ≤ (u.1 0) ∧ (u.1 0) ≤ 12 ∧ 0 ≤ (u.1 1) ∧ (u.1 1) ≤ 4095) ∧ (∀ j : Nat, (-1) ≤ (u.2 0) j ∧ (u.2 0) j ≤ 149) ∧ (∀ j : Nat, (-1) ≤ (u.2 1) j ∧ (u.2 1) j ≤ 11) ∧ (∀ j : Nat, 0 ≤ (u.2 2) j ∧ (u.2 2) j ≤ 4095) ∧ True) (fun u => [(a1, .inr (7, oX7 a1_q a1_x0 a1_x1 a1_x2 a1_x3 a1_x4 a1_x5 a1_x6 a1_x7 a1_x8)), (t, .inr (10, oX10 t_q (u.1 0) (u.1 1) t_x6)), ((t_q 2), .inl (K 0, 12, .inl (fun j => iI ((u.2 0) j)))), (a2, .inr (5, oX5 a2_q a2_x0)), ((a2_q 1), .inl (K 0, 5, .inl (fun j => iI (a2_1_c j)))), ((a2_q 2), .inl (K 0, 150, .inl (fun j => iI (a2_2_c j)))), ((t_q 4), .inl (K 0, 12, .inl (fun j => iI ((u.2 2) j)))), ((a1_q 12), .inl (K 0, 24, .inl (fun j => iI (a1_12_c j)))), ((a2_q 3), .inl (K 0, 24, .inl (fun j => iI (a2_3_c j)))), ((a1_q 13), .inl (K 0, 24, .inl (fun j => iI (a1_13_c j)))), ((t_q 3), .inl (K 0, 24, .inl (fun j => iI ((u.2 1) j))))]) 0 0 := by
  refine g_inV (cc := cX10_weave) (maxL := 8) (ret := none) (by decide) rfl (Nat.le_of_ble_eq_true rfl) ?_
  intro p e s m below meth c A ls ag Q B hA hP hD hS hl hQ
  obtain ⟨hx, hb, hr, hml, hts, hown, hlocks, hin, hK⟩ := B
  have hown : s.vm.findClass RX10 = some m.cls := hown
  have hts := fun w h => hts w (List.mem_cons_of_mem _ h)
  have J25 : ∀ (n : Nat) (x25_4 : Int) (f25_t_1 : Int) (c25_t_2 : Nat → Int) (c25_t_4 : Nat → Int) (c25_t_3 : Nat → Int) (H : Heap) (locs : List Loc) (ls : Array Slot), (24 - x25_4).toNat < n → (0 ≤ x25_4 ∧ x25_4 ≤ 24 ∧ 0 ≤ f25_t_1 ∧ f25_t_1 ≤ 4095) → (∀ j : Nat, (-1) ≤ c25_t_2 j ∧ c25_t_2 j ≤ 149) → (∀ j : Nat, 0 ≤ c25_t_4 j ∧ c25_t_4 j ≤ 4095) → (∀ j : Nat, (-1) ≤ c25_t_3 j ∧ c25_t_3 j ≤ 11) → va_P D vwCl [(a1, .inr (7, oX7 a1_q a1_x0 a1_x1 a1_x2 a1_x3 a1_x4 a1_x5 a1_x6 a1_x7 a1_x8)), (t, .inr (10, oX10 t_q a1_x4 f25_t_1 t_x6)), ((t_q 2), .inl (K 0, 12, .inl (fun j => iI (c25_t_2 j)))), (a2, .inr (5, oX5 a2_q a2_x0)), ((a2_q 1), .inl (K 0, 5, .inl (fun j => iI (a2_1_c j)))), ((a2_q 2), .inl (K 0, 150, .inl (fun j => iI (a2_2_c j)))), ((t_q 4), .inl (K 0, 12, .inl (fun j => iI (c25_t_4 j)))), ((a1_q 12), .inl (K 0, 24, .inl (fun j => iI (a1_12_c j)))), ((a2_q 3), .inl (K 0, 24, .inl (fun j => iI (a2_3_c j)))), ((a1_q 13), .inl (K 0, 24, .inl (fun j => iI (a1_13_c j)))), ((t_q 3), .inl (K 0, 24, .inl (fun j => iI (c25_t_3 j))))] H → va_D A [(a1, .inr (7, oX7 a1_q a1_x0 a1_x1 a1_x2 a1_x3 a1_x4 a1_x5 a1_x6 a1_x7 a1_x8)), (t, .inr (10, oX10 t_q a1_x4 f25_t_1 t_x6)), ((t_q 2), .inl (K 0, 12, .inl (fun j => iI (c25_t_2 j)))), (a2, .inr (5, oX5 a2_q a2_x0)), ((a2_q 1), .inl (K 0, 5, .inl (fun j => iI (a2_1_c j)))), ((a2_q 2), .inl (K 0, 150, .inl (fun j => iI (a2_2_c j)))), ((t_q 4), .inl (K 0, 12, .inl (fun j => iI (c25_t_4 j)))), ((a1_q 12), .inl (K 0, 24, .inl (fun j => iI (a1_12_c j)))), ((a2_q 3), .inl (K 0, 24, .inl (fun j => iI (a2_3_c j)))), ((a1_q 13), .inl (K 0, 24, .inl (fun j => iI (a1_13_c j)))), ((t_q 3), .inl (K 0, 24, .inl (fun j => iI (c25_t_3 j))))] → va_S A s.heap H locs → lv_has ls 8 [(0, .ref t), (1, .ref a1), (2, .ref a2), (3, .int (iI p3)), (4, .int (iI x25_4))] → W p l e ({ frames := 12, cells := 0, slots := 0, locals := 300 } : Room) s m ag below meth c H locs 0 0 Q (F0 m 25 ls []) := by
    intro n
    induction n with
    | zero =>
      intro x25_4 f25_t_1 c25_t_2 c25_t_4 c25_t_3 H locs ls hm25 hf25 hc25_t_2 hc25_t_4 hc25_t_3 hP hD hS hl
      exact absurd hm25 (Nat.not_lt_zero _)
    | succ n ih25 =>
      intro x25_4 f25_t_1 c25_t_2 c25_t_4 c25_t_3 H locs ls hm25 hf25 hc25_t_2 hc25_t_4 hc25_t_3 hP hD hS hl
      have J131 : ∀ (x131_5 : Int) (x131_6 : Int) (x131_7 : Int) (c131_t_4 : Nat → Int) (c131_t_3 : Nat → Int) (H : Heap) (locs : List Loc) (ls : Array Slot), (0 ≤ x25_4 ∧ x25_4 ≤ 23 ∧ 0 ≤ x131_5 ∧ x131_5 ≤ 11 ∧ 0 ≤ x131_6 ∧ x131_6 ≤ 30 ∧ (-4) ≤ x131_7 ∧ x131_7 ≤ 11 ∧ 1 ≤ a1_x5 ∧ a1_x5 ≤ 24) → (∀ j : Nat, 0 ≤ c131_t_4 j ∧ c131_t_4 j ≤ 4095) → (∀ j : Nat, (-1) ≤ c131_t_3 j ∧ c131_t_3 j ≤ 11) → va_P D vwCl [(a1, .inr (7, oX7 a1_q a1_x0 a1_x1 a1_x2 a1_x3 a1_x4 a1_x5 a1_x6 a1_x7 a1_x8)), (t, .inr (10, oX10 t_q a1_x4 f25_t_1 t_x6)), ((t_q 2), .inl (K 0, 12, .inl (fun j => iI (c25_t_2 j)))), (a2, .inr (5, oX5 a2_q a2_x0)), ((a2_q 1), .inl (K 0, 5, .inl (fun j => iI (a2_1_c j)))), ((a2_q 2), .inl (K 0, 150, .inl (fun j => iI (a2_2_c j)))), ((t_q 4), .inl (K 0, 12, .inl (fun j => iI (c131_t_4 j)))), ((a1_q 12), .inl (K 0, 24, .inl (fun j => iI (a1_12_c j)))), ((a2_q 3), .inl (K 0, 24, .inl (fun j => iI (a2_3_c j)))), ((a1_q 13), .inl (K 0, 24, .inl (fun j => iI (a1_13_c j)))), ((t_q 3), .inl (K 0, 24, .inl (fun j => iI (c131_t_3 j))))] H → va_D A [(a1, .inr (7, oX7 a1_q a1_x0 a1_x1 a1_x2 a1_x3 a1_x4 a1_x5 a1_x6 a1_x7 a1_x8)), (t, .inr (10, oX10 t_q a1_x4 f25_t_1 t_x6)), ((t_q 2), .inl (K 0, 12, .inl (fun j => iI (c25_t_2 j)))), (a2, .inr (5, oX5 a2_q a2_x0)), ((a2_q 1), .inl (K 0, 5, .inl (fun j => iI (a2_1_c j)))), ((a2_q 2), .inl (K 0, 150, .inl (fun j => iI (a2_2_c j)))), ((t_q 4), .inl (K 0, 12, .inl (fun j => iI (c131_t_4 j)))), ((a1_q 12), .inl (K 0, 24, .inl (fun j => iI (a1_12_c j)))), ((a2_q 3), .inl (K 0, 24, .inl (fun j => iI (a2_3_c j)))), ((a1_q 13), .inl (K 0, 24, .inl (fun j => iI (a1_13_c j)))), ((t_q 3), .inl (K 0, 24, .inl (fun j => iI (c131_t_3 j))))] → va_S A s.heap H locs → lv_has ls 8 [(0, .ref t), (1, .ref a1), (2, .ref a2), (3, .int (iI p3)), (4, .int (iI x25_4)), (5, .int (iI x131_5)), (6, .int (iI x131_6)), (7, .int (iI x131_7))] → W p l e ({ frames := 12, cells := 0, slots := 0, locals := 300 } : Room) s m ag below meth c H locs 0 0 Q (F0 m 131 ls []) := by
        intro x131_5 x131_6 x131_7 c131_t_4 c131_t_3 H locs ls hf131 hc131_t_4 hc131_t_3 hP hD hS hl
        refine lv_iinc (v := iI (x25_4 + 1)) (lv' := [(4, .int (iI (x25_4 + 1))), (0, .ref t), (1, .ref a1), (2, .ref a2), (3, .int (iI p3)), (5, .int (iI x131_5)), (6, .int (iI x131_6)), (7, .int (iI x131_7))]) hx hb dX10_weave_131 hl (k := 4) rfl (iI_add _ _) (by decide) rfl (fun ls hl => ?_)
        refine lv_goto (tgt := 25) hx hb dX10_weave_134 (by decide) ?_
        exact ih25 (x25_4 + 1) f25_t_1 c25_t_2 c131_t_4 c131_t_3 _ _ ls (by omega) (by omega) hc25_t_2 hc131_t_4 hc131_t_3 (hP.sub [0, 1, 2, 3, 4, 5, 6, 7, 8, 9, 10] rfl) (hD.sub [0, 1, 2, 3, 4, 5, 6, 7, 8, 9, 10] (by decide) rfl) hS (lv_sub hl [1, 2, 3, 4, 0] rfl)
      have J101 : ∀ (x101_5 : Int) (x101_6 : Int) (x101_7 : Int) (z101_2 : Int) (H : Heap) (locs : List Loc) (ls : Array Slot), (0 ≤ x25_4 ∧ x25_4 ≤ 23 ∧ 0 ≤ x101_5 ∧ x101_5 ≤ 11 ∧ 0 ≤ x101_6 ∧ x101_6 ≤ 30 ∧ (-4) ≤ x101_7 ∧ x101_7 ≤ 11 ∧ (-1) ≤ z101_2 ∧ z101_2 ≤ 11 ∧ 0 ≤ x25_4 ∧ x25_4 ≤ 23 ∧ 1 ≤ a1_x5 ∧ a1_x5 ≤ 24) → va_P D vwCl [(a1, .inr (7, oX7 a1_q a1_x0 a1_x1 a1_x2 a1_x3 a1_x4 a1_x5 a1_x6 a1_x7 a1_x8)), (t, .inr (10, oX10 t_q a1_x4 f25_t_1 t_x6)), ((t_q 2), .inl (K 0, 12, .inl (fun j => iI (c25_t_2 j)))), (a2, .inr (5, oX5 a2_q a2_x0)), ((a2_q 1), .inl (K 0, 5, .inl (fun j => iI (a2_1_c j)))), ((a2_q 2), .inl (K 0, 150, .inl (fun j => iI (a2_2_c j)))), ((t_q 4), .inl (K 0, 12, .inl (fun j => iI (c25_t_4 j)))), ((a1_q 12), .inl (K 0, 24, .inl (fun j => iI (a1_12_c j)))), ((a2_q 3), .inl (K 0, 24, .inl (fun j => iI (a2_3_c j)))), ((a1_q 13), .inl (K 0, 24, .inl (fun j => iI (a1_13_c j)))), ((t_q 3), .inl (K 0, 24, .inl (fun j => iI (c25_t_3 j))))] H → va_D A [(a1, .inr (7, oX7 a1_q a1_x0 a1_x1 a1_x2 a1_x3 a1_x4 a1_x5 a1_x6 a1_x7 a1_x8)), (t, .inr (10, oX10 t_q a1_x4 f25_t_1 t_x6)), ((t_q 2), .inl (K 0, 12, .inl (fun j => iI (c25_t_2 j)))), (a2, .inr (5, oX5 a2_q a2_x0)), ((a2_q 1), .inl (K 0, 5, .inl (fun j => iI (a2_1_c j)))), ((a2_q 2), .inl (K 0, 150, .inl (fun j => iI (a2_2_c j)))), ((t_q 4), .inl (K 0, 12, .inl (fun j => iI (c25_t_4 j)))), ((a1_q 12), .inl (K 0, 24, .inl (fun j => iI (a1_12_c j)))), ((a2_q 3), .inl (K 0, 24, .inl (fun j => iI (a2_3_c j)))), ((a1_q 13), .inl (K 0, 24, .inl (fun j => iI (a1_13_c j)))), ((t_q 3), .inl (K 0, 24, .inl (fun j => iI (c25_t_3 j))))] → va_S A s.heap H locs → lv_has ls 8 [(0, .ref t), (1, .ref a1), (2, .ref a2), (3, .int (iI p3)), (4, .int (iI x25_4)), (5, .int (iI x101_5)), (6, .int (iI x101_6)), (7, .int (iI x101_7))] → W p l e ({ frames := 12, cells := 0, slots := 0, locals := 300 } : Room) s m ag below meth c H locs 0 0 Q (F0 m 101 ls [.int (iI z101_2), .int (iI x25_4), .ref (t_q 3)]) := by
        intro x101_5 x101_6 x101_7 z101_2 H locs ls hf101 hP hD hS hl
        refine g_iast hx hb hK.1 hP hD hS 10 0 rfl rfl (by omega) (by omega) (by decide) dX10_weave_101 (fun H locs g101 eg101 hP hD hS => ?_)
        have hg101 : ∀ j : Nat, (-1) ≤ g101 j ∧ g101 j ≤ 11 := by rw [eg101]; exact uI_all hc25_t_3 (by omega)
        have hP : va_P D vwCl [(a1, .inr (7, oX7 a1_q a1_x0 a1_x1 a1_x2 a1_x3 a1_x4 a1_x5 a1_x6 a1_x7 a1_x8)), (t, .inr (10, oX10 t_q a1_x4 f25_t_1 t_x6)), ((t_q 2), .inl (K 0, 12, .inl (fun j => iI (c25_t_2 j)))), (a2, .inr (5, oX5 a2_q a2_x0)), ((a2_q 1), .inl (K 0, 5, .inl (fun j => iI (a2_1_c j)))), ((a2_q 2), .inl (K 0, 150, .inl (fun j => iI (a2_2_c j)))), ((t_q 4), .inl (K 0, 12, .inl (fun j => iI (c25_t_4 j)))), ((a1_q 12), .inl (K 0, 24, .inl (fun j => iI (a1_12_c j)))), ((a2_q 3), .inl (K 0, 24, .inl (fun j => iI (a2_3_c j)))), ((a1_q 13), .inl (K 0, 24, .inl (fun j => iI (a1_13_c j)))), ((t_q 3), .inl (K 0, 24, .inl (fun j => iI (g101 j))))] H := hP
        have hD : va_D A [(a1, .inr (7, oX7 a1_q a1_x0 a1_x1 a1_x2 a1_x3 a1_x4 a1_x5 a1_x6 a1_x7 a1_x8)), (t, .inr (10, oX10 t_q a1_x4 f25_t_1 t_x6)), ((t_q 2), .inl (K 0, 12, .inl (fun j => iI (c25_t_2 j)))), (a2, .inr (5, oX5 a2_q a2_x0)), ((a2_q 1), .inl (K 0, 5, .inl (fun j => iI (a2_1_c j)))), ((a2_q 2), .inl (K 0, 150, .inl (fun j => iI (a2_2_c j)))), ((t_q 4), .inl (K 0, 12, .inl (fun j => iI (c25_t_4 j)))), ((a1_q 12), .inl (K 0, 24, .inl (fun j => iI (a1_12_c j)))), ((a2_q 3), .inl (K 0, 24, .inl (fun j => iI (a2_3_c j)))), ((a1_q 13), .inl (K 0, 24, .inl (fun j => iI (a1_13_c j)))), ((t_q 3), .inl (K 0, 24, .inl (fun j => iI (g101 j))))] := hD
        refine lv_aload_n hx hb dX10_weave_102 rfl (lv_at hl 0 rfl) ?_
        refine va_get (D := D) (own := RX10) (ci := 10) (v := .ref (t_q 3)) (C := RX10) (T := TX10) (N := 7) hx hb hts inb_X10 hown hK.1 hP 1 rfl rfl 3 (by decide) (hts _ wd_231) (fun _ h9 => h9) rfl dX10_weave_103 ?_
        refine lv_iload hx hb dX10_weave_106 (lv_at hl 4 rfl) ?_
        refine g_iald hx hb hK.1 hP 10 0 rfl rfl (by omega) (by omega) (by decide) dX10_weave_108 ?_
        have y108 : (-1) ≤ (g101 x25_4.toNat) ∧ (g101 x25_4.toNat) ≤ 11 := hg101 x25_4.toNat
        refine g_if_lt (tgt := 131) hx hb (by omega) dX10_weave_109 (by decide) (fun c109 => ?_) (fun c109 => ?_)
        · exact J131 x101_5 x101_6 x101_7 c25_t_4 g101 _ _ ls (by omega) hc25_t_4 hg101 (hP.sub [0, 1, 2, 3, 4, 5, 6, 7, 8, 9, 10] rfl) (hD.sub [0, 1, 2, 3, 4, 5, 6, 7, 8, 9, 10] (by decide) rfl) hS (lv_sub hl [0, 1, 2, 3, 4, 5, 6, 7] rfl)
        · refine lv_aload_n hx hb dX10_weave_112 rfl (lv_at hl 0 rfl) ?_
          refine va_get (D := D) (own := RX10) (ci := 10) (v := .ref (t_q 4)) (C := RX10) (T := TX10) (N := 7) hx hb hts inb_X10 hown hK.1 hP 1 rfl rfl 4 (by decide) (hts _ wd_236) (fun _ h9 => h9) rfl dX10_weave_113 ?_
          refine lv_iload hx hb dX10_weave_116 (lv_at hl 5 rfl) ?_
          refine lv_dup2_11 hx hb dX10_weave_118 rfl rfl ?_
          refine g_iald hx hb hK.1 hP 6 0 rfl rfl (by omega) (by omega) (by decide) dX10_weave_119 ?_
          have y119 : 0 ≤ (c25_t_4 x101_5.toNat) ∧ (c25_t_4 x101_5.toNat) ≤ 4095 := hc25_t_4 x101_5.toNat
          refine lv_iconst (v := iI 1) hx hb dX10_weave_120 rfl ?_
          refine lv_aload_n hx hb dX10_weave_121 rfl (lv_at hl 0 rfl) ?_
          refine va_get (D := D) (own := RX10) (ci := 10) (v := .ref (t_q 3)) (C := RX10) (T := TX10) (N := 7) hx hb hts inb_X10 hown hK.1 hP 1 rfl rfl 3 (by decide) (hts _ wd_231) (fun _ h9 => h9) rfl dX10_weave_122 ?_
          refine lv_iload hx hb dX10_weave_125 (lv_at hl 4 rfl) ?_
          refine g_iald hx hb hK.1 hP 10 0 rfl rfl (by omega) (by omega) (by decide) dX10_weave_127 ?_
          refine lv_ishl hx hb dX10_weave_128 ?_
          obtain ⟨w128, ew128, hw128⟩ := iI_shl1 11 (g101 x25_4.toNat) (by omega) (by omega) (by decide)
          refine fn_top (iI w128) ew128 ?_
          refine lv_ior hx hb dX10_weave_129 ?_
          obtain ⟨w129, ew129, hw129⟩ := iI_or 12 (c25_t_4 x101_5.toNat) w128 (by omega) (by omega) (by decide)
          refine fn_top (iI w129) ew129 ?_
          refine g_iast hx hb hK.1 hP hD hS 6 0 rfl rfl (by omega) (by omega) (by decide) dX10_weave_130 (fun H locs g130 eg130 hP hD hS => ?_)
          have hg130 : ∀ j : Nat, 0 ≤ g130 j ∧ g130 j ≤ 4095 := by rw [eg130]; exact uI_all hc25_t_4 (by omega)
          have hP : va_P D vwCl [(a1, .inr (7, oX7 a1_q a1_x0 a1_x1 a1_x2 a1_x3 a1_x4 a1_x5 a1_x6 a1_x7 a1_x8)), (t, .inr (10, oX10 t_q a1_x4 f25_t_1 t_x6)), ((t_q 2), .inl (K 0, 12, .inl (fun j => iI (c25_t_2 j)))), (a2, .inr (5, oX5 a2_q a2_x0)), ((a2_q 1), .inl (K 0, 5, .inl (fun j => iI (a2_1_c j)))), ((a2_q 2), .inl (K 0, 150, .inl (fun j => iI (a2_2_c j)))), ((t_q 4), .inl (K 0, 12, .inl (fun j => iI (g130 j)))), ((a1_q 12), .inl (K 0, 24, .inl (fun j => iI (a1_12_c j)))), ((a2_q 3), .inl (K 0, 24, .inl (fun j => iI (a2_3_c j)))), ((a1_q 13), .inl (K 0, 24, .inl (fun j => iI (a1_13_c j)))), ((t_q 3), .inl (K 0, 24, .inl (fun j => iI (g101 j))))] H := hP
          have hD : va_D A [(a1, .inr (7, oX7 a1_q a1_x0 a1_x1 a1_x2 a1_x3 a1_x4 a1_x5 a1_x6 a1_x7 a1_x8)), (t, .inr (10, oX10 t_q a1_x4 f25_t_1 t_x6)), ((t_q 2), .inl (K 0, 12, .inl (fun j => iI (c25_t_2 j)))), (a2, .inr (5, oX5 a2_q a2_x0)), ((a2_q 1), .inl (K 0, 5, .inl (fun j => iI (a2_1_c j)))), ((a2_q 2), .inl (K 0, 150, .inl (fun j => iI (a2_2_c j)))), ((t_q 4), .inl (K 0, 12, .inl (fun j => iI (g130 j)))), ((a1_q 12), .inl (K 0, 24, .inl (fun j => iI (a1_12_c j)))), ((a2_q 3), .inl (K 0, 24, .inl (fun j => iI (a2_3_c j)))), ((a1_q 13), .inl (K 0, 24, .inl (fun j => iI (a1_13_c j)))), ((t_q 3), .inl (K 0, 24, .inl (fun j => iI (g101 j))))] := hD
          exact J131 x101_5 x101_6 x101_7 g130 g101 _ _ ls (by omega) hg130 hg101 (hP.sub [0, 1, 2, 3, 4, 5, 6, 7, 8, 9, 10] rfl) (hD.sub [0, 1, 2, 3, 4, 5, 6, 7, 8, 9, 10] (by decide) rfl) hS (lv_sub hl [0, 1, 2, 3, 4, 5, 6, 7] rfl)
      have J100 : ∀ (x100_5 : Int) (x100_6 : Int) (x100_7 : Int) (H : Heap) (locs : List Loc) (ls : Array Slot), (0 ≤ x25_4 ∧ x25_4 ≤ 23 ∧ 0 ≤ x100_5 ∧ x100_5 ≤ 11 ∧ 0 ≤ x100_6 ∧ x100_6 ≤ 30 ∧ (-4) ≤ x100_7 ∧ x100_7 ≤ 11 ∧ 0 ≤ x25_4 ∧ x25_4 ≤ 23 ∧ 1 ≤ a1_x5 ∧ a1_x5 ≤ 24) → va_P D vwCl [(a1, .inr (7, oX7 a1_q a1_x0 a1_x1 a1_x2 a1_x3 a1_x4 a1_x5 a1_x6 a1_x7 a1_x8)), (t, .inr (10, oX10 t_q a1_x4 f25_t_1 t_x6)), ((t_q 2), .inl (K 0, 12, .inl (fun j => iI (c25_t_2 j)))), (a2, .inr (5, oX5 a2_q a2_x0)), ((a2_q 1), .inl (K 0, 5, .inl (fun j => iI (a2_1_c j)))), ((a2_q 2), .inl (K 0, 150, .inl (fun j => iI (a2_2_c j)))), ((t_q 4), .inl (K 0, 12, .inl (fun j => iI (c25_t_4 j)))), ((a1_q 12), .inl (K 0, 24, .inl (fun j => iI (a1_12_c j)))), ((a2_q 3), .inl (K 0, 24, .inl (fun j => iI (a2_3_c j)))), ((a1_q 13), .inl (K 0, 24, .inl (fun j => iI (a1_13_c j)))), ((t_q 3), .inl (K 0, 24, .inl (fun j => iI (c25_t_3 j))))] H → va_D A [(a1, .inr (7, oX7 a1_q a1_x0 a1_x1 a1_x2 a1_x3 a1_x4 a1_x5 a1_x6 a1_x7 a1_x8)), (t, .inr (10, oX10 t_q a1_x4 f25_t_1 t_x6)), ((t_q 2), .inl (K 0, 12, .inl (fun j => iI (c25_t_2 j)))), (a2, .inr (5, oX5 a2_q a2_x0)), ((a2_q 1), .inl (K 0, 5, .inl (fun j => iI (a2_1_c j)))), ((a2_q 2), .inl (K 0, 150, .inl (fun j => iI (a2_2_c j)))), ((t_q 4), .inl (K 0, 12, .inl (fun j => iI (c25_t_4 j)))), ((a1_q 12), .inl (K 0, 24, .inl (fun j => iI (a1_12_c j)))), ((a2_q 3), .inl (K 0, 24, .inl (fun j => iI (a2_3_c j)))), ((a1_q 13), .inl (K 0, 24, .inl (fun j => iI (a1_13_c j)))), ((t_q 3), .inl (K 0, 24, .inl (fun j => iI (c25_t_3 j))))] → va_S A s.heap H locs → lv_has ls 8 [(0, .ref t), (1, .ref a1), (2, .ref a2), (3, .int (iI p3)), (4, .int (iI x25_4)), (5, .int (iI x100_5)), (6, .int (iI x100_6)), (7, .int (iI x100_7))] → W p l e ({ frames := 12, cells := 0, slots := 0, locals := 300 } : Room) s m ag below meth c H locs 0 0 Q (F0 m 100 ls [.int (iI x25_4), .ref (t_q 3)]) := by
        intro x100_5 x100_6 x100_7 H locs ls hf100 hP hD hS hl
        refine lv_iconst (v := iI (-1)) hx hb dX10_weave_100 rfl ?_
        exact J101 x100_5 x100_6 x100_7 (-1) _ _ ls (by omega) (hP.sub [0, 1, 2, 3, 4, 5, 6, 7, 8, 9, 10] rfl) (hD.sub [0, 1, 2, 3, 4, 5, 6, 7, 8, 9, 10] (by decide) rfl) hS (lv_sub hl [0, 1, 2, 3, 4, 5, 6, 7] rfl)
      refine lv_iload hx hb dX10_weave_25 (lv_at hl 4 rfl) ?_
      refine lv_aload_n hx hb dX10_weave_27 rfl (lv_at hl 1 rfl) ?_
      refine va_getN (D := D) (own := RX10) (ci := 7) (v := .int (iI a1_x5)) (C := RX7) (T := TX7) (N := 15) hx hb hts inb_X7 hown hK.1 hP 0 rfl rfl 5 (by decide) (hK.nf 25 rfl) (fun _ h9 => h9) rfl dX10_weave_28 ?_
      have y28_1 : 0 ≤ a1_x5 ∧ a1_x5 ≤ 24 := hi_a1.2.2.2.2.2.1
      refine g_icmp_ge (tgt := 137) hx hb (by omega) (by omega) dX10_weave_31 (by decide) (fun c31 => ?_) (fun c31 => ?_)
      · have y137_2 : 0 ≤ a1_x4 ∧ a1_x4 ≤ 12 := hi_a1.2.2.2.2.1
        rw [hQ]; exact fn_vret hx hb hr hlocks hP hD hS ((fun k => ([a1_x4, f25_t_1] : List Int).getD k 0), (fun k => ([c25_t_2, c25_t_3, c25_t_4] : List (Nat → Int)).getD k (fun _ => 0))) ⟨(by show 0 ≤ a1_x4 ∧ a1_x4 ≤ 12 ∧ 0 ≤ f25_t_1 ∧ f25_t_1 ≤ 4095; omega), (hc25_t_2), (hc25_t_3), (hc25_t_4), trivial⟩ [0, 1, 2, 3, 4, 5, 6, 7, 8, 9, 10] (by decide) rfl dX10_weave_137
      · refine lv_aload_n hx hb dX10_weave_34 rfl (lv_at hl 1 rfl) ?_
        refine va_getN (D := D) (own := RX10) (ci := 7) (v := .ref (a1_q 12)) (C := RX7) (T := TX7) (N := 15) hx hb hts inb_X7 hown hK.1 hP 0 rfl rfl 12 (by decide) (hK.nf 42 rfl) (fun _ h9 => h9) rfl dX10_weave_35 ?_
        refine lv_iload hx hb dX10_weave_38 (lv_at hl 4 rfl) ?_
        refine g_iald hx hb hK.1 hP 7 0 rfl rfl (by omega) (by omega) (by decide) dX10_weave_40 ?_
        have y40 : 0 ≤ (a1_12_c x25_4.toNat) ∧ (a1_12_c x25_4.toNat) ≤ 11 := hc_a1_12 x25_4.toNat
        refine lv_istore (lv' := [(5, .int (iI (a1_12_c x25_4.toNat))), (0, .ref t), (1, .ref a1), (2, .ref a2), (3, .int (iI p3)), (4, .int (iI x25_4))]) hx hb dX10_weave_41 hl (by decide) rfl (fun ls hl => ?_)
        refine lv_aload_n hx hb dX10_weave_43 rfl (lv_at hl 3 rfl) ?_
        refine va_getN (D := D) (own := RX10) (ci := 5) (v := .ref (a2_q 3)) (C := RX5) (T := TX5) (N := 8) hx hb hts inb_X5 hown hK.1 hP 3 rfl rfl 3 (by decide) (hK.nf 60 rfl) (fun _ h9 => h9) rfl dX10_weave_44 ?_
        refine lv_iload hx hb dX10_weave_47 (lv_at hl 5 rfl) ?_
        refine g_iald hx hb hK.1 hP 8 0 rfl rfl (by omega) (by omega) (by decide) dX10_weave_49 ?_
        have y49 : 0 ≤ (a2_3_c x25_4.toNat) ∧ (a2_3_c x25_4.toNat) ≤ 29 := hc_a2_3 x25_4.toNat
        refine lv_iload_n hx hb dX10_weave_50 rfl (lv_at hl 4 rfl) ?_
        refine lv_iload hx hb dX10_weave_51 (lv_at hl 5 rfl) ?_
        refine lv_ishr hx hb dX10_weave_53 ?_
        refine g_any (fun w53 hw53 ew53 => ?_)
        refine lv_iconst (v := iI 1) hx hb dX10_weave_54 rfl ?_
        refine lv_iand hx hb dX10_weave_55 ?_
        obtain ⟨w55, ew55, hw55⟩ := iI_and w53 1 (by omega)
        refine fn_top (iI w55) ew55 ?_
        refine g_iadd hx hb dX10_weave_56 ?_
        refine fn_at 57 rfl ?_
        refine lv_istore (lv' := [(6, .int (iI (a2_3_c x25_4.toNat + w55))), (5, .int (iI (a1_12_c x25_4.toNat))), (0, .ref t), (1, .ref a1), (2, .ref a2), (3, .int (iI p3)), (4, .int (iI x25_4))]) hx hb dX10_weave_57 hl (by decide) rfl (fun ls hl => ?_)
        refine lv_aload_n hx hb dX10_weave_59 rfl (lv_at hl 4 rfl) ?_
        refine lv_aload_n hx hb dX10_weave_60 rfl (lv_at hl 3 rfl) ?_
        refine va_getN (D := D) (own := RX10) (ci := 7) (v := .ref (a1_q 13)) (C := RX7) (T := TX7) (N := 15) hx hb hts inb_X7 hown hK.1 hP 0 rfl rfl 13 (by decide) (hK.nf 47 rfl) (fun _ h9 => h9) rfl dX10_weave_61 ?_
        refine lv_iload hx hb dX10_weave_64 (lv_at hl 6 rfl) ?_
        refine g_iald hx hb hK.1 hP 9 0 rfl rfl (by omega) (by omega) (by decide) dX10_weave_66 ?_
        have y66 : 0 ≤ (a1_13_c x25_4.toNat) ∧ (a1_13_c x25_4.toNat) ≤ 4 := hc_a1_13 x25_4.toNat
        refine lv_iload hx hb dX10_weave_67 (lv_at hl 0 rfl) ?_
        refine fn_goi (wc := [(a2, .inr (5, oX5 a2_q a2_x0)), ((a2_q 1), .inl (K 0, 5, .inl (fun j => iI (a2_1_c j)))), ((a2_q 2), .inl (K 0, 150, .inl (fun j => iI (a2_2_c j))))]) (wr := [(a1, .inr (7, oX7 a1_q a1_x0 a1_x1 a1_x2 a1_x3 a1_x4 a1_x5 a1_x6 a1_x7 a1_x8)), (t, .inr (10, oX10 t_q a1_x4 f25_t_1 t_x6)), ((t_q 2), .inl (K 0, 12, .inl (fun j => iI (c25_t_2 j)))), ((t_q 4), .inl (K 0, 12, .inl (fun j => iI (c25_t_4 j)))), ((a1_q 12), .inl (K 0, 24, .inl (fun j => iI (a1_12_c j)))), ((a2_q 3), .inl (K 0, 24, .inl (fun j => iI (a2_3_c j)))), ((a1_q 13), .inl (K 0, 24, .inl (fun j => iI (a1_13_c j)))), ((t_q 3), .inl (K 0, 24, .inl (fun j => iI (c25_t_3 j))))]) hK hP hD hS hA [3, 4, 5] [0, 1, 2, 6, 7, 8, 9, 10] rfl rfl (by decide) (fun hp => va_runVN (C := RX5) (As := [.int (iI (a1_13_c x25_4.toNat)), .int (iI (a2_3_c x25_4.toNat + w55))]) (rest := []) ⟨hx, hb, hml, hown, hts⟩ (k_X5_onLeaf (l := l) (D := D) (K := K) (t := a2) (p1 := (a1_13_c x25_4.toNat)) (p2 := (a2_3_c x25_4.toNat + w55)) (t_q := a2_q) (t_x0 := a2_x0) (t_1_c := a2_1_c) (t_2_c := a2_2_c) (hp1 := (by omega)) (hp2 := (by omega)) (hi_t := hi_a2) (hc_t_1 := hc_a2_1) (hc_t_2 := hc_a2_2) _) ⟨va_cnB (own := RX10) 2 hts (fn_gin wd_650) rfl rfl rfl (hK.nw 107 rfl) (hts _ wd_5) (by decide +kernel) ⟨Nat.le_of_ble_eq_true rfl, Nat.le_of_ble_eq_true rfl⟩, hts _ wd_649, hts _ wp_24⟩ ⟨fn_blind, va_recv hK.1 hP (ci := 5) (q0 := 3) rfl rfl, hp⟩ rfl rfl hl.1 rfl (lv_room (Nat.le_of_ble_eq_true rfl)) dX10_weave_69 ⟨Nat.le_of_ble_eq_true rfl, Nat.le_of_ble_eq_true rfl⟩) (fun r69 u69 H locs hwu69 hP hD hS => ?_)
        obtain ⟨u69a, u69b⟩ := u69
        obtain ⟨kr69, rfl, hkr69, -⟩ := hwu69
        have hP : va_P D vwCl [(a1, .inr (7, oX7 a1_q a1_x0 a1_x1 a1_x2 a1_x3 a1_x4 a1_x5 a1_x6 a1_x7 a1_x8)), (t, .inr (10, oX10 t_q a1_x4 f25_t_1 t_x6)), ((t_q 2), .inl (K 0, 12, .inl (fun j => iI (c25_t_2 j)))), ((t_q 4), .inl (K 0, 12, .inl (fun j => iI (c25_t_4 j)))), ((a1_q 12), .inl (K 0, 24, .inl (fun j => iI (a1_12_c j)))), ((a2_q 3), .inl (K 0, 24, .inl (fun j => iI (a2_3_c j)))), ((a1_q 13), .inl (K 0, 24, .inl (fun j => iI (a1_13_c j)))), ((t_q 3), .inl (K 0, 24, .inl (fun j => iI (c25_t_3 j)))), (a2, .inr (5, oX5 a2_q a2_x0)), ((a2_q 1), .inl (K 0, 5, .inl (fun j => iI (a2_1_c j)))), ((a2_q 2), .inl (K 0, 150, .inl (fun j => iI (a2_2_c j))))] H := hP
        have hD : va_D A [(a1, .inr (7, oX7 a1_q a1_x0 a1_x1 a1_x2 a1_x3 a1_x4 a1_x5 a1_x6 a1_x7 a1_x8)), (t, .inr (10, oX10 t_q a1_x4 f25_t_1 t_x6)), ((t_q 2), .inl (K 0, 12, .inl (fun j => iI (c25_t_2 j)))), ((t_q 4), .inl (K 0, 12, .inl (fun j => iI (c25_t_4 j)))), ((a1_q 12), .inl (K 0, 24, .inl (fun j => iI (a1_12_c j)))), ((a2_q 3), .inl (K 0, 24, .inl (fun j => iI (a2_3_c j)))), ((a1_q 13), .inl (K 0, 24, .inl (fun j => iI (a1_13_c j)))), ((t_q 3), .inl (K 0, 24, .inl (fun j => iI (c25_t_3 j)))), (a2, .inr (5, oX5 a2_q a2_x0)), ((a2_q 1), .inl (K 0, 5, .inl (fun j => iI (a2_1_c j)))), ((a2_q 2), .inl (K 0, 150, .inl (fun j => iI (a2_2_c j))))] := hD
        refine lv_istore (lv' := [(7, .int (iI kr69)), (6, .int (iI (a2_3_c x25_4.toNat + w55))), (5, .int (iI (a1_12_c x25_4.toNat))), (0, .ref t), (1, .ref a1), (2, .ref a2), (3, .int (iI p3)), (4, .int (iI x25_4))]) hx hb dX10_weave_72 hl (by decide) rfl (fun ls hl => ?_)
        refine lv_aload_n hx hb dX10_weave_74 rfl (lv_at hl 3 rfl) ?_
        refine va_get (D := D) (own := RX10) (ci := 10) (v := .ref (t_q 3)) (C := RX10) (T := TX10) (N := 7) hx hb hts inb_X10 hown hK.1 hP 1 rfl rfl 3 (by decide) (hts _ wd_231) (fun _ h9 => h9) rfl dX10_weave_75 ?_
        refine lv_iload hx hb dX10_weave_78 (lv_at hl 7 rfl) ?_
        refine lv_iload hx hb dX10_weave_80 (lv_at hl 0 rfl) ?_
        refine g_if_lt (tgt := 100) hx hb (by omega) dX10_weave_82 (by decide) (fun c82 => ?_) (fun c82 => ?_)
        · exact J100 (a1_12_c x25_4.toNat) (a2_3_c x25_4.toNat + w55) kr69 _ _ ls (by omega) (hP.sub [0, 1, 2, 8, 9, 10, 3, 4, 5, 6, 7] rfl) (hD.sub [0, 1, 2, 8, 9, 10, 3, 4, 5, 6, 7] (by decide) rfl) hS (lv_sub hl [3, 4, 5, 6, 7, 2, 1, 0] rfl)
        · refine lv_aload_n hx hb dX10_weave_85 rfl (lv_at hl 3 rfl) ?_
          refine va_get (D := D) (own := RX10) (ci := 10) (v := .ref (t_q 2)) (C := RX10) (T := TX10) (N := 7) hx hb hts inb_X10 hown hK.1 hP 1 rfl rfl 2 (by decide) (hts _ wd_228) (fun _ h9 => h9) rfl dX10_weave_86 ?_
          refine lv_iload hx hb dX10_weave_89 (lv_at hl 2 rfl) ?_
          refine g_iald hx hb hK.1 hP 2 0 rfl rfl (by omega) (by omega) (by decide) dX10_weave_91 ?_
          have y91 : (-1) ≤ (c25_t_2 ((a1_12_c x25_4.toNat).toNat)) ∧ (c25_t_2 ((a1_12_c x25_4.toNat).toNat)) ≤ 149 := hc25_t_2 ((a1_12_c x25_4.toNat).toNat)
          refine g_if_lt (tgt := 100) hx hb (by omega) dX10_weave_92 (by decide) (fun c92 => ?_) (fun c92 => ?_)
          · exact J100 (a1_12_c x25_4.toNat) (a2_3_c x25_4.toNat + w55) kr69 _ _ ls (by omega) (hP.sub [0, 1, 2, 8, 9, 10, 3, 4, 5, 6, 7] rfl) (hD.sub [0, 1, 2, 8, 9, 10, 3, 4, 5, 6, 7] (by decide) rfl) hS (lv_sub hl [3, 4, 5, 6, 7, 2, 1, 0] rfl)
          · refine lv_iload hx hb dX10_weave_95 (lv_at hl 0 rfl) ?_
            refine fn_at 97 rfl ?_
            refine lv_goto (tgt := 101) hx hb dX10_weave_97 (by decide) ?_
            exact J101 (a1_12_c x25_4.toNat) (a2_3_c x25_4.toNat + w55) kr69 kr69 _ _ ls (by omega) (hP.sub [0, 1, 2, 8, 9, 10, 3, 4, 5, 6, 7] rfl) (hD.sub [0, 1, 2, 8, 9, 10, 3, 4, 5, 6, 7] (by decide) rfl) hS (lv_sub hl [3, 4, 5, 6, 7, 2, 1, 0] rfl)
  have hl : lv_has ls 8 [(0, .ref t), (1, .ref a1), (2, .ref a2), (3, .int (iI p3))] := hl
  refine lv_aload_n hx hb dX10_weave_0 rfl (lv_at hl 0 rfl) ?_
  refine lv_aload_n hx hb dX10_weave_1 rfl (lv_at hl 1 rfl) ?_
  refine va_getN (D := D) (own := RX10) (ci := 7) (v := .int (iI a1_x4)) (C := RX7) (T := TX7) (N := 15) hx hb hts inb_X7 hown hK.1 hP 0 rfl rfl 4 (by decide) (hK.nf 19 rfl) (fun _ h9 => h9) rfl dX10_weave_2 ?_
  have y2_1 : 0 ≤ a1_x4 ∧ a1_x4 ≤ 12 := hi_a1.2.2.2.2.1
  refine va_put (D := D) (own := RX10) (ci := 10) (v := .int (iI a1_x4)) (ty := .int) (C := RX10) (T := TX10) (N := 7) hx hb hts inb_X10 tyX10 tyX10_ok nmX10 hown hK.1 hP hD hS 1 rfl rfl 0 (by decide) (hts _ wd_225) (fun _ h9 => h9) rfl (by decide +kernel) rfl rfl (Nat.le_of_ble_eq_true rfl) dX10_weave_5 (fun H locs hP hD hS => ?_)
  have hP : va_P D vwCl [(a1, .inr (7, oX7 a1_q a1_x0 a1_x1 a1_x2 a1_x3 a1_x4 a1_x5 a1_x6 a1_x7 a1_x8)), (t, .inr (10, oX10 t_q a1_x4 t_x1 t_x6)), ((t_q 2), .inl (K 0, 12, .inl (fun j => iI (t_2_c j)))), (a2, .inr (5, oX5 a2_q a2_x0)), ((a2_q 1), .inl (K 0, 5, .inl (fun j => iI (a2_1_c j)))), ((a2_q 2), .inl (K 0, 150, .inl (fun j => iI (a2_2_c j)))), ((t_q 4), .inl (K 0, 12, .inl (fun j => iI (t_4_c j)))), ((a1_q 12), .inl (K 0, 24, .inl (fun j => iI (a1_12_c j)))), ((a2_q 3), .inl (K 0, 24, .inl (fun j => iI (a2_3_c j)))), ((a1_q 13), .inl (K 0, 24, .inl (fun j => iI (a1_13_c j)))), ((t_q 3), .inl (K 0, 24, .inl (fun j => iI (t_3_c j))))] H := hP
  have hD : va_D A [(a1, .inr (7, oX7 a1_q a1_x0 a1_x1 a1_x2 a1_x3 a1_x4 a1_x5 a1_x6 a1_x7 a1_x8)), (t, .inr (10, oX10 t_q a1_x4 t_x1 t_x6)), ((t_q 2), .inl (K 0, 12, .inl (fun j => iI (t_2_c j)))), (a2, .inr (5, oX5 a2_q a2_x0)), ((a2_q 1), .inl (K 0, 5, .inl (fun j => iI (a2_1_c j)))), ((a2_q 2), .inl (K 0, 150, .inl (fun j => iI (a2_2_c j)))), ((t_q 4), .inl (K 0, 12, .inl (fun j => iI (t_4_c j)))), ((a1_q 12), .inl (K 0, 24, .inl (fun j => iI (a1_12_c j)))), ((a2_q 3), .inl (K 0, 24, .inl (fun j => iI (a2_3_c j)))), ((a1_q 13), .inl (K 0, 24, .inl (fun j => iI (a1_13_c j)))), ((t_q 3), .inl (K 0, 24, .inl (fun j => iI (t_3_c j))))] := hD
  refine lv_aload_n hx hb dX10_weave_8 rfl (lv_at hl 0 rfl) ?_
  refine lv_aload_n hx hb dX10_weave_9 rfl (lv_at hl 1 rfl) ?_
  refine lv_aload_n hx hb dX10_weave_10 rfl (lv_at hl 2 rfl) ?_
  refine fn_gov (wc := [(t, .inr (10, oX10 t_q a1_x4 t_x1 t_x6)), ((t_q 2), .inl (K 0, 12, .inl (fun j => iI (t_2_c j)))), (a1, .inr (7, oX7 a1_q a1_x0 a1_x1 a1_x2 a1_x3 a1_x4 a1_x5 a1_x6 a1_x7 a1_x8)), (a2, .inr (5, oX5 a2_q a2_x0)), ((a2_q 1), .inl (K 0, 5, .inl (fun j => iI (a2_1_c j)))), ((a2_q 2), .inl (K 0, 150, .inl (fun j => iI (a2_2_c j))))]) (wr := [((t_q 4), .inl (K 0, 12, .inl (fun j => iI (t_4_c j)))), ((a1_q 12), .inl (K 0, 24, .inl (fun j => iI (a1_12_c j)))), ((a2_q 3), .inl (K 0, 24, .inl (fun j => iI (a2_3_c j)))), ((a1_q 13), .inl (K 0, 24, .inl (fun j => iI (a1_13_c j)))), ((t_q 3), .inl (K 0, 24, .inl (fun j => iI (t_3_c j))))]) hK hP hD hS hA [1, 2, 0, 3, 4, 5] [6, 7, 8, 9, 10] rfl rfl (by decide) (fun hp => va_runV (C := RX10) (As := [.ref a1, .ref a2]) (rest := []) ⟨hx, hb, hml, hown, hts⟩ (k_X10_locatePages (l := l) (D := D) (K := K) (t := t) (a1 := a1) (a2 := a2) (t_q := t_q) (t_x0 := a1_x4) (t_x1 := t_x1) (t_x6 := t_x6) (t_2_c := t_2_c) (a1_q := a1_q) (a1_x0 := a1_x0) (a1_x1 := a1_x1) (a1_x2 := a1_x2) (a1_x3 := a1_x3) (a1_x4 := a1_x4) (a1_x5 := a1_x5) (a1_x6 := a1_x6) (a1_x7 := a1_x7) (a1_x8 := a1_x8) (a2_q := a2_q) (a2_x0 := a2_x0) (a2_1_c := a2_1_c) (a2_2_c := a2_2_c) (hi_t := ⟨hi_a1.2.2.2.2.1, hi_t.2.1, hi_t.2.2⟩) (hc_t_2 := hc_t_2) (hi_a1 := hi_a1) (hi_a2 := hi_a2) (hc_a2_1 := hc_a2_1) (hc_a2_2 := hc_a2_2) _) (cwV 2 hts (fn_ginV (fn_gin wd_643) wd_640 wd_642 wp_23 wd_6) rfl rfl rfl (by decide +kernel) ⟨Nat.le_of_ble_eq_true rfl, Nat.le_of_ble_eq_true rfl⟩) ⟨fn_blind, va_recv hK.1 hP (ci := 10) (q0 := 1) rfl rfl, hp⟩ rfl rfl hl.1 rfl (lv_room (Nat.le_of_ble_eq_true rfl)) dX10_weave_11 ⟨Nat.le_of_ble_eq_true rfl, Nat.le_of_ble_eq_true rfl⟩) (fun u11 H locs hwu11 hP hD hS => ?_)
  obtain ⟨u11a, u11b⟩ := u11
  obtain ⟨hqu110, hu11_00, -⟩ := hwu11
  have hqu11 : 0 ≤ (u11a 0) ∧ (u11a 0) ≤ 4095 := hqu110
  have hu11_0 : ∀ j : Nat, (-1) ≤ (u11b 0) j ∧ (u11b 0) j ≤ 149 := hu11_00
  clear hqu110 hu11_00
  have hP : va_P D vwCl [((t_q 4), .inl (K 0, 12, .inl (fun j => iI (t_4_c j)))), ((a1_q 12), .inl (K 0, 24, .inl (fun j => iI (a1_12_c j)))), ((a2_q 3), .inl (K 0, 24, .inl (fun j => iI (a2_3_c j)))), ((a1_q 13), .inl (K 0, 24, .inl (fun j => iI (a1_13_c j)))), ((t_q 3), .inl (K 0, 24, .inl (fun j => iI (t_3_c j)))), (t, .inr (10, oX10 t_q a1_x4 (u11a 0) t_x6)), ((t_q 2), .inl (K 0, 12, .inl (fun j => iI ((u11b 0) j)))), (a1, .inr (7, oX7 a1_q a1_x0 a1_x1 a1_x2 a1_x3 a1_x4 a1_x5 a1_x6 a1_x7 a1_x8)), (a2, .inr (5, oX5 a2_q a2_x0)), ((a2_q 1), .inl (K 0, 5, .inl (fun j => iI (a2_1_c j)))), ((a2_q 2), .inl (K 0, 150, .inl (fun j => iI (a2_2_c j))))] H := hP
  have hD : va_D A [((t_q 4), .inl (K 0, 12, .inl (fun j => iI (t_4_c j)))), ((a1_q 12), .inl (K 0, 24, .inl (fun j => iI (a1_12_c j)))), ((a2_q 3), .inl (K 0, 24, .inl (fun j => iI (a2_3_c j)))), ((a1_q 13), .inl (K 0, 24, .inl (fun j => iI (a1_13_c j)))), ((t_q 3), .inl (K 0, 24, .inl (fun j => iI (t_3_c j)))), (t, .inr (10, oX10 t_q a1_x4 (u11a 0) t_x6)), ((t_q 2), .inl (K 0, 12, .inl (fun j => iI ((u11b 0) j)))), (a1, .inr (7, oX7 a1_q a1_x0 a1_x1 a1_x2 a1_x3 a1_x4 a1_x5 a1_x6 a1_x7 a1_x8)), (a2, .inr (5, oX5 a2_q a2_x0)), ((a2_q 1), .inl (K 0, 5, .inl (fun j => iI (a2_1_c j)))), ((a2_q 2), .inl (K 0, 150, .inl (fun j => iI (a2_2_c j))))] := hD
  refine lv_aload_n hx hb dX10_weave_14 rfl (lv_at hl 0 rfl) ?_
  refine va_get (D := D) (own := RX10) (ci := 10) (v := .ref (t_q 4)) (C := RX10) (T := TX10) (N := 7) hx hb hts inb_X10 hown hK.1 hP 5 rfl rfl 4 (by decide) (hts _ wd_236) (fun _ h9 => h9) rfl dX10_weave_15 ?_
  refine lv_iconst (v := iI 0) hx hb dX10_weave_18 rfl ?_
  refine fn_gov (wc := [((t_q 4), .inl (K 0, 12, .inl (fun j => iI (t_4_c j))))]) (wr := [((a1_q 12), .inl (K 0, 24, .inl (fun j => iI (a1_12_c j)))), ((a2_q 3), .inl (K 0, 24, .inl (fun j => iI (a2_3_c j)))), ((a1_q 13), .inl (K 0, 24, .inl (fun j => iI (a1_13_c j)))), ((t_q 3), .inl (K 0, 24, .inl (fun j => iI (t_3_c j)))), (t, .inr (10, oX10 t_q a1_x4 (u11a 0) t_x6)), ((t_q 2), .inl (K 0, 12, .inl (fun j => iI ((u11b 0) j)))), (a1, .inr (7, oX7 a1_q a1_x0 a1_x1 a1_x2 a1_x3 a1_x4 a1_x5 a1_x6 a1_x7 a1_x8)), (a2, .inr (5, oX5 a2_q a2_x0)), ((a2_q 1), .inl (K 0, 5, .inl (fun j => iI (a2_1_c j)))), ((a2_q 2), .inl (K 0, 150, .inl (fun j => iI (a2_2_c j))))]) hK hP hD hS hA [0] [1, 2, 3, 4, 5, 6, 7, 8, 9, 10] rfl rfl (by decide) (fun hp => va_runS (As := [.ref (t_q 4), .int (iI 0)]) (rest := []) ⟨hx, hb, hml, hown, hts⟩ (k_J7_fill_53178 (l := l) (D := D) (K := K) (a1 := (t_q 4)) (p2 := 0) (a1_c := t_4_c) (a1_n := 12) (hp2 := (by omega)) (hn_a1 := (by decide)) (hc_a1 := (fun j => by have h9 := hc_t_4 j; omega)) _) (va_cwS 2 hts (fn_ginS (fn_gin wd_646) wd_644 wd_645 wd_20) rfl rfl rfl (by decide +kernel) ⟨Nat.le_of_ble_eq_true rfl, Nat.le_of_ble_eq_true rfl⟩) ⟨fn_blind, hp⟩ rfl rfl hl.1 rfl (lv_room (Nat.le_of_ble_eq_true rfl)) dX10_weave_19 ⟨Nat.le_of_ble_eq_true rfl, Nat.le_of_ble_eq_true rfl⟩) (fun u19 H locs hwu19 hP hD hS => ?_)
  obtain ⟨u19a, u19b⟩ := u19
  obtain ⟨hqu19_f0, hu19_00, -⟩ := hwu19
  have hqu19_f : ∀ j : Nat, (u19b 0) j = (0 : Int) ∨ (u19b 0) j = t_4_c j := hqu19_f0
  have hu19_0 : ∀ j : Nat, (-2147483648) ≤ (u19b 0) j ∧ (u19b 0) j ≤ 2147483647 := hu19_00
  clear hqu19_f0 hu19_00
  have hu19_0 : ∀ j : Nat, 0 ≤ (u19b 0) j ∧ (u19b 0) j ≤ 4095 := (fun j => by have h9 := hqu19_f j; have h8 := hc_t_4 j; omega)
  have hP : va_P D vwCl [((a1_q 12), .inl (K 0, 24, .inl (fun j => iI (a1_12_c j)))), ((a2_q 3), .inl (K 0, 24, .inl (fun j => iI (a2_3_c j)))), ((a1_q 13), .inl (K 0, 24, .inl (fun j => iI (a1_13_c j)))), ((t_q 3), .inl (K 0, 24, .inl (fun j => iI (t_3_c j)))), (t, .inr (10, oX10 t_q a1_x4 (u11a 0) t_x6)), ((t_q 2), .inl (K 0, 12, .inl (fun j => iI ((u11b 0) j)))), (a1, .inr (7, oX7 a1_q a1_x0 a1_x1 a1_x2 a1_x3 a1_x4 a1_x5 a1_x6 a1_x7 a1_x8)), (a2, .inr (5, oX5 a2_q a2_x0)), ((a2_q 1), .inl (K 0, 5, .inl (fun j => iI (a2_1_c j)))), ((a2_q 2), .inl (K 0, 150, .inl (fun j => iI (a2_2_c j)))), ((t_q 4), .inl (K 0, 12, .inl (fun j => iI ((u19b 0) j))))] H := hP
  have hD : va_D A [((a1_q 12), .inl (K 0, 24, .inl (fun j => iI (a1_12_c j)))), ((a2_q 3), .inl (K 0, 24, .inl (fun j => iI (a2_3_c j)))), ((a1_q 13), .inl (K 0, 24, .inl (fun j => iI (a1_13_c j)))), ((t_q 3), .inl (K 0, 24, .inl (fun j => iI (t_3_c j)))), (t, .inr (10, oX10 t_q a1_x4 (u11a 0) t_x6)), ((t_q 2), .inl (K 0, 12, .inl (fun j => iI ((u11b 0) j)))), (a1, .inr (7, oX7 a1_q a1_x0 a1_x1 a1_x2 a1_x3 a1_x4 a1_x5 a1_x6 a1_x7 a1_x8)), (a2, .inr (5, oX5 a2_q a2_x0)), ((a2_q 1), .inl (K 0, 5, .inl (fun j => iI (a2_1_c j)))), ((a2_q 2), .inl (K 0, 150, .inl (fun j => iI (a2_2_c j)))), ((t_q 4), .inl (K 0, 12, .inl (fun j => iI ((u19b 0) j))))] := hD
  refine lv_iconst (v := iI 0) hx hb dX10_weave_22 rfl ?_
  refine lv_istore (lv' := [(4, .int (iI 0)), (0, .ref t), (1, .ref a1), (2, .ref a2), (3, .int (iI p3))]) hx hb dX10_weave_23 hl (by decide) rfl (fun ls hl => ?_)
  exact J25 _ 0 (u11a 0) (u11b 0) (u19b 0) t_3_c _ _ ls (Nat.lt_succ_self _) (by omega) hu11_0 hu19_0 hc_t_3 (hP.sub [6, 4, 5, 7, 8, 9, 10, 0, 1, 2, 3] rfl) (hD.sub [6, 4, 5, 7, 8, 9, 10, 0, 1, 2, 3] (by decide) rfl) hS (lv_sub hl [1, 2, 3, 4, 0] rfl)
theorem wd_238 : Cond.fieldLink "FootNotes$Web" 21 "FootNotes$Web" "steps" "[I" ∈ fn_big := fn_tb (fn_l1 (List.mem_of_getElem? (i := 238) (by decide +kernel))) (by decide +kernel)
theorem wd_240 : Cond.fieldLink "FootNotes$Web" 71 "FootNotes$Web" "reached" "I" ∈ fn_big := fn_tb (fn_l2 (List.mem_of_getElem? (i := 0) (by decide +kernel))) (by decide +kernel)
theorem dX10_walkFrom_79 : decode cX10_walkFrom 79 = .ok (.iinc 5 1, 3) := by decide +kernel
theorem dX10_walkFrom_82 : decode cX10_walkFrom 82 = .ok (.goto (-42), 3) := by decide +kernel
theorem dX10_walkFrom_40 : decode cX10_walkFrom 40 = .ok (.iload 5, 2) := by decide +kernel
theorem dX10_walkFrom_42 : decode cX10_walkFrom 42 = .ok (.aload_n 0, 1) := by decide +kernel
theorem dX10_walkFrom_43 : decode cX10_walkFrom 43 = .ok (.getfield 30, 3) := by decide +kernel
theorem dX10_walkFrom_46 : decode cX10_walkFrom 46 = .ok (.if_icmp .ge 39, 3) := by decide +kernel
theorem dX10_walkFrom_85 : decode cX10_walkFrom 85 = .ok (.aload_n 0, 1) := by decide +kernel
theorem dX10_walkFrom_86 : decode cX10_walkFrom 86 = .ok (.dup, 1) := by decide +kernel
theorem dX10_walkFrom_87 : decode cX10_walkFrom 87 = .ok (.getfield 71, 3) := by decide +kernel
theorem dX10_walkFrom_90 : decode cX10_walkFrom 90 = .ok (.iload_n 2, 1) := by decide +kernel
theorem dX10_walkFrom_91 : decode cX10_walkFrom 91 = .ok (.ior, 1) := by decide +kernel
theorem dX10_walkFrom_92 : decode cX10_walkFrom 92 = .ok (.putfield 71, 3) := by decide +kernel
theorem dX10_walkFrom_95 : decode cX10_walkFrom 95 = .ok (.iload 4, 2) := by decide +kernel
theorem dX10_walkFrom_97 : decode cX10_walkFrom 97 = .ok (.aload_n 0, 1) := by decide +kernel
theorem dX10_walkFrom_98 : decode cX10_walkFrom 98 = .ok (.getfield 71, 3) := by decide +kernel
theorem dX10_walkFrom_101 : decode cX10_walkFrom 101 = .ok (.iconst (-1), 1) := by decide +kernel
theorem dX10_walkFrom_102 : decode cX10_walkFrom 102 = .ok (.ixor, 1) := by decide +kernel
theorem dX10_walkFrom_103 : decode cX10_walkFrom 103 = .ok (.iand, 1) := by decide +kernel
theorem dX10_walkFrom_104 : decode cX10_walkFrom 104 = .ok (.istore_n 2, 1) := by decide +kernel
theorem dX10_walkFrom_105 : decode cX10_walkFrom 105 = .ok (.iinc 3 1, 3) := by decide +kernel
theorem dX10_walkFrom_108 : decode cX10_walkFrom 108 = .ok (.goto (-86), 3) := by decide +kernel
theorem dX10_walkFrom_49 : decode cX10_walkFrom 49 = .ok (.iload_n 2, 1) := by decide +kernel
theorem dX10_walkFrom_50 : decode cX10_walkFrom 50 = .ok (.iload 5, 2) := by decide +kernel
theorem dX10_walkFrom_52 : decode cX10_walkFrom 52 = .ok (.ishr, 1) := by decide +kernel
theorem dX10_walkFrom_53 : decode cX10_walkFrom 53 = .ok (.iconst 1, 1) := by decide +kernel
theorem dX10_walkFrom_54 : decode cX10_walkFrom 54 = .ok (.iand, 1) := by decide +kernel
theorem dX10_walkFrom_55 : decode cX10_walkFrom 55 = .ok (.iconst 1, 1) := by decide +kernel
theorem dX10_walkFrom_56 : decode cX10_walkFrom 56 = .ok (.if_icmp .ne 23, 3) := by decide +kernel
theorem dX10_walkFrom_59 : decode cX10_walkFrom 59 = .ok (.aload_n 0, 1) := by decide +kernel
theorem dX10_walkFrom_60 : decode cX10_walkFrom 60 = .ok (.getfield 21, 3) := by decide +kernel
theorem dX10_walkFrom_63 : decode cX10_walkFrom 63 = .ok (.iload 5, 2) := by decide +kernel
theorem dX10_walkFrom_65 : decode cX10_walkFrom 65 = .ok (.iload_n 3, 1) := by decide +kernel
theorem dX10_walkFrom_66 : decode cX10_walkFrom 66 = .ok (.iastore, 1) := by decide +kernel
theorem dX10_walkFrom_67 : decode cX10_walkFrom 67 = .ok (.iload 4, 2) := by decide +kernel
theorem dX10_walkFrom_69 : decode cX10_walkFrom 69 = .ok (.aload_n 0, 1) := by decide +kernel
theorem dX10_walkFrom_70 : decode cX10_walkFrom 70 = .ok (.getfield 18, 3) := by decide +kernel
theorem dX10_walkFrom_73 : decode cX10_walkFrom 73 = .ok (.iload 5, 2) := by decide +kernel
theorem dX10_walkFrom_75 : decode cX10_walkFrom 75 = .ok (.iaload, 1) := by decide +kernel
theorem dX10_walkFrom_76 : decode cX10_walkFrom 76 = .ok (.ior, 1) := by decide +kernel
theorem dX10_walkFrom_77 : decode cX10_walkFrom 77 = .ok (.istore 4, 2) := by decide +kernel
theorem dX10_walkFrom_22 : decode cX10_walkFrom 22 = .ok (.iload_n 3, 1) := by decide +kernel
theorem dX10_walkFrom_23 : decode cX10_walkFrom 23 = .ok (.aload_n 0, 1) := by decide +kernel
theorem dX10_walkFrom_24 : decode cX10_walkFrom 24 = .ok (.getfield 30, 3) := by decide +kernel
theorem dX10_walkFrom_27 : decode cX10_walkFrom 27 = .ok (.if_icmp .gt 84, 3) := by decide +kernel
theorem dX10_walkFrom_111 : decode cX10_walkFrom 111 = .ok (.return_, 1) := by decide +kernel
theorem dX10_walkFrom_30 : decode cX10_walkFrom 30 = .ok (.iload_n 2, 1) := by decide +kernel
theorem dX10_walkFrom_31 : decode cX10_walkFrom 31 = .ok (.ifCond .eq 80, 3) := by decide +kernel
theorem dX10_walkFrom_34 : decode cX10_walkFrom 34 = .ok (.iconst 0, 1) := by decide +kernel
theorem dX10_walkFrom_35 : decode cX10_walkFrom 35 = .ok (.istore 4, 2) := by decide +kernel
theorem dX10_walkFrom_37 : decode cX10_walkFrom 37 = .ok (.iconst 0, 1) := by decide +kernel
theorem dX10_walkFrom_38 : decode cX10_walkFrom 38 = .ok (.istore 5, 2) := by decide +kernel
theorem dX10_walkFrom_0 : decode cX10_walkFrom 0 = .ok (.aload_n 0, 1) := by decide +kernel
theorem dX10_walkFrom_1 : decode cX10_walkFrom 1 = .ok (.getfield 21, 3) := by decide +kernel
theorem dX10_walkFrom_4 : decode cX10_walkFrom 4 = .ok (.iconst (-1), 1) := by decide +kernel
theorem dX10_walkFrom_5 : decode cX10_walkFrom 5 = .ok (.invokestatic 35, 3) := by decide +kernel
theorem dX10_walkFrom_8 : decode cX10_walkFrom 8 = .ok (.aload_n 0, 1) := by decide +kernel
theorem dX10_walkFrom_9 : decode cX10_walkFrom 9 = .ok (.iconst 0, 1) := by decide +kernel
theorem dX10_walkFrom_10 : decode cX10_walkFrom 10 = .ok (.putfield 71, 3) := by decide +kernel
theorem dX10_walkFrom_13 : decode cX10_walkFrom 13 = .ok (.aload_n 0, 1) := by decide +kernel
theorem dX10_walkFrom_14 : decode cX10_walkFrom 14 = .ok (.getfield 18, 3) := by decide +kernel
theorem dX10_walkFrom_17 : decode cX10_walkFrom 17 = .ok (.iload_n 1, 1) := by decide +kernel
theorem dX10_walkFrom_18 : decode cX10_walkFrom 18 = .ok (.iaload, 1) := by decide +kernel
theorem dX10_walkFrom_19 : decode cX10_walkFrom 19 = .ok (.istore_n 2, 1) := by decide +kernel
theorem dX10_walkFrom_20 : decode cX10_walkFrom 20 = .ok (.iconst 1, 1) := by decide +kernel
theorem dX10_walkFrom_21 : decode cX10_walkFrom 21 = .ok (.istore_n 3, 1) := by decide +kernel
set_option maxHeartbeats 4000000 in
set_option maxRecDepth 100000 in
theorem k_X10_walkFrom (l : Launch) (D : va_G) (K : Nat → ClassId) (t : Nat) (t_q : Nat → Nat) (p1 t_x0 t_x1 t_x6 : Int) (t_5_c : Nat → Int) (t_4_c : Nat → Int) (hp1 : 0 ≤ p1 ∧ p1 ≤ 11) (hi_t : bX10 t_x0 t_x1 t_x6) (hc_t_5 : ∀ j : Nat, (-1) ≤ t_5_c j ∧ t_5_c j ≤ 12) (hc_t_4 : ∀ j : Nat, 0 ≤ t_4_c j ∧ t_4_c j ≤ 4095) : fn_CV (S := (Nat → Int) × (Nat → Nat → Int)) l D K yX10_walkFrom (fn_ws yX10_walkFrom cX10_walkFrom 6 none) ({ frames := 8, cells := 0, slots := 0, locals := 200 } : Room) [.ref t, .int (iI p1)] [(t, .inr (10, oX10 t_q t_x0 t_x1 t_x6)), ((t_q 5), .inl (K 0, 12, .inl (fun j => iI (t_5_c j)))), ((t_q 4), .inl (K 0, 12, .inl (fun j => iI (t_4_c j))))] (fun u => (0 ≤ (u.1 0) ∧ (u.1 0) ≤ 4095) ∧ (∀ j : Nat, (-1) ≤ (u.2 0) j ∧ (u.2 0) j ≤ 12) ∧ True) (fun u => [(t, .inr (10, oX10 t_q t_x0 t_x1 (u.1 0))), ((t_q 5), .inl (K 0, 12, .inl (fun j => iI ((u.2 0) j)))), ((t_q 4), .inl (K 0, 12, .inl (fun j => iI (t_4_c j))))]) 0 0 := by
  refine g_inV (cc := cX10_walkFrom) (maxL := 6) (ret := none) (by decide) rfl (Nat.le_of_ble_eq_true rfl) ?_
  intro p e s m below meth c A ls ag Q B hA hP hD hS hl hQ
  obtain ⟨hx, hb, hr, hml, hts, hown, hlocks, hin, hK⟩ := B
  have hown : s.vm.findClass RX10 = some m.cls := hown
  have hts := fun w h => hts w (List.mem_cons_of_mem _ h)
  have J22 : ∀ (n : Nat) (x22_2 : Int) (x22_3 : Int) (f22_t_6 : Int) (c22_t_5 : Nat → Int) (H : Heap) (locs : List Loc) (ls : Array Slot), (15 - x22_3).toNat < n → (0 ≤ x22_2 ∧ x22_2 ≤ 4095 ∧ 1 ≤ x22_3 ∧ x22_3 ≤ 15 ∧ 0 ≤ f22_t_6 ∧ f22_t_6 ≤ 4095) → (∀ j : Nat, (-1) ≤ c22_t_5 j ∧ c22_t_5 j ≤ 12) → va_P D vwCl [(t, .inr (10, oX10 t_q t_x0 t_x1 f22_t_6)), ((t_q 5), .inl (K 0, 12, .inl (fun j => iI (c22_t_5 j)))), ((t_q 4), .inl (K 0, 12, .inl (fun j => iI (t_4_c j))))] H → va_D A [(t, .inr (10, oX10 t_q t_x0 t_x1 f22_t_6)), ((t_q 5), .inl (K 0, 12, .inl (fun j => iI (c22_t_5 j)))), ((t_q 4), .inl (K 0, 12, .inl (fun j => iI (t_4_c j))))] → va_S A s.heap H locs → lv_has ls 6 [(0, .ref t), (1, .int (iI p1)), (2, .int (iI x22_2)), (3, .int (iI x22_3))] → W p l e ({ frames := 8, cells := 0, slots := 0, locals := 200 } : Room) s m ag below meth c H locs 0 0 Q (F0 m 22 ls []) := by
    intro n
    induction n with
    | zero =>
      intro x22_2 x22_3 f22_t_6 c22_t_5 H locs ls hm22 hf22 hc22_t_5 hP hD hS hl
      exact absurd hm22 (Nat.not_lt_zero _)
    | succ n ih22 =>
      intro x22_2 x22_3 f22_t_6 c22_t_5 H locs ls hm22 hf22 hc22_t_5 hP hD hS hl
      have J40 : ∀ (n : Nat) (x40_4 : Int) (x40_5 : Int) (c40_t_5 : Nat → Int) (H : Heap) (locs : List Loc) (ls : Array Slot), (12 - x40_5).toNat < n → (1 ≤ x22_2 ∧ x22_2 ≤ 4095 ∧ 1 ≤ x22_3 ∧ x22_3 ≤ 12 ∧ 0 ≤ x40_4 ∧ x40_4 ≤ 4095 ∧ 0 ≤ x40_5 ∧ x40_5 ≤ 12 ∧ 1 ≤ t_x0 ∧ t_x0 ≤ 12) → (∀ j : Nat, (-1) ≤ c40_t_5 j ∧ c40_t_5 j ≤ 12) → va_P D vwCl [(t, .inr (10, oX10 t_q t_x0 t_x1 f22_t_6)), ((t_q 5), .inl (K 0, 12, .inl (fun j => iI (c40_t_5 j)))), ((t_q 4), .inl (K 0, 12, .inl (fun j => iI (t_4_c j))))] H → va_D A [(t, .inr (10, oX10 t_q t_x0 t_x1 f22_t_6)), ((t_q 5), .inl (K 0, 12, .inl (fun j => iI (c40_t_5 j)))), ((t_q 4), .inl (K 0, 12, .inl (fun j => iI (t_4_c j))))] → va_S A s.heap H locs → lv_has ls 6 [(0, .ref t), (1, .int (iI p1)), (2, .int (iI x22_2)), (3, .int (iI x22_3)), (4, .int (iI x40_4)), (5, .int (iI x40_5))] → W p l e ({ frames := 8, cells := 0, slots := 0, locals := 200 } : Room) s m ag below meth c H locs 0 0 Q (F0 m 40 ls []) := by
        intro n
        induction n with
        | zero =>
          intro x40_4 x40_5 c40_t_5 H locs ls hm40 hf40 hc40_t_5 hP hD hS hl
          exact absurd hm40 (Nat.not_lt_zero _)
        | succ n ih40 =>
          intro x40_4 x40_5 c40_t_5 H locs ls hm40 hf40 hc40_t_5 hP hD hS hl
          have J79 : ∀ (x79_4 : Int) (c79_t_5 : Nat → Int) (H : Heap) (locs : List Loc) (ls : Array Slot), (1 ≤ x22_2 ∧ x22_2 ≤ 4095 ∧ 1 ≤ x22_3 ∧ x22_3 ≤ 12 ∧ 0 ≤ x79_4 ∧ x79_4 ≤ 4095 ∧ 0 ≤ x40_5 ∧ x40_5 ≤ 11 ∧ 1 ≤ t_x0 ∧ t_x0 ≤ 12) → (∀ j : Nat, (-1) ≤ c79_t_5 j ∧ c79_t_5 j ≤ 12) → va_P D vwCl [(t, .inr (10, oX10 t_q t_x0 t_x1 f22_t_6)), ((t_q 5), .inl (K 0, 12, .inl (fun j => iI (c79_t_5 j)))), ((t_q 4), .inl (K 0, 12, .inl (fun j => iI (t_4_c j))))] H → va_D A [(t, .inr (10, oX10 t_q t_x0 t_x1 f22_t_6)), ((t_q 5), .inl (K 0, 12, .inl (fun j => iI (c79_t_5 j)))), ((t_q 4), .inl (K 0, 12, .inl (fun j => iI (t_4_c j))))] → va_S A s.heap H locs → lv_has ls 6 [(0, .ref t), (1, .int (iI p1)), (2, .int (iI x22_2)), (3, .int (iI x22_3)), (4, .int (iI x79_4)), (5, .int (iI x40_5))] → W p l e ({ frames := 8, cells := 0, slots := 0, locals := 200 } : Room) s m ag below meth c H locs 0 0 Q (F0 m 79 ls []) := by
            intro x79_4 c79_t_5 H locs ls hf79 hc79_t_5 hP hD hS hl
            refine lv_iinc (v := iI (x40_5 + 1)) (lv' := [(5, .int (iI (x40_5 + 1))), (0, .ref t), (1, .int (iI p1)), (2, .int (iI x22_2)), (3, .int (iI x22_3)), (4, .int (iI x79_4))]) hx hb dX10_walkFrom_79 hl (k := 5) rfl (iI_add _ _) (by decide) rfl (fun ls hl => ?_)
            refine lv_goto (tgt := 40) hx hb dX10_walkFrom_82 (by decide) ?_
            exact ih40 x79_4 (x40_5 + 1) c79_t_5 _ _ ls (by omega) (by omega) hc79_t_5 (hP.sub [0, 1, 2] rfl) (hD.sub [0, 1, 2] (by decide) rfl) hS (lv_sub hl [1, 2, 3, 4, 5, 0] rfl)
          refine lv_iload hx hb dX10_walkFrom_40 (lv_at hl 5 rfl) ?_
          refine lv_aload_n hx hb dX10_walkFrom_42 rfl (lv_at hl 0 rfl) ?_
          refine va_get (D := D) (own := RX10) (ci := 10) (v := .int (iI t_x0)) (C := RX10) (T := TX10) (N := 7) hx hb hts inb_X10 hown hK.1 hP 0 rfl rfl 0 (by decide) (hts _ wd_225) (fun _ h9 => h9) rfl dX10_walkFrom_43 ?_
          have y43_1 : 0 ≤ t_x0 ∧ t_x0 ≤ 12 := hi_t.1
          refine g_icmp_ge (tgt := 85) hx hb (by omega) (by omega) dX10_walkFrom_46 (by decide) (fun c46 => ?_) (fun c46 => ?_)
          · refine lv_aload_n hx hb dX10_walkFrom_85 rfl (lv_at hl 0 rfl) ?_
            refine lv_dup hx hb dX10_walkFrom_86 rfl ?_
            refine va_get (D := D) (own := RX10) (ci := 10) (v := .int (iI f22_t_6)) (C := RX10) (T := TX10) (N := 7) hx hb hts inb_X10 hown hK.1 hP 0 rfl rfl 6 (by decide) (hts _ wd_240) (fun _ h9 => h9) rfl dX10_walkFrom_87 ?_
            refine lv_iload_n hx hb dX10_walkFrom_90 rfl (lv_at hl 2 rfl) ?_
            refine lv_ior hx hb dX10_walkFrom_91 ?_
            obtain ⟨w91, ew91, hw91⟩ := iI_or 12 f22_t_6 x22_2 (by omega) (by omega) (by decide)
            refine fn_top (iI w91) ew91 ?_
            refine va_put (D := D) (own := RX10) (ci := 10) (v := .int (iI w91)) (ty := .int) (C := RX10) (T := TX10) (N := 7) hx hb hts inb_X10 tyX10 tyX10_ok nmX10 hown hK.1 hP hD hS 0 rfl rfl 6 (by decide) (hts _ wd_240) (fun _ h9 => h9) rfl (by decide +kernel) rfl rfl (Nat.le_of_ble_eq_true rfl) dX10_walkFrom_92 (fun H locs hP hD hS => ?_)
            have hP : va_P D vwCl [(t, .inr (10, oX10 t_q t_x0 t_x1 w91)), ((t_q 5), .inl (K 0, 12, .inl (fun j => iI (c40_t_5 j)))), ((t_q 4), .inl (K 0, 12, .inl (fun j => iI (t_4_c j))))] H := hP
            have hD : va_D A [(t, .inr (10, oX10 t_q t_x0 t_x1 w91)), ((t_q 5), .inl (K 0, 12, .inl (fun j => iI (c40_t_5 j)))), ((t_q 4), .inl (K 0, 12, .inl (fun j => iI (t_4_c j))))] := hD
            refine lv_iload hx hb dX10_walkFrom_95 (lv_at hl 4 rfl) ?_
            refine lv_aload_n hx hb dX10_walkFrom_97 rfl (lv_at hl 0 rfl) ?_
            refine va_get (D := D) (own := RX10) (ci := 10) (v := .int (iI w91)) (C := RX10) (T := TX10) (N := 7) hx hb hts inb_X10 hown hK.1 hP 0 rfl rfl 6 (by decide) (hts _ wd_240) (fun _ h9 => h9) rfl dX10_walkFrom_98 ?_
            refine lv_iconst (v := iI (-1)) hx hb dX10_walkFrom_101 rfl ?_
            refine lv_ixor hx hb dX10_walkFrom_102 ?_
            obtain ⟨w102, ew102, hw102⟩ := iI_not w91 (by omega)
            refine fn_top (iI w102) ew102 ?_
            refine lv_iand hx hb dX10_walkFrom_103 ?_
            obtain ⟨w103, ew103, hw103⟩ := iI_and2 x40_4 w102 (by omega)
            refine fn_top (iI w103) ew103 ?_
            refine lv_istore_n (lv' := [(2, .int (iI w103)), (0, .ref t), (1, .int (iI p1)), (3, .int (iI x22_3)), (4, .int (iI x40_4)), (5, .int (iI x40_5))]) hx hb dX10_walkFrom_104 rfl hl (by decide) rfl (fun ls hl => ?_)
            refine lv_iinc (v := iI (x22_3 + 1)) (lv' := [(3, .int (iI (x22_3 + 1))), (2, .int (iI w103)), (0, .ref t), (1, .int (iI p1)), (4, .int (iI x40_4)), (5, .int (iI x40_5))]) hx hb dX10_walkFrom_105 hl (k := 3) rfl (iI_add _ _) (by decide) rfl (fun ls hl => ?_)
            refine lv_goto (tgt := 22) hx hb dX10_walkFrom_108 (by decide) ?_
            exact ih22 w103 (x22_3 + 1) w91 c40_t_5 _ _ ls (by omega) (by omega) hc40_t_5 (hP.sub [0, 1, 2] rfl) (hD.sub [0, 1, 2] (by decide) rfl) hS (lv_sub hl [2, 3, 1, 0] rfl)
          · refine lv_iload_n hx hb dX10_walkFrom_49 rfl (lv_at hl 2 rfl) ?_
            refine lv_iload hx hb dX10_walkFrom_50 (lv_at hl 5 rfl) ?_
            refine lv_ishr hx hb dX10_walkFrom_52 ?_
            obtain ⟨w52, ew52, hw52⟩ := iI_shr x22_2 x40_5 (by omega) (by omega)
            refine fn_top (iI w52) ew52 ?_
            refine lv_iconst (v := iI 1) hx hb dX10_walkFrom_53 rfl ?_
            refine lv_iand hx hb dX10_walkFrom_54 ?_
            obtain ⟨w54, ew54, hw54⟩ := iI_and1 w52 (by omega)
            refine fn_top (iI w54) ew54 ?_
            refine lv_iconst (v := iI 1) hx hb dX10_walkFrom_55 rfl ?_
            refine g_icmp_ne (tgt := 79) hx hb (by omega) (by omega) dX10_walkFrom_56 (by decide) (fun c56 => ?_) (fun c56 => ?_)
            · exact J79 x40_4 c40_t_5 _ _ ls (by omega) hc40_t_5 (hP.sub [0, 1, 2] rfl) (hD.sub [0, 1, 2] (by decide) rfl) hS (lv_sub hl [0, 1, 2, 3, 4, 5] rfl)
            · refine lv_aload_n hx hb dX10_walkFrom_59 rfl (lv_at hl 0 rfl) ?_
              refine va_get (D := D) (own := RX10) (ci := 10) (v := .ref (t_q 5)) (C := RX10) (T := TX10) (N := 7) hx hb hts inb_X10 hown hK.1 hP 0 rfl rfl 5 (by decide) (hts _ wd_238) (fun _ h9 => h9) rfl dX10_walkFrom_60 ?_
              refine lv_iload hx hb dX10_walkFrom_63 (lv_at hl 5 rfl) ?_
              refine lv_iload_n hx hb dX10_walkFrom_65 rfl (lv_at hl 3 rfl) ?_
              refine g_iast hx hb hK.1 hP hD hS 1 0 rfl rfl (by omega) (by omega) (by decide) dX10_walkFrom_66 (fun H locs g66 eg66 hP hD hS => ?_)
              have hg66 : ∀ j : Nat, (-1) ≤ g66 j ∧ g66 j ≤ 12 := by rw [eg66]; exact uI_all hc40_t_5 (by omega)
              have hP : va_P D vwCl [(t, .inr (10, oX10 t_q t_x0 t_x1 f22_t_6)), ((t_q 5), .inl (K 0, 12, .inl (fun j => iI (g66 j)))), ((t_q 4), .inl (K 0, 12, .inl (fun j => iI (t_4_c j))))] H := hP
              have hD : va_D A [(t, .inr (10, oX10 t_q t_x0 t_x1 f22_t_6)), ((t_q 5), .inl (K 0, 12, .inl (fun j => iI (g66 j)))), ((t_q 4), .inl (K 0, 12, .inl (fun j => iI (t_4_c j))))] := hD
              refine lv_iload hx hb dX10_walkFrom_67 (lv_at hl 4 rfl) ?_
              refine lv_aload_n hx hb dX10_walkFrom_69 rfl (lv_at hl 0 rfl) ?_
              refine va_get (D := D) (own := RX10) (ci := 10) (v := .ref (t_q 4)) (C := RX10) (T := TX10) (N := 7) hx hb hts inb_X10 hown hK.1 hP 0 rfl rfl 4 (by decide) (hts _ wd_236) (fun _ h9 => h9) rfl dX10_walkFrom_70 ?_
              refine fn_at 73 rfl ?_
              refine lv_iload hx hb dX10_walkFrom_73 (lv_at hl 5 rfl) ?_
              refine g_iald hx hb hK.1 hP 2 0 rfl rfl (by omega) (by omega) (by decide) dX10_walkFrom_75 ?_
              have y75 : 0 ≤ (t_4_c x40_5.toNat) ∧ (t_4_c x40_5.toNat) ≤ 4095 := hc_t_4 x40_5.toNat
              refine lv_ior hx hb dX10_walkFrom_76 ?_
              obtain ⟨w76, ew76, hw76⟩ := iI_or 12 x40_4 (t_4_c x40_5.toNat) (by omega) (by omega) (by decide)
              refine fn_top (iI w76) ew76 ?_
              refine lv_istore (lv' := [(4, .int (iI w76)), (0, .ref t), (1, .int (iI p1)), (2, .int (iI x22_2)), (3, .int (iI x22_3)), (5, .int (iI x40_5))]) hx hb dX10_walkFrom_77 hl (by decide) rfl (fun ls hl => ?_)
              exact J79 w76 g66 _ _ ls (by omega) hg66 (hP.sub [0, 1, 2] rfl) (hD.sub [0, 1, 2] (by decide) rfl) hS (lv_sub hl [1, 2, 3, 4, 0, 5] rfl)
      refine lv_iload_n hx hb dX10_walkFrom_22 rfl (lv_at hl 3 rfl) ?_
      refine lv_aload_n hx hb dX10_walkFrom_23 rfl (lv_at hl 0 rfl) ?_
      refine va_get (D := D) (own := RX10) (ci := 10) (v := .int (iI t_x0)) (C := RX10) (T := TX10) (N := 7) hx hb hts inb_X10 hown hK.1 hP 0 rfl rfl 0 (by decide) (hts _ wd_225) (fun _ h9 => h9) rfl dX10_walkFrom_24 ?_
      have y24_1 : 0 ≤ t_x0 ∧ t_x0 ≤ 12 := hi_t.1
      refine g_icmp_gt (tgt := 111) hx hb (by omega) (by omega) dX10_walkFrom_27 (by decide) (fun c27 => ?_) (fun c27 => ?_)
      · rw [hQ]; exact fn_vret hx hb hr hlocks hP hD hS ((fun k => ([f22_t_6] : List Int).getD k 0), (fun k => ([c22_t_5] : List (Nat → Int)).getD k (fun _ => 0))) ⟨(by show 0 ≤ f22_t_6 ∧ f22_t_6 ≤ 4095; omega), (hc22_t_5), trivial⟩ [0, 1, 2] (by decide) rfl dX10_walkFrom_111
      · refine lv_iload_n hx hb dX10_walkFrom_30 rfl (lv_at hl 2 rfl) ?_
        refine g_if_eq (tgt := 111) hx hb (by omega) dX10_walkFrom_31 (by decide) (fun c31 => ?_) (fun c31 => ?_)
        · rw [hQ]; exact fn_vret hx hb hr hlocks hP hD hS ((fun k => ([f22_t_6] : List Int).getD k 0), (fun k => ([c22_t_5] : List (Nat → Int)).getD k (fun _ => 0))) ⟨(by show 0 ≤ f22_t_6 ∧ f22_t_6 ≤ 4095; omega), (hc22_t_5), trivial⟩ [0, 1, 2] (by decide) rfl dX10_walkFrom_111
        · refine lv_iconst (v := iI 0) hx hb dX10_walkFrom_34 rfl ?_
          refine lv_istore (lv' := [(4, .int (iI 0)), (0, .ref t), (1, .int (iI p1)), (2, .int (iI x22_2)), (3, .int (iI x22_3))]) hx hb dX10_walkFrom_35 hl (by decide) rfl (fun ls hl => ?_)
          refine lv_iconst (v := iI 0) hx hb dX10_walkFrom_37 rfl ?_
          refine lv_istore (lv' := [(5, .int (iI 0)), (4, .int (iI 0)), (0, .ref t), (1, .int (iI p1)), (2, .int (iI x22_2)), (3, .int (iI x22_3))]) hx hb dX10_walkFrom_38 hl (by decide) rfl (fun ls hl => ?_)
          exact J40 _ 0 0 c22_t_5 _ _ ls (Nat.lt_succ_self _) (by omega) hc22_t_5 (hP.sub [0, 1, 2] rfl) (hD.sub [0, 1, 2] (by decide) rfl) hS (lv_sub hl [2, 3, 4, 5, 1, 0] rfl)
  have hl : lv_has ls 6 [(0, .ref t), (1, .int (iI p1))] := hl
  refine lv_aload_n hx hb dX10_walkFrom_0 rfl (lv_at hl 0 rfl) ?_
  refine va_get (D := D) (own := RX10) (ci := 10) (v := .ref (t_q 5)) (C := RX10) (T := TX10) (N := 7) hx hb hts inb_X10 hown hK.1 hP 0 rfl rfl 5 (by decide) (hts _ wd_238) (fun _ h9 => h9) rfl dX10_walkFrom_1 ?_
  refine lv_iconst (v := iI (-1)) hx hb dX10_walkFrom_4 rfl ?_
  refine fn_gov (wc := [((t_q 5), .inl (K 0, 12, .inl (fun j => iI (t_5_c j))))]) (wr := [(t, .inr (10, oX10 t_q t_x0 t_x1 t_x6)), ((t_q 4), .inl (K 0, 12, .inl (fun j => iI (t_4_c j))))]) hK hP hD hS hA [1] [0, 2] rfl rfl (by decide) (fun hp => va_runS (As := [.ref (t_q 5), .int (iI (-1))]) (rest := []) ⟨hx, hb, hml, hown, hts⟩ (k_J7_fill_53178 (l := l) (D := D) (K := K) (a1 := (t_q 5)) (p2 := (-1)) (a1_c := t_5_c) (a1_n := 12) (hp2 := (by omega)) (hn_a1 := (by decide)) (hc_a1 := (fun j => by have h9 := hc_t_5 j; omega)) _) (va_cwS 2 hts (fn_ginS (fn_gin wd_646) wd_644 wd_645 wd_20) rfl rfl rfl (by decide +kernel) ⟨Nat.le_of_ble_eq_true rfl, Nat.le_of_ble_eq_true rfl⟩) ⟨fn_blind, hp⟩ rfl rfl hl.1 rfl (lv_room (Nat.le_of_ble_eq_true rfl)) dX10_walkFrom_5 ⟨Nat.le_of_ble_eq_true rfl, Nat.le_of_ble_eq_true rfl⟩) (fun u5 H locs hwu5 hP hD hS => ?_)
  obtain ⟨u5a, u5b⟩ := u5
  obtain ⟨hqu5_f0, hu5_00, -⟩ := hwu5
  have hqu5_f : ∀ j : Nat, (u5b 0) j = (-1 : Int) ∨ (u5b 0) j = t_5_c j := hqu5_f0
  have hu5_0 : ∀ j : Nat, (-2147483648) ≤ (u5b 0) j ∧ (u5b 0) j ≤ 2147483647 := hu5_00
  clear hqu5_f0 hu5_00
  have hu5_0 : ∀ j : Nat, (-1) ≤ (u5b 0) j ∧ (u5b 0) j ≤ 12 := (fun j => by have h9 := hqu5_f j; have h8 := hc_t_5 j; omega)
  have hP : va_P D vwCl [(t, .inr (10, oX10 t_q t_x0 t_x1 t_x6)), ((t_q 4), .inl (K 0, 12, .inl (fun j => iI (t_4_c j)))), ((t_q 5), .inl (K 0, 12, .inl (fun j => iI ((u5b 0) j))))] H := hP
  have hD : va_D A [(t, .inr (10, oX10 t_q t_x0 t_x1 t_x6)), ((t_q 4), .inl (K 0, 12, .inl (fun j => iI (t_4_c j)))), ((t_q 5), .inl (K 0, 12, .inl (fun j => iI ((u5b 0) j))))] := hD
  refine lv_aload_n hx hb dX10_walkFrom_8 rfl (lv_at hl 0 rfl) ?_
  refine lv_iconst (v := iI 0) hx hb dX10_walkFrom_9 rfl ?_
  refine va_put (D := D) (own := RX10) (ci := 10) (v := .int (iI 0)) (ty := .int) (C := RX10) (T := TX10) (N := 7) hx hb hts inb_X10 tyX10 tyX10_ok nmX10 hown hK.1 hP hD hS 0 rfl rfl 6 (by decide) (hts _ wd_240) (fun _ h9 => h9) rfl (by decide +kernel) rfl rfl (Nat.le_of_ble_eq_true rfl) dX10_walkFrom_10 (fun H locs hP hD hS => ?_)
  have hP : va_P D vwCl [(t, .inr (10, oX10 t_q t_x0 t_x1 0)), ((t_q 4), .inl (K 0, 12, .inl (fun j => iI (t_4_c j)))), ((t_q 5), .inl (K 0, 12, .inl (fun j => iI ((u5b 0) j))))] H := hP
  have hD : va_D A [(t, .inr (10, oX10 t_q t_x0 t_x1 0)), ((t_q 4), .inl (K 0, 12, .inl (fun j => iI (t_4_c j)))), ((t_q 5), .inl (K 0, 12, .inl (fun j => iI ((u5b 0) j))))] := hD
  refine lv_aload_n hx hb dX10_walkFrom_13 rfl (lv_at hl 0 rfl) ?_
  refine va_get (D := D) (own := RX10) (ci := 10) (v := .ref (t_q 4)) (C := RX10) (T := TX10) (N := 7) hx hb hts inb_X10 hown hK.1 hP 0 rfl rfl 4 (by decide) (hts _ wd_236) (fun _ h9 => h9) rfl dX10_walkFrom_14 ?_
  refine lv_iload_n hx hb dX10_walkFrom_17 rfl (lv_at hl 1 rfl) ?_
  refine g_iald hx hb hK.1 hP 1 0 rfl rfl (by omega) (by omega) (by decide) dX10_walkFrom_18 ?_
  have y18 : 0 ≤ (t_4_c p1.toNat) ∧ (t_4_c p1.toNat) ≤ 4095 := hc_t_4 p1.toNat
  refine lv_istore_n (lv' := [(2, .int (iI (t_4_c p1.toNat))), (0, .ref t), (1, .int (iI p1))]) hx hb dX10_walkFrom_19 rfl hl (by decide) rfl (fun ls hl => ?_)
  refine lv_iconst (v := iI 1) hx hb dX10_walkFrom_20 rfl ?_
  refine lv_istore_n (lv' := [(3, .int (iI 1)), (2, .int (iI (t_4_c p1.toNat))), (0, .ref t), (1, .int (iI p1))]) hx hb dX10_walkFrom_21 rfl hl (by decide) rfl (fun ls hl => ?_)
  exact J22 _ (t_4_c p1.toNat) 1 0 (u5b 0) _ _ ls (Nat.lt_succ_self _) (by omega) hu5_0 (hP.sub [0, 2, 1] rfl) (hD.sub [0, 2, 1] (by decide) rfl) hS (lv_sub hl [2, 3, 1, 0] rfl)
theorem wd_767 : Cond.code ⟨"FootNotes$Web", "walkFrom", "(I)V"⟩ prog_12_method_5_code 6 (Option.none : Option Jvm.ClassFile.FieldType) ∈ fn_big := fn_tb (fn_l4 (List.mem_of_getElem? (i := 47) (by decide +kernel))) (by decide +kernel)
theorem wd_764 : Cond.methodLink "FootNotes$Web" 74 ⟨"FootNotes$Web", "walkFrom", "(I)V"⟩ ∈ fn_big := fn_tb (fn_l4 (List.mem_of_getElem? (i := 44) (by decide +kernel))) (by decide +kernel)
theorem wd_766 : Cond.instanceMethod ⟨"FootNotes$Web", "walkFrom", "(I)V"⟩ ∈ fn_big := fn_tb (fn_l4 (List.mem_of_getElem? (i := 46) (by decide +kernel))) (by decide +kernel)
theorem wp_38 : Cond.selects "FootNotes$Web" ⟨"FootNotes$Web", "walkFrom", "(I)V"⟩ ⟨"FootNotes$Web", "walkFrom", "(I)V"⟩ ∈ fn_big := fn_sel (q := (⟨"FootNotes$Web", "walkFrom", "(I)V"⟩, 7)) 38 (by decide +kernel) (by decide +kernel)
theorem dX10_reachedFrom_0 : decode cX10_reachedFrom 0 = .ok (.aload_n 0, 1) := by decide +kernel
theorem dX10_reachedFrom_1 : decode cX10_reachedFrom 1 = .ok (.iload_n 1, 1) := by decide +kernel
theorem dX10_reachedFrom_2 : decode cX10_reachedFrom 2 = .ok (.invokevirtual 74, 3) := by decide +kernel
theorem dX10_reachedFrom_5 : decode cX10_reachedFrom 5 = .ok (.aload_n 0, 1) := by decide +kernel
theorem dX10_reachedFrom_6 : decode cX10_reachedFrom 6 = .ok (.getfield 71, 3) := by decide +kernel
theorem dX10_reachedFrom_9 : decode cX10_reachedFrom 9 = .ok (.ireturn, 1) := by decide +kernel
set_option maxHeartbeats 4000000 in
set_option maxRecDepth 100000 in
theorem k_X10_reachedFrom (l : Launch) (D : va_G) (K : Nat → ClassId) (t : Nat) (t_q : Nat → Nat) (p1 t_x0 t_x1 t_x6 : Int) (t_5_c : Nat → Int) (t_4_c : Nat → Int) (hp1 : 0 ≤ p1 ∧ p1 ≤ 11) (hi_t : bX10 t_x0 t_x1 t_x6) (hc_t_5 : ∀ j : Nat, (-1) ≤ t_5_c j ∧ t_5_c j ≤ 12) (hc_t_4 : ∀ j : Nat, 0 ≤ t_4_c j ∧ t_4_c j ≤ 4095) : fn_CI (S := (Nat → Int) × (Nat → Nat → Int)) l D K yX10_reachedFrom (fn_ws yX10_reachedFrom cX10_reachedFrom 2 (some .int)) ({ frames := 12, cells := 0, slots := 0, locals := 300 } : Room) [.ref t, .int (iI p1)] [(t, .inr (10, oX10 t_q t_x0 t_x1 t_x6)), ((t_q 5), .inl (K 0, 12, .inl (fun j => iI (t_5_c j)))), ((t_q 4), .inl (K 0, 12, .inl (fun j => iI (t_4_c j))))] (fun r u => ∃ k : Int, r = iI k ∧ (0 ≤ k ∧ k ≤ 4095) ∧ (0 ≤ (u.1 0) ∧ (u.1 0) ≤ 4095) ∧ (∀ j : Nat, (-1) ≤ (u.2 0) j ∧ (u.2 0) j ≤ 12) ∧ True) (fun u => [(t, .inr (10, oX10 t_q t_x0 t_x1 (u.1 0))), ((t_q 5), .inl (K 0, 12, .inl (fun j => iI ((u.2 0) j)))), ((t_q 4), .inl (K 0, 12, .inl (fun j => iI (t_4_c j))))]) 0 0 := by
  refine g_inI (cc := cX10_reachedFrom) (maxL := 2) (ret := (some .int)) (by decide) rfl (Nat.le_of_ble_eq_true rfl) ?_
  intro p e s m below meth c A ls ag Q B hA hP hD hS hl hQ
  obtain ⟨hx, hb, hr, hml, hts, hown, hlocks, hin, hK⟩ := B
  have hown : s.vm.findClass RX10 = some m.cls := hown
  have hts := fun w h => hts w (List.mem_cons_of_mem _ h)
  have hl : lv_has ls 2 [(0, .ref t), (1, .int (iI p1))] := hl
  refine lv_aload_n hx hb dX10_reachedFrom_0 rfl (lv_at hl 0 rfl) ?_
  refine lv_iload_n hx hb dX10_reachedFrom_1 rfl (lv_at hl 1 rfl) ?_
  refine fn_gov (wc := [(t, .inr (10, oX10 t_q t_x0 t_x1 t_x6)), ((t_q 5), .inl (K 0, 12, .inl (fun j => iI (t_5_c j)))), ((t_q 4), .inl (K 0, 12, .inl (fun j => iI (t_4_c j))))]) (wr := []) hK hP hD hS hA [0, 1, 2] [] rfl rfl (by decide) (fun hp => va_runV (C := RX10) (As := [.int (iI p1)]) (rest := []) ⟨hx, hb, hml, hown, hts⟩ (k_X10_walkFrom (l := l) (D := D) (K := K) (t := t) (p1 := p1) (t_q := t_q) (t_x0 := t_x0) (t_x1 := t_x1) (t_x6 := t_x6) (t_5_c := t_5_c) (t_4_c := t_4_c) (hp1 := (by omega)) (hi_t := hi_t) (hc_t_5 := hc_t_5) (hc_t_4 := hc_t_4) _) (cwV 1 hts (fn_ginV (fn_gin wd_767) wd_764 wd_766 wp_38 wd_6) rfl rfl rfl (by decide +kernel) ⟨Nat.le_of_ble_eq_true rfl, Nat.le_of_ble_eq_true rfl⟩) ⟨fn_blind, va_recv hK.1 hP (ci := 10) (q0 := 0) rfl rfl, hp⟩ rfl rfl hl.1 rfl (lv_room (Nat.le_of_ble_eq_true rfl)) dX10_reachedFrom_2 ⟨Nat.le_of_ble_eq_true rfl, Nat.le_of_ble_eq_true rfl⟩) (fun u2 H locs hwu2 hP hD hS => ?_)
  obtain ⟨u2a, u2b⟩ := u2
  obtain ⟨hqu20, hu2_00, -⟩ := hwu2
  have hqu2 : 0 ≤ (u2a 0) ∧ (u2a 0) ≤ 4095 := hqu20
  have hu2_0 : ∀ j : Nat, (-1) ≤ (u2b 0) j ∧ (u2b 0) j ≤ 12 := hu2_00
  clear hqu20 hu2_00
  have hP : va_P D vwCl [(t, .inr (10, oX10 t_q t_x0 t_x1 (u2a 0))), ((t_q 5), .inl (K 0, 12, .inl (fun j => iI ((u2b 0) j)))), ((t_q 4), .inl (K 0, 12, .inl (fun j => iI (t_4_c j))))] H := hP
  have hD : va_D A [(t, .inr (10, oX10 t_q t_x0 t_x1 (u2a 0))), ((t_q 5), .inl (K 0, 12, .inl (fun j => iI ((u2b 0) j)))), ((t_q 4), .inl (K 0, 12, .inl (fun j => iI (t_4_c j))))] := hD
  refine lv_aload_n hx hb dX10_reachedFrom_5 rfl (lv_at hl 0 rfl) ?_
  refine va_get (D := D) (own := RX10) (ci := 10) (v := .int (iI (u2a 0))) (C := RX10) (T := TX10) (N := 7) hx hb hts inb_X10 hown hK.1 hP 0 rfl rfl 6 (by decide) (hts _ wd_240) (fun _ h9 => h9) rfl dX10_reachedFrom_6 ?_
  rw [hQ]; exact fn_iret hx hb hr hlocks rfl hP hD hS ((fun k => ([(u2a 0)] : List Int).getD k 0), (fun k => ([(u2b 0)] : List (Nat → Int)).getD k (fun _ => 0))) ⟨(u2a 0), rfl, by omega, (by show 0 ≤ (u2a 0) ∧ (u2a 0) ≤ 4095; omega), (hu2_0), trivial⟩ [0, 1, 2] (by decide) rfl dX10_reachedFrom_9
theorem dX10_stepsBetween_0 : decode cX10_stepsBetween 0 = .ok (.iload_n 1, 1) := by decide +kernel
theorem dX10_stepsBetween_1 : decode cX10_stepsBetween 1 = .ok (.iload_n 2, 1) := by decide +kernel
theorem dX10_stepsBetween_2 : decode cX10_stepsBetween 2 = .ok (.if_icmp .ne 5, 3) := by decide +kernel
theorem dX10_stepsBetween_7 : decode cX10_stepsBetween 7 = .ok (.aload_n 0, 1) := by decide +kernel
theorem dX10_stepsBetween_8 : decode cX10_stepsBetween 8 = .ok (.iload_n 1, 1) := by decide +kernel
theorem dX10_stepsBetween_9 : decode cX10_stepsBetween 9 = .ok (.invokevirtual 74, 3) := by decide +kernel
theorem dX10_stepsBetween_12 : decode cX10_stepsBetween 12 = .ok (.aload_n 0, 1) := by decide +kernel
theorem dX10_stepsBetween_13 : decode cX10_stepsBetween 13 = .ok (.getfield 21, 3) := by decide +kernel
theorem dX10_stepsBetween_16 : decode cX10_stepsBetween 16 = .ok (.iload_n 2, 1) := by decide +kernel
theorem dX10_stepsBetween_17 : decode cX10_stepsBetween 17 = .ok (.iaload, 1) := by decide +kernel
theorem dX10_stepsBetween_18 : decode cX10_stepsBetween 18 = .ok (.ireturn, 1) := by decide +kernel
theorem dX10_stepsBetween_5 : decode cX10_stepsBetween 5 = .ok (.iconst 0, 1) := by decide +kernel
theorem dX10_stepsBetween_6 : decode cX10_stepsBetween 6 = .ok (.ireturn, 1) := by decide +kernel
set_option maxHeartbeats 4000000 in
set_option maxRecDepth 100000 in
theorem k_X10_stepsBetween (l : Launch) (D : va_G) (K : Nat → ClassId) (t : Nat) (t_q : Nat → Nat) (p1 p2 t_x0 t_x1 t_x6 : Int) (t_5_c : Nat → Int) (t_4_c : Nat → Int) (hp1 : 0 ≤ p1 ∧ p1 ≤ 11) (hp2 : 0 ≤ p2 ∧ p2 ≤ 11) (hi_t : bX10 t_x0 t_x1 t_x6) (hc_t_5 : ∀ j : Nat, (-1) ≤ t_5_c j ∧ t_5_c j ≤ 12) (hc_t_4 : ∀ j : Nat, 0 ≤ t_4_c j ∧ t_4_c j ≤ 4095) : fn_CI (S := (Nat → Int) × (Nat → Nat → Int)) l D K yX10_stepsBetween (fn_ws yX10_stepsBetween cX10_stepsBetween 3 (some .int)) ({ frames := 12, cells := 0, slots := 0, locals := 300 } : Room) [.ref t, .int (iI p1), .int (iI p2)] [(t, .inr (10, oX10 t_q t_x0 t_x1 t_x6)), ((t_q 5), .inl (K 0, 12, .inl (fun j => iI (t_5_c j)))), ((t_q 4), .inl (K 0, 12, .inl (fun j => iI (t_4_c j))))] (fun r u => ∃ k : Int, r = iI k ∧ ((-1) ≤ k ∧ k ≤ 12) ∧ (0 ≤ (u.1 0) ∧ (u.1 0) ≤ 4095) ∧ (∀ j : Nat, (-1) ≤ (u.2 0) j ∧ (u.2 0) j ≤ 12) ∧ True) (fun u => [(t, .inr (10, oX10 t_q t_x0 t_x1 (u.1 0))), ((t_q 5), .inl (K 0, 12, .inl (fun j => iI ((u.2 0) j)))), ((t_q 4), .inl (K 0, 12, .inl (fun j => iI (t_4_c j))))]) 0 0 := by
  refine g_inI (cc := cX10_stepsBetween) (maxL := 3) (ret := (some .int)) (by decide) rfl (Nat.le_of_ble_eq_true rfl) ?_
  intro p e s m below meth c A ls ag Q B hA hP hD hS hl hQ
  obtain ⟨hx, hb, hr, hml, hts, hown, hlocks, hin, hK⟩ := B
  have hown : s.vm.findClass RX10 = some m.cls := hown
  have hts := fun w h => hts w (List.mem_cons_of_mem _ h)
  have hl : lv_has ls 3 [(0, .ref t), (1, .int (iI p1)), (2, .int (iI p2))] := hl
  refine lv_iload_n hx hb dX10_stepsBetween_0 rfl (lv_at hl 1 rfl) ?_
  refine lv_iload_n hx hb dX10_stepsBetween_1 rfl (lv_at hl 2 rfl) ?_
  refine g_icmp_ne (tgt := 7) hx hb (by omega) (by omega) dX10_stepsBetween_2 (by decide) (fun c2 => ?_) (fun c2 => ?_)
  · refine lv_aload_n hx hb dX10_stepsBetween_7 rfl (lv_at hl 0 rfl) ?_
    refine lv_iload_n hx hb dX10_stepsBetween_8 rfl (lv_at hl 1 rfl) ?_
    refine fn_gov (wc := [(t, .inr (10, oX10 t_q t_x0 t_x1 t_x6)), ((t_q 5), .inl (K 0, 12, .inl (fun j => iI (t_5_c j)))), ((t_q 4), .inl (K 0, 12, .inl (fun j => iI (t_4_c j))))]) (wr := []) hK hP hD hS hA [0, 1, 2] [] rfl rfl (by decide) (fun hp => va_runV (C := RX10) (As := [.int (iI p1)]) (rest := []) ⟨hx, hb, hml, hown, hts⟩ (k_X10_walkFrom (l := l) (D := D) (K := K) (t := t) (p1 := p1) (t_q := t_q) (t_x0 := t_x0) (t_x1 := t_x1) (t_x6 := t_x6) (t_5_c := t_5_c) (t_4_c := t_4_c) (hp1 := (by omega)) (hi_t := hi_t) (hc_t_5 := hc_t_5) (hc_t_4 := hc_t_4) _) (cwV 1 hts (fn_ginV (fn_gin wd_767) wd_764 wd_766 wp_38 wd_6) rfl rfl rfl (by decide +kernel) ⟨Nat.le_of_ble_eq_true rfl, Nat.le_of_ble_eq_true rfl⟩) ⟨fn_blind, va_recv hK.1 hP (ci := 10) (q0 := 0) rfl rfl, hp⟩ rfl rfl hl.1 rfl (lv_room (Nat.le_of_ble_eq_true rfl)) dX10_stepsBetween_9 ⟨Nat.le_of_ble_eq_true rfl, Nat.le_of_ble_eq_true rfl⟩) (fun u9 H locs hwu9 hP hD hS => ?_)
    obtain ⟨u9a, u9b⟩ := u9
    obtain ⟨hqu90, hu9_00, -⟩ := hwu9
    have hqu9 : 0 ≤ (u9a 0) ∧ (u9a 0) ≤ 4095 := hqu90
    have hu9_0 : ∀ j : Nat, (-1) ≤ (u9b 0) j ∧ (u9b 0) j ≤ 12 := hu9_00
    clear hqu90 hu9_00
    have hP : va_P D vwCl [(t, .inr (10, oX10 t_q t_x0 t_x1 (u9a 0))), ((t_q 5), .inl (K 0, 12, .inl (fun j => iI ((u9b 0) j)))), ((t_q 4), .inl (K 0, 12, .inl (fun j => iI (t_4_c j))))] H := hP
    have hD : va_D A [(t, .inr (10, oX10 t_q t_x0 t_x1 (u9a 0))), ((t_q 5), .inl (K 0, 12, .inl (fun j => iI ((u9b 0) j)))), ((t_q 4), .inl (K 0, 12, .inl (fun j => iI (t_4_c j))))] := hD
    refine lv_aload_n hx hb dX10_stepsBetween_12 rfl (lv_at hl 0 rfl) ?_
    refine va_get (D := D) (own := RX10) (ci := 10) (v := .ref (t_q 5)) (C := RX10) (T := TX10) (N := 7) hx hb hts inb_X10 hown hK.1 hP 0 rfl rfl 5 (by decide) (hts _ wd_238) (fun _ h9 => h9) rfl dX10_stepsBetween_13 ?_
    refine lv_iload_n hx hb dX10_stepsBetween_16 rfl (lv_at hl 2 rfl) ?_
    refine g_iald hx hb hK.1 hP 1 0 rfl rfl (by omega) (by omega) (by decide) dX10_stepsBetween_17 ?_
    have y17 : (-1) ≤ ((u9b 0) p2.toNat) ∧ ((u9b 0) p2.toNat) ≤ 12 := hu9_0 p2.toNat
    rw [hQ]; exact fn_iret hx hb hr hlocks rfl hP hD hS ((fun k => ([(u9a 0)] : List Int).getD k 0), (fun k => ([(u9b 0)] : List (Nat → Int)).getD k (fun _ => 0))) ⟨(u9b 0) p2.toNat, rfl, by omega, (by show 0 ≤ (u9a 0) ∧ (u9a 0) ≤ 4095; omega), (hu9_0), trivial⟩ [0, 1, 2] (by decide) rfl dX10_stepsBetween_18
  · refine lv_iconst (v := iI 0) hx hb dX10_stepsBetween_5 rfl ?_
    have y6_1 : 0 ≤ t_x6 ∧ t_x6 ≤ 4095 := hi_t.2.2
    rw [hQ]; exact fn_iret hx hb hr hlocks rfl hP hD hS ((fun k => ([t_x6] : List Int).getD k 0), (fun k => ([t_5_c] : List (Nat → Int)).getD k (fun _ => 0))) ⟨0, rfl, by omega, (by show 0 ≤ t_x6 ∧ t_x6 ≤ 4095; omega), (hc_t_5), trivial⟩ [0, 1, 2] (by decide) rfl dX10_stepsBetween_6
theorem wd_811 : Cond.methodLink "FootNotes$Web" 78 ⟨"java/lang/Math", "max", "(II)I"⟩ ∈ fn_big := fn_tb (fn_l4 (List.mem_of_getElem? (i := 91) (by decide +kernel))) (by decide +kernel)
theorem dX10_farthestFrom_9 : decode cX10_farthestFrom 9 = .ok (.iload_n 3, 1) := by decide +kernel
theorem dX10_farthestFrom_10 : decode cX10_farthestFrom 10 = .ok (.aload_n 0, 1) := by decide +kernel
theorem dX10_farthestFrom_11 : decode cX10_farthestFrom 11 = .ok (.getfield 30, 3) := by decide +kernel
theorem dX10_farthestFrom_14 : decode cX10_farthestFrom 14 = .ok (.if_icmp .ge 20, 3) := by decide +kernel
theorem dX10_farthestFrom_34 : decode cX10_farthestFrom 34 = .ok (.iload_n 2, 1) := by decide +kernel
theorem dX10_farthestFrom_35 : decode cX10_farthestFrom 35 = .ok (.ireturn, 1) := by decide +kernel
theorem dX10_farthestFrom_17 : decode cX10_farthestFrom 17 = .ok (.iload_n 2, 1) := by decide +kernel
theorem dX10_farthestFrom_18 : decode cX10_farthestFrom 18 = .ok (.aload_n 0, 1) := by decide +kernel
theorem dX10_farthestFrom_19 : decode cX10_farthestFrom 19 = .ok (.getfield 21, 3) := by decide +kernel
theorem dX10_farthestFrom_22 : decode cX10_farthestFrom 22 = .ok (.iload_n 3, 1) := by decide +kernel
theorem dX10_farthestFrom_23 : decode cX10_farthestFrom 23 = .ok (.iaload, 1) := by decide +kernel
theorem dX10_farthestFrom_24 : decode cX10_farthestFrom 24 = .ok (.invokestatic 78, 3) := by decide +kernel
theorem dX10_farthestFrom_27 : decode cX10_farthestFrom 27 = .ok (.istore_n 2, 1) := by decide +kernel
theorem dX10_farthestFrom_28 : decode cX10_farthestFrom 28 = .ok (.iinc 3 1, 3) := by decide +kernel
theorem dX10_farthestFrom_31 : decode cX10_farthestFrom 31 = .ok (.goto (-22), 3) := by decide +kernel
theorem dX10_farthestFrom_0 : decode cX10_farthestFrom 0 = .ok (.aload_n 0, 1) := by decide +kernel
theorem dX10_farthestFrom_1 : decode cX10_farthestFrom 1 = .ok (.iload_n 1, 1) := by decide +kernel
theorem dX10_farthestFrom_2 : decode cX10_farthestFrom 2 = .ok (.invokevirtual 74, 3) := by decide +kernel
theorem dX10_farthestFrom_5 : decode cX10_farthestFrom 5 = .ok (.iconst 0, 1) := by decide +kernel
theorem dX10_farthestFrom_6 : decode cX10_farthestFrom 6 = .ok (.istore_n 2, 1) := by decide +kernel
theorem dX10_farthestFrom_7 : decode cX10_farthestFrom 7 = .ok (.iconst 0, 1) := by decide +kernel
theorem dX10_farthestFrom_8 : decode cX10_farthestFrom 8 = .ok (.istore_n 3, 1) := by decide +kernel
set_option maxHeartbeats 4000000 in
set_option maxRecDepth 100000 in
theorem k_X10_farthestFrom (l : Launch) (D : va_G) (K : Nat → ClassId) (t : Nat) (t_q : Nat → Nat) (p1 t_x0 t_x1 t_x6 : Int) (t_5_c : Nat → Int) (t_4_c : Nat → Int) (hp1 : 0 ≤ p1 ∧ p1 ≤ 11) (hi_t : bX10 t_x0 t_x1 t_x6) (hc_t_5 : ∀ j : Nat, (-1) ≤ t_5_c j ∧ t_5_c j ≤ 12) (hc_t_4 : ∀ j : Nat, 0 ≤ t_4_c j ∧ t_4_c j ≤ 4095) : fn_CI (S := (Nat → Int) × (Nat → Nat → Int)) l D K yX10_farthestFrom (fn_ws yX10_farthestFrom cX10_farthestFrom 4 (some .int)) ({ frames := 12, cells := 0, slots := 0, locals := 300 } : Room) [.ref t, .int (iI p1)] [(t, .inr (10, oX10 t_q t_x0 t_x1 t_x6)), ((t_q 5), .inl (K 0, 12, .inl (fun j => iI (t_5_c j)))), ((t_q 4), .inl (K 0, 12, .inl (fun j => iI (t_4_c j))))] (fun r u => ∃ k : Int, r = iI k ∧ (0 ≤ k ∧ k ≤ 12) ∧ (0 ≤ (u.1 0) ∧ (u.1 0) ≤ 4095) ∧ (∀ j : Nat, (-1) ≤ (u.2 0) j ∧ (u.2 0) j ≤ 12) ∧ True) (fun u => [(t, .inr (10, oX10 t_q t_x0 t_x1 (u.1 0))), ((t_q 5), .inl (K 0, 12, .inl (fun j => iI ((u.2 0) j)))), ((t_q 4), .inl (K 0, 12, .inl (fun j => iI (t_4_c j))))]) 0 0 := by
  refine g_inI (cc := cX10_farthestFrom) (maxL := 4) (ret := (some .int)) (by decide) rfl (Nat.le_of_ble_eq_true rfl) ?_
  intro p e s m below meth c A ls ag Q B hA hP hD hS hl hQ
  obtain ⟨hx, hb, hr, hml, hts, hown, hlocks, hin, hK⟩ := B
  have hown : s.vm.findClass RX10 = some m.cls := hown
  have hts := fun w h => hts w (List.mem_cons_of_mem _ h)
  have J9 : ∀ (n : Nat) (x9_2 : Int) (x9_3 : Int) (f9_t_6 : Int) (c9_t_5 : Nat → Int) (H : Heap) (locs : List Loc) (ls : Array Slot), (12 - x9_3).toNat < n → (0 ≤ x9_2 ∧ x9_2 ≤ 12 ∧ 0 ≤ x9_3 ∧ x9_3 ≤ 12 ∧ 0 ≤ f9_t_6 ∧ f9_t_6 ≤ 4095) → (∀ j : Nat, (-1) ≤ c9_t_5 j ∧ c9_t_5 j ≤ 12) → va_P D vwCl [(t, .inr (10, oX10 t_q t_x0 t_x1 f9_t_6)), ((t_q 5), .inl (K 0, 12, .inl (fun j => iI (c9_t_5 j)))), ((t_q 4), .inl (K 0, 12, .inl (fun j => iI (t_4_c j))))] H → va_D A [(t, .inr (10, oX10 t_q t_x0 t_x1 f9_t_6)), ((t_q 5), .inl (K 0, 12, .inl (fun j => iI (c9_t_5 j)))), ((t_q 4), .inl (K 0, 12, .inl (fun j => iI (t_4_c j))))] → va_S A s.heap H locs → lv_has ls 4 [(0, .ref t), (1, .int (iI p1)), (2, .int (iI x9_2)), (3, .int (iI x9_3))] → W p l e ({ frames := 12, cells := 0, slots := 0, locals := 300 } : Room) s m ag below meth c H locs 0 0 Q (F0 m 9 ls []) := by
    intro n
    induction n with
    | zero =>
      intro x9_2 x9_3 f9_t_6 c9_t_5 H locs ls hm9 hf9 hc9_t_5 hP hD hS hl
      exact absurd hm9 (Nat.not_lt_zero _)
    | succ n ih9 =>
      intro x9_2 x9_3 f9_t_6 c9_t_5 H locs ls hm9 hf9 hc9_t_5 hP hD hS hl
      refine lv_iload_n hx hb dX10_farthestFrom_9 rfl (lv_at hl 3 rfl) ?_
      refine lv_aload_n hx hb dX10_farthestFrom_10 rfl (lv_at hl 0 rfl) ?_
      refine va_get (D := D) (own := RX10) (ci := 10) (v := .int (iI t_x0)) (C := RX10) (T := TX10) (N := 7) hx hb hts inb_X10 hown hK.1 hP 0 rfl rfl 0 (by decide) (hts _ wd_225) (fun _ h9 => h9) rfl dX10_farthestFrom_11 ?_
      have y11_1 : 0 ≤ t_x0 ∧ t_x0 ≤ 12 := hi_t.1
      refine g_icmp_ge (tgt := 34) hx hb (by omega) (by omega) dX10_farthestFrom_14 (by decide) (fun c14 => ?_) (fun c14 => ?_)
      · refine lv_iload_n hx hb dX10_farthestFrom_34 rfl (lv_at hl 2 rfl) ?_
        rw [hQ]; exact fn_iret hx hb hr hlocks rfl hP hD hS ((fun k => ([f9_t_6] : List Int).getD k 0), (fun k => ([c9_t_5] : List (Nat → Int)).getD k (fun _ => 0))) ⟨x9_2, rfl, by omega, (by show 0 ≤ f9_t_6 ∧ f9_t_6 ≤ 4095; omega), (hc9_t_5), trivial⟩ [0, 1, 2] (by decide) rfl dX10_farthestFrom_35
      · refine lv_iload_n hx hb dX10_farthestFrom_17 rfl (lv_at hl 2 rfl) ?_
        refine lv_aload_n hx hb dX10_farthestFrom_18 rfl (lv_at hl 0 rfl) ?_
        refine va_get (D := D) (own := RX10) (ci := 10) (v := .ref (t_q 5)) (C := RX10) (T := TX10) (N := 7) hx hb hts inb_X10 hown hK.1 hP 0 rfl rfl 5 (by decide) (hts _ wd_238) (fun _ h9 => h9) rfl dX10_farthestFrom_19 ?_
        refine lv_iload_n hx hb dX10_farthestFrom_22 rfl (lv_at hl 3 rfl) ?_
        refine g_iald hx hb hK.1 hP 1 0 rfl rfl (by omega) (by omega) (by decide) dX10_farthestFrom_23 ?_
        have y23 : (-1) ≤ (c9_t_5 x9_3.toNat) ∧ (c9_t_5 x9_3.toNat) ≤ 12 := hc9_t_5 x9_3.toNat
        refine g_mmax (own := RX10) hx hb (hml.trans hl.1.symm) hown (hts _ wd_811) (hts _ wd_812) (hts _ wd_18) (hts _ wd_813) (by omega) (by omega) (Nat.le_of_ble_eq_true rfl) (Nat.le_of_ble_eq_true rfl) (Nat.le_of_ble_eq_true rfl) (Nat.le_of_ble_eq_true rfl) dX10_farthestFrom_24 (fun w24 hw24 => ?_)
        refine lv_istore_n (lv' := [(2, .int (iI w24)), (0, .ref t), (1, .int (iI p1)), (3, .int (iI x9_3))]) hx hb dX10_farthestFrom_27 rfl hl (by decide) rfl (fun ls hl => ?_)
        refine lv_iinc (v := iI (x9_3 + 1)) (lv' := [(3, .int (iI (x9_3 + 1))), (2, .int (iI w24)), (0, .ref t), (1, .int (iI p1))]) hx hb dX10_farthestFrom_28 hl (k := 3) rfl (iI_add _ _) (by decide) rfl (fun ls hl => ?_)
        refine lv_goto (tgt := 9) hx hb dX10_farthestFrom_31 (by decide) ?_
        exact ih9 w24 (x9_3 + 1) f9_t_6 c9_t_5 _ _ ls (by omega) (by omega) hc9_t_5 (hP.sub [0, 1, 2] rfl) (hD.sub [0, 1, 2] (by decide) rfl) hS (lv_sub hl [2, 3, 1, 0] rfl)
  have hl : lv_has ls 4 [(0, .ref t), (1, .int (iI p1))] := hl
  refine lv_aload_n hx hb dX10_farthestFrom_0 rfl (lv_at hl 0 rfl) ?_
  refine lv_iload_n hx hb dX10_farthestFrom_1 rfl (lv_at hl 1 rfl) ?_
  refine fn_gov (wc := [(t, .inr (10, oX10 t_q t_x0 t_x1 t_x6)), ((t_q 5), .inl (K 0, 12, .inl (fun j => iI (t_5_c j)))), ((t_q 4), .inl (K 0, 12, .inl (fun j => iI (t_4_c j))))]) (wr := []) hK hP hD hS hA [0, 1, 2] [] rfl rfl (by decide) (fun hp => va_runV (C := RX10) (As := [.int (iI p1)]) (rest := []) ⟨hx, hb, hml, hown, hts⟩ (k_X10_walkFrom (l := l) (D := D) (K := K) (t := t) (p1 := p1) (t_q := t_q) (t_x0 := t_x0) (t_x1 := t_x1) (t_x6 := t_x6) (t_5_c := t_5_c) (t_4_c := t_4_c) (hp1 := (by omega)) (hi_t := hi_t) (hc_t_5 := hc_t_5) (hc_t_4 := hc_t_4) _) (cwV 1 hts (fn_ginV (fn_gin wd_767) wd_764 wd_766 wp_38 wd_6) rfl rfl rfl (by decide +kernel) ⟨Nat.le_of_ble_eq_true rfl, Nat.le_of_ble_eq_true rfl⟩) ⟨fn_blind, va_recv hK.1 hP (ci := 10) (q0 := 0) rfl rfl, hp⟩ rfl rfl hl.1 rfl (lv_room (Nat.le_of_ble_eq_true rfl)) dX10_farthestFrom_2 ⟨Nat.le_of_ble_eq_true rfl, Nat.le_of_ble_eq_true rfl⟩) (fun u2 H locs hwu2 hP hD hS => ?_)
  obtain ⟨u2a, u2b⟩ := u2
  obtain ⟨hqu20, hu2_00, -⟩ := hwu2
  have hqu2 : 0 ≤ (u2a 0) ∧ (u2a 0) ≤ 4095 := hqu20
  have hu2_0 : ∀ j : Nat, (-1) ≤ (u2b 0) j ∧ (u2b 0) j ≤ 12 := hu2_00
  clear hqu20 hu2_00
  have hP : va_P D vwCl [(t, .inr (10, oX10 t_q t_x0 t_x1 (u2a 0))), ((t_q 5), .inl (K 0, 12, .inl (fun j => iI ((u2b 0) j)))), ((t_q 4), .inl (K 0, 12, .inl (fun j => iI (t_4_c j))))] H := hP
  have hD : va_D A [(t, .inr (10, oX10 t_q t_x0 t_x1 (u2a 0))), ((t_q 5), .inl (K 0, 12, .inl (fun j => iI ((u2b 0) j)))), ((t_q 4), .inl (K 0, 12, .inl (fun j => iI (t_4_c j))))] := hD
  refine lv_iconst (v := iI 0) hx hb dX10_farthestFrom_5 rfl ?_
  refine lv_istore_n (lv' := [(2, .int (iI 0)), (0, .ref t), (1, .int (iI p1))]) hx hb dX10_farthestFrom_6 rfl hl (by decide) rfl (fun ls hl => ?_)
  refine lv_iconst (v := iI 0) hx hb dX10_farthestFrom_7 rfl ?_
  refine lv_istore_n (lv' := [(3, .int (iI 0)), (2, .int (iI 0)), (0, .ref t), (1, .int (iI p1))]) hx hb dX10_farthestFrom_8 rfl hl (by decide) rfl (fun ls hl => ?_)
  exact J9 _ 0 0 (u2a 0) (u2b 0) _ _ ls (Nat.lt_succ_self _) (by omega) hu2_0 (hP.sub [0, 1, 2] rfl) (hD.sub [0, 1, 2] (by decide) rfl) hS (lv_sub hl [2, 3, 1, 0] rfl)
