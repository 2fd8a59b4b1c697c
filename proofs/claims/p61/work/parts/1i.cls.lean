theorem dX11_deepest_48 : decode cX11_deepest 48 = .ok (.iinc 3 1, 3) := by decide +kernel
theorem dX11_deepest_51 : decode cX11_deepest 51 = .ok (.goto (-35), 3) := by decide +kernel
theorem dX11_deepest_16 : decode cX11_deepest 16 = .ok (.iload_n 3, 1) := by decide +kernel
theorem dX11_deepest_17 : decode cX11_deepest 17 = .ok (.aload_n 0, 1) := by decide +kernel
theorem dX11_deepest_18 : decode cX11_deepest 18 = .ok (.getfield 19, 3) := by decide +kernel
theorem dX11_deepest_21 : decode cX11_deepest 21 = .ok (.getfield 218, 3) := by decide +kernel
theorem dX11_deepest_24 : decode cX11_deepest 24 = .ok (.if_icmp .ge 30, 3) := by decide +kernel
theorem dX11_deepest_54 : decode cX11_deepest 54 = .ok (.iload_n 1, 1) := by decide +kernel
theorem dX11_deepest_55 : decode cX11_deepest 55 = .ok (.ireturn, 1) := by decide +kernel
theorem dX11_deepest_27 : decode cX11_deepest 27 = .ok (.aload_n 0, 1) := by decide +kernel
theorem dX11_deepest_28 : decode cX11_deepest 28 = .ok (.getfield 51, 3) := by decide +kernel
theorem dX11_deepest_31 : decode cX11_deepest 31 = .ok (.iload_n 3, 1) := by decide +kernel
theorem dX11_deepest_32 : decode cX11_deepest 32 = .ok (.invokevirtual 236, 3) := by decide +kernel
theorem dX11_deepest_35 : decode cX11_deepest 35 = .ok (.istore 4, 2) := by decide +kernel
theorem dX11_deepest_37 : decode cX11_deepest 37 = .ok (.iload 4, 2) := by decide +kernel
theorem dX11_deepest_39 : decode cX11_deepest 39 = .ok (.iload_n 2, 1) := by decide +kernel
theorem dX11_deepest_40 : decode cX11_deepest 40 = .ok (.if_icmp .le 8, 3) := by decide +kernel
theorem dX11_deepest_43 : decode cX11_deepest 43 = .ok (.iload 4, 2) := by decide +kernel
theorem dX11_deepest_45 : decode cX11_deepest 45 = .ok (.istore_n 2, 1) := by decide +kernel
theorem dX11_deepest_46 : decode cX11_deepest 46 = .ok (.iload_n 3, 1) := by decide +kernel
theorem dX11_deepest_47 : decode cX11_deepest 47 = .ok (.istore_n 1, 1) := by decide +kernel
theorem dX11_deepest_0 : decode cX11_deepest 0 = .ok (.aload_n 0, 1) := by decide +kernel
theorem dX11_deepest_1 : decode cX11_deepest 1 = .ok (.invokevirtual 188, 3) := by decide +kernel
theorem dX11_deepest_4 : decode cX11_deepest 4 = .ok (.ifCond .eq 6, 3) := by decide +kernel
theorem dX11_deepest_10 : decode cX11_deepest 10 = .ok (.iconst (-1), 1) := by decide +kernel
theorem dX11_deepest_11 : decode cX11_deepest 11 = .ok (.istore_n 1, 1) := by decide +kernel
theorem dX11_deepest_12 : decode cX11_deepest 12 = .ok (.iconst 0, 1) := by decide +kernel
theorem dX11_deepest_13 : decode cX11_deepest 13 = .ok (.istore_n 2, 1) := by decide +kernel
theorem dX11_deepest_14 : decode cX11_deepest 14 = .ok (.iconst 0, 1) := by decide +kernel
theorem dX11_deepest_15 : decode cX11_deepest 15 = .ok (.istore_n 3, 1) := by decide +kernel
theorem dX11_deepest_7 : decode cX11_deepest 7 = .ok (.bipush (-2), 2) := by decide +kernel
theorem dX11_deepest_9 : decode cX11_deepest 9 = .ok (.ireturn, 1) := by decide +kernel
set_option maxHeartbeats 4000000 in
set_option maxRecDepth 100000 in
theorem k_X11_deepest (l : Launch) (D : va_G) (K : Nat → ClassId) (t : Nat) (t_q t_1_q t_7_q : Nat → Nat) (t_1_x0 t_1_x1 t_1_x2 t_1_x3 t_1_x4 t_1_x5 t_1_x6 t_1_x7 t_1_x8 t_7_x0 t_7_x1 t_7_x6 : Int) (t_7_5_c : Nat → Int) (t_7_4_c : Nat → Int) (hi_t_1 : bX7 t_1_x0 t_1_x1 t_1_x2 t_1_x3 t_1_x4 t_1_x5 t_1_x6 t_1_x7 t_1_x8) (hi_t_7 : bX10 t_7_x0 t_7_x1 t_7_x6) (hc_t_7_5 : ∀ j : Nat, (-1) ≤ t_7_5_c j ∧ t_7_5_c j ≤ 12) (hc_t_7_4 : ∀ j : Nat, 0 ≤ t_7_4_c j ∧ t_7_4_c j ≤ 4095) : fn_CI (S := (Nat → Int) × (Nat → Nat → Int)) l D K yX11_deepest (fn_ws yX11_deepest cX11_deepest 5 (some .int)) ({ frames := 16, cells := 0, slots := 0, locals := 400 } : Room) [.ref t] [(t, .inr (11, oX11 t_q)), ((t_q 1), .inr (7, oX7 t_1_q t_1_x0 t_1_x1 t_1_x2 t_1_x3 t_1_x4 t_1_x5 t_1_x6 t_1_x7 t_1_x8)), ((t_q 7), .inr (10, oX10 t_7_q t_7_x0 t_7_x1 t_7_x6)), ((t_7_q 5), .inl (K 0, 12, .inl (fun j => iI (t_7_5_c j)))), ((t_7_q 4), .inl (K 0, 12, .inl (fun j => iI (t_7_4_c j))))] (fun r u => ∃ k : Int, r = iI k ∧ ((-2) ≤ k ∧ k ≤ 11) ∧ (0 ≤ (u.1 0) ∧ (u.1 0) ≤ 4095) ∧ (∀ j : Nat, (-1) ≤ (u.2 0) j ∧ (u.2 0) j ≤ 12) ∧ True) (fun u => [(t, .inr (11, oX11 t_q)), ((t_q 1), .inr (7, oX7 t_1_q t_1_x0 t_1_x1 t_1_x2 t_1_x3 t_1_x4 t_1_x5 t_1_x6 t_1_x7 t_1_x8)), ((t_q 7), .inr (10, oX10 t_7_q t_7_x0 t_7_x1 (u.1 0))), ((t_7_q 5), .inl (K 0, 12, .inl (fun j => iI ((u.2 0) j)))), ((t_7_q 4), .inl (K 0, 12, .inl (fun j => iI (t_7_4_c j))))]) 0 0 := by
  refine g_inI (cc := cX11_deepest) (maxL := 5) (ret := (some .int)) (by decide) rfl (Nat.le_of_ble_eq_true rfl) ?_
  intro p e s m below meth c A ls ag Q B hA hP hD hS hl hQ
  obtain ⟨hx, hb, hr, hml, hts, hown, hlocks, hin, hK⟩ := B
  have hown : s.vm.findClass RX11 = some m.cls := hown
  have hts := fun w h => hts w (List.mem_cons_of_mem _ h)
  have J16 : ∀ (n : Nat) (x16_1 : Int) (x16_2 : Int) (x16_3 : Int) (f16_t_7_6 : Int) (c16_t_7_5 : Nat → Int) (H : Heap) (locs : List Loc) (ls : Array Slot), (12 - x16_3).toNat < n → ((-1) ≤ x16_1 ∧ x16_1 ≤ 11 ∧ 0 ≤ x16_2 ∧ x16_2 ≤ 12 ∧ 0 ≤ x16_3 ∧ x16_3 ≤ 12 ∧ 0 ≤ f16_t_7_6 ∧ f16_t_7_6 ≤ 4095) → (∀ j : Nat, (-1) ≤ c16_t_7_5 j ∧ c16_t_7_5 j ≤ 12) → va_P D vwCl [(t, .inr (11, oX11 t_q)), ((t_q 1), .inr (7, oX7 t_1_q t_1_x0 t_1_x1 t_1_x2 t_1_x3 t_1_x4 t_1_x5 t_1_x6 t_1_x7 t_1_x8)), ((t_q 7), .inr (10, oX10 t_7_q t_7_x0 t_7_x1 f16_t_7_6)), ((t_7_q 5), .inl (K 0, 12, .inl (fun j => iI (c16_t_7_5 j)))), ((t_7_q 4), .inl (K 0, 12, .inl (fun j => iI (t_7_4_c j))))] H → va_D A [(t, .inr (11, oX11 t_q)), ((t_q 1), .inr (7, oX7 t_1_q t_1_x0 t_1_x1 t_1_x2 t_1_x3 t_1_x4 t_1_x5 t_1_x6 t_1_x7 t_1_x8)), ((t_q 7), .inr (10, oX10 t_7_q t_7_x0 t_7_x1 f16_t_7_6)), ((t_7_q 5), .inl (K 0, 12, .inl (fun j => iI (c16_t_7_5 j)))), ((t_7_q 4), .inl (K 0, 12, .inl (fun j => iI (t_7_4_c j))))] → va_S A s.heap H locs → lv_has ls 5 [(0, .ref t), (1, .int (iI x16_1)), (2, .int (iI x16_2)), (3, .int (iI x16_3))] → W p l e ({ frames := 16, cells := 0, slots := 0, locals := 400 } : Room) s m ag below meth c H locs 0 0 Q (F0 m 16 ls []) := by
    intro n
    induction n with
    | zero =>
      intro x16_1 x16_2 x16_3 f16_t_7_6 c16_t_7_5 H locs ls hm16 hf16 hc16_t_7_5 hP hD hS hl
      exact absurd hm16 (Nat.not_lt_zero _)
    | succ n ih16 =>
      intro x16_1 x16_2 x16_3 f16_t_7_6 c16_t_7_5 H locs ls hm16 hf16 hc16_t_7_5 hP hD hS hl
      have J48 : ∀ (x48_1 : Int) (x48_2 : Int) (x48_4 : Int) (f48_t_7_6 : Int) (c48_t_7_5 : Nat → Int) (H : Heap) (locs : List Loc) (ls : Array Slot), ((-1) ≤ x48_1 ∧ x48_1 ≤ 11 ∧ 0 ≤ x48_2 ∧ x48_2 ≤ 12 ∧ 0 ≤ x16_3 ∧ x16_3 ≤ 11 ∧ 0 ≤ x48_4 ∧ x48_4 ≤ 12 ∧ 1 ≤ t_1_x4 ∧ t_1_x4 ≤ 12 ∧ 0 ≤ f48_t_7_6 ∧ f48_t_7_6 ≤ 4095) → (∀ j : Nat, (-1) ≤ c48_t_7_5 j ∧ c48_t_7_5 j ≤ 12) → va_P D vwCl [(t, .inr (11, oX11 t_q)), ((t_q 1), .inr (7, oX7 t_1_q t_1_x0 t_1_x1 t_1_x2 t_1_x3 t_1_x4 t_1_x5 t_1_x6 t_1_x7 t_1_x8)), ((t_q 7), .inr (10, oX10 t_7_q t_7_x0 t_7_x1 f48_t_7_6)), ((t_7_q 5), .inl (K 0, 12, .inl (fun j => iI (c48_t_7_5 j)))), ((t_7_q 4), .inl (K 0, 12, .inl (fun j => iI (t_7_4_c j))))] H → va_D A [(t, .inr (11, oX11 t_q)), ((t_q 1), .inr (7, oX7 t_1_q t_1_x0 t_1_x1 t_1_x2 t_1_x3 t_1_x4 t_1_x5 t_1_x6 t_1_x7 t_1_x8)), ((t_q 7), .inr (10, oX10 t_7_q t_7_x0 t_7_x1 f48_t_7_6)), ((t_7_q 5), .inl (K 0, 12, .inl (fun j => iI (c48_t_7_5 j)))), ((t_7_q 4), .inl (K 0, 12, .inl (fun j => iI (t_7_4_c j))))] → va_S A s.heap H locs → lv_has ls 5 [(0, .ref t), (1, .int (iI x48_1)), (2, .int (iI x48_2)), (3, .int (iI x16_3)), (4, .int (iI x48_4))] → W p l e ({ frames := 16, cells := 0, slots := 0, locals := 400 } : Room) s m ag below meth c H locs 0 0 Q (F0 m 48 ls []) := by
        intro x48_1 x48_2 x48_4 f48_t_7_6 c48_t_7_5 H locs ls hf48 hc48_t_7_5 hP hD hS hl
        refine lv_iinc (v := iI (x16_3 + 1)) (lv' := [(3, .int (iI (x16_3 + 1))), (0, .ref t), (1, .int (iI x48_1)), (2, .int (iI x48_2)), (4, .int (iI x48_4))]) hx hb dX11_deepest_48 hl (k := 3) rfl (iI_add _ _) (by decide) rfl (fun ls hl => ?_)
        refine lv_goto (tgt := 16) hx hb dX11_deepest_51 (by decide) ?_
        exact ih16 x48_1 x48_2 (x16_3 + 1) f48_t_7_6 c48_t_7_5 _ _ ls (by omega) (by omega) hc48_t_7_5 (hP.sub [0, 1, 2, 3, 4] rfl) (hD.sub [0, 1, 2, 3, 4] (by decide) rfl) hS (lv_sub hl [1, 2, 3, 0] rfl)
      refine lv_iload_n hx hb dX11_deepest_16 rfl (lv_at hl 3 rfl) ?_
      refine lv_aload_n hx hb dX11_deepest_17 rfl (lv_at hl 0 rfl) ?_
      refine va_get (D := D) (own := RX11) (ci := 11) (v := .ref (t_q 1)) (C := RX11) (T := TX11) (N := 13) hx hb hts inb_X11 hown hK.1 hP 0 rfl rfl 1 (by decide) (hts _ wd_423) (fun _ h9 => h9) rfl dX11_deepest_18 ?_
      refine va_getN (D := D) (own := RX11) (ci := 7) (v := .int (iI t_1_x4)) (C := RX7) (T := TX7) (N := 15) hx hb hts inb_X7 hown hK.1 hP 1 rfl rfl 4 (by decide) (hK.nf 23 rfl) (fun _ h9 => h9) rfl dX11_deepest_21 ?_
      have y21_1 : 0 ≤ t_1_x4 ∧ t_1_x4 ≤ 12 := hi_t_1.2.2.2.2.1
      refine g_icmp_ge (tgt := 54) hx hb (by omega) (by omega) dX11_deepest_24 (by decide) (fun c24 => ?_) (fun c24 => ?_)
      · refine lv_iload_n hx hb dX11_deepest_54 rfl (lv_at hl 1 rfl) ?_
        rw [hQ]; exact fn_iret hx hb hr hlocks rfl hP hD hS ((fun k => ([f16_t_7_6] : List Int).getD k 0), (fun k => ([c16_t_7_5] : List (Nat → Int)).getD k (fun _ => 0))) ⟨x16_1, rfl, by omega, (by show 0 ≤ f16_t_7_6 ∧ f16_t_7_6 ≤ 4095; omega), (hc16_t_7_5), trivial⟩ [0, 1, 2, 3, 4] (by decide) rfl dX11_deepest_55
      · refine lv_aload_n hx hb dX11_deepest_27 rfl (lv_at hl 0 rfl) ?_
        refine va_get (D := D) (own := RX11) (ci := 11) (v := .ref (t_q 7)) (C := RX11) (T := TX11) (N := 13) hx hb hts inb_X11 hown hK.1 hP 0 rfl rfl 7 (by decide) (hts _ wd_429) (fun _ h9 => h9) rfl dX11_deepest_28 ?_
        refine lv_iload_n hx hb dX11_deepest_31 rfl (lv_at hl 3 rfl) ?_
        refine fn_goi (wc := [((t_q 7), .inr (10, oX10 t_7_q t_7_x0 t_7_x1 f16_t_7_6)), ((t_7_q 5), .inl (K 0, 12, .inl (fun j => iI (c16_t_7_5 j)))), ((t_7_q 4), .inl (K 0, 12, .inl (fun j => iI (t_7_4_c j))))]) (wr := [(t, .inr (11, oX11 t_q)), ((t_q 1), .inr (7, oX7 t_1_q t_1_x0 t_1_x1 t_1_x2 t_1_x3 t_1_x4 t_1_x5 t_1_x6 t_1_x7 t_1_x8))]) hK hP hD hS hA [2, 3, 4] [0, 1] rfl rfl (by decide) (fun hp => va_runVN (C := RX10) (As := [.int (iI x16_3)]) (rest := []) ⟨hx, hb, hml, hown, hts⟩ (k_X10_farthestFrom (l := l) (D := D) (K := K) (t := (t_q 7)) (p1 := x16_3) (t_q := t_7_q) (t_x0 := t_7_x0) (t_x1 := t_7_x1) (t_x6 := f16_t_7_6) (t_5_c := c16_t_7_5) (t_4_c := t_7_4_c) (hp1 := (by omega)) (hi_t := ⟨hi_t_7.1, hi_t_7.2.1, (by omega)⟩) (hc_t_5 := hc16_t_7_5) (hc_t_4 := hc_t_7_4) _) ⟨va_cnB (own := RX11) 1 hts (fn_gin wd_810) rfl rfl rfl (hK.nw 123 rfl) (hts _ wd_6) (by decide +kernel) ⟨Nat.le_of_ble_eq_true rfl, Nat.le_of_ble_eq_true rfl⟩, hts _ wd_809, hts _ wp_41⟩ ⟨fn_blind, va_recv hK.1 hP (ci := 10) (q0 := 2) rfl rfl, hp⟩ rfl rfl hl.1 rfl (lv_room (Nat.le_of_ble_eq_true rfl)) dX11_deepest_32 ⟨Nat.le_of_ble_eq_true rfl, Nat.le_of_ble_eq_true rfl⟩) (fun r32 u32 H locs hwu32 hP hD hS => ?_)
        obtain ⟨u32a, u32b⟩ := u32
        obtain ⟨kr32, rfl, hkr32, hqu320, hu32_00, -⟩ := hwu32
        have hqu32 : 0 ≤ (u32a 0) ∧ (u32a 0) ≤ 4095 := hqu320
        have hu32_0 : ∀ j : Nat, (-1) ≤ (u32b 0) j ∧ (u32b 0) j ≤ 12 := hu32_00
        clear hqu320 hu32_00
        have hP : va_P D vwCl [(t, .inr (11, oX11 t_q)), ((t_q 1), .inr (7, oX7 t_1_q t_1_x0 t_1_x1 t_1_x2 t_1_x3 t_1_x4 t_1_x5 t_1_x6 t_1_x7 t_1_x8)), ((t_q 7), .inr (10, oX10 t_7_q t_7_x0 t_7_x1 (u32a 0))), ((t_7_q 5), .inl (K 0, 12, .inl (fun j => iI ((u32b 0) j)))), ((t_7_q 4), .inl (K 0, 12, .inl (fun j => iI (t_7_4_c j))))] H := hP
        have hD : va_D A [(t, .inr (11, oX11 t_q)), ((t_q 1), .inr (7, oX7 t_1_q t_1_x0 t_1_x1 t_1_x2 t_1_x3 t_1_x4 t_1_x5 t_1_x6 t_1_x7 t_1_x8)), ((t_q 7), .inr (10, oX10 t_7_q t_7_x0 t_7_x1 (u32a 0))), ((t_7_q 5), .inl (K 0, 12, .inl (fun j => iI ((u32b 0) j)))), ((t_7_q 4), .inl (K 0, 12, .inl (fun j => iI (t_7_4_c j))))] := hD
        refine lv_istore (lv' := [(4, .int (iI kr32)), (0, .ref t), (1, .int (iI x16_1)), (2, .int (iI x16_2)), (3, .int (iI x16_3))]) hx hb dX11_deepest_35 hl (by decide) rfl (fun ls hl => ?_)
        refine lv_iload hx hb dX11_deepest_37 (lv_at hl 0 rfl) ?_
        refine lv_iload_n hx hb dX11_deepest_39 rfl (lv_at hl 3 rfl) ?_
        refine g_icmp_le (tgt := 48) hx hb (by omega) (by omega) dX11_deepest_40 (by decide) (fun c40 => ?_) (fun c40 => ?_)
        · exact J48 x16_1 x16_2 kr32 (u32a 0) (u32b 0) _ _ ls (by omega) hu32_0 (hP.sub [0, 1, 2, 3, 4] rfl) (hD.sub [0, 1, 2, 3, 4] (by decide) rfl) hS (lv_sub hl [1, 2, 3, 4, 0] rfl)
        · refine lv_iload hx hb dX11_deepest_43 (lv_at hl 0 rfl) ?_
          refine lv_istore_n (lv' := [(2, .int (iI kr32)), (4, .int (iI kr32)), (0, .ref t), (1, .int (iI x16_1)), (3, .int (iI x16_3))]) hx hb dX11_deepest_45 rfl hl (by decide) rfl (fun ls hl => ?_)
          refine lv_iload_n hx hb dX11_deepest_46 rfl (lv_at hl 4 rfl) ?_
          refine lv_istore_n (lv' := [(1, .int (iI x16_3)), (2, .int (iI kr32)), (4, .int (iI kr32)), (0, .ref t), (3, .int (iI x16_3))]) hx hb dX11_deepest_47 rfl hl (by decide) rfl (fun ls hl => ?_)
          exact J48 x16_3 kr32 kr32 (u32a 0) (u32b 0) _ _ ls (by omega) hu32_0 (hP.sub [0, 1, 2, 3, 4] rfl) (hD.sub [0, 1, 2, 3, 4] (by decide) rfl) hS (lv_sub hl [3, 0, 1, 4, 2] rfl)
  have hl : lv_has ls 5 [(0, .ref t)] := hl
  refine lv_aload_n hx hb dX11_deepest_0 rfl (lv_at hl 0 rfl) ?_
  refine fn_goi (wc := [(t, .inr (11, oX11 t_q)), ((t_q 1), .inr (7, oX7 t_1_q t_1_x0 t_1_x1 t_1_x2 t_1_x3 t_1_x4 t_1_x5 t_1_x6 t_1_x7 t_1_x8))]) (wr := [((t_q 7), .inr (10, oX10 t_7_q t_7_x0 t_7_x1 t_7_x6)), ((t_7_q 5), .inl (K 0, 12, .inl (fun j => iI (t_7_5_c j)))), ((t_7_q 4), .inl (K 0, 12, .inl (fun j => iI (t_7_4_c j))))]) hK hP hD hS hA [0, 1] [2, 3, 4] rfl rfl (by decide) (fun hp => va_runV (C := RX11) (As := []) (rest := []) ⟨hx, hb, hml, hown, hts⟩ (k_X11_noTown (l := l) (D := D) (K := K) (t := t) (t_q := t_q) (t_1_q := t_1_q) (t_1_x0 := t_1_x0) (t_1_x1 := t_1_x1) (t_1_x2 := t_1_x2) (t_1_x3 := t_1_x3) (t_1_x4 := t_1_x4) (t_1_x5 := t_1_x5) (t_1_x6 := t_1_x6) (t_1_x7 := t_1_x7) (t_1_x8 := t_1_x8) (hi_t_1 := hi_t_1) _) (cwV 0 hts (fn_ginV (fn_gin wd_709) wd_706 wd_708 wp_30 wd_1) rfl rfl rfl (by decide +kernel) ⟨Nat.le_of_ble_eq_true rfl, Nat.le_of_ble_eq_true rfl⟩) ⟨fn_blind, va_recv hK.1 hP (ci := 11) (q0 := 0) rfl rfl, hp⟩ rfl rfl hl.1 rfl (lv_room (Nat.le_of_ble_eq_true rfl)) dX11_deepest_1 ⟨Nat.le_of_ble_eq_true rfl, Nat.le_of_ble_eq_true rfl⟩) (fun r1 u1 H locs hwu1 hP hD hS => ?_)
  obtain ⟨u1a, u1b⟩ := u1
  obtain ⟨kr1, rfl, hkr1, -⟩ := hwu1
  have hP : va_P D vwCl [((t_q 7), .inr (10, oX10 t_7_q t_7_x0 t_7_x1 t_7_x6)), ((t_7_q 5), .inl (K 0, 12, .inl (fun j => iI (t_7_5_c j)))), ((t_7_q 4), .inl (K 0, 12, .inl (fun j => iI (t_7_4_c j)))), (t, .inr (11, oX11 t_q)), ((t_q 1), .inr (7, oX7 t_1_q t_1_x0 t_1_x1 t_1_x2 t_1_x3 t_1_x4 t_1_x5 t_1_x6 t_1_x7 t_1_x8))] H := hP
  have hD : va_D A [((t_q 7), .inr (10, oX10 t_7_q t_7_x0 t_7_x1 t_7_x6)), ((t_7_q 5), .inl (K 0, 12, .inl (fun j => iI (t_7_5_c j)))), ((t_7_q 4), .inl (K 0, 12, .inl (fun j => iI (t_7_4_c j)))), (t, .inr (11, oX11 t_q)), ((t_q 1), .inr (7, oX7 t_1_q t_1_x0 t_1_x1 t_1_x2 t_1_x3 t_1_x4 t_1_x5 t_1_x6 t_1_x7 t_1_x8))] := hD
  refine g_if_eq (tgt := 10) hx hb (by omega) dX11_deepest_4 (by decide) (fun c4 => ?_) (fun c4 => ?_)
  · refine lv_iconst (v := iI (-1)) hx hb dX11_deepest_10 rfl ?_
    refine lv_istore_n (lv' := [(1, .int (iI (-1))), (0, .ref t)]) hx hb dX11_deepest_11 rfl hl (by decide) rfl (fun ls hl => ?_)
    refine lv_iconst (v := iI 0) hx hb dX11_deepest_12 rfl ?_
    refine lv_istore_n (lv' := [(2, .int (iI 0)), (1, .int (iI (-1))), (0, .ref t)]) hx hb dX11_deepest_13 rfl hl (by decide) rfl (fun ls hl => ?_)
    refine lv_iconst (v := iI 0) hx hb dX11_deepest_14 rfl ?_
    refine lv_istore_n (lv' := [(3, .int (iI 0)), (2, .int (iI 0)), (1, .int (iI (-1))), (0, .ref t)]) hx hb dX11_deepest_15 rfl hl (by decide) rfl (fun ls hl => ?_)
    have y16_1 : 0 ≤ t_7_x6 ∧ t_7_x6 ≤ 4095 := hi_t_7.2.2
    exact J16 _ (-1) 0 0 t_7_x6 t_7_5_c _ _ ls (Nat.lt_succ_self _) (by omega) hc_t_7_5 (hP.sub [3, 4, 0, 1, 2] rfl) (hD.sub [3, 4, 0, 1, 2] (by decide) rfl) hS (lv_sub hl [3, 2, 1, 0] rfl)
  · refine lv_bipush (v := iI (-2)) hx hb dX11_deepest_7 (by decide) ?_
    have y9_1 : 0 ≤ t_7_x6 ∧ t_7_x6 ≤ 4095 := hi_t_7.2.2
    rw [hQ]; exact fn_iret hx hb hr hlocks rfl hP hD hS ((fun k => ([t_7_x6] : List Int).getD k 0), (fun k => ([t_7_5_c] : List (Nat → Int)).getD k (fun _ => 0))) ⟨(-2), rfl, by omega, (by show 0 ≤ t_7_x6 ∧ t_7_x6 ≤ 4095; omega), (hc_t_7_5), trivial⟩ [3, 4, 0, 1, 2] (by decide) rfl dX11_deepest_9
theorem dX11_grounded_0 : decode cX11_grounded 0 = .ok (.aload_n 0, 1) := by decide +kernel
theorem dX11_grounded_1 : decode cX11_grounded 1 = .ok (.invokevirtual 188, 3) := by decide +kernel
theorem dX11_grounded_4 : decode cX11_grounded 4 = .ok (.ifCond .eq 8, 3) := by decide +kernel
theorem dX11_grounded_12 : decode cX11_grounded 12 = .ok (.aload_n 0, 1) := by decide +kernel
theorem dX11_grounded_13 : decode cX11_grounded 13 = .ok (.getfield 51, 3) := by decide +kernel
theorem dX11_grounded_16 : decode cX11_grounded 16 = .ok (.iconst 0, 1) := by decide +kernel
theorem dX11_grounded_17 : decode cX11_grounded 17 = .ok (.invokevirtual 239, 3) := by decide +kernel
theorem dX11_grounded_20 : decode cX11_grounded 20 = .ok (.ireturn, 1) := by decide +kernel
theorem dX11_grounded_7 : decode cX11_grounded 7 = .ok (.bipush (-2), 2) := by decide +kernel
theorem dX11_grounded_9 : decode cX11_grounded 9 = .ok (.goto 11, 3) := by decide +kernel
set_option maxHeartbeats 4000000 in
set_option maxRecDepth 100000 in
theorem k_X11_grounded (l : Launch) (D : va_G) (K : Nat → ClassId) (t : Nat) (t_q t_1_q t_7_q : Nat → Nat) (t_1_x0 t_1_x1 t_1_x2 t_1_x3 t_1_x4 t_1_x5 t_1_x6 t_1_x7 t_1_x8 t_7_x0 t_7_x1 t_7_x6 : Int) (t_7_4_c : Nat → Int) (hi_t_1 : bX7 t_1_x0 t_1_x1 t_1_x2 t_1_x3 t_1_x4 t_1_x5 t_1_x6 t_1_x7 t_1_x8) (hi_t_7 : bX10 t_7_x0 t_7_x1 t_7_x6) (hc_t_7_4 : ∀ j : Nat, 0 ≤ t_7_4_c j ∧ t_7_4_c j ≤ 4095) : fn_CI (S := (Nat → Int) × (Nat → Nat → Int)) l D K yX11_grounded (fn_ws yX11_grounded cX11_grounded 1 (some .int)) ({ frames := 8, cells := 0, slots := 0, locals := 200 } : Room) [.ref t] [(t, .inr (11, oX11 t_q)), ((t_q 1), .inr (7, oX7 t_1_q t_1_x0 t_1_x1 t_1_x2 t_1_x3 t_1_x4 t_1_x5 t_1_x6 t_1_x7 t_1_x8)), ((t_q 7), .inr (10, oX10 t_7_q t_7_x0 t_7_x1 t_7_x6)), ((t_7_q 4), .inl (K 0, 12, .inl (fun j => iI (t_7_4_c j))))] (fun r u => ∃ k : Int, r = iI k ∧ ((-2) ≤ k ∧ k ≤ 4095) ∧ True) (fun u => [(t, .inr (11, oX11 t_q)), ((t_q 1), .inr (7, oX7 t_1_q t_1_x0 t_1_x1 t_1_x2 t_1_x3 t_1_x4 t_1_x5 t_1_x6 t_1_x7 t_1_x8)), ((t_q 7), .inr (10, oX10 t_7_q t_7_x0 t_7_x1 t_7_x6)), ((t_7_q 4), .inl (K 0, 12, .inl (fun j => iI (t_7_4_c j))))]) 0 0 := by
  refine g_inI (cc := cX11_grounded) (maxL := 1) (ret := (some .int)) (by decide) rfl (Nat.le_of_ble_eq_true rfl) ?_
  intro p e s m below meth c A ls ag Q B hA hP hD hS hl hQ
  obtain ⟨hx, hb, hr, hml, hts, hown, hlocks, hin, hK⟩ := B
  have hown : s.vm.findClass RX11 = some m.cls := hown
  have hts := fun w h => hts w (List.mem_cons_of_mem _ h)
  have hl : lv_has ls 1 [(0, .ref t)] := hl
  refine lv_aload_n hx hb dX11_grounded_0 rfl (lv_at hl 0 rfl) ?_
  refine fn_goi (wc := [(t, .inr (11, oX11 t_q)), ((t_q 1), .inr (7, oX7 t_1_q t_1_x0 t_1_x1 t_1_x2 t_1_x3 t_1_x4 t_1_x5 t_1_x6 t_1_x7 t_1_x8))]) (wr := [((t_q 7), .inr (10, oX10 t_7_q t_7_x0 t_7_x1 t_7_x6)), ((t_7_q 4), .inl (K 0, 12, .inl (fun j => iI (t_7_4_c j))))]) hK hP hD hS hA [0, 1] [2, 3] rfl rfl (by decide) (fun hp => va_runV (C := RX11) (As := []) (rest := []) ⟨hx, hb, hml, hown, hts⟩ (k_X11_noTown (l := l) (D := D) (K := K) (t := t) (t_q := t_q) (t_1_q := t_1_q) (t_1_x0 := t_1_x0) (t_1_x1 := t_1_x1) (t_1_x2 := t_1_x2) (t_1_x3 := t_1_x3) (t_1_x4 := t_1_x4) (t_1_x5 := t_1_x5) (t_1_x6 := t_1_x6) (t_1_x7 := t_1_x7) (t_1_x8 := t_1_x8) (hi_t_1 := hi_t_1) _) (cwV 0 hts (fn_ginV (fn_gin wd_709) wd_706 wd_708 wp_30 wd_1) rfl rfl rfl (by decide +kernel) ⟨Nat.le_of_ble_eq_true rfl, Nat.le_of_ble_eq_true rfl⟩) ⟨fn_blind, va_recv hK.1 hP (ci := 11) (q0 := 0) rfl rfl, hp⟩ rfl rfl hl.1 rfl (lv_room (Nat.le_of_ble_eq_true rfl)) dX11_grounded_1 ⟨Nat.le_of_ble_eq_true rfl, Nat.le_of_ble_eq_true rfl⟩) (fun r1 u1 H locs hwu1 hP hD hS => ?_)
  obtain ⟨u1a, u1b⟩ := u1
  obtain ⟨kr1, rfl, hkr1, -⟩ := hwu1
  have hP : va_P D vwCl [((t_q 7), .inr (10, oX10 t_7_q t_7_x0 t_7_x1 t_7_x6)), ((t_7_q 4), .inl (K 0, 12, .inl (fun j => iI (t_7_4_c j)))), (t, .inr (11, oX11 t_q)), ((t_q 1), .inr (7, oX7 t_1_q t_1_x0 t_1_x1 t_1_x2 t_1_x3 t_1_x4 t_1_x5 t_1_x6 t_1_x7 t_1_x8))] H := hP
  have hD : va_D A [((t_q 7), .inr (10, oX10 t_7_q t_7_x0 t_7_x1 t_7_x6)), ((t_7_q 4), .inl (K 0, 12, .inl (fun j => iI (t_7_4_c j)))), (t, .inr (11, oX11 t_q)), ((t_q 1), .inr (7, oX7 t_1_q t_1_x0 t_1_x1 t_1_x2 t_1_x3 t_1_x4 t_1_x5 t_1_x6 t_1_x7 t_1_x8))] := hD
  refine g_if_eq (tgt := 12) hx hb (by omega) dX11_grounded_4 (by decide) (fun c4 => ?_) (fun c4 => ?_)
  · refine lv_aload_n hx hb dX11_grounded_12 rfl (lv_at hl 0 rfl) ?_
    refine va_get (D := D) (own := RX11) (ci := 11) (v := .ref (t_q 7)) (C := RX11) (T := TX11) (N := 13) hx hb hts inb_X11 hown hK.1 hP 2 rfl rfl 7 (by decide) (hts _ wd_429) (fun _ h9 => h9) rfl dX11_grounded_13 ?_
    refine lv_iconst (v := iI 0) hx hb dX11_grounded_16 rfl ?_
    refine fn_goi (wc := [((t_q 7), .inr (10, oX10 t_7_q t_7_x0 t_7_x1 t_7_x6)), ((t_7_q 4), .inl (K 0, 12, .inl (fun j => iI (t_7_4_c j))))]) (wr := [(t, .inr (11, oX11 t_q)), ((t_q 1), .inr (7, oX7 t_1_q t_1_x0 t_1_x1 t_1_x2 t_1_x3 t_1_x4 t_1_x5 t_1_x6 t_1_x7 t_1_x8))]) hK hP hD hS hA [0, 1] [2, 3] rfl rfl (by decide) (fun hp => va_runVN (C := RX10) (As := [.int (iI 0)]) (rest := []) ⟨hx, hb, hml, hown, hts⟩ (k_X10_groundedWithout (l := l) (D := D) (K := K) (t := (t_q 7)) (p1 := 0) (t_q := t_7_q) (t_x0 := t_7_x0) (t_x1 := t_7_x1) (t_x6 := t_7_x6) (t_4_c := t_7_4_c) (hp1 := (by omega)) (hi_t := hi_t_7) (hc_t_4 := hc_t_7_4) _) ⟨va_cnB (own := RX11) 1 hts (fn_gin wd_825) rfl rfl rfl (hK.nw 124 rfl) (hts _ wd_6) (by decide +kernel) ⟨Nat.le_of_ble_eq_true rfl, Nat.le_of_ble_eq_true rfl⟩, hts _ wd_824, hts _ wp_42⟩ ⟨fn_blind, va_recv hK.1 hP (ci := 10) (q0 := 0) rfl rfl, hp⟩ rfl rfl hl.1 rfl (lv_room (Nat.le_of_ble_eq_true rfl)) dX11_grounded_17 ⟨Nat.le_of_ble_eq_true rfl, Nat.le_of_ble_eq_true rfl⟩) (fun r17 u17 H locs hwu17 hP hD hS => ?_)
    obtain ⟨u17a, u17b⟩ := u17
    obtain ⟨kr17, rfl, hkr17, -⟩ := hwu17
    have hP : va_P D vwCl [(t, .inr (11, oX11 t_q)), ((t_q 1), .inr (7, oX7 t_1_q t_1_x0 t_1_x1 t_1_x2 t_1_x3 t_1_x4 t_1_x5 t_1_x6 t_1_x7 t_1_x8)), ((t_q 7), .inr (10, oX10 t_7_q t_7_x0 t_7_x1 t_7_x6)), ((t_7_q 4), .inl (K 0, 12, .inl (fun j => iI (t_7_4_c j))))] H := hP
    have hD : va_D A [(t, .inr (11, oX11 t_q)), ((t_q 1), .inr (7, oX7 t_1_q t_1_x0 t_1_x1 t_1_x2 t_1_x3 t_1_x4 t_1_x5 t_1_x6 t_1_x7 t_1_x8)), ((t_q 7), .inr (10, oX10 t_7_q t_7_x0 t_7_x1 t_7_x6)), ((t_7_q 4), .inl (K 0, 12, .inl (fun j => iI (t_7_4_c j))))] := hD
    rw [hQ]; exact fn_iret hx hb hr hlocks rfl hP hD hS ((fun _ => 0), (fun _ _ => 0)) ⟨kr17, rfl, by omega, trivial⟩ [0, 1, 2, 3] (by decide) rfl dX11_grounded_20
  · refine lv_bipush (v := iI (-2)) hx hb dX11_grounded_7 (by decide) ?_
    refine lv_goto (tgt := 20) hx hb dX11_grounded_9 (by decide) ?_
    rw [hQ]; exact fn_iret hx hb hr hlocks rfl hP hD hS ((fun _ => 0), (fun _ _ => 0)) ⟨(-2), rfl, by omega, trivial⟩ [2, 3, 0, 1] (by decide) rfl dX11_grounded_20
theorem dX11_needs_70 : decode cX11_needs 70 = .ok (.istore 4, 2) := by decide +kernel
theorem dX11_needs_72 : decode cX11_needs 72 = .ok (.iload_n 2, 1) := by decide +kernel
theorem dX11_needs_73 : decode cX11_needs 73 = .ok (.iload 4, 2) := by decide +kernel
theorem dX11_needs_75 : decode cX11_needs 75 = .ok (.invokestatic 195, 3) := by decide +kernel
theorem dX11_needs_78 : decode cX11_needs 78 = .ok (.iload_n 3, 1) := by decide +kernel
theorem dX11_needs_79 : decode cX11_needs 79 = .ok (.ishl, 1) := by decide +kernel
theorem dX11_needs_80 : decode cX11_needs 80 = .ok (.ior, 1) := by decide +kernel
theorem dX11_needs_81 : decode cX11_needs 81 = .ok (.istore_n 2, 1) := by decide +kernel
theorem dX11_needs_82 : decode cX11_needs 82 = .ok (.iinc 3 1, 3) := by decide +kernel
theorem dX11_needs_85 : decode cX11_needs 85 = .ok (.goto (-48), 3) := by decide +kernel
theorem dX11_needs_37 : decode cX11_needs 37 = .ok (.iload_n 3, 1) := by decide +kernel
theorem dX11_needs_38 : decode cX11_needs 38 = .ok (.aload_n 0, 1) := by decide +kernel
theorem dX11_needs_39 : decode cX11_needs 39 = .ok (.getfield 19, 3) := by decide +kernel
theorem dX11_needs_42 : decode cX11_needs 42 = .ok (.getfield 218, 3) := by decide +kernel
theorem dX11_needs_45 : decode cX11_needs 45 = .ok (.if_icmp .ge 43, 3) := by decide +kernel
theorem dX11_needs_88 : decode cX11_needs 88 = .ok (.iload_n 2, 1) := by decide +kernel
theorem dX11_needs_89 : decode cX11_needs 89 = .ok (.ireturn, 1) := by decide +kernel
theorem dX11_needs_48 : decode cX11_needs 48 = .ok (.aload_n 0, 1) := by decide +kernel
theorem dX11_needs_49 : decode cX11_needs 49 = .ok (.getfield 51, 3) := by decide +kernel
theorem dX11_needs_52 : decode cX11_needs 52 = .ok (.iconst 1, 1) := by decide +kernel
theorem dX11_needs_53 : decode cX11_needs 53 = .ok (.iload_n 3, 1) := by decide +kernel
theorem dX11_needs_54 : decode cX11_needs 54 = .ok (.ishl, 1) := by decide +kernel
theorem dX11_needs_55 : decode cX11_needs 55 = .ok (.invokevirtual 239, 3) := by decide +kernel
theorem dX11_needs_58 : decode cX11_needs 58 = .ok (.iload_n 1, 1) := by decide +kernel
theorem dX11_needs_59 : decode cX11_needs 59 = .ok (.ishr, 1) := by decide +kernel
theorem dX11_needs_60 : decode cX11_needs 60 = .ok (.iconst 1, 1) := by decide +kernel
theorem dX11_needs_61 : decode cX11_needs 61 = .ok (.iand, 1) := by decide +kernel
theorem dX11_needs_62 : decode cX11_needs 62 = .ok (.ifCond .ne 7, 3) := by decide +kernel
theorem dX11_needs_69 : decode cX11_needs 69 = .ok (.iconst 0, 1) := by decide +kernel
theorem dX11_needs_65 : decode cX11_needs 65 = .ok (.iconst 1, 1) := by decide +kernel
theorem dX11_needs_66 : decode cX11_needs 66 = .ok (.goto 4, 3) := by decide +kernel
theorem dX11_needs_0 : decode cX11_needs 0 = .ok (.aload_n 0, 1) := by decide +kernel
theorem dX11_needs_1 : decode cX11_needs 1 = .ok (.getfield 19, 3) := by decide +kernel
theorem dX11_needs_4 : decode cX11_needs 4 = .ok (.iload_n 1, 1) := by decide +kernel
theorem dX11_needs_5 : decode cX11_needs 5 = .ok (.invokevirtual 130, 3) := by decide +kernel
theorem dX11_needs_8 : decode cX11_needs 8 = .ok (.ifCond .ne 6, 3) := by decide +kernel
theorem dX11_needs_14 : decode cX11_needs 14 = .ok (.aload_n 0, 1) := by decide +kernel
theorem dX11_needs_15 : decode cX11_needs 15 = .ok (.getfield 51, 3) := by decide +kernel
theorem dX11_needs_18 : decode cX11_needs 18 = .ok (.iconst 0, 1) := by decide +kernel
theorem dX11_needs_19 : decode cX11_needs 19 = .ok (.invokevirtual 239, 3) := by decide +kernel
theorem dX11_needs_22 : decode cX11_needs 22 = .ok (.iload_n 1, 1) := by decide +kernel
theorem dX11_needs_23 : decode cX11_needs 23 = .ok (.ishr, 1) := by decide +kernel
theorem dX11_needs_24 : decode cX11_needs 24 = .ok (.iconst 1, 1) := by decide +kernel
theorem dX11_needs_25 : decode cX11_needs 25 = .ok (.iand, 1) := by decide +kernel
theorem dX11_needs_26 : decode cX11_needs 26 = .ok (.ifCond .ne 5, 3) := by decide +kernel
theorem dX11_needs_31 : decode cX11_needs 31 = .ok (.iconst 1, 1) := by decide +kernel
theorem dX11_needs_32 : decode cX11_needs 32 = .ok (.iload_n 1, 1) := by decide +kernel
theorem dX11_needs_33 : decode cX11_needs 33 = .ok (.ishl, 1) := by decide +kernel
theorem dX11_needs_34 : decode cX11_needs 34 = .ok (.istore_n 2, 1) := by decide +kernel
theorem dX11_needs_35 : decode cX11_needs 35 = .ok (.iconst 0, 1) := by decide +kernel
theorem dX11_needs_36 : decode cX11_needs 36 = .ok (.istore_n 3, 1) := by decide +kernel
theorem dX11_needs_29 : decode cX11_needs 29 = .ok (.iconst 0, 1) := by decide +kernel
theorem dX11_needs_30 : decode cX11_needs 30 = .ok (.ireturn, 1) := by decide +kernel
theorem dX11_needs_11 : decode cX11_needs 11 = .ok (.bipush (-2), 2) := by decide +kernel
theorem dX11_needs_13 : decode cX11_needs 13 = .ok (.ireturn, 1) := by decide +kernel
set_option maxHeartbeats 4000000 in
set_option maxRecDepth 100000 in
theorem k_X11_needs (l : Launch) (D : va_G) (K : Nat → ClassId) (t : Nat) (t_q t_1_q t_7_q : Nat → Nat) (p1 t_1_x0 t_1_x1 t_1_x2 t_1_x3 t_1_x4 t_1_x5 t_1_x6 t_1_x7 t_1_x8 t_7_x0 t_7_x1 t_7_x6 : Int) (t_7_4_c : Nat → Int) (hp1 : (-2147483648) ≤ p1 ∧ p1 ≤ 2147483647) (hi_t_1 : bX7 t_1_x0 t_1_x1 t_1_x2 t_1_x3 t_1_x4 t_1_x5 t_1_x6 t_1_x7 t_1_x8) (hi_t_7 : bX10 t_7_x0 t_7_x1 t_7_x6) (hc_t_7_4 : ∀ j : Nat, 0 ≤ t_7_4_c j ∧ t_7_4_c j ≤ 4095) : fn_CI (S := (Nat → Int) × (Nat → Nat → Int)) l D K yX11_needs (fn_ws yX11_needs cX11_needs 5 (some .int)) ({ frames := 8, cells := 0, slots := 0, locals := 200 } : Room) [.ref t, .int (iI p1)] [(t, .inr (11, oX11 t_q)), ((t_q 1), .inr (7, oX7 t_1_q t_1_x0 t_1_x1 t_1_x2 t_1_x3 t_1_x4 t_1_x5 t_1_x6 t_1_x7 t_1_x8)), ((t_q 7), .inr (10, oX10 t_7_q t_7_x0 t_7_x1 t_7_x6)), ((t_7_q 4), .inl (K 0, 12, .inl (fun j => iI (t_7_4_c j))))] (fun r u => ∃ k : Int, r = iI k ∧ ((-2147483648) ≤ k ∧ k ≤ 2147483647) ∧ True) (fun u => [(t, .inr (11, oX11 t_q)), ((t_q 1), .inr (7, oX7 t_1_q t_1_x0 t_1_x1 t_1_x2 t_1_x3 t_1_x4 t_1_x5 t_1_x6 t_1_x7 t_1_x8)), ((t_q 7), .inr (10, oX10 t_7_q t_7_x0 t_7_x1 t_7_x6)), ((t_7_q 4), .inl (K 0, 12, .inl (fun j => iI (t_7_4_c j))))]) 0 0 := by
  refine g_inI (cc := cX11_needs) (maxL := 5) (ret := (some .int)) (by decide) rfl (Nat.le_of_ble_eq_true rfl) ?_
  intro p e s m below meth c A ls ag Q B hA hP hD hS hl hQ
  obtain ⟨hx, hb, hr, hml, hts, hown, hlocks, hin, hK⟩ := B
  have hown : s.vm.findClass RX11 = some m.cls := hown
  have hts := fun w h => hts w (List.mem_cons_of_mem _ h)
  have J37 : ∀ (n : Nat) (x37_2 : Int) (x37_3 : Int) (H : Heap) (locs : List Loc) (ls : Array Slot), (12 - x37_3).toNat < n → (0 ≤ p1 ∧ p1 ≤ 11 ∧ (-2147483648) ≤ x37_2 ∧ x37_2 ≤ 2147483647 ∧ 0 ≤ x37_3 ∧ x37_3 ≤ 12) → va_P D vwCl [(t, .inr (11, oX11 t_q)), ((t_q 1), .inr (7, oX7 t_1_q t_1_x0 t_1_x1 t_1_x2 t_1_x3 t_1_x4 t_1_x5 t_1_x6 t_1_x7 t_1_x8)), ((t_q 7), .inr (10, oX10 t_7_q t_7_x0 t_7_x1 t_7_x6)), ((t_7_q 4), .inl (K 0, 12, .inl (fun j => iI (t_7_4_c j))))] H → va_D A [(t, .inr (11, oX11 t_q)), ((t_q 1), .inr (7, oX7 t_1_q t_1_x0 t_1_x1 t_1_x2 t_1_x3 t_1_x4 t_1_x5 t_1_x6 t_1_x7 t_1_x8)), ((t_q 7), .inr (10, oX10 t_7_q t_7_x0 t_7_x1 t_7_x6)), ((t_7_q 4), .inl (K 0, 12, .inl (fun j => iI (t_7_4_c j))))] → va_S A s.heap H locs → lv_has ls 5 [(0, .ref t), (1, .int (iI p1)), (2, .int (iI x37_2)), (3, .int (iI x37_3))] → W p l e ({ frames := 8, cells := 0, slots := 0, locals := 200 } : Room) s m ag below meth c H locs 0 0 Q (F0 m 37 ls []) := by
    intro n
    induction n with
    | zero =>
      intro x37_2 x37_3 H locs ls hm37 hf37 hP hD hS hl
      exact absurd hm37 (Nat.not_lt_zero _)
    | succ n ih37 =>
      intro x37_2 x37_3 H locs ls hm37 hf37 hP hD hS hl
      have J70 : ∀ (z70_0 : Int) (H : Heap) (locs : List Loc) (ls : Array Slot), (0 ≤ p1 ∧ p1 ≤ 11 ∧ 0 ≤ x37_3 ∧ x37_3 ≤ 11 ∧ 0 ≤ z70_0 ∧ z70_0 ≤ 1 ∧ 1 ≤ t_1_x4 ∧ t_1_x4 ≤ 12) → va_P D vwCl [(t, .inr (11, oX11 t_q)), ((t_q 1), .inr (7, oX7 t_1_q t_1_x0 t_1_x1 t_1_x2 t_1_x3 t_1_x4 t_1_x5 t_1_x6 t_1_x7 t_1_x8)), ((t_q 7), .inr (10, oX10 t_7_q t_7_x0 t_7_x1 t_7_x6)), ((t_7_q 4), .inl (K 0, 12, .inl (fun j => iI (t_7_4_c j))))] H → va_D A [(t, .inr (11, oX11 t_q)), ((t_q 1), .inr (7, oX7 t_1_q t_1_x0 t_1_x1 t_1_x2 t_1_x3 t_1_x4 t_1_x5 t_1_x6 t_1_x7 t_1_x8)), ((t_q 7), .inr (10, oX10 t_7_q t_7_x0 t_7_x1 t_7_x6)), ((t_7_q 4), .inl (K 0, 12, .inl (fun j => iI (t_7_4_c j))))] → va_S A s.heap H locs → lv_has ls 5 [(0, .ref t), (1, .int (iI p1)), (2, .int (iI x37_2)), (3, .int (iI x37_3))] → W p l e ({ frames := 8, cells := 0, slots := 0, locals := 200 } : Room) s m ag below meth c H locs 0 0 Q (F0 m 70 ls [.int (iI z70_0)]) := by
        intro z70_0 H locs ls hf70 hP hD hS hl
        refine lv_istore (lv' := [(4, .int (iI z70_0)), (0, .ref t), (1, .int (iI p1)), (2, .int (iI x37_2)), (3, .int (iI x37_3))]) hx hb dX11_needs_70 hl (by decide) rfl (fun ls hl => ?_)
        refine lv_iload_n hx hb dX11_needs_72 rfl (lv_at hl 3 rfl) ?_
        refine lv_iload hx hb dX11_needs_73 (lv_at hl 0 rfl) ?_
        refine fn_goi (wc := []) (wr := [(t, .inr (11, oX11 t_q)), ((t_q 1), .inr (7, oX7 t_1_q t_1_x0 t_1_x1 t_1_x2 t_1_x3 t_1_x4 t_1_x5 t_1_x6 t_1_x7 t_1_x8)), ((t_q 7), .inr (10, oX10 t_7_q t_7_x0 t_7_x1 t_7_x6)), ((t_7_q 4), .inl (K 0, 12, .inl (fun j => iI (t_7_4_c j))))]) hK hP hD hS hA [] [0, 1, 2, 3] rfl rfl (by decide) (fun hp => va_runS (As := [.int (iI z70_0)]) (rest := [.int (iI x37_2)]) ⟨hx, hb, hml, hown, hts⟩ (k_X11_bit (l := l) (D := D) (K := K) (p1 := z70_0) (hp1 := (by omega)) _) (va_cwS 1 hts (fn_ginS (fn_gin wd_605) wd_710 wd_604 wd_1) rfl rfl rfl (by decide +kernel) ⟨Nat.le_of_ble_eq_true rfl, Nat.le_of_ble_eq_true rfl⟩) ⟨fn_blind, hp⟩ rfl rfl hl.1 rfl (lv_room (Nat.le_of_ble_eq_true rfl)) dX11_needs_75 ⟨Nat.le_of_ble_eq_true rfl, Nat.le_of_ble_eq_true rfl⟩) (fun r75 u75 H locs hwu75 hP hD hS => ?_)
        obtain ⟨u75a, u75b⟩ := u75
        obtain ⟨kr75, rfl, hkr75, -⟩ := hwu75
        have hP : va_P D vwCl [(t, .inr (11, oX11 t_q)), ((t_q 1), .inr (7, oX7 t_1_q t_1_x0 t_1_x1 t_1_x2 t_1_x3 t_1_x4 t_1_x5 t_1_x6 t_1_x7 t_1_x8)), ((t_q 7), .inr (10, oX10 t_7_q t_7_x0 t_7_x1 t_7_x6)), ((t_7_q 4), .inl (K 0, 12, .inl (fun j => iI (t_7_4_c j))))] H := hP
        have hD : va_D A [(t, .inr (11, oX11 t_q)), ((t_q 1), .inr (7, oX7 t_1_q t_1_x0 t_1_x1 t_1_x2 t_1_x3 t_1_x4 t_1_x5 t_1_x6 t_1_x7 t_1_x8)), ((t_q 7), .inr (10, oX10 t_7_q t_7_x0 t_7_x1 t_7_x6)), ((t_7_q 4), .inl (K 0, 12, .inl (fun j => iI (t_7_4_c j))))] := hD
        refine lv_iload_n hx hb dX11_needs_78 rfl (lv_at hl 4 rfl) ?_
        refine lv_ishl hx hb dX11_needs_79 ?_
        refine g_any (fun w79 hw79 ew79 => ?_)
        refine lv_ior hx hb dX11_needs_80 ?_
        refine g_any (fun w80 hw80 ew80 => ?_)
        refine lv_istore_n (lv' := [(2, .int (iI w80)), (4, .int (iI z70_0)), (0, .ref t), (1, .int (iI p1)), (3, .int (iI x37_3))]) hx hb dX11_needs_81 rfl hl (by decide) rfl (fun ls hl => ?_)
        refine lv_iinc (v := iI (x37_3 + 1)) (lv' := [(3, .int (iI (x37_3 + 1))), (2, .int (iI w80)), (4, .int (iI z70_0)), (0, .ref t), (1, .int (iI p1))]) hx hb dX11_needs_82 hl (k := 4) rfl (iI_add _ _) (by decide) rfl (fun ls hl => ?_)
        refine lv_goto (tgt := 37) hx hb dX11_needs_85 (by decide) ?_
        exact ih37 w80 (x37_3 + 1) _ _ ls (by omega) (by omega) (hP.sub [0, 1, 2, 3] rfl) (hD.sub [0, 1, 2, 3] (by decide) rfl) hS (lv_sub hl [3, 4, 1, 0] rfl)
      refine lv_iload_n hx hb dX11_needs_37 rfl (lv_at hl 3 rfl) ?_
      refine lv_aload_n hx hb dX11_needs_38 rfl (lv_at hl 0 rfl) ?_
      refine va_get (D := D) (own := RX11) (ci := 11) (v := .ref (t_q 1)) (C := RX11) (T := TX11) (N := 13) hx hb hts inb_X11 hown hK.1 hP 0 rfl rfl 1 (by decide) (hts _ wd_423) (fun _ h9 => h9) rfl dX11_needs_39 ?_
      refine va_getN (D := D) (own := RX11) (ci := 7) (v := .int (iI t_1_x4)) (C := RX7) (T := TX7) (N := 15) hx hb hts inb_X7 hown hK.1 hP 1 rfl rfl 4 (by decide) (hK.nf 23 rfl) (fun _ h9 => h9) rfl dX11_needs_42 ?_
      have y42_1 : 0 ≤ t_1_x4 ∧ t_1_x4 ≤ 12 := hi_t_1.2.2.2.2.1
      refine g_icmp_ge (tgt := 88) hx hb (by omega) (by omega) dX11_needs_45 (by decide) (fun c45 => ?_) (fun c45 => ?_)
      · refine lv_iload_n hx hb dX11_needs_88 rfl (lv_at hl 2 rfl) ?_
        rw [hQ]; exact fn_iret hx hb hr hlocks rfl hP hD hS ((fun _ => 0), (fun _ _ => 0)) ⟨x37_2, rfl, by omega, trivial⟩ [0, 1, 2, 3] (by decide) rfl dX11_needs_89
      · refine lv_aload_n hx hb dX11_needs_48 rfl (lv_at hl 0 rfl) ?_
        refine va_get (D := D) (own := RX11) (ci := 11) (v := .ref (t_q 7)) (C := RX11) (T := TX11) (N := 13) hx hb hts inb_X11 hown hK.1 hP 0 rfl rfl 7 (by decide) (hts _ wd_429) (fun _ h9 => h9) rfl dX11_needs_49 ?_
        refine lv_iconst (v := iI 1) hx hb dX11_needs_52 rfl ?_
        refine lv_iload_n hx hb dX11_needs_53 rfl (lv_at hl 3 rfl) ?_
        refine lv_ishl hx hb dX11_needs_54 ?_
        obtain ⟨w54, ew54, hw54⟩ := iI_shl1 11 x37_3 (by omega) (by omega) (by decide)
        refine fn_top (iI w54) ew54 ?_
        refine fn_goi (wc := [((t_q 7), .inr (10, oX10 t_7_q t_7_x0 t_7_x1 t_7_x6)), ((t_7_q 4), .inl (K 0, 12, .inl (fun j => iI (t_7_4_c j))))]) (wr := [(t, .inr (11, oX11 t_q)), ((t_q 1), .inr (7, oX7 t_1_q t_1_x0 t_1_x1 t_1_x2 t_1_x3 t_1_x4 t_1_x5 t_1_x6 t_1_x7 t_1_x8))]) hK hP hD hS hA [2, 3] [0, 1] rfl rfl (by decide) (fun hp => va_runVN (C := RX10) (As := [.int (iI w54)]) (rest := []) ⟨hx, hb, hml, hown, hts⟩ (k_X10_groundedWithout (l := l) (D := D) (K := K) (t := (t_q 7)) (p1 := w54) (t_q := t_7_q) (t_x0 := t_7_x0) (t_x1 := t_7_x1) (t_x6 := t_7_x6) (t_4_c := t_7_4_c) (hp1 := (by omega)) (hi_t := hi_t_7) (hc_t_4 := hc_t_7_4) _) ⟨va_cnB (own := RX11) 1 hts (fn_gin wd_825) rfl rfl rfl (hK.nw 124 rfl) (hts _ wd_6) (by decide +kernel) ⟨Nat.le_of_ble_eq_true rfl, Nat.le_of_ble_eq_true rfl⟩, hts _ wd_824, hts _ wp_42⟩ ⟨fn_blind, va_recv hK.1 hP (ci := 10) (q0 := 2) rfl rfl, hp⟩ rfl rfl hl.1 rfl (lv_room (Nat.le_of_ble_eq_true rfl)) dX11_needs_55 ⟨Nat.le_of_ble_eq_true rfl, Nat.le_of_ble_eq_true rfl⟩) (fun r55 u55 H locs hwu55 hP hD hS => ?_)
        obtain ⟨u55a, u55b⟩ := u55
        obtain ⟨kr55, rfl, hkr55, -⟩ := hwu55
        have hP : va_P D vwCl [(t, .inr (11, oX11 t_q)), ((t_q 1), .inr (7, oX7 t_1_q t_1_x0 t_1_x1 t_1_x2 t_1_x3 t_1_x4 t_1_x5 t_1_x6 t_1_x7 t_1_x8)), ((t_q 7), .inr (10, oX10 t_7_q t_7_x0 t_7_x1 t_7_x6)), ((t_7_q 4), .inl (K 0, 12, .inl (fun j => iI (t_7_4_c j))))] H := hP
        have hD : va_D A [(t, .inr (11, oX11 t_q)), ((t_q 1), .inr (7, oX7 t_1_q t_1_x0 t_1_x1 t_1_x2 t_1_x3 t_1_x4 t_1_x5 t_1_x6 t_1_x7 t_1_x8)), ((t_q 7), .inr (10, oX10 t_7_q t_7_x0 t_7_x1 t_7_x6)), ((t_7_q 4), .inl (K 0, 12, .inl (fun j => iI (t_7_4_c j))))] := hD
        refine lv_iload_n hx hb dX11_needs_58 rfl (lv_at hl 1 rfl) ?_
        refine lv_ishr hx hb dX11_needs_59 ?_
        obtain ⟨w59, ew59, hw59⟩ := iI_shr kr55 p1 (by omega) (by omega)
        refine fn_top (iI w59) ew59 ?_
        refine lv_iconst (v := iI 1) hx hb dX11_needs_60 rfl ?_
        refine lv_iand hx hb dX11_needs_61 ?_
        obtain ⟨w61, ew61, hw61⟩ := iI_and1 w59 (by omega)
        refine fn_top (iI w61) ew61 ?_
        refine g_if_ne (tgt := 69) hx hb (by omega) dX11_needs_62 (by decide) (fun c62 => ?_) (fun c62 => ?_)
        · refine lv_iconst (v := iI 0) hx hb dX11_needs_69 rfl ?_
          exact J70 0 _ _ ls (by omega) (hP.sub [0, 1, 2, 3] rfl) (hD.sub [0, 1, 2, 3] (by decide) rfl) hS (lv_sub hl [0, 1, 2, 3] rfl)
        · refine lv_iconst (v := iI 1) hx hb dX11_needs_65 rfl ?_
          refine lv_goto (tgt := 70) hx hb dX11_needs_66 (by decide) ?_
          exact J70 1 _ _ ls (by omega) (hP.sub [0, 1, 2, 3] rfl) (hD.sub [0, 1, 2, 3] (by decide) rfl) hS (lv_sub hl [0, 1, 2, 3] rfl)
  have hl : lv_has ls 5 [(0, .ref t), (1, .int (iI p1))] := hl
  refine lv_aload_n hx hb dX11_needs_0 rfl (lv_at hl 0 rfl) ?_
  refine va_get (D := D) (own := RX11) (ci := 11) (v := .ref (t_q 1)) (C := RX11) (T := TX11) (N := 13) hx hb hts inb_X11 hown hK.1 hP 0 rfl rfl 1 (by decide) (hts _ wd_423) (fun _ h9 => h9) rfl dX11_needs_1 ?_
  refine lv_iload_n hx hb dX11_needs_4 rfl (lv_at hl 1 rfl) ?_
  refine fn_goi (wc := [((t_q 1), .inr (7, oX7 t_1_q t_1_x0 t_1_x1 t_1_x2 t_1_x3 t_1_x4 t_1_x5 t_1_x6 t_1_x7 t_1_x8))]) (wr := [(t, .inr (11, oX11 t_q)), ((t_q 7), .inr (10, oX10 t_7_q t_7_x0 t_7_x1 t_7_x6)), ((t_7_q 4), .inl (K 0, 12, .inl (fun j => iI (t_7_4_c j))))]) hK hP hD hS hA [1] [0, 2, 3] rfl rfl (by decide) (fun hp => va_runVN (C := RX7) (As := [.int (iI p1)]) (rest := []) ⟨hx, hb, hml, hown, hts⟩ (k_X7_hasPage (l := l) (D := D) (K := K) (t := (t_q 1)) (p1 := p1) (t_q := t_1_q) (t_x0 := t_1_x0) (t_x1 := t_1_x1) (t_x2 := t_1_x2) (t_x3 := t_1_x3) (t_x4 := t_1_x4) (t_x5 := t_1_x5) (t_x6 := t_1_x6) (t_x7 := t_1_x7) (t_x8 := t_1_x8) (hp1 := (by omega)) (hi_t := hi_t_1) _) ⟨va_cnB (own := RX11) 1 hts (fn_gin wd_662) rfl rfl rfl (hK.nw 108 rfl) (hts _ wd_4) (by decide +kernel) ⟨Nat.le_of_ble_eq_true rfl, Nat.le_of_ble_eq_true rfl⟩, hts _ wd_661, hts _ wp_25⟩ ⟨fn_blind, va_recv hK.1 hP (ci := 7) (q0 := 1) rfl rfl, hp⟩ rfl rfl hl.1 rfl (lv_room (Nat.le_of_ble_eq_true rfl)) dX11_needs_5 ⟨Nat.le_of_ble_eq_true rfl, Nat.le_of_ble_eq_true rfl⟩) (fun r5 u5 H locs hwu5 hP hD hS => ?_)
  obtain ⟨u5a, u5b⟩ := u5
  obtain ⟨kr5, rfl, hkr5, hqu50, -⟩ := hwu5
  have hqu5 : (kr5 = 1 → 0 ≤ p1 ∧ p1 < t_1_x4 ∧ p1 ≤ 11) := hqu50
  clear hqu50
  have hP : va_P D vwCl [(t, .inr (11, oX11 t_q)), ((t_q 7), .inr (10, oX10 t_7_q t_7_x0 t_7_x1 t_7_x6)), ((t_7_q 4), .inl (K 0, 12, .inl (fun j => iI (t_7_4_c j)))), ((t_q 1), .inr (7, oX7 t_1_q t_1_x0 t_1_x1 t_1_x2 t_1_x3 t_1_x4 t_1_x5 t_1_x6 t_1_x7 t_1_x8))] H := hP
  have hD : va_D A [(t, .inr (11, oX11 t_q)), ((t_q 7), .inr (10, oX10 t_7_q t_7_x0 t_7_x1 t_7_x6)), ((t_7_q 4), .inl (K 0, 12, .inl (fun j => iI (t_7_4_c j)))), ((t_q 1), .inr (7, oX7 t_1_q t_1_x0 t_1_x1 t_1_x2 t_1_x3 t_1_x4 t_1_x5 t_1_x6 t_1_x7 t_1_x8))] := hD
  refine g_if_ne (tgt := 14) hx hb (by omega) dX11_needs_8 (by decide) (fun c8 => ?_) (fun c8 => ?_)
  · refine lv_aload_n hx hb dX11_needs_14 rfl (lv_at hl 0 rfl) ?_
    refine va_get (D := D) (own := RX11) (ci := 11) (v := .ref (t_q 7)) (C := RX11) (T := TX11) (N := 13) hx hb hts inb_X11 hown hK.1 hP 0 rfl rfl 7 (by decide) (hts _ wd_429) (fun _ h9 => h9) rfl dX11_needs_15 ?_
    refine lv_iconst (v := iI 0) hx hb dX11_needs_18 rfl ?_
    refine fn_goi (wc := [((t_q 7), .inr (10, oX10 t_7_q t_7_x0 t_7_x1 t_7_x6)), ((t_7_q 4), .inl (K 0, 12, .inl (fun j => iI (t_7_4_c j))))]) (wr := [(t, .inr (11, oX11 t_q)), ((t_q 1), .inr (7, oX7 t_1_q t_1_x0 t_1_x1 t_1_x2 t_1_x3 t_1_x4 t_1_x5 t_1_x6 t_1_x7 t_1_x8))]) hK hP hD hS hA [1, 2] [0, 3] rfl rfl (by decide) (fun hp => va_runVN (C := RX10) (As := [.int (iI 0)]) (rest := []) ⟨hx, hb, hml, hown, hts⟩ (k_X10_groundedWithout (l := l) (D := D) (K := K) (t := (t_q 7)) (p1 := 0) (t_q := t_7_q) (t_x0 := t_7_x0) (t_x1 := t_7_x1) (t_x6 := t_7_x6) (t_4_c := t_7_4_c) (hp1 := (by omega)) (hi_t := hi_t_7) (hc_t_4 := hc_t_7_4) _) ⟨va_cnB (own := RX11) 1 hts (fn_gin wd_825) rfl rfl rfl (hK.nw 124 rfl) (hts _ wd_6) (by decide +kernel) ⟨Nat.le_of_ble_eq_true rfl, Nat.le_of_ble_eq_true rfl⟩, hts _ wd_824, hts _ wp_42⟩ ⟨fn_blind, va_recv hK.1 hP (ci := 10) (q0 := 1) rfl rfl, hp⟩ rfl rfl hl.1 rfl (lv_room (Nat.le_of_ble_eq_true rfl)) dX11_needs_19 ⟨Nat.le_of_ble_eq_true rfl, Nat.le_of_ble_eq_true rfl⟩) (fun r19 u19 H locs hwu19 hP hD hS => ?_)
    obtain ⟨u19a, u19b⟩ := u19
    obtain ⟨kr19, rfl, hkr19, -⟩ := hwu19
    have hP : va_P D vwCl [(t, .inr (11, oX11 t_q)), ((t_q 1), .inr (7, oX7 t_1_q t_1_x0 t_1_x1 t_1_x2 t_1_x3 t_1_x4 t_1_x5 t_1_x6 t_1_x7 t_1_x8)), ((t_q 7), .inr (10, oX10 t_7_q t_7_x0 t_7_x1 t_7_x6)), ((t_7_q 4), .inl (K 0, 12, .inl (fun j => iI (t_7_4_c j))))] H := hP
    have hD : va_D A [(t, .inr (11, oX11 t_q)), ((t_q 1), .inr (7, oX7 t_1_q t_1_x0 t_1_x1 t_1_x2 t_1_x3 t_1_x4 t_1_x5 t_1_x6 t_1_x7 t_1_x8)), ((t_q 7), .inr (10, oX10 t_7_q t_7_x0 t_7_x1 t_7_x6)), ((t_7_q 4), .inl (K 0, 12, .inl (fun j => iI (t_7_4_c j))))] := hD
    refine lv_iload_n hx hb dX11_needs_22 rfl (lv_at hl 1 rfl) ?_
    refine lv_ishr hx hb dX11_needs_23 ?_
    obtain ⟨w23, ew23, hw23⟩ := iI_shr kr19 p1 (by omega) (by omega)
    refine fn_top (iI w23) ew23 ?_
    refine lv_iconst (v := iI 1) hx hb dX11_needs_24 rfl ?_
    refine lv_iand hx hb dX11_needs_25 ?_
    obtain ⟨w25, ew25, hw25⟩ := iI_and1 w23 (by omega)
    refine fn_top (iI w25) ew25 ?_
    refine g_if_ne (tgt := 31) hx hb (by omega) dX11_needs_26 (by decide) (fun c26 => ?_) (fun c26 => ?_)
    · refine lv_iconst (v := iI 1) hx hb dX11_needs_31 rfl ?_
      refine lv_iload_n hx hb dX11_needs_32 rfl (lv_at hl 1 rfl) ?_
      refine lv_ishl hx hb dX11_needs_33 ?_
      obtain ⟨w33, ew33, hw33⟩ := iI_shl1 11 p1 (by omega) (by omega) (by decide)
      refine fn_top (iI w33) ew33 ?_
      refine lv_istore_n (lv' := [(2, .int (iI w33)), (0, .ref t), (1, .int (iI p1))]) hx hb dX11_needs_34 rfl hl (by decide) rfl (fun ls hl => ?_)
      refine lv_iconst (v := iI 0) hx hb dX11_needs_35 rfl ?_
      refine fn_at 36 rfl ?_
      refine lv_istore_n (lv' := [(3, .int (iI 0)), (2, .int (iI w33)), (0, .ref t), (1, .int (iI p1))]) hx hb dX11_needs_36 rfl hl (by decide) rfl (fun ls hl => ?_)
      exact J37 _ w33 0 _ _ ls (Nat.lt_succ_self _) (by omega) (hP.sub [0, 1, 2, 3] rfl) (hD.sub [0, 1, 2, 3] (by decide) rfl) hS (lv_sub hl [2, 3, 1, 0] rfl)
    · refine lv_iconst (v := iI 0) hx hb dX11_needs_29 rfl ?_
      rw [hQ]; exact fn_iret hx hb hr hlocks rfl hP hD hS ((fun _ => 0), (fun _ _ => 0)) ⟨0, rfl, by omega, trivial⟩ [0, 1, 2, 3] (by decide) rfl dX11_needs_30
  · refine lv_bipush (v := iI (-2)) hx hb dX11_needs_11 (by decide) ?_
    rw [hQ]; exact fn_iret hx hb hr hlocks rfl hP hD hS ((fun _ => 0), (fun _ _ => 0)) ⟨(-2), rfl, by omega, trivial⟩ [0, 3, 1, 2] (by decide) rfl dX11_needs_13
theorem wd_837 : Cond.code ⟨"FootNotes$Web", "lossBy", "(I)I"⟩ prog_12_method_12_code 3 (Option.some Jvm.ClassFile.FieldType.int) ∈ fn_big := fn_tb (fn_l4 (List.mem_of_getElem? (i := 117) (by decide +kernel))) (by decide +kernel)
theorem wd_836 : Cond.instanceMethod ⟨"FootNotes$Web", "lossBy", "(I)I"⟩ ∈ fn_big := fn_tb (fn_l4 (List.mem_of_getElem? (i := 116) (by decide +kernel))) (by decide +kernel)
theorem wp_43 : Cond.selects "FootNotes$Web" ⟨"FootNotes$Web", "lossBy", "(I)I"⟩ ⟨"FootNotes$Web", "lossBy", "(I)I"⟩ ∈ fn_big := fn_sel (q := (⟨"FootNotes$Web", "lossBy", "(I)I"⟩, 7)) 43 (by decide +kernel) (by decide +kernel)
theorem dX11_loss_0 : decode cX11_loss 0 = .ok (.aload_n 0, 1) := by decide +kernel
theorem dX11_loss_1 : decode cX11_loss 1 = .ok (.getfield 19, 3) := by decide +kernel
theorem dX11_loss_4 : decode cX11_loss 4 = .ok (.iload_n 1, 1) := by decide +kernel
theorem dX11_loss_5 : decode cX11_loss 5 = .ok (.invokevirtual 130, 3) := by decide +kernel
theorem dX11_loss_8 : decode cX11_loss 8 = .ok (.ifCond .eq 14, 3) := by decide +kernel
theorem dX11_loss_22 : decode cX11_loss 22 = .ok (.bipush (-2), 2) := by decide +kernel
theorem dX11_loss_24 : decode cX11_loss 24 = .ok (.ireturn, 1) := by decide +kernel
theorem dX11_loss_11 : decode cX11_loss 11 = .ok (.aload_n 0, 1) := by decide +kernel
theorem dX11_loss_12 : decode cX11_loss 12 = .ok (.getfield 51, 3) := by decide +kernel
theorem dX11_loss_15 : decode cX11_loss 15 = .ok (.iload_n 1, 1) := by decide +kernel
theorem dX11_loss_16 : decode cX11_loss 16 = .ok (.invokevirtual 242, 3) := by decide +kernel
theorem dX11_loss_19 : decode cX11_loss 19 = .ok (.goto 5, 3) := by decide +kernel
set_option maxHeartbeats 4000000 in
set_option maxRecDepth 100000 in
theorem k_X11_loss (l : Launch) (D : va_G) (K : Nat → ClassId) (t : Nat) (t_q t_1_q t_7_q : Nat → Nat) (p1 t_1_x0 t_1_x1 t_1_x2 t_1_x3 t_1_x4 t_1_x5 t_1_x6 t_1_x7 t_1_x8 t_7_x0 t_7_x1 t_7_x6 : Int) (t_7_4_c : Nat → Int) (hp1 : (-2147483648) ≤ p1 ∧ p1 ≤ 2147483647) (hi_t_1 : bX7 t_1_x0 t_1_x1 t_1_x2 t_1_x3 t_1_x4 t_1_x5 t_1_x6 t_1_x7 t_1_x8) (hi_t_7 : bX10 t_7_x0 t_7_x1 t_7_x6) (hc_t_7_4 : ∀ j : Nat, 0 ≤ t_7_4_c j ∧ t_7_4_c j ≤ 4095) : fn_CI (S := (Nat → Int) × (Nat → Nat → Int)) l D K yX11_loss (fn_ws yX11_loss cX11_loss 2 (some .int)) ({ frames := 12, cells := 0, slots := 0, locals := 300 } : Room) [.ref t, .int (iI p1)] [(t, .inr (11, oX11 t_q)), ((t_q 1), .inr (7, oX7 t_1_q t_1_x0 t_1_x1 t_1_x2 t_1_x3 t_1_x4 t_1_x5 t_1_x6 t_1_x7 t_1_x8)), ((t_q 7), .inr (10, oX10 t_7_q t_7_x0 t_7_x1 t_7_x6)), ((t_7_q 4), .inl (K 0, 12, .inl (fun j => iI (t_7_4_c j))))] (fun r u => ∃ k : Int, r = iI k ∧ ((-2) ≤ k ∧ k ≤ 63) ∧ True) (fun u => [(t, .inr (11, oX11 t_q)), ((t_q 1), .inr (7, oX7 t_1_q t_1_x0 t_1_x1 t_1_x2 t_1_x3 t_1_x4 t_1_x5 t_1_x6 t_1_x7 t_1_x8)), ((t_q 7), .inr (10, oX10 t_7_q t_7_x0 t_7_x1 t_7_x6)), ((t_7_q 4), .inl (K 0, 12, .inl (fun j => iI (t_7_4_c j))))]) 0 0 := by
  refine g_inI (cc := cX11_loss) (maxL := 2) (ret := (some .int)) (by decide) rfl (Nat.le_of_ble_eq_true rfl) ?_
  intro p e s m below meth c A ls ag Q B hA hP hD hS hl hQ
  obtain ⟨hx, hb, hr, hml, hts, hown, hlocks, hin, hK⟩ := B
  have hown : s.vm.findClass RX11 = some m.cls := hown
  have hts := fun w h => hts w (List.mem_cons_of_mem _ h)
  have hl : lv_has ls 2 [(0, .ref t), (1, .int (iI p1))] := hl
  refine lv_aload_n hx hb dX11_loss_0 rfl (lv_at hl 0 rfl) ?_
  refine va_get (D := D) (own := RX11) (ci := 11) (v := .ref (t_q 1)) (C := RX11) (T := TX11) (N := 13) hx hb hts inb_X11 hown hK.1 hP 0 rfl rfl 1 (by decide) (hts _ wd_423) (fun _ h9 => h9) rfl dX11_loss_1 ?_
  refine lv_iload_n hx hb dX11_loss_4 rfl (lv_at hl 1 rfl) ?_
  refine fn_goi (wc := [((t_q 1), .inr (7, oX7 t_1_q t_1_x0 t_1_x1 t_1_x2 t_1_x3 t_1_x4 t_1_x5 t_1_x6 t_1_x7 t_1_x8))]) (wr := [(t, .inr (11, oX11 t_q)), ((t_q 7), .inr (10, oX10 t_7_q t_7_x0 t_7_x1 t_7_x6)), ((t_7_q 4), .inl (K 0, 12, .inl (fun j => iI (t_7_4_c j))))]) hK hP hD hS hA [1] [0, 2, 3] rfl rfl (by decide) (fun hp => va_runVN (C := RX7) (As := [.int (iI p1)]) (rest := []) ⟨hx, hb, hml, hown, hts⟩ (k_X7_hasPage (l := l) (D := D) (K := K) (t := (t_q 1)) (p1 := p1) (t_q := t_1_q) (t_x0 := t_1_x0) (t_x1 := t_1_x1) (t_x2 := t_1_x2) (t_x3 := t_1_x3) (t_x4 := t_1_x4) (t_x5 := t_1_x5) (t_x6 := t_1_x6) (t_x7 := t_1_x7) (t_x8 := t_1_x8) (hp1 := (by omega)) (hi_t := hi_t_1) _) ⟨va_cnB (own := RX11) 1 hts (fn_gin wd_662) rfl rfl rfl (hK.nw 108 rfl) (hts _ wd_4) (by decide +kernel) ⟨Nat.le_of_ble_eq_true rfl, Nat.le_of_ble_eq_true rfl⟩, hts _ wd_661, hts _ wp_25⟩ ⟨fn_blind, va_recv hK.1 hP (ci := 7) (q0 := 1) rfl rfl, hp⟩ rfl rfl hl.1 rfl (lv_room (Nat.le_of_ble_eq_true rfl)) dX11_loss_5 ⟨Nat.le_of_ble_eq_true rfl, Nat.le_of_ble_eq_true rfl⟩) (fun r5 u5 H locs hwu5 hP hD hS => ?_)
  obtain ⟨u5a, u5b⟩ := u5
  obtain ⟨kr5, rfl, hkr5, hqu50, -⟩ := hwu5
  have hqu5 : (kr5 = 1 → 0 ≤ p1 ∧ p1 < t_1_x4 ∧ p1 ≤ 11) := hqu50
  clear hqu50
  have hP : va_P D vwCl [(t, .inr (11, oX11 t_q)), ((t_q 7), .inr (10, oX10 t_7_q t_7_x0 t_7_x1 t_7_x6)), ((t_7_q 4), .inl (K 0, 12, .inl (fun j => iI (t_7_4_c j)))), ((t_q 1), .inr (7, oX7 t_1_q t_1_x0 t_1_x1 t_1_x2 t_1_x3 t_1_x4 t_1_x5 t_1_x6 t_1_x7 t_1_x8))] H := hP
  have hD : va_D A [(t, .inr (11, oX11 t_q)), ((t_q 7), .inr (10, oX10 t_7_q t_7_x0 t_7_x1 t_7_x6)), ((t_7_q 4), .inl (K 0, 12, .inl (fun j => iI (t_7_4_c j)))), ((t_q 1), .inr (7, oX7 t_1_q t_1_x0 t_1_x1 t_1_x2 t_1_x3 t_1_x4 t_1_x5 t_1_x6 t_1_x7 t_1_x8))] := hD
  refine g_if_eq (tgt := 22) hx hb (by omega) dX11_loss_8 (by decide) (fun c8 => ?_) (fun c8 => ?_)
  · refine lv_bipush (v := iI (-2)) hx hb dX11_loss_22 (by decide) ?_
    rw [hQ]; exact fn_iret hx hb hr hlocks rfl hP hD hS ((fun _ => 0), (fun _ _ => 0)) ⟨(-2), rfl, by omega, trivial⟩ [0, 3, 1, 2] (by decide) rfl dX11_loss_24
  · refine lv_aload_n hx hb dX11_loss_11 rfl (lv_at hl 0 rfl) ?_
    refine va_get (D := D) (own := RX11) (ci := 11) (v := .ref (t_q 7)) (C := RX11) (T := TX11) (N := 13) hx hb hts inb_X11 hown hK.1 hP 0 rfl rfl 7 (by decide) (hts _ wd_429) (fun _ h9 => h9) rfl dX11_loss_12 ?_
    refine lv_iload_n hx hb dX11_loss_15 rfl (lv_at hl 1 rfl) ?_
    refine fn_goi (wc := [((t_q 7), .inr (10, oX10 t_7_q t_7_x0 t_7_x1 t_7_x6)), ((t_7_q 4), .inl (K 0, 12, .inl (fun j => iI (t_7_4_c j))))]) (wr := [(t, .inr (11, oX11 t_q)), ((t_q 1), .inr (7, oX7 t_1_q t_1_x0 t_1_x1 t_1_x2 t_1_x3 t_1_x4 t_1_x5 t_1_x6 t_1_x7 t_1_x8))]) hK hP hD hS hA [1, 2] [0, 3] rfl rfl (by decide) (fun hp => va_runVN (C := RX10) (As := [.int (iI p1)]) (rest := []) ⟨hx, hb, hml, hown, hts⟩ (k_X10_lossBy (l := l) (D := D) (K := K) (t := (t_q 7)) (p1 := p1) (t_q := t_7_q) (t_x0 := t_7_x0) (t_x1 := t_7_x1) (t_x6 := t_7_x6) (t_4_c := t_7_4_c) (hp1 := (by omega)) (hi_t := hi_t_7) (hc_t_4 := hc_t_7_4) _) ⟨va_cnB (own := RX11) 1 hts (fn_gin wd_837) rfl rfl rfl (hK.nw 125 rfl) (hts _ wd_6) (by decide +kernel) ⟨Nat.le_of_ble_eq_true rfl, Nat.le_of_ble_eq_true rfl⟩, hts _ wd_836, hts _ wp_43⟩ ⟨fn_blind, va_recv hK.1 hP (ci := 10) (q0 := 1) rfl rfl, hp⟩ rfl rfl hl.1 rfl (lv_room (Nat.le_of_ble_eq_true rfl)) dX11_loss_16 ⟨Nat.le_of_ble_eq_true rfl, Nat.le_of_ble_eq_true rfl⟩) (fun r16 u16 H locs hwu16 hP hD hS => ?_)
    obtain ⟨u16a, u16b⟩ := u16
    obtain ⟨kr16, rfl, hkr16, -⟩ := hwu16
    have hP : va_P D vwCl [(t, .inr (11, oX11 t_q)), ((t_q 1), .inr (7, oX7 t_1_q t_1_x0 t_1_x1 t_1_x2 t_1_x3 t_1_x4 t_1_x5 t_1_x6 t_1_x7 t_1_x8)), ((t_q 7), .inr (10, oX10 t_7_q t_7_x0 t_7_x1 t_7_x6)), ((t_7_q 4), .inl (K 0, 12, .inl (fun j => iI (t_7_4_c j))))] H := hP
    have hD : va_D A [(t, .inr (11, oX11 t_q)), ((t_q 1), .inr (7, oX7 t_1_q t_1_x0 t_1_x1 t_1_x2 t_1_x3 t_1_x4 t_1_x5 t_1_x6 t_1_x7 t_1_x8)), ((t_q 7), .inr (10, oX10 t_7_q t_7_x0 t_7_x1 t_7_x6)), ((t_7_q 4), .inl (K 0, 12, .inl (fun j => iI (t_7_4_c j))))] := hD
    refine lv_goto (tgt := 24) hx hb dX11_loss_19 (by decide) ?_
    rw [hQ]; exact fn_iret hx hb hr hlocks rfl hP hD hS ((fun _ => 0), (fun _ _ => 0)) ⟨kr16, rfl, by omega, trivial⟩ [0, 1, 2, 3] (by decide) rfl dX11_loss_24
theorem dX11_key_48 : decode cX11_key 48 = .ok (.iinc 3 1, 3) := by decide +kernel
theorem dX11_key_51 : decode cX11_key 51 = .ok (.goto (-35), 3) := by decide +kernel
theorem dX11_key_16 : decode cX11_key 16 = .ok (.iload_n 3, 1) := by decide +kernel
theorem dX11_key_17 : decode cX11_key 17 = .ok (.aload_n 0, 1) := by decide +kernel
theorem dX11_key_18 : decode cX11_key 18 = .ok (.getfield 19, 3) := by decide +kernel
theorem dX11_key_21 : decode cX11_key 21 = .ok (.getfield 218, 3) := by decide +kernel
theorem dX11_key_24 : decode cX11_key 24 = .ok (.if_icmp .ge 30, 3) := by decide +kernel
theorem dX11_key_54 : decode cX11_key 54 = .ok (.iload_n 1, 1) := by decide +kernel
theorem dX11_key_55 : decode cX11_key 55 = .ok (.ireturn, 1) := by decide +kernel
theorem dX11_key_27 : decode cX11_key 27 = .ok (.aload_n 0, 1) := by decide +kernel
theorem dX11_key_28 : decode cX11_key 28 = .ok (.getfield 51, 3) := by decide +kernel
theorem dX11_key_31 : decode cX11_key 31 = .ok (.iload_n 3, 1) := by decide +kernel
theorem dX11_key_32 : decode cX11_key 32 = .ok (.invokevirtual 242, 3) := by decide +kernel
theorem dX11_key_35 : decode cX11_key 35 = .ok (.istore 4, 2) := by decide +kernel
theorem dX11_key_37 : decode cX11_key 37 = .ok (.iload 4, 2) := by decide +kernel
theorem dX11_key_39 : decode cX11_key 39 = .ok (.iload_n 2, 1) := by decide +kernel
theorem dX11_key_40 : decode cX11_key 40 = .ok (.if_icmp .le 8, 3) := by decide +kernel
theorem dX11_key_43 : decode cX11_key 43 = .ok (.iload 4, 2) := by decide +kernel
theorem dX11_key_45 : decode cX11_key 45 = .ok (.istore_n 2, 1) := by decide +kernel
theorem dX11_key_46 : decode cX11_key 46 = .ok (.iload_n 3, 1) := by decide +kernel
theorem dX11_key_47 : decode cX11_key 47 = .ok (.istore_n 1, 1) := by decide +kernel
theorem dX11_key_0 : decode cX11_key 0 = .ok (.aload_n 0, 1) := by decide +kernel
theorem dX11_key_1 : decode cX11_key 1 = .ok (.invokevirtual 188, 3) := by decide +kernel
theorem dX11_key_4 : decode cX11_key 4 = .ok (.ifCond .eq 6, 3) := by decide +kernel
theorem dX11_key_10 : decode cX11_key 10 = .ok (.iconst (-1), 1) := by decide +kernel
theorem dX11_key_11 : decode cX11_key 11 = .ok (.istore_n 1, 1) := by decide +kernel
theorem dX11_key_12 : decode cX11_key 12 = .ok (.iconst 0, 1) := by decide +kernel
theorem dX11_key_13 : decode cX11_key 13 = .ok (.istore_n 2, 1) := by decide +kernel
theorem dX11_key_14 : decode cX11_key 14 = .ok (.iconst 0, 1) := by decide +kernel
theorem dX11_key_15 : decode cX11_key 15 = .ok (.istore_n 3, 1) := by decide +kernel
theorem dX11_key_7 : decode cX11_key 7 = .ok (.bipush (-2), 2) := by decide +kernel
theorem dX11_key_9 : decode cX11_key 9 = .ok (.ireturn, 1) := by decide +kernel
set_option maxHeartbeats 4000000 in
set_option maxRecDepth 100000 in
theorem k_X11_key (l : Launch) (D : va_G) (K : Nat → ClassId) (t : Nat) (t_q t_1_q t_7_q : Nat → Nat) (t_1_x0 t_1_x1 t_1_x2 t_1_x3 t_1_x4 t_1_x5 t_1_x6 t_1_x7 t_1_x8 t_7_x0 t_7_x1 t_7_x6 : Int) (t_7_4_c : Nat → Int) (hi_t_1 : bX7 t_1_x0 t_1_x1 t_1_x2 t_1_x3 t_1_x4 t_1_x5 t_1_x6 t_1_x7 t_1_x8) (hi_t_7 : bX10 t_7_x0 t_7_x1 t_7_x6) (hc_t_7_4 : ∀ j : Nat, 0 ≤ t_7_4_c j ∧ t_7_4_c j ≤ 4095) : fn_CI (S := (Nat → Int) × (Nat → Nat → Int)) l D K yX11_key (fn_ws yX11_key cX11_key 5 (some .int)) ({ frames := 12, cells := 0, slots := 0, locals := 300 } : Room) [.ref t] [(t, .inr (11, oX11 t_q)), ((t_q 1), .inr (7, oX7 t_1_q t_1_x0 t_1_x1 t_1_x2 t_1_x3 t_1_x4 t_1_x5 t_1_x6 t_1_x7 t_1_x8)), ((t_q 7), .inr (10, oX10 t_7_q t_7_x0 t_7_x1 t_7_x6)), ((t_7_q 4), .inl (K 0, 12, .inl (fun j => iI (t_7_4_c j))))] (fun r u => ∃ k : Int, r = iI k ∧ ((-2) ≤ k ∧ k ≤ 11) ∧ True) (fun u => [(t, .inr (11, oX11 t_q)), ((t_q 1), .inr (7, oX7 t_1_q t_1_x0 t_1_x1 t_1_x2 t_1_x3 t_1_x4 t_1_x5 t_1_x6 t_1_x7 t_1_x8)), ((t_q 7), .inr (10, oX10 t_7_q t_7_x0 t_7_x1 t_7_x6)), ((t_7_q 4), .inl (K 0, 12, .inl (fun j => iI (t_7_4_c j))))]) 0 0 := by
  refine g_inI (cc := cX11_key) (maxL := 5) (ret := (some .int)) (by decide) rfl (Nat.le_of_ble_eq_true rfl) ?_
  intro p e s m below meth c A ls ag Q B hA hP hD hS hl hQ
  obtain ⟨hx, hb, hr, hml, hts, hown, hlocks, hin, hK⟩ := B
  have hown : s.vm.findClass RX11 = some m.cls := hown
  have hts := fun w h => hts w (List.mem_cons_of_mem _ h)
  have J16 : ∀ (n : Nat) (x16_1 : Int) (x16_2 : Int) (x16_3 : Int) (H : Heap) (locs : List Loc) (ls : Array Slot), (12 - x16_3).toNat < n → ((-1) ≤ x16_1 ∧ x16_1 ≤ 11 ∧ 0 ≤ x16_2 ∧ x16_2 ≤ 63 ∧ 0 ≤ x16_3 ∧ x16_3 ≤ 12) → va_P D vwCl [(t, .inr (11, oX11 t_q)), ((t_q 1), .inr (7, oX7 t_1_q t_1_x0 t_1_x1 t_1_x2 t_1_x3 t_1_x4 t_1_x5 t_1_x6 t_1_x7 t_1_x8)), ((t_q 7), .inr (10, oX10 t_7_q t_7_x0 t_7_x1 t_7_x6)), ((t_7_q 4), .inl (K 0, 12, .inl (fun j => iI (t_7_4_c j))))] H → va_D A [(t, .inr (11, oX11 t_q)), ((t_q 1), .inr (7, oX7 t_1_q t_1_x0 t_1_x1 t_1_x2 t_1_x3 t_1_x4 t_1_x5 t_1_x6 t_1_x7 t_1_x8)), ((t_q 7), .inr (10, oX10 t_7_q t_7_x0 t_7_x1 t_7_x6)), ((t_7_q 4), .inl (K 0, 12, .inl (fun j => iI (t_7_4_c j))))] → va_S A s.heap H locs → lv_has ls 5 [(0, .ref t), (1, .int (iI x16_1)), (2, .int (iI x16_2)), (3, .int (iI x16_3))] → W p l e ({ frames := 12, cells := 0, slots := 0, locals := 300 } : Room) s m ag below meth c H locs 0 0 Q (F0 m 16 ls []) := by
    intro n
    induction n with
    | zero =>
      intro x16_1 x16_2 x16_3 H locs ls hm16 hf16 hP hD hS hl
      exact absurd hm16 (Nat.not_lt_zero _)
    | succ n ih16 =>
      intro x16_1 x16_2 x16_3 H locs ls hm16 hf16 hP hD hS hl
      have J48 : ∀ (x48_1 : Int) (x48_2 : Int) (x48_4 : Int) (H : Heap) (locs : List Loc) (ls : Array Slot), ((-1) ≤ x48_1 ∧ x48_1 ≤ 11 ∧ 0 ≤ x48_2 ∧ x48_2 ≤ 63 ∧ 0 ≤ x16_3 ∧ x16_3 ≤ 11 ∧ 0 ≤ x48_4 ∧ x48_4 ≤ 63 ∧ 1 ≤ t_1_x4 ∧ t_1_x4 ≤ 12) → va_P D vwCl [(t, .inr (11, oX11 t_q)), ((t_q 1), .inr (7, oX7 t_1_q t_1_x0 t_1_x1 t_1_x2 t_1_x3 t_1_x4 t_1_x5 t_1_x6 t_1_x7 t_1_x8)), ((t_q 7), .inr (10, oX10 t_7_q t_7_x0 t_7_x1 t_7_x6)), ((t_7_q 4), .inl (K 0, 12, .inl (fun j => iI (t_7_4_c j))))] H → va_D A [(t, .inr (11, oX11 t_q)), ((t_q 1), .inr (7, oX7 t_1_q t_1_x0 t_1_x1 t_1_x2 t_1_x3 t_1_x4 t_1_x5 t_1_x6 t_1_x7 t_1_x8)), ((t_q 7), .inr (10, oX10 t_7_q t_7_x0 t_7_x1 t_7_x6)), ((t_7_q 4), .inl (K 0, 12, .inl (fun j => iI (t_7_4_c j))))] → va_S A s.heap H locs → lv_has ls 5 [(0, .ref t), (1, .int (iI x48_1)), (2, .int (iI x48_2)), (3, .int (iI x16_3)), (4, .int (iI x48_4))] → W p l e ({ frames := 12, cells := 0, slots := 0, locals := 300 } : Room) s m ag below meth c H locs 0 0 Q (F0 m 48 ls []) := by
        intro x48_1 x48_2 x48_4 H locs ls hf48 hP hD hS hl
        refine lv_iinc (v := iI (x16_3 + 1)) (lv' := [(3, .int (iI (x16_3 + 1))), (0, .ref t), (1, .int (iI x48_1)), (2, .int (iI x48_2)), (4, .int (iI x48_4))]) hx hb dX11_key_48 hl (k := 3) rfl (iI_add _ _) (by decide) rfl (fun ls hl => ?_)
        refine lv_goto (tgt := 16) hx hb dX11_key_51 (by decide) ?_
        exact ih16 x48_1 x48_2 (x16_3 + 1) _ _ ls (by omega) (by omega) (hP.sub [0, 1, 2, 3] rfl) (hD.sub [0, 1, 2, 3] (by decide) rfl) hS (lv_sub hl [1, 2, 3, 0] rfl)
      refine lv_iload_n hx hb dX11_key_16 rfl (lv_at hl 3 rfl) ?_
      refine lv_aload_n hx hb dX11_key_17 rfl (lv_at hl 0 rfl) ?_
      refine va_get (D := D) (own := RX11) (ci := 11) (v := .ref (t_q 1)) (C := RX11) (T := TX11) (N := 13) hx hb hts inb_X11 hown hK.1 hP 0 rfl rfl 1 (by decide) (hts _ wd_423) (fun _ h9 => h9) rfl dX11_key_18 ?_
      refine va_getN (D := D) (own := RX11) (ci := 7) (v := .int (iI t_1_x4)) (C := RX7) (T := TX7) (N := 15) hx hb hts inb_X7 hown hK.1 hP 1 rfl rfl 4 (by decide) (hK.nf 23 rfl) (fun _ h9 => h9) rfl dX11_key_21 ?_
      have y21_1 : 0 ≤ t_1_x4 ∧ t_1_x4 ≤ 12 := hi_t_1.2.2.2.2.1
      refine g_icmp_ge (tgt := 54) hx hb (by omega) (by omega) dX11_key_24 (by decide) (fun c24 => ?_) (fun c24 => ?_)
      · refine lv_iload_n hx hb dX11_key_54 rfl (lv_at hl 1 rfl) ?_
        rw [hQ]; exact fn_iret hx hb hr hlocks rfl hP hD hS ((fun _ => 0), (fun _ _ => 0)) ⟨x16_1, rfl, by omega, trivial⟩ [0, 1, 2, 3] (by decide) rfl dX11_key_55
      · refine lv_aload_n hx hb dX11_key_27 rfl (lv_at hl 0 rfl) ?_
        refine va_get (D := D) (own := RX11) (ci := 11) (v := .ref (t_q 7)) (C := RX11) (T := TX11) (N := 13) hx hb hts inb_X11 hown hK.1 hP 0 rfl rfl 7 (by decide) (hts _ wd_429) (fun _ h9 => h9) rfl dX11_key_28 ?_
        refine lv_iload_n hx hb dX11_key_31 rfl (lv_at hl 3 rfl) ?_
        refine fn_goi (wc := [((t_q 7), .inr (10, oX10 t_7_q t_7_x0 t_7_x1 t_7_x6)), ((t_7_q 4), .inl (K 0, 12, .inl (fun j => iI (t_7_4_c j))))]) (wr := [(t, .inr (11, oX11 t_q)), ((t_q 1), .inr (7, oX7 t_1_q t_1_x0 t_1_x1 t_1_x2 t_1_x3 t_1_x4 t_1_x5 t_1_x6 t_1_x7 t_1_x8))]) hK hP hD hS hA [2, 3] [0, 1] rfl rfl (by decide) (fun hp => va_runVN (C := RX10) (As := [.int (iI x16_3)]) (rest := []) ⟨hx, hb, hml, hown, hts⟩ (k_X10_lossBy (l := l) (D := D) (K := K) (t := (t_q 7)) (p1 := x16_3) (t_q := t_7_q) (t_x0 := t_7_x0) (t_x1 := t_7_x1) (t_x6 := t_7_x6) (t_4_c := t_7_4_c) (hp1 := (by omega)) (hi_t := hi_t_7) (hc_t_4 := hc_t_7_4) _) ⟨va_cnB (own := RX11) 1 hts (fn_gin wd_837) rfl rfl rfl (hK.nw 125 rfl) (hts _ wd_6) (by decide +kernel) ⟨Nat.le_of_ble_eq_true rfl, Nat.le_of_ble_eq_true rfl⟩, hts _ wd_836, hts _ wp_43⟩ ⟨fn_blind, va_recv hK.1 hP (ci := 10) (q0 := 2) rfl rfl, hp⟩ rfl rfl hl.1 rfl (lv_room (Nat.le_of_ble_eq_true rfl)) dX11_key_32 ⟨Nat.le_of_ble_eq_true rfl, Nat.le_of_ble_eq_true rfl⟩) (fun r32 u32 H locs hwu32 hP hD hS => ?_)
        obtain ⟨u32a, u32b⟩ := u32
        obtain ⟨kr32, rfl, hkr32, -⟩ := hwu32
        have hP : va_P D vwCl [(t, .inr (11, oX11 t_q)), ((t_q 1), .inr (7, oX7 t_1_q t_1_x0 t_1_x1 t_1_x2 t_1_x3 t_1_x4 t_1_x5 t_1_x6 t_1_x7 t_1_x8)), ((t_q 7), .inr (10, oX10 t_7_q t_7_x0 t_7_x1 t_7_x6)), ((t_7_q 4), .inl (K 0, 12, .inl (fun j => iI (t_7_4_c j))))] H := hP
        have hD : va_D A [(t, .inr (11, oX11 t_q)), ((t_q 1), .inr (7, oX7 t_1_q t_1_x0 t_1_x1 t_1_x2 t_1_x3 t_1_x4 t_1_x5 t_1_x6 t_1_x7 t_1_x8)), ((t_q 7), .inr (10, oX10 t_7_q t_7_x0 t_7_x1 t_7_x6)), ((t_7_q 4), .inl (K 0, 12, .inl (fun j => iI (t_7_4_c j))))] := hD
        refine lv_istore (lv' := [(4, .int (iI kr32)), (0, .ref t), (1, .int (iI x16_1)), (2, .int (iI x16_2)), (3, .int (iI x16_3))]) hx hb dX11_key_35 hl (by decide) rfl (fun ls hl => ?_)
        refine lv_iload hx hb dX11_key_37 (lv_at hl 0 rfl) ?_
        refine lv_iload_n hx hb dX11_key_39 rfl (lv_at hl 3 rfl) ?_
        refine g_icmp_le (tgt := 48) hx hb (by omega) (by omega) dX11_key_40 (by decide) (fun c40 => ?_) (fun c40 => ?_)
        · exact J48 x16_1 x16_2 kr32 _ _ ls (by omega) (hP.sub [0, 1, 2, 3] rfl) (hD.sub [0, 1, 2, 3] (by decide) rfl) hS (lv_sub hl [1, 2, 3, 4, 0] rfl)
        · refine lv_iload hx hb dX11_key_43 (lv_at hl 0 rfl) ?_
          refine lv_istore_n (lv' := [(2, .int (iI kr32)), (4, .int (iI kr32)), (0, .ref t), (1, .int (iI x16_1)), (3, .int (iI x16_3))]) hx hb dX11_key_45 rfl hl (by decide) rfl (fun ls hl => ?_)
          refine lv_iload_n hx hb dX11_key_46 rfl (lv_at hl 4 rfl) ?_
          refine lv_istore_n (lv' := [(1, .int (iI x16_3)), (2, .int (iI kr32)), (4, .int (iI kr32)), (0, .ref t), (3, .int (iI x16_3))]) hx hb dX11_key_47 rfl hl (by decide) rfl (fun ls hl => ?_)
          exact J48 x16_3 kr32 kr32 _ _ ls (by omega) (hP.sub [0, 1, 2, 3] rfl) (hD.sub [0, 1, 2, 3] (by decide) rfl) hS (lv_sub hl [3, 0, 1, 4, 2] rfl)
  have hl : lv_has ls 5 [(0, .ref t)] := hl
  refine lv_aload_n hx hb dX11_key_0 rfl (lv_at hl 0 rfl) ?_
  refine fn_goi (wc := [(t, .inr (11, oX11 t_q)), ((t_q 1), .inr (7, oX7 t_1_q t_1_x0 t_1_x1 t_1_x2 t_1_x3 t_1_x4 t_1_x5 t_1_x6 t_1_x7 t_1_x8))]) (wr := [((t_q 7), .inr (10, oX10 t_7_q t_7_x0 t_7_x1 t_7_x6)), ((t_7_q 4), .inl (K 0, 12, .inl (fun j => iI (t_7_4_c j))))]) hK hP hD hS hA [0, 1] [2, 3] rfl rfl (by decide) (fun hp => va_runV (C := RX11) (As := []) (rest := []) ⟨hx, hb, hml, hown, hts⟩ (k_X11_noTown (l := l) (D := D) (K := K) (t := t) (t_q := t_q) (t_1_q := t_1_q) (t_1_x0 := t_1_x0) (t_1_x1 := t_1_x1) (t_1_x2 := t_1_x2) (t_1_x3 := t_1_x3) (t_1_x4 := t_1_x4) (t_1_x5 := t_1_x5) (t_1_x6 := t_1_x6) (t_1_x7 := t_1_x7) (t_1_x8 := t_1_x8) (hi_t_1 := hi_t_1) _) (cwV 0 hts (fn_ginV (fn_gin wd_709) wd_706 wd_708 wp_30 wd_1) rfl rfl rfl (by decide +kernel) ⟨Nat.le_of_ble_eq_true rfl, Nat.le_of_ble_eq_true rfl⟩) ⟨fn_blind, va_recv hK.1 hP (ci := 11) (q0 := 0) rfl rfl, hp⟩ rfl rfl hl.1 rfl (lv_room (Nat.le_of_ble_eq_true rfl)) dX11_key_1 ⟨Nat.le_of_ble_eq_true rfl, Nat.le_of_ble_eq_true rfl⟩) (fun r1 u1 H locs hwu1 hP hD hS => ?_)
  obtain ⟨u1a, u1b⟩ := u1
  obtain ⟨kr1, rfl, hkr1, -⟩ := hwu1
  have hP : va_P D vwCl [((t_q 7), .inr (10, oX10 t_7_q t_7_x0 t_7_x1 t_7_x6)), ((t_7_q 4), .inl (K 0, 12, .inl (fun j => iI (t_7_4_c j)))), (t, .inr (11, oX11 t_q)), ((t_q 1), .inr (7, oX7 t_1_q t_1_x0 t_1_x1 t_1_x2 t_1_x3 t_1_x4 t_1_x5 t_1_x6 t_1_x7 t_1_x8))] H := hP
  have hD : va_D A [((t_q 7), .inr (10, oX10 t_7_q t_7_x0 t_7_x1 t_7_x6)), ((t_7_q 4), .inl (K 0, 12, .inl (fun j => iI (t_7_4_c j)))), (t, .inr (11, oX11 t_q)), ((t_q 1), .inr (7, oX7 t_1_q t_1_x0 t_1_x1 t_1_x2 t_1_x3 t_1_x4 t_1_x5 t_1_x6 t_1_x7 t_1_x8))] := hD
  refine g_if_eq (tgt := 10) hx hb (by omega) dX11_key_4 (by decide) (fun c4 => ?_) (fun c4 => ?_)
  · refine lv_iconst (v := iI (-1)) hx hb dX11_key_10 rfl ?_
    refine lv_istore_n (lv' := [(1, .int (iI (-1))), (0, .ref t)]) hx hb dX11_key_11 rfl hl (by decide) rfl (fun ls hl => ?_)
    refine lv_iconst (v := iI 0) hx hb dX11_key_12 rfl ?_
    refine lv_istore_n (lv' := [(2, .int (iI 0)), (1, .int (iI (-1))), (0, .ref t)]) hx hb dX11_key_13 rfl hl (by decide) rfl (fun ls hl => ?_)
    refine lv_iconst (v := iI 0) hx hb dX11_key_14 rfl ?_
    refine lv_istore_n (lv' := [(3, .int (iI 0)), (2, .int (iI 0)), (1, .int (iI (-1))), (0, .ref t)]) hx hb dX11_key_15 rfl hl (by decide) rfl (fun ls hl => ?_)
    exact J16 _ (-1) 0 0 _ _ ls (Nat.lt_succ_self _) (by omega) (hP.sub [2, 3, 0, 1] rfl) (hD.sub [2, 3, 0, 1] (by decide) rfl) hS (lv_sub hl [3, 2, 1, 0] rfl)
  · refine lv_bipush (v := iI (-2)) hx hb dX11_key_7 (by decide) ?_
    rw [hQ]; exact fn_iret hx hb hr hlocks rfl hP hD hS ((fun _ => 0), (fun _ _ => 0)) ⟨(-2), rfl, by omega, trivial⟩ [2, 3, 0, 1] (by decide) rfl dX11_key_9
theorem wd_860 : Cond.code ⟨"FootNotes$Web", "leastCut", "(I)I"⟩ prog_12_method_13_code 8 (Option.some Jvm.ClassFile.FieldType.int) ∈ fn_big := fn_tb (fn_l4 (List.mem_of_getElem? (i := 140) (by decide +kernel))) (by decide +kernel)
theorem wd_859 : Cond.instanceMethod ⟨"FootNotes$Web", "leastCut", "(I)I"⟩ ∈ fn_big := fn_tb (fn_l4 (List.mem_of_getElem? (i := 139) (by decide +kernel))) (by decide +kernel)
theorem wp_44 : Cond.selects "FootNotes$Web" ⟨"FootNotes$Web", "leastCut", "(I)I"⟩ ⟨"FootNotes$Web", "leastCut", "(I)I"⟩ ∈ fn_big := fn_sel (q := (⟨"FootNotes$Web", "leastCut", "(I)I"⟩, 7)) 44 (by decide +kernel) (by decide +kernel)
theorem dX11_torn_0 : decode cX11_torn 0 = .ok (.aload_n 0, 1) := by decide +kernel
theorem dX11_torn_1 : decode cX11_torn 1 = .ok (.getfield 19, 3) := by decide +kernel
theorem dX11_torn_4 : decode cX11_torn 4 = .ok (.iload_n 1, 1) := by decide +kernel
theorem dX11_torn_5 : decode cX11_torn 5 = .ok (.invokevirtual 130, 3) := by decide +kernel
theorem dX11_torn_8 : decode cX11_torn 8 = .ok (.ifCond .ne 6, 3) := by decide +kernel
theorem dX11_torn_14 : decode cX11_torn 14 = .ok (.aload_n 0, 1) := by decide +kernel
theorem dX11_torn_15 : decode cX11_torn 15 = .ok (.getfield 19, 3) := by decide +kernel
theorem dX11_torn_18 : decode cX11_torn 18 = .ok (.getfield 145, 3) := by decide +kernel
theorem dX11_torn_21 : decode cX11_torn 21 = .ok (.iload_n 1, 1) := by decide +kernel
theorem dX11_torn_22 : decode cX11_torn 22 = .ok (.ishr, 1) := by decide +kernel
theorem dX11_torn_23 : decode cX11_torn 23 = .ok (.iconst 1, 1) := by decide +kernel
theorem dX11_torn_24 : decode cX11_torn 24 = .ok (.iand, 1) := by decide +kernel
theorem dX11_torn_25 : decode cX11_torn 25 = .ok (.iconst 1, 1) := by decide +kernel
theorem dX11_torn_26 : decode cX11_torn 26 = .ok (.if_icmp .ne 7, 3) := by decide +kernel
theorem dX11_torn_33 : decode cX11_torn 33 = .ok (.aload_n 0, 1) := by decide +kernel
theorem dX11_torn_34 : decode cX11_torn 34 = .ok (.getfield 51, 3) := by decide +kernel
theorem dX11_torn_37 : decode cX11_torn 37 = .ok (.iload_n 1, 1) := by decide +kernel
theorem dX11_torn_38 : decode cX11_torn 38 = .ok (.invokevirtual 253, 3) := by decide +kernel
theorem dX11_torn_41 : decode cX11_torn 41 = .ok (.ireturn, 1) := by decide +kernel
theorem dX11_torn_29 : decode cX11_torn 29 = .ok (.iconst (-1), 1) := by decide +kernel
theorem dX11_torn_30 : decode cX11_torn 30 = .ok (.goto 11, 3) := by decide +kernel
theorem dX11_torn_11 : decode cX11_torn 11 = .ok (.bipush (-2), 2) := by decide +kernel
theorem dX11_torn_13 : decode cX11_torn 13 = .ok (.ireturn, 1) := by decide +kernel
set_option maxHeartbeats 4000000 in
set_option maxRecDepth 100000 in
theorem k_X11_torn (l : Launch) (D : va_G) (K : Nat → ClassId) (t : Nat) (t_q t_1_q t_7_q : Nat → Nat) (p1 t_1_x0 t_1_x1 t_1_x2 t_1_x3 t_1_x4 t_1_x5 t_1_x6 t_1_x7 t_1_x8 t_7_x0 t_7_x1 t_7_x6 : Int) (t_7_4_c : Nat → Int) (hp1 : (-2147483648) ≤ p1 ∧ p1 ≤ 2147483647) (hi_t_1 : bX7 t_1_x0 t_1_x1 t_1_x2 t_1_x3 t_1_x4 t_1_x5 t_1_x6 t_1_x7 t_1_x8) (hi_t_7 : bX10 t_7_x0 t_7_x1 t_7_x6) (hc_t_7_4 : ∀ j : Nat, 0 ≤ t_7_4_c j ∧ t_7_4_c j ≤ 4095) : fn_CI (S := (Nat → Int) × (Nat → Nat → Int)) l D K yX11_torn (fn_ws yX11_torn cX11_torn 2 (some .int)) ({ frames := 12, cells := 0, slots := 0, locals := 300 } : Room) [.ref t, .int (iI p1)] [(t, .inr (11, oX11 t_q)), ((t_q 1), .inr (7, oX7 t_1_q t_1_x0 t_1_x1 t_1_x2 t_1_x3 t_1_x4 t_1_x5 t_1_x6 t_1_x7 t_1_x8)), ((t_q 7), .inr (10, oX10 t_7_q t_7_x0 t_7_x1 t_7_x6)), ((t_7_q 4), .inl (K 0, 12, .inl (fun j => iI (t_7_4_c j))))] (fun r u => ∃ k : Int, r = iI k ∧ ((-2) ≤ k ∧ k ≤ 4095) ∧ True) (fun u => [(t, .inr (11, oX11 t_q)), ((t_q 1), .inr (7, oX7 t_1_q t_1_x0 t_1_x1 t_1_x2 t_1_x3 t_1_x4 t_1_x5 t_1_x6 t_1_x7 t_1_x8)), ((t_q 7), .inr (10, oX10 t_7_q t_7_x0 t_7_x1 t_7_x6)), ((t_7_q 4), .inl (K 0, 12, .inl (fun j => iI (t_7_4_c j))))]) 0 0 := by
  refine g_inI (cc := cX11_torn) (maxL := 2) (ret := (some .int)) (by decide) rfl (Nat.le_of_ble_eq_true rfl) ?_
  intro p e s m below meth c A ls ag Q B hA hP hD hS hl hQ
  obtain ⟨hx, hb, hr, hml, hts, hown, hlocks, hin, hK⟩ := B
  have hown : s.vm.findClass RX11 = some m.cls := hown
  have hts := fun w h => hts w (List.mem_cons_of_mem _ h)
  have hl : lv_has ls 2 [(0, .ref t), (1, .int (iI p1))] := hl
  refine lv_aload_n hx hb dX11_torn_0 rfl (lv_at hl 0 rfl) ?_
  refine va_get (D := D) (own := RX11) (ci := 11) (v := .ref (t_q 1)) (C := RX11) (T := TX11) (N := 13) hx hb hts inb_X11 hown hK.1 hP 0 rfl rfl 1 (by decide) (hts _ wd_423) (fun _ h9 => h9) rfl dX11_torn_1 ?_
  refine lv_iload_n hx hb dX11_torn_4 rfl (lv_at hl 1 rfl) ?_
  refine fn_goi (wc := [((t_q 1), .inr (7, oX7 t_1_q t_1_x0 t_1_x1 t_1_x2 t_1_x3 t_1_x4 t_1_x5 t_1_x6 t_1_x7 t_1_x8))]) (wr := [(t, .inr (11, oX11 t_q)), ((t_q 7), .inr (10, oX10 t_7_q t_7_x0 t_7_x1 t_7_x6)), ((t_7_q 4), .inl (K 0, 12, .inl (fun j => iI (t_7_4_c j))))]) hK hP hD hS hA [1] [0, 2, 3] rfl rfl (by decide) (fun hp => va_runVN (C := RX7) (As := [.int (iI p1)]) (rest := []) ⟨hx, hb, hml, hown, hts⟩ (k_X7_hasPage (l := l) (D := D) (K := K) (t := (t_q 1)) (p1 := p1) (t_q := t_1_q) (t_x0 := t_1_x0) (t_x1 := t_1_x1) (t_x2 := t_1_x2) (t_x3 := t_1_x3) (t_x4 := t_1_x4) (t_x5 := t_1_x5) (t_x6 := t_1_x6) (t_x7 := t_1_x7) (t_x8 := t_1_x8) (hp1 := (by omega)) (hi_t := hi_t_1) _) ⟨va_cnB (own := RX11) 1 hts (fn_gin wd_662) rfl rfl rfl (hK.nw 108 rfl) (hts _ wd_4) (by decide +kernel) ⟨Nat.le_of_ble_eq_true rfl, Nat.le_of_ble_eq_true rfl⟩, hts _ wd_661, hts _ wp_25⟩ ⟨fn_blind, va_recv hK.1 hP (ci := 7) (q0 := 1) rfl rfl, hp⟩ rfl rfl hl.1 rfl (lv_room (Nat.le_of_ble_eq_true rfl)) dX11_torn_5 ⟨Nat.le_of_ble_eq_true rfl, Nat.le_of_ble_eq_true rfl⟩) (fun r5 u5 H locs hwu5 hP hD hS => ?_)
  obtain ⟨u5a, u5b⟩ := u5
  obtain ⟨kr5, rfl, hkr5, hqu50, -⟩ := hwu5
  have hqu5 : (kr5 = 1 → 0 ≤ p1 ∧ p1 < t_1_x4 ∧ p1 ≤ 11) := hqu50
  clear hqu50
  have hP : va_P D vwCl [(t, .inr (11, oX11 t_q)), ((t_q 7), .inr (10, oX10 t_7_q t_7_x0 t_7_x1 t_7_x6)), ((t_7_q 4), .inl (K 0, 12, .inl (fun j => iI (t_7_4_c j)))), ((t_q 1), .inr (7, oX7 t_1_q t_1_x0 t_1_x1 t_1_x2 t_1_x3 t_1_x4 t_1_x5 t_1_x6 t_1_x7 t_1_x8))] H := hP
  have hD : va_D A [(t, .inr (11, oX11 t_q)), ((t_q 7), .inr (10, oX10 t_7_q t_7_x0 t_7_x1 t_7_x6)), ((t_7_q 4), .inl (K 0, 12, .inl (fun j => iI (t_7_4_c j)))), ((t_q 1), .inr (7, oX7 t_1_q t_1_x0 t_1_x1 t_1_x2 t_1_x3 t_1_x4 t_1_x5 t_1_x6 t_1_x7 t_1_x8))] := hD
  refine g_if_ne (tgt := 14) hx hb (by omega) dX11_torn_8 (by decide) (fun c8 => ?_) (fun c8 => ?_)
  · refine lv_aload_n hx hb dX11_torn_14 rfl (lv_at hl 0 rfl) ?_
    refine va_get (D := D) (own := RX11) (ci := 11) (v := .ref (t_q 1)) (C := RX11) (T := TX11) (N := 13) hx hb hts inb_X11 hown hK.1 hP 0 rfl rfl 1 (by decide) (hts _ wd_423) (fun _ h9 => h9) rfl dX11_torn_15 ?_
    refine va_getN (D := D) (own := RX11) (ci := 7) (v := .int (iI t_1_x6)) (C := RX7) (T := TX7) (N := 15) hx hb hts inb_X7 hown hK.1 hP 3 rfl rfl 6 (by decide) (hK.nf 33 rfl) (fun _ h9 => h9) rfl dX11_torn_18 ?_
    have y18_1 : 0 ≤ t_1_x6 ∧ t_1_x6 ≤ 4095 := hi_t_1.2.2.2.2.2.2.1
    refine lv_iload_n hx hb dX11_torn_21 rfl (lv_at hl 1 rfl) ?_
    refine lv_ishr hx hb dX11_torn_22 ?_
    obtain ⟨w22, ew22, hw22⟩ := iI_shr t_1_x6 p1 (by omega) (by omega)
    refine fn_top (iI w22) ew22 ?_
    refine lv_iconst (v := iI 1) hx hb dX11_torn_23 rfl ?_
    refine lv_iand hx hb dX11_torn_24 ?_
    obtain ⟨w24, ew24, hw24⟩ := iI_and1 w22 (by omega)
    refine fn_top (iI w24) ew24 ?_
    refine lv_iconst (v := iI 1) hx hb dX11_torn_25 rfl ?_
    refine g_icmp_ne (tgt := 33) hx hb (by omega) (by omega) dX11_torn_26 (by decide) (fun c26 => ?_) (fun c26 => ?_)
    · refine lv_aload_n hx hb dX11_torn_33 rfl (lv_at hl 0 rfl) ?_
      refine va_get (D := D) (own := RX11) (ci := 11) (v := .ref (t_q 7)) (C := RX11) (T := TX11) (N := 13) hx hb hts inb_X11 hown hK.1 hP 0 rfl rfl 7 (by decide) (hts _ wd_429) (fun _ h9 => h9) rfl dX11_torn_34 ?_
      refine lv_iload_n hx hb dX11_torn_37 rfl (lv_at hl 1 rfl) ?_
      refine fn_goi (wc := [((t_q 7), .inr (10, oX10 t_7_q t_7_x0 t_7_x1 t_7_x6)), ((t_7_q 4), .inl (K 0, 12, .inl (fun j => iI (t_7_4_c j))))]) (wr := [(t, .inr (11, oX11 t_q)), ((t_q 1), .inr (7, oX7 t_1_q t_1_x0 t_1_x1 t_1_x2 t_1_x3 t_1_x4 t_1_x5 t_1_x6 t_1_x7 t_1_x8))]) hK hP hD hS hA [1, 2] [0, 3] rfl rfl (by decide) (fun hp => va_runVN (C := RX10) (As := [.int (iI p1)]) (rest := []) ⟨hx, hb, hml, hown, hts⟩ (k_X10_leastCut (l := l) (D := D) (K := K) (t := (t_q 7)) (p1 := p1) (t_q := t_7_q) (t_x0 := t_7_x0) (t_x1 := t_7_x1) (t_x6 := t_7_x6) (t_4_c := t_7_4_c) (hp1 := (by omega)) (hi_t := hi_t_7) (hc_t_4 := hc_t_7_4) _) ⟨va_cnB (own := RX11) 1 hts (fn_gin wd_860) rfl rfl rfl (hK.nw 126 rfl) (hts _ wd_6) (by decide +kernel) ⟨Nat.le_of_ble_eq_true rfl, Nat.le_of_ble_eq_true rfl⟩, hts _ wd_859, hts _ wp_44⟩ ⟨fn_blind, va_recv hK.1 hP (ci := 10) (q0 := 1) rfl rfl, hp⟩ rfl rfl hl.1 rfl (lv_room (Nat.le_of_ble_eq_true rfl)) dX11_torn_38 ⟨Nat.le_of_ble_eq_true rfl, Nat.le_of_ble_eq_true rfl⟩) (fun r38 u38 H locs hwu38 hP hD hS => ?_)
      obtain ⟨u38a, u38b⟩ := u38
      obtain ⟨kr38, rfl, hkr38, -⟩ := hwu38
      have hP : va_P D vwCl [(t, .inr (11, oX11 t_q)), ((t_q 1), .inr (7, oX7 t_1_q t_1_x0 t_1_x1 t_1_x2 t_1_x3 t_1_x4 t_1_x5 t_1_x6 t_1_x7 t_1_x8)), ((t_q 7), .inr (10, oX10 t_7_q t_7_x0 t_7_x1 t_7_x6)), ((t_7_q 4), .inl (K 0, 12, .inl (fun j => iI (t_7_4_c j))))] H := hP
      have hD : va_D A [(t, .inr (11, oX11 t_q)), ((t_q 1), .inr (7, oX7 t_1_q t_1_x0 t_1_x1 t_1_x2 t_1_x3 t_1_x4 t_1_x5 t_1_x6 t_1_x7 t_1_x8)), ((t_q 7), .inr (10, oX10 t_7_q t_7_x0 t_7_x1 t_7_x6)), ((t_7_q 4), .inl (K 0, 12, .inl (fun j => iI (t_7_4_c j))))] := hD
      rw [hQ]; exact fn_iret hx hb hr hlocks rfl hP hD hS ((fun _ => 0), (fun _ _ => 0)) ⟨kr38, rfl, by omega, trivial⟩ [0, 1, 2, 3] (by decide) rfl dX11_torn_41
    · refine lv_iconst (v := iI (-1)) hx hb dX11_torn_29 rfl ?_
      refine lv_goto (tgt := 41) hx hb dX11_torn_30 (by decide) ?_
      rw [hQ]; exact fn_iret hx hb hr hlocks rfl hP hD hS ((fun _ => 0), (fun _ _ => 0)) ⟨(-1), rfl, by omega, trivial⟩ [0, 3, 1, 2] (by decide) rfl dX11_torn_41
  · refine lv_bipush (v := iI (-2)) hx hb dX11_torn_11 (by decide) ?_
    rw [hQ]; exact fn_iret hx hb hr hlocks rfl hP hD hS ((fun _ => 0), (fun _ _ => 0)) ⟨(-2), rfl, by omega, trivial⟩ [0, 3, 1, 2] (by decide) rfl dX11_torn_13
theorem wd_856 : Cond.code ⟨"FootNotes", "torn", "(I)I"⟩ prog_1_method_35_code 2 (Option.some Jvm.ClassFile.FieldType.int) ∈ fn_big := fn_tb (fn_l4 (List.mem_of_getElem? (i := 136) (by decide +kernel))) (by decide +kernel)
theorem wd_853 : Cond.methodLink "FootNotes" 245 ⟨"FootNotes", "torn", "(I)I"⟩ ∈ fn_big := fn_tb (fn_l4 (List.mem_of_getElem? (i := 133) (by decide +kernel))) (by decide +kernel)
theorem wd_854 : Cond.instanceMethod ⟨"FootNotes", "torn", "(I)I"⟩ ∈ fn_big := fn_tb (fn_l4 (List.mem_of_getElem? (i := 134) (by decide +kernel))) (by decide +kernel)
theorem wd_855 : Cond.selects "FootNotes" ⟨"FootNotes", "torn", "(I)I"⟩ ⟨"FootNotes", "torn", "(I)I"⟩ ∈ fn_big := fn_tb (fn_l4 (List.mem_of_getElem? (i := 135) (by decide +kernel))) (by decide +kernel)
theorem wd_862 : Cond.methodLink "FootNotes" 248 ⟨"java/lang/Integer", "bitCount", "(I)I"⟩ ∈ fn_big := fn_tb (fn_l4 (List.mem_of_getElem? (i := 142) (by decide +kernel))) (by decide +kernel)
theorem dX11_cut_0 : decode cX11_cut 0 = .ok (.aload_n 0, 1) := by decide +kernel
theorem dX11_cut_1 : decode cX11_cut 1 = .ok (.iload_n 1, 1) := by decide +kernel
theorem dX11_cut_2 : decode cX11_cut 2 = .ok (.invokevirtual 245, 3) := by decide +kernel
theorem dX11_cut_5 : decode cX11_cut 5 = .ok (.istore_n 2, 1) := by decide +kernel
theorem dX11_cut_6 : decode cX11_cut 6 = .ok (.iload_n 2, 1) := by decide +kernel
theorem dX11_cut_7 : decode cX11_cut 7 = .ok (.ifCond .ge 7, 3) := by decide +kernel
theorem dX11_cut_14 : decode cX11_cut 14 = .ok (.iload_n 2, 1) := by decide +kernel
theorem dX11_cut_15 : decode cX11_cut 15 = .ok (.invokestatic 248, 3) := by decide +kernel
theorem dX11_cut_18 : decode cX11_cut 18 = .ok (.ireturn, 1) := by decide +kernel
theorem dX11_cut_10 : decode cX11_cut 10 = .ok (.iload_n 2, 1) := by decide +kernel
theorem dX11_cut_11 : decode cX11_cut 11 = .ok (.goto 7, 3) := by decide +kernel
set_option maxHeartbeats 4000000 in
set_option maxRecDepth 100000 in
theorem k_X11_cut (l : Launch) (D : va_G) (K : Nat → ClassId) (t : Nat) (t_q t_1_q t_7_q : Nat → Nat) (p1 t_1_x0 t_1_x1 t_1_x2 t_1_x3 t_1_x4 t_1_x5 t_1_x6 t_1_x7 t_1_x8 t_7_x0 t_7_x1 t_7_x6 : Int) (t_7_4_c : Nat → Int) (hp1 : (-2147483648) ≤ p1 ∧ p1 ≤ 2147483647) (hi_t_1 : bX7 t_1_x0 t_1_x1 t_1_x2 t_1_x3 t_1_x4 t_1_x5 t_1_x6 t_1_x7 t_1_x8) (hi_t_7 : bX10 t_7_x0 t_7_x1 t_7_x6) (hc_t_7_4 : ∀ j : Nat, 0 ≤ t_7_4_c j ∧ t_7_4_c j ≤ 4095) : fn_CI (S := (Nat → Int) × (Nat → Nat → Int)) l D K yX11_cut (fn_ws yX11_cut cX11_cut 3 (some .int)) ({ frames := 16, cells := 0, slots := 0, locals := 400 } : Room) [.ref t, .int (iI p1)] [(t, .inr (11, oX11 t_q)), ((t_q 1), .inr (7, oX7 t_1_q t_1_x0 t_1_x1 t_1_x2 t_1_x3 t_1_x4 t_1_x5 t_1_x6 t_1_x7 t_1_x8)), ((t_q 7), .inr (10, oX10 t_7_q t_7_x0 t_7_x1 t_7_x6)), ((t_7_q 4), .inl (K 0, 12, .inl (fun j => iI (t_7_4_c j))))] (fun r u => ∃ k : Int, r = iI k ∧ ((-2) ≤ k ∧ k ≤ 63) ∧ True) (fun u => [(t, .inr (11, oX11 t_q)), ((t_q 1), .inr (7, oX7 t_1_q t_1_x0 t_1_x1 t_1_x2 t_1_x3 t_1_x4 t_1_x5 t_1_x6 t_1_x7 t_1_x8)), ((t_q 7), .inr (10, oX10 t_7_q t_7_x0 t_7_x1 t_7_x6)), ((t_7_q 4), .inl (K 0, 12, .inl (fun j => iI (t_7_4_c j))))]) 0 0 := by
  refine g_inI (cc := cX11_cut) (maxL := 3) (ret := (some .int)) (by decide) rfl (Nat.le_of_ble_eq_true rfl) ?_
  intro p e s m below meth c A ls ag Q B hA hP hD hS hl hQ
  obtain ⟨hx, hb, hr, hml, hts, hown, hlocks, hin, hK⟩ := B
  have hown : s.vm.findClass RX11 = some m.cls := hown
  have hts := fun w h => hts w (List.mem_cons_of_mem _ h)
  have hl : lv_has ls 3 [(0, .ref t), (1, .int (iI p1))] := hl
  refine lv_aload_n hx hb dX11_cut_0 rfl (lv_at hl 0 rfl) ?_
  refine lv_iload_n hx hb dX11_cut_1 rfl (lv_at hl 1 rfl) ?_
  refine fn_goi (wc := [(t, .inr (11, oX11 t_q)), ((t_q 1), .inr (7, oX7 t_1_q t_1_x0 t_1_x1 t_1_x2 t_1_x3 t_1_x4 t_1_x5 t_1_x6 t_1_x7 t_1_x8)), ((t_q 7), .inr (10, oX10 t_7_q t_7_x0 t_7_x1 t_7_x6)), ((t_7_q 4), .inl (K 0, 12, .inl (fun j => iI (t_7_4_c j))))]) (wr := []) hK hP hD hS hA [0, 1, 2, 3] [] rfl rfl (by decide) (fun hp => va_runV (C := RX11) (As := [.int (iI p1)]) (rest := []) ⟨hx, hb, hml, hown, hts⟩ (k_X11_torn (l := l) (D := D) (K := K) (t := t) (p1 := p1) (t_q := t_q) (t_1_q := t_1_q) (t_1_x0 := t_1_x0) (t_1_x1 := t_1_x1) (t_1_x2 := t_1_x2) (t_1_x3 := t_1_x3) (t_1_x4 := t_1_x4) (t_1_x5 := t_1_x5) (t_1_x6 := t_1_x6) (t_1_x7 := t_1_x7) (t_1_x8 := t_1_x8) (t_7_q := t_7_q) (t_7_x0 := t_7_x0) (t_7_x1 := t_7_x1) (t_7_x6 := t_7_x6) (t_7_4_c := t_7_4_c) (hp1 := (by omega)) (hi_t_1 := hi_t_1) (hi_t_7 := hi_t_7) (hc_t_7_4 := hc_t_7_4) _) (cwV 1 hts (fn_ginV (fn_gin wd_856) wd_853 wd_854 wd_855 wd_1) rfl rfl rfl (by decide +kernel) ⟨Nat.le_of_ble_eq_true rfl, Nat.le_of_ble_eq_true rfl⟩) ⟨fn_blind, va_recv hK.1 hP (ci := 11) (q0 := 0) rfl rfl, hp⟩ rfl rfl hl.1 rfl (lv_room (Nat.le_of_ble_eq_true rfl)) dX11_cut_2 ⟨Nat.le_of_ble_eq_true rfl, Nat.le_of_ble_eq_true rfl⟩) (fun r2 u2 H locs hwu2 hP hD hS => ?_)
  obtain ⟨u2a, u2b⟩ := u2
  obtain ⟨kr2, rfl, hkr2, -⟩ := hwu2
  have hP : va_P D vwCl [(t, .inr (11, oX11 t_q)), ((t_q 1), .inr (7, oX7 t_1_q t_1_x0 t_1_x1 t_1_x2 t_1_x3 t_1_x4 t_1_x5 t_1_x6 t_1_x7 t_1_x8)), ((t_q 7), .inr (10, oX10 t_7_q t_7_x0 t_7_x1 t_7_x6)), ((t_7_q 4), .inl (K 0, 12, .inl (fun j => iI (t_7_4_c j))))] H := hP
  have hD : va_D A [(t, .inr (11, oX11 t_q)), ((t_q 1), .inr (7, oX7 t_1_q t_1_x0 t_1_x1 t_1_x2 t_1_x3 t_1_x4 t_1_x5 t_1_x6 t_1_x7 t_1_x8)), ((t_q 7), .inr (10, oX10 t_7_q t_7_x0 t_7_x1 t_7_x6)), ((t_7_q 4), .inl (K 0, 12, .inl (fun j => iI (t_7_4_c j))))] := hD
  refine lv_istore_n (lv' := [(2, .int (iI kr2)), (0, .ref t), (1, .int (iI p1))]) hx hb dX11_cut_5 rfl hl (by decide) rfl (fun ls hl => ?_)
  refine lv_iload_n hx hb dX11_cut_6 rfl (lv_at hl 0 rfl) ?_
  refine g_if_ge (tgt := 14) hx hb (by omega) dX11_cut_7 (by decide) (fun c7 => ?_) (fun c7 => ?_)
  · refine lv_iload_n hx hb dX11_cut_14 rfl (lv_at hl 0 rfl) ?_
    refine fn_goi (wc := []) (wr := [(t, .inr (11, oX11 t_q)), ((t_q 1), .inr (7, oX7 t_1_q t_1_x0 t_1_x1 t_1_x2 t_1_x3 t_1_x4 t_1_x5 t_1_x6 t_1_x7 t_1_x8)), ((t_q 7), .inr (10, oX10 t_7_q t_7_x0 t_7_x1 t_7_x6)), ((t_7_q 4), .inl (K 0, 12, .inl (fun j => iI (t_7_4_c j))))]) hK hP hD hS hA [] [0, 1, 2, 3] rfl rfl (by decide) (fun hp => va_runS (As := [.int (iI kr2)]) (rest := []) ⟨hx, hb, hml, hown, hts⟩ (k_J6_bitCount_0f7a4 (l := l) (D := D) (K := K) (p1 := kr2) (hp1 := (by omega)) _) (va_cwS 1 hts (fn_ginS (fn_gin wd_841) wd_862 wd_840 wd_21) rfl rfl rfl (by decide +kernel) ⟨Nat.le_of_ble_eq_true rfl, Nat.le_of_ble_eq_true rfl⟩) ⟨fn_blind, hp⟩ rfl rfl hl.1 rfl (lv_room (Nat.le_of_ble_eq_true rfl)) dX11_cut_15 ⟨Nat.le_of_ble_eq_true rfl, Nat.le_of_ble_eq_true rfl⟩) (fun r15 u15 H locs hwu15 hP hD hS => ?_)
    obtain ⟨u15a, u15b⟩ := u15
    obtain ⟨kr15, rfl, hkr15, -⟩ := hwu15
    have hP : va_P D vwCl [(t, .inr (11, oX11 t_q)), ((t_q 1), .inr (7, oX7 t_1_q t_1_x0 t_1_x1 t_1_x2 t_1_x3 t_1_x4 t_1_x5 t_1_x6 t_1_x7 t_1_x8)), ((t_q 7), .inr (10, oX10 t_7_q t_7_x0 t_7_x1 t_7_x6)), ((t_7_q 4), .inl (K 0, 12, .inl (fun j => iI (t_7_4_c j))))] H := hP
    have hD : va_D A [(t, .inr (11, oX11 t_q)), ((t_q 1), .inr (7, oX7 t_1_q t_1_x0 t_1_x1 t_1_x2 t_1_x3 t_1_x4 t_1_x5 t_1_x6 t_1_x7 t_1_x8)), ((t_q 7), .inr (10, oX10 t_7_q t_7_x0 t_7_x1 t_7_x6)), ((t_7_q 4), .inl (K 0, 12, .inl (fun j => iI (t_7_4_c j))))] := hD
    rw [hQ]; exact fn_iret hx hb hr hlocks rfl hP hD hS ((fun _ => 0), (fun _ _ => 0)) ⟨kr15, rfl, by omega, trivial⟩ [0, 1, 2, 3] (by decide) rfl dX11_cut_18
  · refine lv_iload_n hx hb dX11_cut_10 rfl (lv_at hl 0 rfl) ?_
    refine lv_goto (tgt := 18) hx hb dX11_cut_11 (by decide) ?_
    rw [hQ]; exact fn_iret hx hb hr hlocks rfl hP hD hS ((fun _ => 0), (fun _ _ => 0)) ⟨kr2, rfl, by omega, trivial⟩ [0, 1, 2, 3] (by decide) rfl dX11_cut_18
theorem dX11_noSet_0 : decode cX11_noSet 0 = .ok (.aload_n 0, 1) := by decide +kernel
theorem dX11_noSet_1 : decode cX11_noSet 1 = .ok (.invokevirtual 188, 3) := by decide +kernel
theorem dX11_noSet_4 : decode cX11_noSet 4 = .ok (.ifCond .ne 20, 3) := by decide +kernel
theorem dX11_noSet_24 : decode cX11_noSet 24 = .ok (.iconst 1, 1) := by decide +kernel
theorem dX11_noSet_25 : decode cX11_noSet 25 = .ok (.goto 4, 3) := by decide +kernel
theorem dX11_noSet_29 : decode cX11_noSet 29 = .ok (.ireturn, 1) := by decide +kernel
theorem dX11_noSet_7 : decode cX11_noSet 7 = .ok (.iload_n 1, 1) := by decide +kernel
theorem dX11_noSet_8 : decode cX11_noSet 8 = .ok (.ifCond .lt 16, 3) := by decide +kernel
theorem dX11_noSet_11 : decode cX11_noSet 11 = .ok (.iload_n 1, 1) := by decide +kernel
theorem dX11_noSet_12 : decode cX11_noSet 12 = .ok (.iconst 1, 1) := by decide +kernel
theorem dX11_noSet_13 : decode cX11_noSet 13 = .ok (.aload_n 0, 1) := by decide +kernel
theorem dX11_noSet_14 : decode cX11_noSet 14 = .ok (.getfield 19, 3) := by decide +kernel
theorem dX11_noSet_17 : decode cX11_noSet 17 = .ok (.getfield 218, 3) := by decide +kernel
theorem dX11_noSet_20 : decode cX11_noSet 20 = .ok (.ishl, 1) := by decide +kernel
theorem dX11_noSet_21 : decode cX11_noSet 21 = .ok (.if_icmp .lt 7, 3) := by decide +kernel
theorem dX11_noSet_28 : decode cX11_noSet 28 = .ok (.iconst 0, 1) := by decide +kernel
set_option maxHeartbeats 4000000 in
set_option maxRecDepth 100000 in
theorem k_X11_noSet (l : Launch) (D : va_G) (K : Nat → ClassId) (t : Nat) (t_q t_1_q : Nat → Nat) (p1 t_1_x0 t_1_x1 t_1_x2 t_1_x3 t_1_x4 t_1_x5 t_1_x6 t_1_x7 t_1_x8 : Int) (hp1 : (-2147483648) ≤ p1 ∧ p1 ≤ 2147483647) (hi_t_1 : bX7 t_1_x0 t_1_x1 t_1_x2 t_1_x3 t_1_x4 t_1_x5 t_1_x6 t_1_x7 t_1_x8) : fn_CI (S := (Nat → Int) × (Nat → Nat → Int)) l D K yX11_noSet (fn_ws yX11_noSet cX11_noSet 2 (some .boolean)) ({ frames := 8, cells := 0, slots := 0, locals := 200 } : Room) [.ref t, .int (iI p1)] [(t, .inr (11, oX11 t_q)), ((t_q 1), .inr (7, oX7 t_1_q t_1_x0 t_1_x1 t_1_x2 t_1_x3 t_1_x4 t_1_x5 t_1_x6 t_1_x7 t_1_x8))] (fun r u => ∃ k : Int, r = iI k ∧ (0 ≤ k ∧ k ≤ 1) ∧ ((k = 0 → 0 ≤ p1 ∧ p1 ≤ 4095)) ∧ True) (fun u => [(t, .inr (11, oX11 t_q)), ((t_q 1), .inr (7, oX7 t_1_q t_1_x0 t_1_x1 t_1_x2 t_1_x3 t_1_x4 t_1_x5 t_1_x6 t_1_x7 t_1_x8))]) 0 0 := by
  refine g_inI (cc := cX11_noSet) (maxL := 2) (ret := (some .boolean)) (by decide) rfl (Nat.le_of_ble_eq_true rfl) ?_
  intro p e s m below meth c A ls ag Q B hA hP hD hS hl hQ
  obtain ⟨hx, hb, hr, hml, hts, hown, hlocks, hin, hK⟩ := B
  have hown : s.vm.findClass RX11 = some m.cls := hown
  have hts := fun w h => hts w (List.mem_cons_of_mem _ h)
  have hl : lv_has ls 2 [(0, .ref t), (1, .int (iI p1))] := hl
  refine lv_aload_n hx hb dX11_noSet_0 rfl (lv_at hl 0 rfl) ?_
  refine fn_goi (wc := [(t, .inr (11, oX11 t_q)), ((t_q 1), .inr (7, oX7 t_1_q t_1_x0 t_1_x1 t_1_x2 t_1_x3 t_1_x4 t_1_x5 t_1_x6 t_1_x7 t_1_x8))]) (wr := []) hK hP hD hS hA [0, 1] [] rfl rfl (by decide) (fun hp => va_runV (C := RX11) (As := []) (rest := []) ⟨hx, hb, hml, hown, hts⟩ (k_X11_noTown (l := l) (D := D) (K := K) (t := t) (t_q := t_q) (t_1_q := t_1_q) (t_1_x0 := t_1_x0) (t_1_x1 := t_1_x1) (t_1_x2 := t_1_x2) (t_1_x3 := t_1_x3) (t_1_x4 := t_1_x4) (t_1_x5 := t_1_x5) (t_1_x6 := t_1_x6) (t_1_x7 := t_1_x7) (t_1_x8 := t_1_x8) (hi_t_1 := hi_t_1) _) (cwV 0 hts (fn_ginV (fn_gin wd_709) wd_706 wd_708 wp_30 wd_1) rfl rfl rfl (by decide +kernel) ⟨Nat.le_of_ble_eq_true rfl, Nat.le_of_ble_eq_true rfl⟩) ⟨fn_blind, va_recv hK.1 hP (ci := 11) (q0 := 0) rfl rfl, hp⟩ rfl rfl hl.1 rfl (lv_room (Nat.le_of_ble_eq_true rfl)) dX11_noSet_1 ⟨Nat.le_of_ble_eq_true rfl, Nat.le_of_ble_eq_true rfl⟩) (fun r1 u1 H locs hwu1 hP hD hS => ?_)
  obtain ⟨u1a, u1b⟩ := u1
  obtain ⟨kr1, rfl, hkr1, -⟩ := hwu1
  have hP : va_P D vwCl [(t, .inr (11, oX11 t_q)), ((t_q 1), .inr (7, oX7 t_1_q t_1_x0 t_1_x1 t_1_x2 t_1_x3 t_1_x4 t_1_x5 t_1_x6 t_1_x7 t_1_x8))] H := hP
  have hD : va_D A [(t, .inr (11, oX11 t_q)), ((t_q 1), .inr (7, oX7 t_1_q t_1_x0 t_1_x1 t_1_x2 t_1_x3 t_1_x4 t_1_x5 t_1_x6 t_1_x7 t_1_x8))] := hD
  refine g_if_ne (tgt := 24) hx hb (by omega) dX11_noSet_4 (by decide) (fun c4 => ?_) (fun c4 => ?_)
  · refine lv_iconst (v := iI 1) hx hb dX11_noSet_24 rfl ?_
    refine lv_goto (tgt := 29) hx hb dX11_noSet_25 (by decide) ?_
    rw [hQ]; exact fn_iret hx hb hr hlocks (iI_nz (by omega)) hP hD hS ((fun _ => 0), (fun _ _ => 0)) ⟨1, rfl, by omega, (by show ((1 : Int) = 0 → 0 ≤ p1 ∧ p1 ≤ 4095); omega), trivial⟩ [0, 1] (by decide) rfl dX11_noSet_29
  · refine lv_iload_n hx hb dX11_noSet_7 rfl (lv_at hl 1 rfl) ?_
    refine g_if_lt (tgt := 24) hx hb (by omega) dX11_noSet_8 (by decide) (fun c8 => ?_) (fun c8 => ?_)
    · refine lv_iconst (v := iI 1) hx hb dX11_noSet_24 rfl ?_
      refine lv_goto (tgt := 29) hx hb dX11_noSet_25 (by decide) ?_
      rw [hQ]; exact fn_iret hx hb hr hlocks (iI_nz (by omega)) hP hD hS ((fun _ => 0), (fun _ _ => 0)) ⟨1, rfl, by omega, (by show ((1 : Int) = 0 → 0 ≤ p1 ∧ p1 ≤ 4095); omega), trivial⟩ [0, 1] (by decide) rfl dX11_noSet_29
    · refine lv_iload_n hx hb dX11_noSet_11 rfl (lv_at hl 1 rfl) ?_
      refine lv_iconst (v := iI 1) hx hb dX11_noSet_12 rfl ?_
      refine lv_aload_n hx hb dX11_noSet_13 rfl (lv_at hl 0 rfl) ?_
      refine va_get (D := D) (own := RX11) (ci := 11) (v := .ref (t_q 1)) (C := RX11) (T := TX11) (N := 13) hx hb hts inb_X11 hown hK.1 hP 0 rfl rfl 1 (by decide) (hts _ wd_423) (fun _ h9 => h9) rfl dX11_noSet_14 ?_
      refine va_getN (D := D) (own := RX11) (ci := 7) (v := .int (iI t_1_x4)) (C := RX7) (T := TX7) (N := 15) hx hb hts inb_X7 hown hK.1 hP 1 rfl rfl 4 (by decide) (hK.nf 23 rfl) (fun _ h9 => h9) rfl dX11_noSet_17 ?_
      have y17_1 : 0 ≤ t_1_x4 ∧ t_1_x4 ≤ 12 := hi_t_1.2.2.2.2.1
      refine lv_ishl hx hb dX11_noSet_20 ?_
      obtain ⟨w20, ew20, hw20⟩ := iI_shl1 12 t_1_x4 (by omega) (by omega) (by decide)
      refine fn_top (iI w20) ew20 ?_
      refine g_icmp_lt (tgt := 28) hx hb (by omega) (by omega) dX11_noSet_21 (by decide) (fun c21 => ?_) (fun c21 => ?_)
      · refine lv_iconst (v := iI 0) hx hb dX11_noSet_28 rfl ?_
        rw [hQ]; exact fn_iret hx hb hr hlocks (iI_nz (by omega)) hP hD hS ((fun _ => 0), (fun _ _ => 0)) ⟨0, rfl, by omega, (by show ((0 : Int) = 0 → 0 ≤ p1 ∧ p1 ≤ 4095); omega), trivial⟩ [0, 1] (by decide) rfl dX11_noSet_29
      · refine lv_iconst (v := iI 1) hx hb dX11_noSet_24 rfl ?_
        refine lv_goto (tgt := 29) hx hb dX11_noSet_25 (by decide) ?_
        rw [hQ]; exact fn_iret hx hb hr hlocks (iI_nz (by omega)) hP hD hS ((fun _ => 0), (fun _ _ => 0)) ⟨1, rfl, by omega, (by show ((1 : Int) = 0 → 0 ≤ p1 ∧ p1 ≤ 4095); omega), trivial⟩ [0, 1] (by decide) rfl dX11_noSet_29
theorem wd_431 : Cond.fieldLink "FootNotes" 61 "FootNotes" "faith" "LFootNotes$Faith;" ∈ fn_big := fn_tb (fn_l2 (List.mem_of_getElem? (i := 191) (by decide +kernel))) (by decide +kernel)
theorem wd_871 : Cond.code ⟨"FootNotes", "noSet", "(I)Z"⟩ prog_1_method_36_code 2 (Option.some Jvm.ClassFile.FieldType.boolean) ∈ fn_big := fn_tb (fn_l4 (List.mem_of_getElem? (i := 151) (by decide +kernel))) (by decide +kernel)
theorem wd_868 : Cond.methodLink "FootNotes" 256 ⟨"FootNotes", "noSet", "(I)Z"⟩ ∈ fn_big := fn_tb (fn_l4 (List.mem_of_getElem? (i := 148) (by decide +kernel))) (by decide +kernel)
theorem wd_870 : Cond.instanceMethod ⟨"FootNotes", "noSet", "(I)Z"⟩ ∈ fn_big := fn_tb (fn_l4 (List.mem_of_getElem? (i := 150) (by decide +kernel))) (by decide +kernel)
theorem wp_45 : Cond.selects "FootNotes" ⟨"FootNotes", "noSet", "(I)Z"⟩ ⟨"FootNotes", "noSet", "(I)Z"⟩ ∈ fn_big := fn_sel (q := (⟨"FootNotes", "noSet", "(I)Z"⟩, 13)) 45 (by decide +kernel) (by decide +kernel)
theorem wd_875 : Cond.code ⟨"FootNotes$Faith", "take", "(LFootNotes$Text;LFootNotes$Web;)V"⟩ prog_2_method_2_code 4 (Option.none : Option Jvm.ClassFile.FieldType) ∈ fn_big := fn_tb (fn_l4 (List.mem_of_getElem? (i := 155) (by decide +kernel))) (by decide +kernel)
theorem wd_874 : Cond.instanceMethod ⟨"FootNotes$Faith", "take", "(LFootNotes$Text;LFootNotes$Web;)V"⟩ ∈ fn_big := fn_tb (fn_l4 (List.mem_of_getElem? (i := 154) (by decide +kernel))) (by decide +kernel)
theorem wp_46 : Cond.selects "FootNotes$Faith" ⟨"FootNotes$Faith", "take", "(LFootNotes$Text;LFootNotes$Web;)V"⟩ ⟨"FootNotes$Faith", "take", "(LFootNotes$Text;LFootNotes$Web;)V"⟩ ∈ fn_big := fn_sel (q := (⟨"FootNotes$Faith", "take", "(LFootNotes$Text;LFootNotes$Web;)V"⟩, 12)) 46 (by decide +kernel) (by decide +kernel)
theorem wd_879 : Cond.code ⟨"FootNotes$Faith", "canHold", "(I)Z"⟩ prog_2_method_3_code 2 (Option.some Jvm.ClassFile.FieldType.boolean) ∈ fn_big := fn_tb (fn_l4 (List.mem_of_getElem? (i := 159) (by decide +kernel))) (by decide +kernel)
theorem wd_878 : Cond.instanceMethod ⟨"FootNotes$Faith", "canHold", "(I)Z"⟩ ∈ fn_big := fn_tb (fn_l4 (List.mem_of_getElem? (i := 158) (by decide +kernel))) (by decide +kernel)
theorem wp_47 : Cond.selects "FootNotes$Faith" ⟨"FootNotes$Faith", "canHold", "(I)Z"⟩ ⟨"FootNotes$Faith", "canHold", "(I)Z"⟩ ∈ fn_big := fn_sel (q := (⟨"FootNotes$Faith", "canHold", "(I)Z"⟩, 12)) 47 (by decide +kernel) (by decide +kernel)
theorem dX11_holds_0 : decode cX11_holds 0 = .ok (.aload_n 0, 1) := by decide +kernel
theorem dX11_holds_1 : decode cX11_holds 1 = .ok (.iload_n 1, 1) := by decide +kernel
theorem dX11_holds_2 : decode cX11_holds 2 = .ok (.invokevirtual 256, 3) := by decide +kernel
theorem dX11_holds_5 : decode cX11_holds 5 = .ok (.ifCond .eq 6, 3) := by decide +kernel
theorem dX11_holds_11 : decode cX11_holds 11 = .ok (.aload_n 0, 1) := by decide +kernel
theorem dX11_holds_12 : decode cX11_holds 12 = .ok (.getfield 61, 3) := by decide +kernel
theorem dX11_holds_15 : decode cX11_holds 15 = .ok (.aload_n 0, 1) := by decide +kernel
theorem dX11_holds_16 : decode cX11_holds 16 = .ok (.getfield 19, 3) := by decide +kernel
theorem dX11_holds_19 : decode cX11_holds 19 = .ok (.aload_n 0, 1) := by decide +kernel
theorem dX11_holds_20 : decode cX11_holds 20 = .ok (.getfield 51, 3) := by decide +kernel
theorem dX11_holds_23 : decode cX11_holds 23 = .ok (.invokevirtual 259, 3) := by decide +kernel
theorem dX11_holds_26 : decode cX11_holds 26 = .ok (.aload_n 0, 1) := by decide +kernel
theorem dX11_holds_27 : decode cX11_holds 27 = .ok (.getfield 61, 3) := by decide +kernel
theorem dX11_holds_30 : decode cX11_holds 30 = .ok (.iload_n 1, 1) := by decide +kernel
theorem dX11_holds_31 : decode cX11_holds 31 = .ok (.invokevirtual 263, 3) := by decide +kernel
theorem dX11_holds_34 : decode cX11_holds 34 = .ok (.invokestatic 195, 3) := by decide +kernel
theorem dX11_holds_37 : decode cX11_holds 37 = .ok (.ireturn, 1) := by decide +kernel
theorem dX11_holds_8 : decode cX11_holds 8 = .ok (.bipush (-2), 2) := by decide +kernel
theorem dX11_holds_10 : decode cX11_holds 10 = .ok (.ireturn, 1) := by decide +kernel
set_option maxHeartbeats 4000000 in
set_option maxRecDepth 100000 in
theorem k_X11_holds (l : Launch) (D : va_G) (K : Nat → ClassId) (t : Nat) (t_q t_1_q t_9_q t_7_q : Nat → Nat) (p1 t_1_x0 t_1_x1 t_1_x2 t_1_x3 t_1_x4 t_1_x5 t_1_x6 t_1_x7 t_1_x8 t_9_x0 t_9_x1 t_9_x2 t_9_x6 t_9_x7 t_9_x8 t_9_x9 t_9_x10 t_9_x11 t_7_x0 t_7_x1 t_7_x6 : Int) (t_7_3_c : Nat → Int) (t_1_12_c : Nat → Int) (t_9_3_c : Nat → Int) (t_9_4_c : Nat → Int) (t_9_5_c : Nat → Int) (hp1 : (-2147483648) ≤ p1 ∧ p1 ≤ 2147483647) (hi_t_1 : bX7 t_1_x0 t_1_x1 t_1_x2 t_1_x3 t_1_x4 t_1_x5 t_1_x6 t_1_x7 t_1_x8) (hi_t_9 : bX0 t_9_x0 t_9_x1 t_9_x2 t_9_x6 t_9_x7 t_9_x8 t_9_x9 t_9_x10 t_9_x11) (hi_t_7 : bX10 t_7_x0 t_7_x1 t_7_x6) (hc_t_7_3 : ∀ j : Nat, (-1) ≤ t_7_3_c j ∧ t_7_3_c j ≤ 11) (hc_t_1_12 : ∀ j : Nat, 0 ≤ t_1_12_c j ∧ t_1_12_c j ≤ 11) (hc_t_9_3 : ∀ j : Nat, 0 ≤ t_9_3_c j ∧ t_9_3_c j ≤ 11) (hc_t_9_4 : ∀ j : Nat, 0 ≤ t_9_4_c j ∧ t_9_4_c j ≤ 11) (hc_t_9_5 : ∀ j : Nat, 0 ≤ t_9_5_c j ∧ t_9_5_c j ≤ 1) : fn_CI (S := (Nat → Int) × (Nat → Nat → Int)) l D K yX11_holds (fn_ws yX11_holds cX11_holds 2 (some .int)) ({ frames := 12, cells := 0, slots := 0, locals := 300 } : Room) [.ref t, .int (iI p1)] [(t, .inr (11, oX11 t_q)), ((t_q 1), .inr (7, oX7 t_1_q t_1_x0 t_1_x1 t_1_x2 t_1_x3 t_1_x4 t_1_x5 t_1_x6 t_1_x7 t_1_x8)), ((t_q 9), .inr (0, oX0 t_9_q t_9_x0 t_9_x1 t_9_x2 t_9_x6 t_9_x7 t_9_x8 t_9_x9 t_9_x10 t_9_x11)), ((t_q 7), .inr (10, oX10 t_7_q t_7_x0 t_7_x1 t_7_x6)), ((t_7_q 3), .inl (K 0, 24, .inl (fun j => iI (t_7_3_c j)))), ((t_1_q 12), .inl (K 0, 24, .inl (fun j => iI (t_1_12_c j)))), ((t_9_q 3), .inl (K 0, 24, .inl (fun j => iI (t_9_3_c j)))), ((t_9_q 4), .inl (K 0, 24, .inl (fun j => iI (t_9_4_c j)))), ((t_9_q 5), .inl (K 0, 24, .inl (fun j => iI (t_9_5_c j))))] (fun r u => ∃ k : Int, r = iI k ∧ ((-2) ≤ k ∧ k ≤ 1) ∧ (0 ≤ (u.1 0) ∧ (u.1 0) ≤ 4095 ∧ 0 ≤ (u.1 1) ∧ (u.1 1) ≤ 4095 ∧ 0 ≤ (u.1 2) ∧ (u.1 2) ≤ 24) ∧ (∀ j : Nat, 0 ≤ (u.2 0) j ∧ (u.2 0) j ≤ 11) ∧ (∀ j : Nat, 0 ≤ (u.2 1) j ∧ (u.2 1) j ≤ 11) ∧ (∀ j : Nat, 0 ≤ (u.2 2) j ∧ (u.2 2) j ≤ 1) ∧ True) (fun u => [(t, .inr (11, oX11 t_q)), ((t_q 1), .inr (7, oX7 t_1_q t_1_x0 t_1_x1 t_1_x2 t_1_x3 t_1_x4 t_1_x5 t_1_x6 t_1_x7 t_1_x8)), ((t_q 9), .inr (0, oX0 t_9_q (u.1 0) (u.1 1) (u.1 2) t_9_x6 t_9_x7 t_9_x8 t_9_x9 t_9_x10 t_9_x11)), ((t_q 7), .inr (10, oX10 t_7_q t_7_x0 t_7_x1 t_7_x6)), ((t_7_q 3), .inl (K 0, 24, .inl (fun j => iI (t_7_3_c j)))), ((t_1_q 12), .inl (K 0, 24, .inl (fun j => iI (t_1_12_c j)))), ((t_9_q 3), .inl (K 0, 24, .inl (fun j => iI ((u.2 0) j)))), ((t_9_q 4), .inl (K 0, 24, .inl (fun j => iI ((u.2 1) j)))), ((t_9_q 5), .inl (K 0, 24, .inl (fun j => iI ((u.2 2) j))))]) 0 0 := by
  refine g_inI (cc := cX11_holds) (maxL := 2) (ret := (some .int)) (by decide) rfl (Nat.le_of_ble_eq_true rfl) ?_
  intro p e s m below meth c A ls ag Q B hA hP hD hS hl hQ
  obtain ⟨hx, hb, hr, hml, hts, hown, hlocks, hin, hK⟩ := B
  have hown : s.vm.findClass RX11 = some m.cls := hown
  have hts := fun w h => hts w (List.mem_cons_of_mem _ h)
  have hl : lv_has ls 2 [(0, .ref t), (1, .int (iI p1))] := hl
  refine lv_aload_n hx hb dX11_holds_0 rfl (lv_at hl 0 rfl) ?_
  refine lv_iload_n hx hb dX11_holds_1 rfl (lv_at hl 1 rfl) ?_
  refine fn_goi (wc := [(t, .inr (11, oX11 t_q)), ((t_q 1), .inr (7, oX7 t_1_q t_1_x0 t_1_x1 t_1_x2 t_1_x3 t_1_x4 t_1_x5 t_1_x6 t_1_x7 t_1_x8))]) (wr := [((t_q 9), .inr (0, oX0 t_9_q t_9_x0 t_9_x1 t_9_x2 t_9_x6 t_9_x7 t_9_x8 t_9_x9 t_9_x10 t_9_x11)), ((t_q 7), .inr (10, oX10 t_7_q t_7_x0 t_7_x1 t_7_x6)), ((t_7_q 3), .inl (K 0, 24, .inl (fun j => iI (t_7_3_c j)))), ((t_1_q 12), .inl (K 0, 24, .inl (fun j => iI (t_1_12_c j)))), ((t_9_q 3), .inl (K 0, 24, .inl (fun j => iI (t_9_3_c j)))), ((t_9_q 4), .inl (K 0, 24, .inl (fun j => iI (t_9_4_c j)))), ((t_9_q 5), .inl (K 0, 24, .inl (fun j => iI (t_9_5_c j))))]) hK hP hD hS hA [0, 1] [2, 3, 4, 5, 6, 7, 8] rfl rfl (by decide) (fun hp => va_runV (C := RX11) (As := [.int (iI p1)]) (rest := []) ⟨hx, hb, hml, hown, hts⟩ (k_X11_noSet (l := l) (D := D) (K := K) (t := t) (p1 := p1) (t_q := t_q) (t_1_q := t_1_q) (t_1_x0 := t_1_x0) (t_1_x1 := t_1_x1) (t_1_x2 := t_1_x2) (t_1_x3 := t_1_x3) (t_1_x4 := t_1_x4) (t_1_x5 := t_1_x5) (t_1_x6 := t_1_x6) (t_1_x7 := t_1_x7) (t_1_x8 := t_1_x8) (hp1 := (by omega)) (hi_t_1 := hi_t_1) _) (cwV 1 hts (fn_ginV (fn_gin wd_871) wd_868 wd_870 wp_45 wd_1) rfl rfl rfl (by decide +kernel) ⟨Nat.le_of_ble_eq_true rfl, Nat.le_of_ble_eq_true rfl⟩) ⟨fn_blind, va_recv hK.1 hP (ci := 11) (q0 := 0) rfl rfl, hp⟩ rfl rfl hl.1 rfl (lv_room (Nat.le_of_ble_eq_true rfl)) dX11_holds_2 ⟨Nat.le_of_ble_eq_true rfl, Nat.le_of_ble_eq_true rfl⟩) (fun r2 u2 H locs hwu2 hP hD hS => ?_)
  obtain ⟨u2a, u2b⟩ := u2
  obtain ⟨kr2, rfl, hkr2, hqu20, -⟩ := hwu2
  have hqu2 : (kr2 = 0 → 0 ≤ p1 ∧ p1 ≤ 4095) := hqu20
  clear hqu20
  have hP : va_P D vwCl [((t_q 9), .inr (0, oX0 t_9_q t_9_x0 t_9_x1 t_9_x2 t_9_x6 t_9_x7 t_9_x8 t_9_x9 t_9_x10 t_9_x11)), ((t_q 7), .inr (10, oX10 t_7_q t_7_x0 t_7_x1 t_7_x6)), ((t_7_q 3), .inl (K 0, 24, .inl (fun j => iI (t_7_3_c j)))), ((t_1_q 12), .inl (K 0, 24, .inl (fun j => iI (t_1_12_c j)))), ((t_9_q 3), .inl (K 0, 24, .inl (fun j => iI (t_9_3_c j)))), ((t_9_q 4), .inl (K 0, 24, .inl (fun j => iI (t_9_4_c j)))), ((t_9_q 5), .inl (K 0, 24, .inl (fun j => iI (t_9_5_c j)))), (t, .inr (11, oX11 t_q)), ((t_q 1), .inr (7, oX7 t_1_q t_1_x0 t_1_x1 t_1_x2 t_1_x3 t_1_x4 t_1_x5 t_1_x6 t_1_x7 t_1_x8))] H := hP
  have hD : va_D A [((t_q 9), .inr (0, oX0 t_9_q t_9_x0 t_9_x1 t_9_x2 t_9_x6 t_9_x7 t_9_x8 t_9_x9 t_9_x10 t_9_x11)), ((t_q 7), .inr (10, oX10 t_7_q t_7_x0 t_7_x1 t_7_x6)), ((t_7_q 3), .inl (K 0, 24, .inl (fun j => iI (t_7_3_c j)))), ((t_1_q 12), .inl (K 0, 24, .inl (fun j => iI (t_1_12_c j)))), ((t_9_q 3), .inl (K 0, 24, .inl (fun j => iI (t_9_3_c j)))), ((t_9_q 4), .inl (K 0, 24, .inl (fun j => iI (t_9_4_c j)))), ((t_9_q 5), .inl (K 0, 24, .inl (fun j => iI (t_9_5_c j)))), (t, .inr (11, oX11 t_q)), ((t_q 1), .inr (7, oX7 t_1_q t_1_x0 t_1_x1 t_1_x2 t_1_x3 t_1_x4 t_1_x5 t_1_x6 t_1_x7 t_1_x8))] := hD
  refine g_if_eq (tgt := 11) hx hb (by omega) dX11_holds_5 (by decide) (fun c5 => ?_) (fun c5 => ?_)
  · refine lv_aload_n hx hb dX11_holds_11 rfl (lv_at hl 0 rfl) ?_
    refine va_get (D := D) (own := RX11) (ci := 11) (v := .ref (t_q 9)) (C := RX11) (T := TX11) (N := 13) hx hb hts inb_X11 hown hK.1 hP 7 rfl rfl 9 (by decide) (hts _ wd_431) (fun _ h9 => h9) rfl dX11_holds_12 ?_
    refine lv_aload_n hx hb dX11_holds_15 rfl (lv_at hl 0 rfl) ?_
    refine va_get (D := D) (own := RX11) (ci := 11) (v := .ref (t_q 1)) (C := RX11) (T := TX11) (N := 13) hx hb hts inb_X11 hown hK.1 hP 7 rfl rfl 1 (by decide) (hts _ wd_423) (fun _ h9 => h9) rfl dX11_holds_16 ?_
    refine lv_aload_n hx hb dX11_holds_19 rfl (lv_at hl 0 rfl) ?_
    refine va_get (D := D) (own := RX11) (ci := 11) (v := .ref (t_q 7)) (C := RX11) (T := TX11) (N := 13) hx hb hts inb_X11 hown hK.1 hP 7 rfl rfl 7 (by decide) (hts _ wd_429) (fun _ h9 => h9) rfl dX11_holds_20 ?_
    refine fn_gov (wc := [((t_q 1), .inr (7, oX7 t_1_q t_1_x0 t_1_x1 t_1_x2 t_1_x3 t_1_x4 t_1_x5 t_1_x6 t_1_x7 t_1_x8)), ((t_q 9), .inr (0, oX0 t_9_q t_9_x0 t_9_x1 t_9_x2 t_9_x6 t_9_x7 t_9_x8 t_9_x9 t_9_x10 t_9_x11)), ((t_q 7), .inr (10, oX10 t_7_q t_7_x0 t_7_x1 t_7_x6)), ((t_7_q 3), .inl (K 0, 24, .inl (fun j => iI (t_7_3_c j)))), ((t_1_q 12), .inl (K 0, 24, .inl (fun j => iI (t_1_12_c j)))), ((t_9_q 3), .inl (K 0, 24, .inl (fun j => iI (t_9_3_c j)))), ((t_9_q 4), .inl (K 0, 24, .inl (fun j => iI (t_9_4_c j)))), ((t_9_q 5), .inl (K 0, 24, .inl (fun j => iI (t_9_5_c j))))]) (wr := [(t, .inr (11, oX11 t_q))]) hK hP hD hS hA [8, 0, 1, 2, 3, 4, 5, 6] [7] rfl rfl (by decide) (fun hp => va_runVN (C := RX0) (As := [.ref (t_q 1), .ref (t_q 7)]) (rest := []) ⟨hx, hb, hml, hown, hts⟩ (k_X0_take (l := l) (D := D) (K := K) (t := (t_q 9)) (a1 := (t_q 1)) (a2 := (t_q 7)) (a1_q := t_1_q) (a1_x0 := t_1_x0) (a1_x1 := t_1_x1) (a1_x2 := t_1_x2) (a1_x3 := t_1_x3) (a1_x4 := t_1_x4) (a1_x5 := t_1_x5) (a1_x6 := t_1_x6) (a1_x7 := t_1_x7) (a1_x8 := t_1_x8) (t_q := t_9_q) (t_x0 := t_9_x0) (t_x1 := t_9_x1) (t_x2 := t_9_x2) (t_x6 := t_9_x6) (t_x7 := t_9_x7) (t_x8 := t_9_x8) (t_x9 := t_9_x9) (t_x10 := t_9_x10) (t_x11 := t_9_x11) (a2_q := t_7_q) (a2_x0 := t_7_x0) (a2_x1 := t_7_x1) (a2_x6 := t_7_x6) (a2_3_c := t_7_3_c) (a1_12_c := t_1_12_c) (t_3_c := t_9_3_c) (t_4_c := t_9_4_c) (t_5_c := t_9_5_c) (hi_a1 := hi_t_1) (hi_t := hi_t_9) (hi_a2 := hi_t_7) (hc_a2_3 := hc_t_7_3) (hc_a1_12 := hc_t_1_12) (hc_t_3 := hc_t_9_3) (hc_t_4 := hc_t_9_4) (hc_t_5 := hc_t_9_5) _) ⟨va_cnB (own := RX11) 2 hts (fn_gin wd_875) rfl rfl rfl (hK.nw 127 rfl) (hts _ wd_7) (by decide +kernel) ⟨Nat.le_of_ble_eq_true rfl, Nat.le_of_ble_eq_true rfl⟩, hts _ wd_874, hts _ wp_46⟩ ⟨fn_blind, va_recv hK.1 hP (ci := 0) (q0 := 0) rfl rfl, hp⟩ rfl rfl hl.1 rfl (lv_room (Nat.le_of_ble_eq_true rfl)) dX11_holds_23 ⟨Nat.le_of_ble_eq_true rfl, Nat.le_of_ble_eq_true rfl⟩) (fun u23 H locs hwu23 hP hD hS => ?_)
    obtain ⟨u23a, u23b⟩ := u23
    obtain ⟨hqu230, hu23_00, hu23_10, hu23_20, -⟩ := hwu23
    have hqu23 : 0 ≤ (u23a 0) ∧ (u23a 0) ≤ 4095 ∧ 0 ≤ (u23a 1) ∧ (u23a 1) ≤ 4095 ∧ 0 ≤ (u23a 2) ∧ (u23a 2) ≤ 24 := hqu230
    have hu23_0 : ∀ j : Nat, 0 ≤ (u23b 0) j ∧ (u23b 0) j ≤ 11 := hu23_00
    have hu23_1 : ∀ j : Nat, 0 ≤ (u23b 1) j ∧ (u23b 1) j ≤ 11 := hu23_10
    have hu23_2 : ∀ j : Nat, 0 ≤ (u23b 2) j ∧ (u23b 2) j ≤ 1 := hu23_20
    clear hqu230 hu23_00 hu23_10 hu23_20
    have hP : va_P D vwCl [(t, .inr (11, oX11 t_q)), ((t_q 1), .inr (7, oX7 t_1_q t_1_x0 t_1_x1 t_1_x2 t_1_x3 t_1_x4 t_1_x5 t_1_x6 t_1_x7 t_1_x8)), ((t_q 9), .inr (0, oX0 t_9_q (u23a 0) (u23a 1) (u23a 2) t_9_x6 t_9_x7 t_9_x8 t_9_x9 t_9_x10 t_9_x11)), ((t_q 7), .inr (10, oX10 t_7_q t_7_x0 t_7_x1 t_7_x6)), ((t_7_q 3), .inl (K 0, 24, .inl (fun j => iI (t_7_3_c j)))), ((t_1_q 12), .inl (K 0, 24, .inl (fun j => iI (t_1_12_c j)))), ((t_9_q 3), .inl (K 0, 24, .inl (fun j => iI ((u23b 0) j)))), ((t_9_q 4), .inl (K 0, 24, .inl (fun j => iI ((u23b 1) j)))), ((t_9_q 5), .inl (K 0, 24, .inl (fun j => iI ((u23b 2) j))))] H := hP
    have hD : va_D A [(t, .inr (11, oX11 t_q)), ((t_q 1), .inr (7, oX7 t_1_q t_1_x0 t_1_x1 t_1_x2 t_1_x3 t_1_x4 t_1_x5 t_1_x6 t_1_x7 t_1_x8)), ((t_q 9), .inr (0, oX0 t_9_q (u23a 0) (u23a 1) (u23a 2) t_9_x6 t_9_x7 t_9_x8 t_9_x9 t_9_x10 t_9_x11)), ((t_q 7), .inr (10, oX10 t_7_q t_7_x0 t_7_x1 t_7_x6)), ((t_7_q 3), .inl (K 0, 24, .inl (fun j => iI (t_7_3_c j)))), ((t_1_q 12), .inl (K 0, 24, .inl (fun j => iI (t_1_12_c j)))), ((t_9_q 3), .inl (K 0, 24, .inl (fun j => iI ((u23b 0) j)))), ((t_9_q 4), .inl (K 0, 24, .inl (fun j => iI ((u23b 1) j)))), ((t_9_q 5), .inl (K 0, 24, .inl (fun j => iI ((u23b 2) j))))] := hD
    refine lv_aload_n hx hb dX11_holds_26 rfl (lv_at hl 0 rfl) ?_
    refine va_get (D := D) (own := RX11) (ci := 11) (v := .ref (t_q 9)) (C := RX11) (T := TX11) (N := 13) hx hb hts inb_X11 hown hK.1 hP 0 rfl rfl 9 (by decide) (hts _ wd_431) (fun _ h9 => h9) rfl dX11_holds_27 ?_
    refine lv_iload_n hx hb dX11_holds_30 rfl (lv_at hl 1 rfl) ?_
    refine fn_goi (wc := [((t_q 9), .inr (0, oX0 t_9_q (u23a 0) (u23a 1) (u23a 2) t_9_x6 t_9_x7 t_9_x8 t_9_x9 t_9_x10 t_9_x11)), ((t_9_q 3), .inl (K 0, 24, .inl (fun j => iI ((u23b 0) j)))), ((t_9_q 4), .inl (K 0, 24, .inl (fun j => iI ((u23b 1) j)))), ((t_9_q 5), .inl (K 0, 24, .inl (fun j => iI ((u23b 2) j))))]) (wr := [(t, .inr (11, oX11 t_q)), ((t_q 1), .inr (7, oX7 t_1_q t_1_x0 t_1_x1 t_1_x2 t_1_x3 t_1_x4 t_1_x5 t_1_x6 t_1_x7 t_1_x8)), ((t_q 7), .inr (10, oX10 t_7_q t_7_x0 t_7_x1 t_7_x6)), ((t_7_q 3), .inl (K 0, 24, .inl (fun j => iI (t_7_3_c j)))), ((t_1_q 12), .inl (K 0, 24, .inl (fun j => iI (t_1_12_c j))))]) hK hP hD hS hA [2, 6, 7, 8] [0, 1, 3, 4, 5] rfl rfl (by decide) (fun hp => va_runVN (C := RX0) (As := [.int (iI p1)]) (rest := []) ⟨hx, hb, hml, hown, hts⟩ (k_X0_canHold (l := l) (D := D) (K := K) (t := (t_q 9)) (p1 := p1) (t_q := t_9_q) (t_x0 := (u23a 0)) (t_x1 := (u23a 1)) (t_x2 := (u23a 2)) (t_x6 := t_9_x6) (t_x7 := t_9_x7) (t_x8 := t_9_x8) (t_x9 := t_9_x9) (t_x10 := t_9_x10) (t_x11 := t_9_x11) (t_3_c := (u23b 0)) (t_4_c := (u23b 1)) (t_5_c := (u23b 2)) (hp1 := (by omega)) (hi_t := ⟨(by omega), (by omega), (by omega), hi_t_9.2.2.2.1, hi_t_9.2.2.2.2.1, hi_t_9.2.2.2.2.2.1, hi_t_9.2.2.2.2.2.2.1, hi_t_9.2.2.2.2.2.2.2.1, hi_t_9.2.2.2.2.2.2.2.2⟩) (hc_t_3 := hu23_0) (hc_t_4 := hu23_1) (hc_t_5 := hu23_2) _) ⟨va_cnB (own := RX11) 1 hts (fn_gin wd_879) rfl rfl rfl (hK.nw 128 rfl) (hts _ wd_7) (by decide +kernel) ⟨Nat.le_of_ble_eq_true rfl, Nat.le_of_ble_eq_true rfl⟩, hts _ wd_878, hts _ wp_47⟩ ⟨fn_blind, va_recv hK.1 hP (ci := 0) (q0 := 2) rfl rfl, hp⟩ rfl rfl hl.1 rfl (lv_room (Nat.le_of_ble_eq_true rfl)) dX11_holds_31 ⟨Nat.le_of_ble_eq_true rfl, Nat.le_of_ble_eq_true rfl⟩) (fun r31 u31 H locs hwu31 hP hD hS => ?_)
    obtain ⟨u31a, u31b⟩ := u31
    obtain ⟨kr31, rfl, hkr31, -⟩ := hwu31
    have hP : va_P D vwCl [(t, .inr (11, oX11 t_q)), ((t_q 1), .inr (7, oX7 t_1_q t_1_x0 t_1_x1 t_1_x2 t_1_x3 t_1_x4 t_1_x5 t_1_x6 t_1_x7 t_1_x8)), ((t_q 7), .inr (10, oX10 t_7_q t_7_x0 t_7_x1 t_7_x6)), ((t_7_q 3), .inl (K 0, 24, .inl (fun j => iI (t_7_3_c j)))), ((t_1_q 12), .inl (K 0, 24, .inl (fun j => iI (t_1_12_c j)))), ((t_q 9), .inr (0, oX0 t_9_q (u23a 0) (u23a 1) (u23a 2) t_9_x6 t_9_x7 t_9_x8 t_9_x9 t_9_x10 t_9_x11)), ((t_9_q 3), .inl (K 0, 24, .inl (fun j => iI ((u23b 0) j)))), ((t_9_q 4), .inl (K 0, 24, .inl (fun j => iI ((u23b 1) j)))), ((t_9_q 5), .inl (K 0, 24, .inl (fun j => iI ((u23b 2) j))))] H := hP
    have hD : va_D A [(t, .inr (11, oX11 t_q)), ((t_q 1), .inr (7, oX7 t_1_q t_1_x0 t_1_x1 t_1_x2 t_1_x3 t_1_x4 t_1_x5 t_1_x6 t_1_x7 t_1_x8)), ((t_q 7), .inr (10, oX10 t_7_q t_7_x0 t_7_x1 t_7_x6)), ((t_7_q 3), .inl (K 0, 24, .inl (fun j => iI (t_7_3_c j)))), ((t_1_q 12), .inl (K 0, 24, .inl (fun j => iI (t_1_12_c j)))), ((t_q 9), .inr (0, oX0 t_9_q (u23a 0) (u23a 1) (u23a 2) t_9_x6 t_9_x7 t_9_x8 t_9_x9 t_9_x10 t_9_x11)), ((t_9_q 3), .inl (K 0, 24, .inl (fun j => iI ((u23b 0) j)))), ((t_9_q 4), .inl (K 0, 24, .inl (fun j => iI ((u23b 1) j)))), ((t_9_q 5), .inl (K 0, 24, .inl (fun j => iI ((u23b 2) j))))] := hD
    refine fn_goi (wc := []) (wr := [(t, .inr (11, oX11 t_q)), ((t_q 1), .inr (7, oX7 t_1_q t_1_x0 t_1_x1 t_1_x2 t_1_x3 t_1_x4 t_1_x5 t_1_x6 t_1_x7 t_1_x8)), ((t_q 7), .inr (10, oX10 t_7_q t_7_x0 t_7_x1 t_7_x6)), ((t_7_q 3), .inl (K 0, 24, .inl (fun j => iI (t_7_3_c j)))), ((t_1_q 12), .inl (K 0, 24, .inl (fun j => iI (t_1_12_c j)))), ((t_q 9), .inr (0, oX0 t_9_q (u23a 0) (u23a 1) (u23a 2) t_9_x6 t_9_x7 t_9_x8 t_9_x9 t_9_x10 t_9_x11)), ((t_9_q 3), .inl (K 0, 24, .inl (fun j => iI ((u23b 0) j)))), ((t_9_q 4), .inl (K 0, 24, .inl (fun j => iI ((u23b 1) j)))), ((t_9_q 5), .inl (K 0, 24, .inl (fun j => iI ((u23b 2) j))))]) hK hP hD hS hA [] [0, 1, 2, 3, 4, 5, 6, 7, 8] rfl rfl (by decide) (fun hp => va_runS (As := [.int (iI kr31)]) (rest := []) ⟨hx, hb, hml, hown, hts⟩ (k_X11_bit (l := l) (D := D) (K := K) (p1 := kr31) (hp1 := (by omega)) _) (va_cwS 1 hts (fn_ginS (fn_gin wd_605) wd_710 wd_604 wd_1) rfl rfl rfl (by decide +kernel) ⟨Nat.le_of_ble_eq_true rfl, Nat.le_of_ble_eq_true rfl⟩) ⟨fn_blind, hp⟩ rfl rfl hl.1 rfl (lv_room (Nat.le_of_ble_eq_true rfl)) dX11_holds_34 ⟨Nat.le_of_ble_eq_true rfl, Nat.le_of_ble_eq_true rfl⟩) (fun r34 u34 H locs hwu34 hP hD hS => ?_)
    obtain ⟨u34a, u34b⟩ := u34
    obtain ⟨kr34, rfl, hkr34, -⟩ := hwu34
    have hP : va_P D vwCl [(t, .inr (11, oX11 t_q)), ((t_q 1), .inr (7, oX7 t_1_q t_1_x0 t_1_x1 t_1_x2 t_1_x3 t_1_x4 t_1_x5 t_1_x6 t_1_x7 t_1_x8)), ((t_q 7), .inr (10, oX10 t_7_q t_7_x0 t_7_x1 t_7_x6)), ((t_7_q 3), .inl (K 0, 24, .inl (fun j => iI (t_7_3_c j)))), ((t_1_q 12), .inl (K 0, 24, .inl (fun j => iI (t_1_12_c j)))), ((t_q 9), .inr (0, oX0 t_9_q (u23a 0) (u23a 1) (u23a 2) t_9_x6 t_9_x7 t_9_x8 t_9_x9 t_9_x10 t_9_x11)), ((t_9_q 3), .inl (K 0, 24, .inl (fun j => iI ((u23b 0) j)))), ((t_9_q 4), .inl (K 0, 24, .inl (fun j => iI ((u23b 1) j)))), ((t_9_q 5), .inl (K 0, 24, .inl (fun j => iI ((u23b 2) j))))] H := hP
    have hD : va_D A [(t, .inr (11, oX11 t_q)), ((t_q 1), .inr (7, oX7 t_1_q t_1_x0 t_1_x1 t_1_x2 t_1_x3 t_1_x4 t_1_x5 t_1_x6 t_1_x7 t_1_x8)), ((t_q 7), .inr (10, oX10 t_7_q t_7_x0 t_7_x1 t_7_x6)), ((t_7_q 3), .inl (K 0, 24, .inl (fun j => iI (t_7_3_c j)))), ((t_1_q 12), .inl (K 0, 24, .inl (fun j => iI (t_1_12_c j)))), ((t_q 9), .inr (0, oX0 t_9_q (u23a 0) (u23a 1) (u23a 2) t_9_x6 t_9_x7 t_9_x8 t_9_x9 t_9_x10 t_9_x11)), ((t_9_q 3), .inl (K 0, 24, .inl (fun j => iI ((u23b 0) j)))), ((t_9_q 4), .inl (K 0, 24, .inl (fun j => iI ((u23b 1) j)))), ((t_9_q 5), .inl (K 0, 24, .inl (fun j => iI ((u23b 2) j))))] := hD
    rw [hQ]; exact fn_iret hx hb hr hlocks rfl hP hD hS ((fun k => ([(u23a 0), (u23a 1), (u23a 2)] : List Int).getD k 0), (fun k => ([(u23b 0), (u23b 1), (u23b 2)] : List (Nat → Int)).getD k (fun _ => 0))) ⟨kr34, rfl, by omega, (by show 0 ≤ (u23a 0) ∧ (u23a 0) ≤ 4095 ∧ 0 ≤ (u23a 1) ∧ (u23a 1) ≤ 4095 ∧ 0 ≤ (u23a 2) ∧ (u23a 2) ≤ 24; omega), (hu23_0), (hu23_1), (hu23_2), trivial⟩ [0, 1, 5, 2, 3, 4, 6, 7, 8] (by decide) rfl dX11_holds_37
  · refine lv_bipush (v := iI (-2)) hx hb dX11_holds_8 (by decide) ?_
    have y10_1 : 0 ≤ t_9_x0 ∧ t_9_x0 ≤ 4095 := hi_t_9.1
    have y10_2 : 0 ≤ t_9_x1 ∧ t_9_x1 ≤ 4095 := hi_t_9.2.1
    have y10_3 : 0 ≤ t_9_x2 ∧ t_9_x2 ≤ 24 := hi_t_9.2.2.1
    rw [hQ]; exact fn_iret hx hb hr hlocks rfl hP hD hS ((fun k => ([t_9_x0, t_9_x1, t_9_x2] : List Int).getD k 0), (fun k => ([t_9_3_c, t_9_4_c, t_9_5_c] : List (Nat → Int)).getD k (fun _ => 0))) ⟨(-2), rfl, by omega, (by show 0 ≤ t_9_x0 ∧ t_9_x0 ≤ 4095 ∧ 0 ≤ t_9_x1 ∧ t_9_x1 ≤ 4095 ∧ 0 ≤ t_9_x2 ∧ t_9_x2 ≤ 24; omega), (hc_t_9_3), (hc_t_9_4), (hc_t_9_5), trivial⟩ [7, 8, 0, 1, 2, 3, 4, 5, 6] (by decide) rfl dX11_holds_10
theorem wd_891 : Cond.code ⟨"FootNotes$Faith", "searchWays", "()V"⟩ prog_2_method_5_code 2 (Option.none : Option Jvm.ClassFile.FieldType) ∈ fn_big := fn_tb (fn_l4 (List.mem_of_getElem? (i := 171) (by decide +kernel))) (by decide +kernel)
theorem wd_890 : Cond.instanceMethod ⟨"FootNotes$Faith", "searchWays", "()V"⟩ ∈ fn_big := fn_tb (fn_l4 (List.mem_of_getElem? (i := 170) (by decide +kernel))) (by decide +kernel)
theorem wp_49 : Cond.selects "FootNotes$Faith" ⟨"FootNotes$Faith", "searchWays", "()V"⟩ ⟨"FootNotes$Faith", "searchWays", "()V"⟩ ∈ fn_big := fn_sel (q := (⟨"FootNotes$Faith", "searchWays", "()V"⟩, 12)) 49 (by decide +kernel) (by decide +kernel)
theorem dX11_ways_0 : decode cX11_ways 0 = .ok (.aload_n 0, 1) := by decide +kernel
theorem dX11_ways_1 : decode cX11_ways 1 = .ok (.invokevirtual 188, 3) := by decide +kernel
theorem dX11_ways_4 : decode cX11_ways 4 = .ok (.ifCond .eq 6, 3) := by decide +kernel
theorem dX11_ways_10 : decode cX11_ways 10 = .ok (.aload_n 0, 1) := by decide +kernel
theorem dX11_ways_11 : decode cX11_ways 11 = .ok (.getfield 61, 3) := by decide +kernel
theorem dX11_ways_14 : decode cX11_ways 14 = .ok (.aload_n 0, 1) := by decide +kernel
theorem dX11_ways_15 : decode cX11_ways 15 = .ok (.getfield 19, 3) := by decide +kernel
theorem dX11_ways_18 : decode cX11_ways 18 = .ok (.aload_n 0, 1) := by decide +kernel
theorem dX11_ways_19 : decode cX11_ways 19 = .ok (.getfield 51, 3) := by decide +kernel
theorem dX11_ways_22 : decode cX11_ways 22 = .ok (.invokevirtual 259, 3) := by decide +kernel
theorem dX11_ways_25 : decode cX11_ways 25 = .ok (.aload_n 0, 1) := by decide +kernel
theorem dX11_ways_26 : decode cX11_ways 26 = .ok (.getfield 61, 3) := by decide +kernel
theorem dX11_ways_29 : decode cX11_ways 29 = .ok (.invokevirtual 266, 3) := by decide +kernel
theorem dX11_ways_32 : decode cX11_ways 32 = .ok (.aload_n 0, 1) := by decide +kernel
theorem dX11_ways_33 : decode cX11_ways 33 = .ok (.getfield 61, 3) := by decide +kernel
theorem dX11_ways_36 : decode cX11_ways 36 = .ok (.getfield 269, 3) := by decide +kernel
theorem dX11_ways_39 : decode cX11_ways 39 = .ok (.ireturn, 1) := by decide +kernel
theorem dX11_ways_7 : decode cX11_ways 7 = .ok (.bipush (-2), 2) := by decide +kernel
theorem dX11_ways_9 : decode cX11_ways 9 = .ok (.ireturn, 1) := by decide +kernel
set_option maxHeartbeats 4000000 in
set_option maxRecDepth 100000 in
theorem k_X11_ways (l : Launch) (D : va_G) (K : Nat → ClassId) (t : Nat) (t_q t_1_q t_9_q t_7_q : Nat → Nat) (t_1_x0 t_1_x1 t_1_x2 t_1_x3 t_1_x4 t_1_x5 t_1_x6 t_1_x7 t_1_x8 t_9_x0 t_9_x1 t_9_x2 t_9_x6 t_9_x7 t_9_x8 t_9_x9 t_9_x10 t_9_x11 t_7_x0 t_7_x1 t_7_x6 : Int) (t_7_3_c : Nat → Int) (t_1_12_c : Nat → Int) (t_9_3_c : Nat → Int) (t_9_4_c : Nat → Int) (t_9_5_c : Nat → Int) (hi_t_1 : bX7 t_1_x0 t_1_x1 t_1_x2 t_1_x3 t_1_x4 t_1_x5 t_1_x6 t_1_x7 t_1_x8) (hi_t_9 : bX0 t_9_x0 t_9_x1 t_9_x2 t_9_x6 t_9_x7 t_9_x8 t_9_x9 t_9_x10 t_9_x11) (hi_t_7 : bX10 t_7_x0 t_7_x1 t_7_x6) (hc_t_7_3 : ∀ j : Nat, (-1) ≤ t_7_3_c j ∧ t_7_3_c j ≤ 11) (hc_t_1_12 : ∀ j : Nat, 0 ≤ t_1_12_c j ∧ t_1_12_c j ≤ 11) (hc_t_9_3 : ∀ j : Nat, 0 ≤ t_9_3_c j ∧ t_9_3_c j ≤ 11) (hc_t_9_4 : ∀ j : Nat, 0 ≤ t_9_4_c j ∧ t_9_4_c j ≤ 11) (hc_t_9_5 : ∀ j : Nat, 0 ≤ t_9_5_c j ∧ t_9_5_c j ≤ 1) : fn_CI (S := (Nat → Int) × (Nat → Nat → Int)) l D K yX11_ways (fn_ws yX11_ways cX11_ways 1 (some .int)) ({ frames := 12, cells := 0, slots := 0, locals := 300 } : Room) [.ref t] [(t, .inr (11, oX11 t_q)), ((t_q 1), .inr (7, oX7 t_1_q t_1_x0 t_1_x1 t_1_x2 t_1_x3 t_1_x4 t_1_x5 t_1_x6 t_1_x7 t_1_x8)), ((t_q 9), .inr (0, oX0 t_9_q t_9_x0 t_9_x1 t_9_x2 t_9_x6 t_9_x7 t_9_x8 t_9_x9 t_9_x10 t_9_x11)), ((t_q 7), .inr (10, oX10 t_7_q t_7_x0 t_7_x1 t_7_x6)), ((t_7_q 3), .inl (K 0, 24, .inl (fun j => iI (t_7_3_c j)))), ((t_1_q 12), .inl (K 0, 24, .inl (fun j => iI (t_1_12_c j)))), ((t_9_q 3), .inl (K 0, 24, .inl (fun j => iI (t_9_3_c j)))), ((t_9_q 4), .inl (K 0, 24, .inl (fun j => iI (t_9_4_c j)))), ((t_9_q 5), .inl (K 0, 24, .inl (fun j => iI (t_9_5_c j))))] (fun r u => ∃ k : Int, r = iI k ∧ ((-2147483648) ≤ k ∧ k ≤ 2147483647) ∧ (0 ≤ (u.1 0) ∧ (u.1 0) ≤ 4095 ∧ 0 ≤ (u.1 1) ∧ (u.1 1) ≤ 4095 ∧ 0 ≤ (u.1 2) ∧ (u.1 2) ≤ 24 ∧ (-2147483648) ≤ (u.1 3) ∧ (u.1 3) ≤ 2147483647 ∧ (-1) ≤ (u.1 4) ∧ (u.1 4) ≤ 4095 ∧ 0 ≤ (u.1 5) ∧ (u.1 5) ≤ 4095 ∧ 0 ≤ (u.1 6) ∧ (u.1 6) ≤ 4095) ∧ (∀ j : Nat, 0 ≤ (u.2 0) j ∧ (u.2 0) j ≤ 11) ∧ (∀ j : Nat, 0 ≤ (u.2 1) j ∧ (u.2 1) j ≤ 11) ∧ (∀ j : Nat, 0 ≤ (u.2 2) j ∧ (u.2 2) j ≤ 1) ∧ True) (fun u => [(t, .inr (11, oX11 t_q)), ((t_q 1), .inr (7, oX7 t_1_q t_1_x0 t_1_x1 t_1_x2 t_1_x3 t_1_x4 t_1_x5 t_1_x6 t_1_x7 t_1_x8)), ((t_q 9), .inr (0, oX0 t_9_q (u.1 0) (u.1 1) (u.1 2) (u.1 3) (u.1 4) (u.1 5) (u.1 6) t_9_x10 t_9_x11)), ((t_q 7), .inr (10, oX10 t_7_q t_7_x0 t_7_x1 t_7_x6)), ((t_7_q 3), .inl (K 0, 24, .inl (fun j => iI (t_7_3_c j)))), ((t_1_q 12), .inl (K 0, 24, .inl (fun j => iI (t_1_12_c j)))), ((t_9_q 3), .inl (K 0, 24, .inl (fun j => iI ((u.2 0) j)))), ((t_9_q 4), .inl (K 0, 24, .inl (fun j => iI ((u.2 1) j)))), ((t_9_q 5), .inl (K 0, 24, .inl (fun j => iI ((u.2 2) j))))]) 0 0 := by
  refine g_inI (cc := cX11_ways) (maxL := 1) (ret := (some .int)) (by decide) rfl (Nat.le_of_ble_eq_true rfl) ?_
  intro p e s m below meth c A ls ag Q B hA hP hD hS hl hQ
  obtain ⟨hx, hb, hr, hml, hts, hown, hlocks, hin, hK⟩ := B
  have hown : s.vm.findClass RX11 = some m.cls := hown
  have hts := fun w h => hts w (List.mem_cons_of_mem _ h)
  have hl : lv_has ls 1 [(0, .ref t)] := hl
  refine lv_aload_n hx hb dX11_ways_0 rfl (lv_at hl 0 rfl) ?_
  refine fn_goi (wc := [(t, .inr (11, oX11 t_q)), ((t_q 1), .inr (7, oX7 t_1_q t_1_x0 t_1_x1 t_1_x2 t_1_x3 t_1_x4 t_1_x5 t_1_x6 t_1_x7 t_1_x8))]) (wr := [((t_q 9), .inr (0, oX0 t_9_q t_9_x0 t_9_x1 t_9_x2 t_9_x6 t_9_x7 t_9_x8 t_9_x9 t_9_x10 t_9_x11)), ((t_q 7), .inr (10, oX10 t_7_q t_7_x0 t_7_x1 t_7_x6)), ((t_7_q 3), .inl (K 0, 24, .inl (fun j => iI (t_7_3_c j)))), ((t_1_q 12), .inl (K 0, 24, .inl (fun j => iI (t_1_12_c j)))), ((t_9_q 3), .inl (K 0, 24, .inl (fun j => iI (t_9_3_c j)))), ((t_9_q 4), .inl (K 0, 24, .inl (fun j => iI (t_9_4_c j)))), ((t_9_q 5), .inl (K 0, 24, .inl (fun j => iI (t_9_5_c j))))]) hK hP hD hS hA [0, 1] [2, 3, 4, 5, 6, 7, 8] rfl rfl (by decide) (fun hp => va_runV (C := RX11) (As := []) (rest := []) ⟨hx, hb, hml, hown, hts⟩ (k_X11_noTown (l := l) (D := D) (K := K) (t := t) (t_q := t_q) (t_1_q := t_1_q) (t_1_x0 := t_1_x0) (t_1_x1 := t_1_x1) (t_1_x2 := t_1_x2) (t_1_x3 := t_1_x3) (t_1_x4 := t_1_x4) (t_1_x5 := t_1_x5) (t_1_x6 := t_1_x6) (t_1_x7 := t_1_x7) (t_1_x8 := t_1_x8) (hi_t_1 := hi_t_1) _) (cwV 0 hts (fn_ginV (fn_gin wd_709) wd_706 wd_708 wp_30 wd_1) rfl rfl rfl (by decide +kernel) ⟨Nat.le_of_ble_eq_true rfl, Nat.le_of_ble_eq_true rfl⟩) ⟨fn_blind, va_recv hK.1 hP (ci := 11) (q0 := 0) rfl rfl, hp⟩ rfl rfl hl.1 rfl (lv_room (Nat.le_of_ble_eq_true rfl)) dX11_ways_1 ⟨Nat.le_of_ble_eq_true rfl, Nat.le_of_ble_eq_true rfl⟩) (fun r1 u1 H locs hwu1 hP hD hS => ?_)
  obtain ⟨u1a, u1b⟩ := u1
  obtain ⟨kr1, rfl, hkr1, -⟩ := hwu1
  have hP : va_P D vwCl [((t_q 9), .inr (0, oX0 t_9_q t_9_x0 t_9_x1 t_9_x2 t_9_x6 t_9_x7 t_9_x8 t_9_x9 t_9_x10 t_9_x11)), ((t_q 7), .inr (10, oX10 t_7_q t_7_x0 t_7_x1 t_7_x6)), ((t_7_q 3), .inl (K 0, 24, .inl (fun j => iI (t_7_3_c j)))), ((t_1_q 12), .inl (K 0, 24, .inl (fun j => iI (t_1_12_c j)))), ((t_9_q 3), .inl (K 0, 24, .inl (fun j => iI (t_9_3_c j)))), ((t_9_q 4), .inl (K 0, 24, .inl (fun j => iI (t_9_4_c j)))), ((t_9_q 5), .inl (K 0, 24, .inl (fun j => iI (t_9_5_c j)))), (t, .inr (11, oX11 t_q)), ((t_q 1), .inr (7, oX7 t_1_q t_1_x0 t_1_x1 t_1_x2 t_1_x3 t_1_x4 t_1_x5 t_1_x6 t_1_x7 t_1_x8))] H := hP
  have hD : va_D A [((t_q 9), .inr (0, oX0 t_9_q t_9_x0 t_9_x1 t_9_x2 t_9_x6 t_9_x7 t_9_x8 t_9_x9 t_9_x10 t_9_x11)), ((t_q 7), .inr (10, oX10 t_7_q t_7_x0 t_7_x1 t_7_x6)), ((t_7_q 3), .inl (K 0, 24, .inl (fun j => iI (t_7_3_c j)))), ((t_1_q 12), .inl (K 0, 24, .inl (fun j => iI (t_1_12_c j)))), ((t_9_q 3), .inl (K 0, 24, .inl (fun j => iI (t_9_3_c j)))), ((t_9_q 4), .inl (K 0, 24, .inl (fun j => iI (t_9_4_c j)))), ((t_9_q 5), .inl (K 0, 24, .inl (fun j => iI (t_9_5_c j)))), (t, .inr (11, oX11 t_q)), ((t_q 1), .inr (7, oX7 t_1_q t_1_x0 t_1_x1 t_1_x2 t_1_x3 t_1_x4 t_1_x5 t_1_x6 t_1_x7 t_1_x8))] := hD
  refine g_if_eq (tgt := 10) hx hb (by omega) dX11_ways_4 (by decide) (fun c4 => ?_) (fun c4 => ?_)
  · refine lv_aload_n hx hb dX11_ways_10 rfl (lv_at hl 0 rfl) ?_
    refine va_get (D := D) (own := RX11) (ci := 11) (v := .ref (t_q 9)) (C := RX11) (T := TX11) (N := 13) hx hb hts inb_X11 hown hK.1 hP 7 rfl rfl 9 (by decide) (hts _ wd_431) (fun _ h9 => h9) rfl dX11_ways_11 ?_
    refine lv_aload_n hx hb dX11_ways_14 rfl (lv_at hl 0 rfl) ?_
    refine va_get (D := D) (own := RX11) (ci := 11) (v := .ref (t_q 1)) (C := RX11) (T := TX11) (N := 13) hx hb hts inb_X11 hown hK.1 hP 7 rfl rfl 1 (by decide) (hts _ wd_423) (fun _ h9 => h9) rfl dX11_ways_15 ?_
    refine lv_aload_n hx hb dX11_ways_18 rfl (lv_at hl 0 rfl) ?_
    refine va_get (D := D) (own := RX11) (ci := 11) (v := .ref (t_q 7)) (C := RX11) (T := TX11) (N := 13) hx hb hts inb_X11 hown hK.1 hP 7 rfl rfl 7 (by decide) (hts _ wd_429) (fun _ h9 => h9) rfl dX11_ways_19 ?_
    refine fn_gov (wc := [((t_q 1), .inr (7, oX7 t_1_q t_1_x0 t_1_x1 t_1_x2 t_1_x3 t_1_x4 t_1_x5 t_1_x6 t_1_x7 t_1_x8)), ((t_q 9), .inr (0, oX0 t_9_q t_9_x0 t_9_x1 t_9_x2 t_9_x6 t_9_x7 t_9_x8 t_9_x9 t_9_x10 t_9_x11)), ((t_q 7), .inr (10, oX10 t_7_q t_7_x0 t_7_x1 t_7_x6)), ((t_7_q 3), .inl (K 0, 24, .inl (fun j => iI (t_7_3_c j)))), ((t_1_q 12), .inl (K 0, 24, .inl (fun j => iI (t_1_12_c j)))), ((t_9_q 3), .inl (K 0, 24, .inl (fun j => iI (t_9_3_c j)))), ((t_9_q 4), .inl (K 0, 24, .inl (fun j => iI (t_9_4_c j)))), ((t_9_q 5), .inl (K 0, 24, .inl (fun j => iI (t_9_5_c j))))]) (wr := [(t, .inr (11, oX11 t_q))]) hK hP hD hS hA [8, 0, 1, 2, 3, 4, 5, 6] [7] rfl rfl (by decide) (fun hp => va_runVN (C := RX0) (As := [.ref (t_q 1), .ref (t_q 7)]) (rest := []) ⟨hx, hb, hml, hown, hts⟩ (k_X0_take (l := l) (D := D) (K := K) (t := (t_q 9)) (a1 := (t_q 1)) (a2 := (t_q 7)) (a1_q := t_1_q) (a1_x0 := t_1_x0) (a1_x1 := t_1_x1) (a1_x2 := t_1_x2) (a1_x3 := t_1_x3) (a1_x4 := t_1_x4) (a1_x5 := t_1_x5) (a1_x6 := t_1_x6) (a1_x7 := t_1_x7) (a1_x8 := t_1_x8) (t_q := t_9_q) (t_x0 := t_9_x0) (t_x1 := t_9_x1) (t_x2 := t_9_x2) (t_x6 := t_9_x6) (t_x7 := t_9_x7) (t_x8 := t_9_x8) (t_x9 := t_9_x9) (t_x10 := t_9_x10) (t_x11 := t_9_x11) (a2_q := t_7_q) (a2_x0 := t_7_x0) (a2_x1 := t_7_x1) (a2_x6 := t_7_x6) (a2_3_c := t_7_3_c) (a1_12_c := t_1_12_c) (t_3_c := t_9_3_c) (t_4_c := t_9_4_c) (t_5_c := t_9_5_c) (hi_a1 := hi_t_1) (hi_t := hi_t_9) (hi_a2 := hi_t_7) (hc_a2_3 := hc_t_7_3) (hc_a1_12 := hc_t_1_12) (hc_t_3 := hc_t_9_3) (hc_t_4 := hc_t_9_4) (hc_t_5 := hc_t_9_5) _) ⟨va_cnB (own := RX11) 2 hts (fn_gin wd_875) rfl rfl rfl (hK.nw 127 rfl) (hts _ wd_7) (by decide +kernel) ⟨Nat.le_of_ble_eq_true rfl, Nat.le_of_ble_eq_true rfl⟩, hts _ wd_874, hts _ wp_46⟩ ⟨fn_blind, va_recv hK.1 hP (ci := 0) (q0 := 0) rfl rfl, hp⟩ rfl rfl hl.1 rfl (lv_room (Nat.le_of_ble_eq_true rfl)) dX11_ways_22 ⟨Nat.le_of_ble_eq_true rfl, Nat.le_of_ble_eq_true rfl⟩) (fun u22 H locs hwu22 hP hD hS => ?_)
    obtain ⟨u22a, u22b⟩ := u22
    obtain ⟨hqu220, hu22_00, hu22_10, hu22_20, -⟩ := hwu22
    have hqu22 : 0 ≤ (u22a 0) ∧ (u22a 0) ≤ 4095 ∧ 0 ≤ (u22a 1) ∧ (u22a 1) ≤ 4095 ∧ 0 ≤ (u22a 2) ∧ (u22a 2) ≤ 24 := hqu220
    have hu22_0 : ∀ j : Nat, 0 ≤ (u22b 0) j ∧ (u22b 0) j ≤ 11 := hu22_00
    have hu22_1 : ∀ j : Nat, 0 ≤ (u22b 1) j ∧ (u22b 1) j ≤ 11 := hu22_10
    have hu22_2 : ∀ j : Nat, 0 ≤ (u22b 2) j ∧ (u22b 2) j ≤ 1 := hu22_20
    clear hqu220 hu22_00 hu22_10 hu22_20
    have hP : va_P D vwCl [(t, .inr (11, oX11 t_q)), ((t_q 1), .inr (7, oX7 t_1_q t_1_x0 t_1_x1 t_1_x2 t_1_x3 t_1_x4 t_1_x5 t_1_x6 t_1_x7 t_1_x8)), ((t_q 9), .inr (0, oX0 t_9_q (u22a 0) (u22a 1) (u22a 2) t_9_x6 t_9_x7 t_9_x8 t_9_x9 t_9_x10 t_9_x11)), ((t_q 7), .inr (10, oX10 t_7_q t_7_x0 t_7_x1 t_7_x6)), ((t_7_q 3), .inl (K 0, 24, .inl (fun j => iI (t_7_3_c j)))), ((t_1_q 12), .inl (K 0, 24, .inl (fun j => iI (t_1_12_c j)))), ((t_9_q 3), .inl (K 0, 24, .inl (fun j => iI ((u22b 0) j)))), ((t_9_q 4), .inl (K 0, 24, .inl (fun j => iI ((u22b 1) j)))), ((t_9_q 5), .inl (K 0, 24, .inl (fun j => iI ((u22b 2) j))))] H := hP
    have hD : va_D A [(t, .inr (11, oX11 t_q)), ((t_q 1), .inr (7, oX7 t_1_q t_1_x0 t_1_x1 t_1_x2 t_1_x3 t_1_x4 t_1_x5 t_1_x6 t_1_x7 t_1_x8)), ((t_q 9), .inr (0, oX0 t_9_q (u22a 0) (u22a 1) (u22a 2) t_9_x6 t_9_x7 t_9_x8 t_9_x9 t_9_x10 t_9_x11)), ((t_q 7), .inr (10, oX10 t_7_q t_7_x0 t_7_x1 t_7_x6)), ((t_7_q 3), .inl (K 0, 24, .inl (fun j => iI (t_7_3_c j)))), ((t_1_q 12), .inl (K 0, 24, .inl (fun j => iI (t_1_12_c j)))), ((t_9_q 3), .inl (K 0, 24, .inl (fun j => iI ((u22b 0) j)))), ((t_9_q 4), .inl (K 0, 24, .inl (fun j => iI ((u22b 1) j)))), ((t_9_q 5), .inl (K 0, 24, .inl (fun j => iI ((u22b 2) j))))] := hD
    refine lv_aload_n hx hb dX11_ways_25 rfl (lv_at hl 0 rfl) ?_
    refine va_get (D := D) (own := RX11) (ci := 11) (v := .ref (t_q 9)) (C := RX11) (T := TX11) (N := 13) hx hb hts inb_X11 hown hK.1 hP 0 rfl rfl 9 (by decide) (hts _ wd_431) (fun _ h9 => h9) rfl dX11_ways_26 ?_
    refine fn_gov (wc := [((t_q 9), .inr (0, oX0 t_9_q (u22a 0) (u22a 1) (u22a 2) t_9_x6 t_9_x7 t_9_x8 t_9_x9 t_9_x10 t_9_x11)), ((t_9_q 3), .inl (K 0, 24, .inl (fun j => iI ((u22b 0) j)))), ((t_9_q 4), .inl (K 0, 24, .inl (fun j => iI ((u22b 1) j)))), ((t_9_q 5), .inl (K 0, 24, .inl (fun j => iI ((u22b 2) j))))]) (wr := [(t, .inr (11, oX11 t_q)), ((t_q 1), .inr (7, oX7 t_1_q t_1_x0 t_1_x1 t_1_x2 t_1_x3 t_1_x4 t_1_x5 t_1_x6 t_1_x7 t_1_x8)), ((t_q 7), .inr (10, oX10 t_7_q t_7_x0 t_7_x1 t_7_x6)), ((t_7_q 3), .inl (K 0, 24, .inl (fun j => iI (t_7_3_c j)))), ((t_1_q 12), .inl (K 0, 24, .inl (fun j => iI (t_1_12_c j))))]) hK hP hD hS hA [2, 6, 7, 8] [0, 1, 3, 4, 5] rfl rfl (by decide) (fun hp => va_runVN (C := RX0) (As := []) (rest := []) ⟨hx, hb, hml, hown, hts⟩ (k_X0_searchWays (l := l) (D := D) (K := K) (t := (t_q 9)) (t_q := t_9_q) (t_x0 := (u22a 0)) (t_x1 := (u22a 1)) (t_x2 := (u22a 2)) (t_x6 := t_9_x6) (t_x7 := t_9_x7) (t_x8 := t_9_x8) (t_x9 := t_9_x9) (t_x10 := t_9_x10) (t_x11 := t_9_x11) (t_3_c := (u22b 0)) (t_4_c := (u22b 1)) (t_5_c := (u22b 2)) (hi_t := ⟨(by omega), (by omega), (by omega), hi_t_9.2.2.2.1, hi_t_9.2.2.2.2.1, hi_t_9.2.2.2.2.2.1, hi_t_9.2.2.2.2.2.2.1, hi_t_9.2.2.2.2.2.2.2.1, hi_t_9.2.2.2.2.2.2.2.2⟩) (hc_t_3 := hu22_0) (hc_t_4 := hu22_1) (hc_t_5 := hu22_2) _) ⟨va_cnB (own := RX11) 0 hts (fn_gin wd_891) rfl rfl rfl (hK.nw 129 rfl) (hts _ wd_7) (by decide +kernel) ⟨Nat.le_of_ble_eq_true rfl, Nat.le_of_ble_eq_true rfl⟩, hts _ wd_890, hts _ wp_49⟩ ⟨fn_blind, va_recv hK.1 hP (ci := 0) (q0 := 2) rfl rfl, hp⟩ rfl rfl hl.1 rfl (lv_room (Nat.le_of_ble_eq_true rfl)) dX11_ways_29 ⟨Nat.le_of_ble_eq_true rfl, Nat.le_of_ble_eq_true rfl⟩) (fun u29 H locs hwu29 hP hD hS => ?_)
    obtain ⟨u29a, u29b⟩ := u29
    obtain ⟨hqu290, -⟩ := hwu29
    have hqu29 : (-2147483648) ≤ (u29a 0) ∧ (u29a 0) ≤ 2147483647 ∧ (-1) ≤ (u29a 1) ∧ (u29a 1) ≤ 4095 ∧ 0 ≤ (u29a 2) ∧ (u29a 2) ≤ 4095 ∧ 0 ≤ (u29a 3) ∧ (u29a 3) ≤ 4095 := hqu290
    clear hqu290
    have hP : va_P D vwCl [(t, .inr (11, oX11 t_q)), ((t_q 1), .inr (7, oX7 t_1_q t_1_x0 t_1_x1 t_1_x2 t_1_x3 t_1_x4 t_1_x5 t_1_x6 t_1_x7 t_1_x8)), ((t_q 7), .inr (10, oX10 t_7_q t_7_x0 t_7_x1 t_7_x6)), ((t_7_q 3), .inl (K 0, 24, .inl (fun j => iI (t_7_3_c j)))), ((t_1_q 12), .inl (K 0, 24, .inl (fun j => iI (t_1_12_c j)))), ((t_q 9), .inr (0, oX0 t_9_q (u22a 0) (u22a 1) (u22a 2) (u29a 0) (u29a 1) (u29a 2) (u29a 3) t_9_x10 t_9_x11)), ((t_9_q 3), .inl (K 0, 24, .inl (fun j => iI ((u22b 0) j)))), ((t_9_q 4), .inl (K 0, 24, .inl (fun j => iI ((u22b 1) j)))), ((t_9_q 5), .inl (K 0, 24, .inl (fun j => iI ((u22b 2) j))))] H := hP
    have hD : va_D A [(t, .inr (11, oX11 t_q)), ((t_q 1), .inr (7, oX7 t_1_q t_1_x0 t_1_x1 t_1_x2 t_1_x3 t_1_x4 t_1_x5 t_1_x6 t_1_x7 t_1_x8)), ((t_q 7), .inr (10, oX10 t_7_q t_7_x0 t_7_x1 t_7_x6)), ((t_7_q 3), .inl (K 0, 24, .inl (fun j => iI (t_7_3_c j)))), ((t_1_q 12), .inl (K 0, 24, .inl (fun j => iI (t_1_12_c j)))), ((t_q 9), .inr (0, oX0 t_9_q (u22a 0) (u22a 1) (u22a 2) (u29a 0) (u29a 1) (u29a 2) (u29a 3) t_9_x10 t_9_x11)), ((t_9_q 3), .inl (K 0, 24, .inl (fun j => iI ((u22b 0) j)))), ((t_9_q 4), .inl (K 0, 24, .inl (fun j => iI ((u22b 1) j)))), ((t_9_q 5), .inl (K 0, 24, .inl (fun j => iI ((u22b 2) j))))] := hD
    refine lv_aload_n hx hb dX11_ways_32 rfl (lv_at hl 0 rfl) ?_
    refine va_get (D := D) (own := RX11) (ci := 11) (v := .ref (t_q 9)) (C := RX11) (T := TX11) (N := 13) hx hb hts inb_X11 hown hK.1 hP 0 rfl rfl 9 (by decide) (hts _ wd_431) (fun _ h9 => h9) rfl dX11_ways_33 ?_
    refine va_getN (D := D) (own := RX11) (ci := 0) (v := .int (iI (u29a 0))) (C := RX0) (T := TX0) (N := 12) hx hb hts inb_X0 hown hK.1 hP 5 rfl rfl 6 (by decide) (hK.nf 73 rfl) (fun _ h9 => h9) rfl dX11_ways_36 ?_
    rw [hQ]; exact fn_iret hx hb hr hlocks rfl hP hD hS ((fun k => ([(u22a 0), (u22a 1), (u22a 2), (u29a 0), (u29a 1), (u29a 2), (u29a 3)] : List Int).getD k 0), (fun k => ([(u22b 0), (u22b 1), (u22b 2)] : List (Nat → Int)).getD k (fun _ => 0))) ⟨(u29a 0), rfl, by omega, (by show 0 ≤ (u22a 0) ∧ (u22a 0) ≤ 4095 ∧ 0 ≤ (u22a 1) ∧ (u22a 1) ≤ 4095 ∧ 0 ≤ (u22a 2) ∧ (u22a 2) ≤ 24 ∧ (-2147483648) ≤ (u29a 0) ∧ (u29a 0) ≤ 2147483647 ∧ (-1) ≤ (u29a 1) ∧ (u29a 1) ≤ 4095 ∧ 0 ≤ (u29a 2) ∧ (u29a 2) ≤ 4095 ∧ 0 ≤ (u29a 3) ∧ (u29a 3) ≤ 4095; omega), (hu22_0), (hu22_1), (hu22_2), trivial⟩ [0, 1, 5, 2, 3, 4, 6, 7, 8] (by decide) rfl dX11_ways_39
  · refine lv_bipush (v := iI (-2)) hx hb dX11_ways_7 (by decide) ?_
    have y9_1 : 0 ≤ t_9_x0 ∧ t_9_x0 ≤ 4095 := hi_t_9.1
    have y9_2 : 0 ≤ t_9_x1 ∧ t_9_x1 ≤ 4095 := hi_t_9.2.1
    have y9_3 : 0 ≤ t_9_x2 ∧ t_9_x2 ≤ 24 := hi_t_9.2.2.1
    have y9_4 : (-2147483648) ≤ t_9_x6 ∧ t_9_x6 ≤ 2147483647 := hi_t_9.2.2.2.1
    have y9_5 : (-1) ≤ t_9_x7 ∧ t_9_x7 ≤ 4095 := hi_t_9.2.2.2.2.1
    have y9_6 : 0 ≤ t_9_x8 ∧ t_9_x8 ≤ 4095 := hi_t_9.2.2.2.2.2.1
    have y9_7 : 0 ≤ t_9_x9 ∧ t_9_x9 ≤ 4095 := hi_t_9.2.2.2.2.2.2.1
    rw [hQ]; exact fn_iret hx hb hr hlocks rfl hP hD hS ((fun k => ([t_9_x0, t_9_x1, t_9_x2, t_9_x6, t_9_x7, t_9_x8, t_9_x9] : List Int).getD k 0), (fun k => ([t_9_3_c, t_9_4_c, t_9_5_c] : List (Nat → Int)).getD k (fun _ => 0))) ⟨(-2), rfl, by omega, (by show 0 ≤ t_9_x0 ∧ t_9_x0 ≤ 4095 ∧ 0 ≤ t_9_x1 ∧ t_9_x1 ≤ 4095 ∧ 0 ≤ t_9_x2 ∧ t_9_x2 ≤ 24 ∧ (-2147483648) ≤ t_9_x6 ∧ t_9_x6 ≤ 2147483647 ∧ (-1) ≤ t_9_x7 ∧ t_9_x7 ≤ 4095 ∧ 0 ≤ t_9_x8 ∧ t_9_x8 ≤ 4095 ∧ 0 ≤ t_9_x9 ∧ t_9_x9 ≤ 4095; omega), (hc_t_9_3), (hc_t_9_4), (hc_t_9_5), trivial⟩ [7, 8, 0, 1, 2, 3, 4, 5, 6] (by decide) rfl dX11_ways_9
theorem dX11_mostly_0 : decode cX11_mostly 0 = .ok (.aload_n 0, 1) := by decide +kernel
theorem dX11_mostly_1 : decode cX11_mostly 1 = .ok (.invokevirtual 188, 3) := by decide +kernel
theorem dX11_mostly_4 : decode cX11_mostly 4 = .ok (.ifCond .eq 6, 3) := by decide +kernel
theorem dX11_mostly_10 : decode cX11_mostly 10 = .ok (.aload_n 0, 1) := by decide +kernel
theorem dX11_mostly_11 : decode cX11_mostly 11 = .ok (.getfield 61, 3) := by decide +kernel
theorem dX11_mostly_14 : decode cX11_mostly 14 = .ok (.aload_n 0, 1) := by decide +kernel
theorem dX11_mostly_15 : decode cX11_mostly 15 = .ok (.getfield 19, 3) := by decide +kernel
theorem dX11_mostly_18 : decode cX11_mostly 18 = .ok (.aload_n 0, 1) := by decide +kernel
theorem dX11_mostly_19 : decode cX11_mostly 19 = .ok (.getfield 51, 3) := by decide +kernel
theorem dX11_mostly_22 : decode cX11_mostly 22 = .ok (.invokevirtual 259, 3) := by decide +kernel
theorem dX11_mostly_25 : decode cX11_mostly 25 = .ok (.aload_n 0, 1) := by decide +kernel
theorem dX11_mostly_26 : decode cX11_mostly 26 = .ok (.getfield 61, 3) := by decide +kernel
theorem dX11_mostly_29 : decode cX11_mostly 29 = .ok (.invokevirtual 266, 3) := by decide +kernel
theorem dX11_mostly_32 : decode cX11_mostly 32 = .ok (.aload_n 0, 1) := by decide +kernel
theorem dX11_mostly_33 : decode cX11_mostly 33 = .ok (.getfield 61, 3) := by decide +kernel
theorem dX11_mostly_36 : decode cX11_mostly 36 = .ok (.getfield 276, 3) := by decide +kernel
theorem dX11_mostly_39 : decode cX11_mostly 39 = .ok (.ireturn, 1) := by decide +kernel
theorem dX11_mostly_7 : decode cX11_mostly 7 = .ok (.bipush (-2), 2) := by decide +kernel
theorem dX11_mostly_9 : decode cX11_mostly 9 = .ok (.ireturn, 1) := by decide +kernel
set_option maxHeartbeats 4000000 in
set_option maxRecDepth 100000 in
theorem k_X11_mostly (l : Launch) (D : va_G) (K : Nat → ClassId) (t : Nat) (t_q t_1_q t_9_q t_7_q : Nat → Nat) (t_1_x0 t_1_x1 t_1_x2 t_1_x3 t_1_x4 t_1_x5 t_1_x6 t_1_x7 t_1_x8 t_9_x0 t_9_x1 t_9_x2 t_9_x6 t_9_x7 t_9_x8 t_9_x9 t_9_x10 t_9_x11 t_7_x0 t_7_x1 t_7_x6 : Int) (t_7_3_c : Nat → Int) (t_1_12_c : Nat → Int) (t_9_3_c : Nat → Int) (t_9_4_c : Nat → Int) (t_9_5_c : Nat → Int) (hi_t_1 : bX7 t_1_x0 t_1_x1 t_1_x2 t_1_x3 t_1_x4 t_1_x5 t_1_x6 t_1_x7 t_1_x8) (hi_t_9 : bX0 t_9_x0 t_9_x1 t_9_x2 t_9_x6 t_9_x7 t_9_x8 t_9_x9 t_9_x10 t_9_x11) (hi_t_7 : bX10 t_7_x0 t_7_x1 t_7_x6) (hc_t_7_3 : ∀ j : Nat, (-1) ≤ t_7_3_c j ∧ t_7_3_c j ≤ 11) (hc_t_1_12 : ∀ j : Nat, 0 ≤ t_1_12_c j ∧ t_1_12_c j ≤ 11) (hc_t_9_3 : ∀ j : Nat, 0 ≤ t_9_3_c j ∧ t_9_3_c j ≤ 11) (hc_t_9_4 : ∀ j : Nat, 0 ≤ t_9_4_c j ∧ t_9_4_c j ≤ 11) (hc_t_9_5 : ∀ j : Nat, 0 ≤ t_9_5_c j ∧ t_9_5_c j ≤ 1) : fn_CI (S := (Nat → Int) × (Nat → Nat → Int)) l D K yX11_mostly (fn_ws yX11_mostly cX11_mostly 1 (some .int)) ({ frames := 12, cells := 0, slots := 0, locals := 300 } : Room) [.ref t] [(t, .inr (11, oX11 t_q)), ((t_q 1), .inr (7, oX7 t_1_q t_1_x0 t_1_x1 t_1_x2 t_1_x3 t_1_x4 t_1_x5 t_1_x6 t_1_x7 t_1_x8)), ((t_q 9), .inr (0, oX0 t_9_q t_9_x0 t_9_x1 t_9_x2 t_9_x6 t_9_x7 t_9_x8 t_9_x9 t_9_x10 t_9_x11)), ((t_q 7), .inr (10, oX10 t_7_q t_7_x0 t_7_x1 t_7_x6)), ((t_7_q 3), .inl (K 0, 24, .inl (fun j => iI (t_7_3_c j)))), ((t_1_q 12), .inl (K 0, 24, .inl (fun j => iI (t_1_12_c j)))), ((t_9_q 3), .inl (K 0, 24, .inl (fun j => iI (t_9_3_c j)))), ((t_9_q 4), .inl (K 0, 24, .inl (fun j => iI (t_9_4_c j)))), ((t_9_q 5), .inl (K 0, 24, .inl (fun j => iI (t_9_5_c j))))] (fun r u => ∃ k : Int, r = iI k ∧ ((-2) ≤ k ∧ k ≤ 4095) ∧ (0 ≤ (u.1 0) ∧ (u.1 0) ≤ 4095 ∧ 0 ≤ (u.1 1) ∧ (u.1 1) ≤ 4095 ∧ 0 ≤ (u.1 2) ∧ (u.1 2) ≤ 24 ∧ (-2147483648) ≤ (u.1 3) ∧ (u.1 3) ≤ 2147483647 ∧ (-1) ≤ (u.1 4) ∧ (u.1 4) ≤ 4095 ∧ 0 ≤ (u.1 5) ∧ (u.1 5) ≤ 4095 ∧ 0 ≤ (u.1 6) ∧ (u.1 6) ≤ 4095) ∧ (∀ j : Nat, 0 ≤ (u.2 0) j ∧ (u.2 0) j ≤ 11) ∧ (∀ j : Nat, 0 ≤ (u.2 1) j ∧ (u.2 1) j ≤ 11) ∧ (∀ j : Nat, 0 ≤ (u.2 2) j ∧ (u.2 2) j ≤ 1) ∧ True) (fun u => [(t, .inr (11, oX11 t_q)), ((t_q 1), .inr (7, oX7 t_1_q t_1_x0 t_1_x1 t_1_x2 t_1_x3 t_1_x4 t_1_x5 t_1_x6 t_1_x7 t_1_x8)), ((t_q 9), .inr (0, oX0 t_9_q (u.1 0) (u.1 1) (u.1 2) (u.1 3) (u.1 4) (u.1 5) (u.1 6) t_9_x10 t_9_x11)), ((t_q 7), .inr (10, oX10 t_7_q t_7_x0 t_7_x1 t_7_x6)), ((t_7_q 3), .inl (K 0, 24, .inl (fun j => iI (t_7_3_c j)))), ((t_1_q 12), .inl (K 0, 24, .inl (fun j => iI (t_1_12_c j)))), ((t_9_q 3), .inl (K 0, 24, .inl (fun j => iI ((u.2 0) j)))), ((t_9_q 4), .inl (K 0, 24, .inl (fun j => iI ((u.2 1) j)))), ((t_9_q 5), .inl (K 0, 24, .inl (fun j => iI ((u.2 2) j))))]) 0 0 := by
  refine g_inI (cc := cX11_mostly) (maxL := 1) (ret := (some .int)) (by decide) rfl (Nat.le_of_ble_eq_true rfl) ?_
  intro p e s m below meth c A ls ag Q B hA hP hD hS hl hQ
  obtain ⟨hx, hb, hr, hml, hts, hown, hlocks, hin, hK⟩ := B
  have hown : s.vm.findClass RX11 = some m.cls := hown
  have hts := fun w h => hts w (List.mem_cons_of_mem _ h)
  have hl : lv_has ls 1 [(0, .ref t)] := hl
  refine lv_aload_n hx hb dX11_mostly_0 rfl (lv_at hl 0 rfl) ?_
  refine fn_goi (wc := [(t, .inr (11, oX11 t_q)), ((t_q 1), .inr (7, oX7 t_1_q t_1_x0 t_1_x1 t_1_x2 t_1_x3 t_1_x4 t_1_x5 t_1_x6 t_1_x7 t_1_x8))]) (wr := [((t_q 9), .inr (0, oX0 t_9_q t_9_x0 t_9_x1 t_9_x2 t_9_x6 t_9_x7 t_9_x8 t_9_x9 t_9_x10 t_9_x11)), ((t_q 7), .inr (10, oX10 t_7_q t_7_x0 t_7_x1 t_7_x6)), ((t_7_q 3), .inl (K 0, 24, .inl (fun j => iI (t_7_3_c j)))), ((t_1_q 12), .inl (K 0, 24, .inl (fun j => iI (t_1_12_c j)))), ((t_9_q 3), .inl (K 0, 24, .inl (fun j => iI (t_9_3_c j)))), ((t_9_q 4), .inl (K 0, 24, .inl (fun j => iI (t_9_4_c j)))), ((t_9_q 5), .inl (K 0, 24, .inl (fun j => iI (t_9_5_c j))))]) hK hP hD hS hA [0, 1] [2, 3, 4, 5, 6, 7, 8] rfl rfl (by decide) (fun hp => va_runV (C := RX11) (As := []) (rest := []) ⟨hx, hb, hml, hown, hts⟩ (k_X11_noTown (l := l) (D := D) (K := K) (t := t) (t_q := t_q) (t_1_q := t_1_q) (t_1_x0 := t_1_x0) (t_1_x1 := t_1_x1) (t_1_x2 := t_1_x2) (t_1_x3 := t_1_x3) (t_1_x4 := t_1_x4) (t_1_x5 := t_1_x5) (t_1_x6 := t_1_x6) (t_1_x7 := t_1_x7) (t_1_x8 := t_1_x8) (hi_t_1 := hi_t_1) _) (cwV 0 hts (fn_ginV (fn_gin wd_709) wd_706 wd_708 wp_30 wd_1) rfl rfl rfl (by decide +kernel) ⟨Nat.le_of_ble_eq_true rfl, Nat.le_of_ble_eq_true rfl⟩) ⟨fn_blind, va_recv hK.1 hP (ci := 11) (q0 := 0) rfl rfl, hp⟩ rfl rfl hl.1 rfl (lv_room (Nat.le_of_ble_eq_true rfl)) dX11_mostly_1 ⟨Nat.le_of_ble_eq_true rfl, Nat.le_of_ble_eq_true rfl⟩) (fun r1 u1 H locs hwu1 hP hD hS => ?_)
  obtain ⟨u1a, u1b⟩ := u1
  obtain ⟨kr1, rfl, hkr1, -⟩ := hwu1
  have hP : va_P D vwCl [((t_q 9), .inr (0, oX0 t_9_q t_9_x0 t_9_x1 t_9_x2 t_9_x6 t_9_x7 t_9_x8 t_9_x9 t_9_x10 t_9_x11)), ((t_q 7), .inr (10, oX10 t_7_q t_7_x0 t_7_x1 t_7_x6)), ((t_7_q 3), .inl (K 0, 24, .inl (fun j => iI (t_7_3_c j)))), ((t_1_q 12), .inl (K 0, 24, .inl (fun j => iI (t_1_12_c j)))), ((t_9_q 3), .inl (K 0, 24, .inl (fun j => iI (t_9_3_c j)))), ((t_9_q 4), .inl (K 0, 24, .inl (fun j => iI (t_9_4_c j)))), ((t_9_q 5), .inl (K 0, 24, .inl (fun j => iI (t_9_5_c j)))), (t, .inr (11, oX11 t_q)), ((t_q 1), .inr (7, oX7 t_1_q t_1_x0 t_1_x1 t_1_x2 t_1_x3 t_1_x4 t_1_x5 t_1_x6 t_1_x7 t_1_x8))] H := hP
  have hD : va_D A [((t_q 9), .inr (0, oX0 t_9_q t_9_x0 t_9_x1 t_9_x2 t_9_x6 t_9_x7 t_9_x8 t_9_x9 t_9_x10 t_9_x11)), ((t_q 7), .inr (10, oX10 t_7_q t_7_x0 t_7_x1 t_7_x6)), ((t_7_q 3), .inl (K 0, 24, .inl (fun j => iI (t_7_3_c j)))), ((t_1_q 12), .inl (K 0, 24, .inl (fun j => iI (t_1_12_c j)))), ((t_9_q 3), .inl (K 0, 24, .inl (fun j => iI (t_9_3_c j)))), ((t_9_q 4), .inl (K 0, 24, .inl (fun j => iI (t_9_4_c j)))), ((t_9_q 5), .inl (K 0, 24, .inl (fun j => iI (t_9_5_c j)))), (t, .inr (11, oX11 t_q)), ((t_q 1), .inr (7, oX7 t_1_q t_1_x0 t_1_x1 t_1_x2 t_1_x3 t_1_x4 t_1_x5 t_1_x6 t_1_x7 t_1_x8))] := hD
  refine g_if_eq (tgt := 10) hx hb (by omega) dX11_mostly_4 (by decide) (fun c4 => ?_) (fun c4 => ?_)
  · refine lv_aload_n hx hb dX11_mostly_10 rfl (lv_at hl 0 rfl) ?_
    refine va_get (D := D) (own := RX11) (ci := 11) (v := .ref (t_q 9)) (C := RX11) (T := TX11) (N := 13) hx hb hts inb_X11 hown hK.1 hP 7 rfl rfl 9 (by decide) (hts _ wd_431) (fun _ h9 => h9) rfl dX11_mostly_11 ?_
    refine lv_aload_n hx hb dX11_mostly_14 rfl (lv_at hl 0 rfl) ?_
    refine va_get (D := D) (own := RX11) (ci := 11) (v := .ref (t_q 1)) (C := RX11) (T := TX11) (N := 13) hx hb hts inb_X11 hown hK.1 hP 7 rfl rfl 1 (by decide) (hts _ wd_423) (fun _ h9 => h9) rfl dX11_mostly_15 ?_
    refine lv_aload_n hx hb dX11_mostly_18 rfl (lv_at hl 0 rfl) ?_
    refine va_get (D := D) (own := RX11) (ci := 11) (v := .ref (t_q 7)) (C := RX11) (T := TX11) (N := 13) hx hb hts inb_X11 hown hK.1 hP 7 rfl rfl 7 (by decide) (hts _ wd_429) (fun _ h9 => h9) rfl dX11_mostly_19 ?_
    refine fn_gov (wc := [((t_q 1), .inr (7, oX7 t_1_q t_1_x0 t_1_x1 t_1_x2 t_1_x3 t_1_x4 t_1_x5 t_1_x6 t_1_x7 t_1_x8)), ((t_q 9), .inr (0, oX0 t_9_q t_9_x0 t_9_x1 t_9_x2 t_9_x6 t_9_x7 t_9_x8 t_9_x9 t_9_x10 t_9_x11)), ((t_q 7), .inr (10, oX10 t_7_q t_7_x0 t_7_x1 t_7_x6)), ((t_7_q 3), .inl (K 0, 24, .inl (fun j => iI (t_7_3_c j)))), ((t_1_q 12), .inl (K 0, 24, .inl (fun j => iI (t_1_12_c j)))), ((t_9_q 3), .inl (K 0, 24, .inl (fun j => iI (t_9_3_c j)))), ((t_9_q 4), .inl (K 0, 24, .inl (fun j => iI (t_9_4_c j)))), ((t_9_q 5), .inl (K 0, 24, .inl (fun j => iI (t_9_5_c j))))]) (wr := [(t, .inr (11, oX11 t_q))]) hK hP hD hS hA [8, 0, 1, 2, 3, 4, 5, 6] [7] rfl rfl (by decide) (fun hp => va_runVN (C := RX0) (As := [.ref (t_q 1), .ref (t_q 7)]) (rest := []) ⟨hx, hb, hml, hown, hts⟩ (k_X0_take (l := l) (D := D) (K := K) (t := (t_q 9)) (a1 := (t_q 1)) (a2 := (t_q 7)) (a1_q := t_1_q) (a1_x0 := t_1_x0) (a1_x1 := t_1_x1) (a1_x2 := t_1_x2) (a1_x3 := t_1_x3) (a1_x4 := t_1_x4) (a1_x5 := t_1_x5) (a1_x6 := t_1_x6) (a1_x7 := t_1_x7) (a1_x8 := t_1_x8) (t_q := t_9_q) (t_x0 := t_9_x0) (t_x1 := t_9_x1) (t_x2 := t_9_x2) (t_x6 := t_9_x6) (t_x7 := t_9_x7) (t_x8 := t_9_x8) (t_x9 := t_9_x9) (t_x10 := t_9_x10) (t_x11 := t_9_x11) (a2_q := t_7_q) (a2_x0 := t_7_x0) (a2_x1 := t_7_x1) (a2_x6 := t_7_x6) (a2_3_c := t_7_3_c) (a1_12_c := t_1_12_c) (t_3_c := t_9_3_c) (t_4_c := t_9_4_c) (t_5_c := t_9_5_c) (hi_a1 := hi_t_1) (hi_t := hi_t_9) (hi_a2 := hi_t_7) (hc_a2_3 := hc_t_7_3) (hc_a1_12 := hc_t_1_12) (hc_t_3 := hc_t_9_3) (hc_t_4 := hc_t_9_4) (hc_t_5 := hc_t_9_5) _) ⟨va_cnB (own := RX11) 2 hts (fn_gin wd_875) rfl rfl rfl (hK.nw 127 rfl) (hts _ wd_7) (by decide +kernel) ⟨Nat.le_of_ble_eq_true rfl, Nat.le_of_ble_eq_true rfl⟩, hts _ wd_874, hts _ wp_46⟩ ⟨fn_blind, va_recv hK.1 hP (ci := 0) (q0 := 0) rfl rfl, hp⟩ rfl rfl hl.1 rfl (lv_room (Nat.le_of_ble_eq_true rfl)) dX11_mostly_22 ⟨Nat.le_of_ble_eq_true rfl, Nat.le_of_ble_eq_true rfl⟩) (fun u22 H locs hwu22 hP hD hS => ?_)
    obtain ⟨u22a, u22b⟩ := u22
    obtain ⟨hqu220, hu22_00, hu22_10, hu22_20, -⟩ := hwu22
    have hqu22 : 0 ≤ (u22a 0) ∧ (u22a 0) ≤ 4095 ∧ 0 ≤ (u22a 1) ∧ (u22a 1) ≤ 4095 ∧ 0 ≤ (u22a 2) ∧ (u22a 2) ≤ 24 := hqu220
    have hu22_0 : ∀ j : Nat, 0 ≤ (u22b 0) j ∧ (u22b 0) j ≤ 11 := hu22_00
    have hu22_1 : ∀ j : Nat, 0 ≤ (u22b 1) j ∧ (u22b 1) j ≤ 11 := hu22_10
    have hu22_2 : ∀ j : Nat, 0 ≤ (u22b 2) j ∧ (u22b 2) j ≤ 1 := hu22_20
    clear hqu220 hu22_00 hu22_10 hu22_20
    have hP : va_P D vwCl [(t, .inr (11, oX11 t_q)), ((t_q 1), .inr (7, oX7 t_1_q t_1_x0 t_1_x1 t_1_x2 t_1_x3 t_1_x4 t_1_x5 t_1_x6 t_1_x7 t_1_x8)), ((t_q 9), .inr (0, oX0 t_9_q (u22a 0) (u22a 1) (u22a 2) t_9_x6 t_9_x7 t_9_x8 t_9_x9 t_9_x10 t_9_x11)), ((t_q 7), .inr (10, oX10 t_7_q t_7_x0 t_7_x1 t_7_x6)), ((t_7_q 3), .inl (K 0, 24, .inl (fun j => iI (t_7_3_c j)))), ((t_1_q 12), .inl (K 0, 24, .inl (fun j => iI (t_1_12_c j)))), ((t_9_q 3), .inl (K 0, 24, .inl (fun j => iI ((u22b 0) j)))), ((t_9_q 4), .inl (K 0, 24, .inl (fun j => iI ((u22b 1) j)))), ((t_9_q 5), .inl (K 0, 24, .inl (fun j => iI ((u22b 2) j))))] H := hP
    have hD : va_D A [(t, .inr (11, oX11 t_q)), ((t_q 1), .inr (7, oX7 t_1_q t_1_x0 t_1_x1 t_1_x2 t_1_x3 t_1_x4 t_1_x5 t_1_x6 t_1_x7 t_1_x8)), ((t_q 9), .inr (0, oX0 t_9_q (u22a 0) (u22a 1) (u22a 2) t_9_x6 t_9_x7 t_9_x8 t_9_x9 t_9_x10 t_9_x11)), ((t_q 7), .inr (10, oX10 t_7_q t_7_x0 t_7_x1 t_7_x6)), ((t_7_q 3), .inl (K 0, 24, .inl (fun j => iI (t_7_3_c j)))), ((t_1_q 12), .inl (K 0, 24, .inl (fun j => iI (t_1_12_c j)))), ((t_9_q 3), .inl (K 0, 24, .inl (fun j => iI ((u22b 0) j)))), ((t_9_q 4), .inl (K 0, 24, .inl (fun j => iI ((u22b 1) j)))), ((t_9_q 5), .inl (K 0, 24, .inl (fun j => iI ((u22b 2) j))))] := hD
    refine lv_aload_n hx hb dX11_mostly_25 rfl (lv_at hl 0 rfl) ?_
    refine va_get (D := D) (own := RX11) (ci := 11) (v := .ref (t_q 9)) (C := RX11) (T := TX11) (N := 13) hx hb hts inb_X11 hown hK.1 hP 0 rfl rfl 9 (by decide) (hts _ wd_431) (fun _ h9 => h9) rfl dX11_mostly_26 ?_
    refine fn_gov (wc := [((t_q 9), .inr (0, oX0 t_9_q (u22a 0) (u22a 1) (u22a 2) t_9_x6 t_9_x7 t_9_x8 t_9_x9 t_9_x10 t_9_x11)), ((t_9_q 3), .inl (K 0, 24, .inl (fun j => iI ((u22b 0) j)))), ((t_9_q 4), .inl (K 0, 24, .inl (fun j => iI ((u22b 1) j)))), ((t_9_q 5), .inl (K 0, 24, .inl (fun j => iI ((u22b 2) j))))]) (wr := [(t, .inr (11, oX11 t_q)), ((t_q 1), .inr (7, oX7 t_1_q t_1_x0 t_1_x1 t_1_x2 t_1_x3 t_1_x4 t_1_x5 t_1_x6 t_1_x7 t_1_x8)), ((t_q 7), .inr (10, oX10 t_7_q t_7_x0 t_7_x1 t_7_x6)), ((t_7_q 3), .inl (K 0, 24, .inl (fun j => iI (t_7_3_c j)))), ((t_1_q 12), .inl (K 0, 24, .inl (fun j => iI (t_1_12_c j))))]) hK hP hD hS hA [2, 6, 7, 8] [0, 1, 3, 4, 5] rfl rfl (by decide) (fun hp => va_runVN (C := RX0) (As := []) (rest := []) ⟨hx, hb, hml, hown, hts⟩ (k_X0_searchWays (l := l) (D := D) (K := K) (t := (t_q 9)) (t_q := t_9_q) (t_x0 := (u22a 0)) (t_x1 := (u22a 1)) (t_x2 := (u22a 2)) (t_x6 := t_9_x6) (t_x7 := t_9_x7) (t_x8 := t_9_x8) (t_x9 := t_9_x9) (t_x10 := t_9_x10) (t_x11 := t_9_x11) (t_3_c := (u22b 0)) (t_4_c := (u22b 1)) (t_5_c := (u22b 2)) (hi_t := ⟨(by omega), (by omega), (by omega), hi_t_9.2.2.2.1, hi_t_9.2.2.2.2.1, hi_t_9.2.2.2.2.2.1, hi_t_9.2.2.2.2.2.2.1, hi_t_9.2.2.2.2.2.2.2.1, hi_t_9.2.2.2.2.2.2.2.2⟩) (hc_t_3 := hu22_0) (hc_t_4 := hu22_1) (hc_t_5 := hu22_2) _) ⟨va_cnB (own := RX11) 0 hts (fn_gin wd_891) rfl rfl rfl (hK.nw 129 rfl) (hts _ wd_7) (by decide +kernel) ⟨Nat.le_of_ble_eq_true rfl, Nat.le_of_ble_eq_true rfl⟩, hts _ wd_890, hts _ wp_49⟩ ⟨fn_blind, va_recv hK.1 hP (ci := 0) (q0 := 2) rfl rfl, hp⟩ rfl rfl hl.1 rfl (lv_room (Nat.le_of_ble_eq_true rfl)) dX11_mostly_29 ⟨Nat.le_of_ble_eq_true rfl, Nat.le_of_ble_eq_true rfl⟩) (fun u29 H locs hwu29 hP hD hS => ?_)
    obtain ⟨u29a, u29b⟩ := u29
    obtain ⟨hqu290, -⟩ := hwu29
    have hqu29 : (-2147483648) ≤ (u29a 0) ∧ (u29a 0) ≤ 2147483647 ∧ (-1) ≤ (u29a 1) ∧ (u29a 1) ≤ 4095 ∧ 0 ≤ (u29a 2) ∧ (u29a 2) ≤ 4095 ∧ 0 ≤ (u29a 3) ∧ (u29a 3) ≤ 4095 := hqu290
    clear hqu290
    have hP : va_P D vwCl [(t, .inr (11, oX11 t_q)), ((t_q 1), .inr (7, oX7 t_1_q t_1_x0 t_1_x1 t_1_x2 t_1_x3 t_1_x4 t_1_x5 t_1_x6 t_1_x7 t_1_x8)), ((t_q 7), .inr (10, oX10 t_7_q t_7_x0 t_7_x1 t_7_x6)), ((t_7_q 3), .inl (K 0, 24, .inl (fun j => iI (t_7_3_c j)))), ((t_1_q 12), .inl (K 0, 24, .inl (fun j => iI (t_1_12_c j)))), ((t_q 9), .inr (0, oX0 t_9_q (u22a 0) (u22a 1) (u22a 2) (u29a 0) (u29a 1) (u29a 2) (u29a 3) t_9_x10 t_9_x11)), ((t_9_q 3), .inl (K 0, 24, .inl (fun j => iI ((u22b 0) j)))), ((t_9_q 4), .inl (K 0, 24, .inl (fun j => iI ((u22b 1) j)))), ((t_9_q 5), .inl (K 0, 24, .inl (fun j => iI ((u22b 2) j))))] H := hP
    have hD : va_D A [(t, .inr (11, oX11 t_q)), ((t_q 1), .inr (7, oX7 t_1_q t_1_x0 t_1_x1 t_1_x2 t_1_x3 t_1_x4 t_1_x5 t_1_x6 t_1_x7 t_1_x8)), ((t_q 7), .inr (10, oX10 t_7_q t_7_x0 t_7_x1 t_7_x6)), ((t_7_q 3), .inl (K 0, 24, .inl (fun j => iI (t_7_3_c j)))), ((t_1_q 12), .inl (K 0, 24, .inl (fun j => iI (t_1_12_c j)))), ((t_q 9), .inr (0, oX0 t_9_q (u22a 0) (u22a 1) (u22a 2) (u29a 0) (u29a 1) (u29a 2) (u29a 3) t_9_x10 t_9_x11)), ((t_9_q 3), .inl (K 0, 24, .inl (fun j => iI ((u22b 0) j)))), ((t_9_q 4), .inl (K 0, 24, .inl (fun j => iI ((u22b 1) j)))), ((t_9_q 5), .inl (K 0, 24, .inl (fun j => iI ((u22b 2) j))))] := hD
    refine lv_aload_n hx hb dX11_mostly_32 rfl (lv_at hl 0 rfl) ?_
    refine va_get (D := D) (own := RX11) (ci := 11) (v := .ref (t_q 9)) (C := RX11) (T := TX11) (N := 13) hx hb hts inb_X11 hown hK.1 hP 0 rfl rfl 9 (by decide) (hts _ wd_431) (fun _ h9 => h9) rfl dX11_mostly_33 ?_
    refine va_getN (D := D) (own := RX11) (ci := 0) (v := .int (iI (u29a 1))) (C := RX0) (T := TX0) (N := 12) hx hb hts inb_X0 hown hK.1 hP 5 rfl rfl 7 (by decide) (hK.nf 74 rfl) (fun _ h9 => h9) rfl dX11_mostly_36 ?_
    rw [hQ]; exact fn_iret hx hb hr hlocks rfl hP hD hS ((fun k => ([(u22a 0), (u22a 1), (u22a 2), (u29a 0), (u29a 1), (u29a 2), (u29a 3)] : List Int).getD k 0), (fun k => ([(u22b 0), (u22b 1), (u22b 2)] : List (Nat → Int)).getD k (fun _ => 0))) ⟨(u29a 1), rfl, by omega, (by show 0 ≤ (u22a 0) ∧ (u22a 0) ≤ 4095 ∧ 0 ≤ (u22a 1) ∧ (u22a 1) ≤ 4095 ∧ 0 ≤ (u22a 2) ∧ (u22a 2) ≤ 24 ∧ (-2147483648) ≤ (u29a 0) ∧ (u29a 0) ≤ 2147483647 ∧ (-1) ≤ (u29a 1) ∧ (u29a 1) ≤ 4095 ∧ 0 ≤ (u29a 2) ∧ (u29a 2) ≤ 4095 ∧ 0 ≤ (u29a 3) ∧ (u29a 3) ≤ 4095; omega), (hu22_0), (hu22_1), (hu22_2), trivial⟩ [0, 1, 5, 2, 3, 4, 6, 7, 8] (by decide) rfl dX11_mostly_39
  · refine lv_bipush (v := iI (-2)) hx hb dX11_mostly_7 (by decide) ?_
    have y9_1 : 0 ≤ t_9_x0 ∧ t_9_x0 ≤ 4095 := hi_t_9.1
    have y9_2 : 0 ≤ t_9_x1 ∧ t_9_x1 ≤ 4095 := hi_t_9.2.1
    have y9_3 : 0 ≤ t_9_x2 ∧ t_9_x2 ≤ 24 := hi_t_9.2.2.1
    have y9_4 : (-2147483648) ≤ t_9_x6 ∧ t_9_x6 ≤ 2147483647 := hi_t_9.2.2.2.1
    have y9_5 : (-1) ≤ t_9_x7 ∧ t_9_x7 ≤ 4095 := hi_t_9.2.2.2.2.1
    have y9_6 : 0 ≤ t_9_x8 ∧ t_9_x8 ≤ 4095 := hi_t_9.2.2.2.2.2.1
    have y9_7 : 0 ≤ t_9_x9 ∧ t_9_x9 ≤ 4095 := hi_t_9.2.2.2.2.2.2.1
    rw [hQ]; exact fn_iret hx hb hr hlocks rfl hP hD hS ((fun k => ([t_9_x0, t_9_x1, t_9_x2, t_9_x6, t_9_x7, t_9_x8, t_9_x9] : List Int).getD k 0), (fun k => ([t_9_3_c, t_9_4_c, t_9_5_c] : List (Nat → Int)).getD k (fun _ => 0))) ⟨(-2), rfl, by omega, (by show 0 ≤ t_9_x0 ∧ t_9_x0 ≤ 4095 ∧ 0 ≤ t_9_x1 ∧ t_9_x1 ≤ 4095 ∧ 0 ≤ t_9_x2 ∧ t_9_x2 ≤ 24 ∧ (-2147483648) ≤ t_9_x6 ∧ t_9_x6 ≤ 2147483647 ∧ (-1) ≤ t_9_x7 ∧ t_9_x7 ≤ 4095 ∧ 0 ≤ t_9_x8 ∧ t_9_x8 ≤ 4095 ∧ 0 ≤ t_9_x9 ∧ t_9_x9 ≤ 4095; omega), (hc_t_9_3), (hc_t_9_4), (hc_t_9_5), trivial⟩ [7, 8, 0, 1, 2, 3, 4, 5, 6] (by decide) rfl dX11_mostly_9
theorem wd_900 : Cond.code ⟨"FootNotes", "mostly", "()I"⟩ prog_1_method_40_code 1 (Option.some Jvm.ClassFile.FieldType.int) ∈ fn_big := fn_tb (fn_l4 (List.mem_of_getElem? (i := 180) (by decide +kernel))) (by decide +kernel)
theorem wd_897 : Cond.methodLink "FootNotes" 272 ⟨"FootNotes", "mostly", "()I"⟩ ∈ fn_big := fn_tb (fn_l4 (List.mem_of_getElem? (i := 177) (by decide +kernel))) (by decide +kernel)
theorem wd_898 : Cond.instanceMethod ⟨"FootNotes", "mostly", "()I"⟩ ∈ fn_big := fn_tb (fn_l4 (List.mem_of_getElem? (i := 178) (by decide +kernel))) (by decide +kernel)
theorem wd_899 : Cond.selects "FootNotes" ⟨"FootNotes", "mostly", "()I"⟩ ⟨"FootNotes", "mostly", "()I"⟩ ∈ fn_big := fn_tb (fn_l4 (List.mem_of_getElem? (i := 179) (by decide +kernel))) (by decide +kernel)
theorem dX11_most_0 : decode cX11_most 0 = .ok (.aload_n 0, 1) := by decide +kernel
theorem dX11_most_1 : decode cX11_most 1 = .ok (.invokevirtual 272, 3) := by decide +kernel
theorem dX11_most_4 : decode cX11_most 4 = .ok (.istore_n 1, 1) := by decide +kernel
theorem dX11_most_5 : decode cX11_most 5 = .ok (.iload_n 1, 1) := by decide +kernel
theorem dX11_most_6 : decode cX11_most 6 = .ok (.ifCond .ge 7, 3) := by decide +kernel
theorem dX11_most_13 : decode cX11_most 13 = .ok (.iload_n 1, 1) := by decide +kernel
theorem dX11_most_14 : decode cX11_most 14 = .ok (.invokestatic 248, 3) := by decide +kernel
theorem dX11_most_17 : decode cX11_most 17 = .ok (.ireturn, 1) := by decide +kernel
theorem dX11_most_9 : decode cX11_most 9 = .ok (.iload_n 1, 1) := by decide +kernel
theorem dX11_most_10 : decode cX11_most 10 = .ok (.goto 7, 3) := by decide +kernel
set_option maxHeartbeats 4000000 in
set_option maxRecDepth 100000 in
theorem k_X11_most (l : Launch) (D : va_G) (K : Nat → ClassId) (t : Nat) (t_q t_1_q t_9_q t_7_q : Nat → Nat) (t_1_x0 t_1_x1 t_1_x2 t_1_x3 t_1_x4 t_1_x5 t_1_x6 t_1_x7 t_1_x8 t_9_x0 t_9_x1 t_9_x2 t_9_x6 t_9_x7 t_9_x8 t_9_x9 t_9_x10 t_9_x11 t_7_x0 t_7_x1 t_7_x6 : Int) (t_7_3_c : Nat → Int) (t_1_12_c : Nat → Int) (t_9_3_c : Nat → Int) (t_9_4_c : Nat → Int) (t_9_5_c : Nat → Int) (hi_t_1 : bX7 t_1_x0 t_1_x1 t_1_x2 t_1_x3 t_1_x4 t_1_x5 t_1_x6 t_1_x7 t_1_x8) (hi_t_9 : bX0 t_9_x0 t_9_x1 t_9_x2 t_9_x6 t_9_x7 t_9_x8 t_9_x9 t_9_x10 t_9_x11) (hi_t_7 : bX10 t_7_x0 t_7_x1 t_7_x6) (hc_t_7_3 : ∀ j : Nat, (-1) ≤ t_7_3_c j ∧ t_7_3_c j ≤ 11) (hc_t_1_12 : ∀ j : Nat, 0 ≤ t_1_12_c j ∧ t_1_12_c j ≤ 11) (hc_t_9_3 : ∀ j : Nat, 0 ≤ t_9_3_c j ∧ t_9_3_c j ≤ 11) (hc_t_9_4 : ∀ j : Nat, 0 ≤ t_9_4_c j ∧ t_9_4_c j ≤ 11) (hc_t_9_5 : ∀ j : Nat, 0 ≤ t_9_5_c j ∧ t_9_5_c j ≤ 1) : fn_CI (S := (Nat → Int) × (Nat → Nat → Int)) l D K yX11_most (fn_ws yX11_most cX11_most 2 (some .int)) ({ frames := 16, cells := 0, slots := 0, locals := 400 } : Room) [.ref t] [(t, .inr (11, oX11 t_q)), ((t_q 1), .inr (7, oX7 t_1_q t_1_x0 t_1_x1 t_1_x2 t_1_x3 t_1_x4 t_1_x5 t_1_x6 t_1_x7 t_1_x8)), ((t_q 9), .inr (0, oX0 t_9_q t_9_x0 t_9_x1 t_9_x2 t_9_x6 t_9_x7 t_9_x8 t_9_x9 t_9_x10 t_9_x11)), ((t_q 7), .inr (10, oX10 t_7_q t_7_x0 t_7_x1 t_7_x6)), ((t_7_q 3), .inl (K 0, 24, .inl (fun j => iI (t_7_3_c j)))), ((t_1_q 12), .inl (K 0, 24, .inl (fun j => iI (t_1_12_c j)))), ((t_9_q 3), .inl (K 0, 24, .inl (fun j => iI (t_9_3_c j)))), ((t_9_q 4), .inl (K 0, 24, .inl (fun j => iI (t_9_4_c j)))), ((t_9_q 5), .inl (K 0, 24, .inl (fun j => iI (t_9_5_c j))))] (fun r u => ∃ k : Int, r = iI k ∧ ((-2) ≤ k ∧ k ≤ 63) ∧ (0 ≤ (u.1 0) ∧ (u.1 0) ≤ 4095 ∧ 0 ≤ (u.1 1) ∧ (u.1 1) ≤ 4095 ∧ 0 ≤ (u.1 2) ∧ (u.1 2) ≤ 24 ∧ (-2147483648) ≤ (u.1 3) ∧ (u.1 3) ≤ 2147483647 ∧ (-1) ≤ (u.1 4) ∧ (u.1 4) ≤ 4095 ∧ 0 ≤ (u.1 5) ∧ (u.1 5) ≤ 4095 ∧ 0 ≤ (u.1 6) ∧ (u.1 6) ≤ 4095) ∧ (∀ j : Nat, 0 ≤ (u.2 0) j ∧ (u.2 0) j ≤ 11) ∧ (∀ j : Nat, 0 ≤ (u.2 1) j ∧ (u.2 1) j ≤ 11) ∧ (∀ j : Nat, 0 ≤ (u.2 2) j ∧ (u.2 2) j ≤ 1) ∧ True) (fun u => [(t, .inr (11, oX11 t_q)), ((t_q 1), .inr (7, oX7 t_1_q t_1_x0 t_1_x1 t_1_x2 t_1_x3 t_1_x4 t_1_x5 t_1_x6 t_1_x7 t_1_x8)), ((t_q 9), .inr (0, oX0 t_9_q (u.1 0) (u.1 1) (u.1 2) (u.1 3) (u.1 4) (u.1 5) (u.1 6) t_9_x10 t_9_x11)), ((t_q 7), .inr (10, oX10 t_7_q t_7_x0 t_7_x1 t_7_x6)), ((t_7_q 3), .inl (K 0, 24, .inl (fun j => iI (t_7_3_c j)))), ((t_1_q 12), .inl (K 0, 24, .inl (fun j => iI (t_1_12_c j)))), ((t_9_q 3), .inl (K 0, 24, .inl (fun j => iI ((u.2 0) j)))), ((t_9_q 4), .inl (K 0, 24, .inl (fun j => iI ((u.2 1) j)))), ((t_9_q 5), .inl (K 0, 24, .inl (fun j => iI ((u.2 2) j))))]) 0 0 := by
  refine g_inI (cc := cX11_most) (maxL := 2) (ret := (some .int)) (by decide) rfl (Nat.le_of_ble_eq_true rfl) ?_
  intro p e s m below meth c A ls ag Q B hA hP hD hS hl hQ
  obtain ⟨hx, hb, hr, hml, hts, hown, hlocks, hin, hK⟩ := B
  have hown : s.vm.findClass RX11 = some m.cls := hown
  have hts := fun w h => hts w (List.mem_cons_of_mem _ h)
  have hl : lv_has ls 2 [(0, .ref t)] := hl
  refine lv_aload_n hx hb dX11_most_0 rfl (lv_at hl 0 rfl) ?_
  refine fn_goi (wc := [(t, .inr (11, oX11 t_q)), ((t_q 1), .inr (7, oX7 t_1_q t_1_x0 t_1_x1 t_1_x2 t_1_x3 t_1_x4 t_1_x5 t_1_x6 t_1_x7 t_1_x8)), ((t_q 9), .inr (0, oX0 t_9_q t_9_x0 t_9_x1 t_9_x2 t_9_x6 t_9_x7 t_9_x8 t_9_x9 t_9_x10 t_9_x11)), ((t_q 7), .inr (10, oX10 t_7_q t_7_x0 t_7_x1 t_7_x6)), ((t_7_q 3), .inl (K 0, 24, .inl (fun j => iI (t_7_3_c j)))), ((t_1_q 12), .inl (K 0, 24, .inl (fun j => iI (t_1_12_c j)))), ((t_9_q 3), .inl (K 0, 24, .inl (fun j => iI (t_9_3_c j)))), ((t_9_q 4), .inl (K 0, 24, .inl (fun j => iI (t_9_4_c j)))), ((t_9_q 5), .inl (K 0, 24, .inl (fun j => iI (t_9_5_c j))))]) (wr := []) hK hP hD hS hA [0, 1, 2, 3, 4, 5, 6, 7, 8] [] rfl rfl (by decide) (fun hp => va_runV (C := RX11) (As := []) (rest := []) ⟨hx, hb, hml, hown, hts⟩ (k_X11_mostly (l := l) (D := D) (K := K) (t := t) (t_q := t_q) (t_1_q := t_1_q) (t_1_x0 := t_1_x0) (t_1_x1 := t_1_x1) (t_1_x2 := t_1_x2) (t_1_x3 := t_1_x3) (t_1_x4 := t_1_x4) (t_1_x5 := t_1_x5) (t_1_x6 := t_1_x6) (t_1_x7 := t_1_x7) (t_1_x8 := t_1_x8) (t_9_q := t_9_q) (t_9_x0 := t_9_x0) (t_9_x1 := t_9_x1) (t_9_x2 := t_9_x2) (t_9_x6 := t_9_x6) (t_9_x7 := t_9_x7) (t_9_x8 := t_9_x8) (t_9_x9 := t_9_x9) (t_9_x10 := t_9_x10) (t_9_x11 := t_9_x11) (t_7_q := t_7_q) (t_7_x0 := t_7_x0) (t_7_x1 := t_7_x1) (t_7_x6 := t_7_x6) (t_7_3_c := t_7_3_c) (t_1_12_c := t_1_12_c) (t_9_3_c := t_9_3_c) (t_9_4_c := t_9_4_c) (t_9_5_c := t_9_5_c) (hi_t_1 := hi_t_1) (hi_t_9 := hi_t_9) (hi_t_7 := hi_t_7) (hc_t_7_3 := hc_t_7_3) (hc_t_1_12 := hc_t_1_12) (hc_t_9_3 := hc_t_9_3) (hc_t_9_4 := hc_t_9_4) (hc_t_9_5 := hc_t_9_5) _) (cwV 0 hts (fn_ginV (fn_gin wd_900) wd_897 wd_898 wd_899 wd_1) rfl rfl rfl (by decide +kernel) ⟨Nat.le_of_ble_eq_true rfl, Nat.le_of_ble_eq_true rfl⟩) ⟨fn_blind, va_recv hK.1 hP (ci := 11) (q0 := 0) rfl rfl, hp⟩ rfl rfl hl.1 rfl (lv_room (Nat.le_of_ble_eq_true rfl)) dX11_most_1 ⟨Nat.le_of_ble_eq_true rfl, Nat.le_of_ble_eq_true rfl⟩) (fun r1 u1 H locs hwu1 hP hD hS => ?_)
  obtain ⟨u1a, u1b⟩ := u1
  obtain ⟨kr1, rfl, hkr1, hqu10, hu1_00, hu1_10, hu1_20, -⟩ := hwu1
  have hqu1 : 0 ≤ (u1a 0) ∧ (u1a 0) ≤ 4095 ∧ 0 ≤ (u1a 1) ∧ (u1a 1) ≤ 4095 ∧ 0 ≤ (u1a 2) ∧ (u1a 2) ≤ 24 ∧ (-2147483648) ≤ (u1a 3) ∧ (u1a 3) ≤ 2147483647 ∧ (-1) ≤ (u1a 4) ∧ (u1a 4) ≤ 4095 ∧ 0 ≤ (u1a 5) ∧ (u1a 5) ≤ 4095 ∧ 0 ≤ (u1a 6) ∧ (u1a 6) ≤ 4095 := hqu10
  have hu1_0 : ∀ j : Nat, 0 ≤ (u1b 0) j ∧ (u1b 0) j ≤ 11 := hu1_00
  have hu1_1 : ∀ j : Nat, 0 ≤ (u1b 1) j ∧ (u1b 1) j ≤ 11 := hu1_10
  have hu1_2 : ∀ j : Nat, 0 ≤ (u1b 2) j ∧ (u1b 2) j ≤ 1 := hu1_20
  clear hqu10 hu1_00 hu1_10 hu1_20
  have hP : va_P D vwCl [(t, .inr (11, oX11 t_q)), ((t_q 1), .inr (7, oX7 t_1_q t_1_x0 t_1_x1 t_1_x2 t_1_x3 t_1_x4 t_1_x5 t_1_x6 t_1_x7 t_1_x8)), ((t_q 9), .inr (0, oX0 t_9_q (u1a 0) (u1a 1) (u1a 2) (u1a 3) (u1a 4) (u1a 5) (u1a 6) t_9_x10 t_9_x11)), ((t_q 7), .inr (10, oX10 t_7_q t_7_x0 t_7_x1 t_7_x6)), ((t_7_q 3), .inl (K 0, 24, .inl (fun j => iI (t_7_3_c j)))), ((t_1_q 12), .inl (K 0, 24, .inl (fun j => iI (t_1_12_c j)))), ((t_9_q 3), .inl (K 0, 24, .inl (fun j => iI ((u1b 0) j)))), ((t_9_q 4), .inl (K 0, 24, .inl (fun j => iI ((u1b 1) j)))), ((t_9_q 5), .inl (K 0, 24, .inl (fun j => iI ((u1b 2) j))))] H := hP
  have hD : va_D A [(t, .inr (11, oX11 t_q)), ((t_q 1), .inr (7, oX7 t_1_q t_1_x0 t_1_x1 t_1_x2 t_1_x3 t_1_x4 t_1_x5 t_1_x6 t_1_x7 t_1_x8)), ((t_q 9), .inr (0, oX0 t_9_q (u1a 0) (u1a 1) (u1a 2) (u1a 3) (u1a 4) (u1a 5) (u1a 6) t_9_x10 t_9_x11)), ((t_q 7), .inr (10, oX10 t_7_q t_7_x0 t_7_x1 t_7_x6)), ((t_7_q 3), .inl (K 0, 24, .inl (fun j => iI (t_7_3_c j)))), ((t_1_q 12), .inl (K 0, 24, .inl (fun j => iI (t_1_12_c j)))), ((t_9_q 3), .inl (K 0, 24, .inl (fun j => iI ((u1b 0) j)))), ((t_9_q 4), .inl (K 0, 24, .inl (fun j => iI ((u1b 1) j)))), ((t_9_q 5), .inl (K 0, 24, .inl (fun j => iI ((u1b 2) j))))] := hD
  refine lv_istore_n (lv' := [(1, .int (iI kr1)), (0, .ref t)]) hx hb dX11_most_4 rfl hl (by decide) rfl (fun ls hl => ?_)
  refine lv_iload_n hx hb dX11_most_5 rfl (lv_at hl 0 rfl) ?_
  refine g_if_ge (tgt := 13) hx hb (by omega) dX11_most_6 (by decide) (fun c6 => ?_) (fun c6 => ?_)
  · refine lv_iload_n hx hb dX11_most_13 rfl (lv_at hl 0 rfl) ?_
    refine fn_goi (wc := []) (wr := [(t, .inr (11, oX11 t_q)), ((t_q 1), .inr (7, oX7 t_1_q t_1_x0 t_1_x1 t_1_x2 t_1_x3 t_1_x4 t_1_x5 t_1_x6 t_1_x7 t_1_x8)), ((t_q 9), .inr (0, oX0 t_9_q (u1a 0) (u1a 1) (u1a 2) (u1a 3) (u1a 4) (u1a 5) (u1a 6) t_9_x10 t_9_x11)), ((t_q 7), .inr (10, oX10 t_7_q t_7_x0 t_7_x1 t_7_x6)), ((t_7_q 3), .inl (K 0, 24, .inl (fun j => iI (t_7_3_c j)))), ((t_1_q 12), .inl (K 0, 24, .inl (fun j => iI (t_1_12_c j)))), ((t_9_q 3), .inl (K 0, 24, .inl (fun j => iI ((u1b 0) j)))), ((t_9_q 4), .inl (K 0, 24, .inl (fun j => iI ((u1b 1) j)))), ((t_9_q 5), .inl (K 0, 24, .inl (fun j => iI ((u1b 2) j))))]) hK hP hD hS hA [] [0, 1, 2, 3, 4, 5, 6, 7, 8] rfl rfl (by decide) (fun hp => va_runS (As := [.int (iI kr1)]) (rest := []) ⟨hx, hb, hml, hown, hts⟩ (k_J6_bitCount_0f7a4 (l := l) (D := D) (K := K) (p1 := kr1) (hp1 := (by omega)) _) (va_cwS 1 hts (fn_ginS (fn_gin wd_841) wd_862 wd_840 wd_21) rfl rfl rfl (by decide +kernel) ⟨Nat.le_of_ble_eq_true rfl, Nat.le_of_ble_eq_true rfl⟩) ⟨fn_blind, hp⟩ rfl rfl hl.1 rfl (lv_room (Nat.le_of_ble_eq_true rfl)) dX11_most_14 ⟨Nat.le_of_ble_eq_true rfl, Nat.le_of_ble_eq_true rfl⟩) (fun r14 u14 H locs hwu14 hP hD hS => ?_)
    obtain ⟨u14a, u14b⟩ := u14
    obtain ⟨kr14, rfl, hkr14, -⟩ := hwu14
    have hP : va_P D vwCl [(t, .inr (11, oX11 t_q)), ((t_q 1), .inr (7, oX7 t_1_q t_1_x0 t_1_x1 t_1_x2 t_1_x3 t_1_x4 t_1_x5 t_1_x6 t_1_x7 t_1_x8)), ((t_q 9), .inr (0, oX0 t_9_q (u1a 0) (u1a 1) (u1a 2) (u1a 3) (u1a 4) (u1a 5) (u1a 6) t_9_x10 t_9_x11)), ((t_q 7), .inr (10, oX10 t_7_q t_7_x0 t_7_x1 t_7_x6)), ((t_7_q 3), .inl (K 0, 24, .inl (fun j => iI (t_7_3_c j)))), ((t_1_q 12), .inl (K 0, 24, .inl (fun j => iI (t_1_12_c j)))), ((t_9_q 3), .inl (K 0, 24, .inl (fun j => iI ((u1b 0) j)))), ((t_9_q 4), .inl (K 0, 24, .inl (fun j => iI ((u1b 1) j)))), ((t_9_q 5), .inl (K 0, 24, .inl (fun j => iI ((u1b 2) j))))] H := hP
    have hD : va_D A [(t, .inr (11, oX11 t_q)), ((t_q 1), .inr (7, oX7 t_1_q t_1_x0 t_1_x1 t_1_x2 t_1_x3 t_1_x4 t_1_x5 t_1_x6 t_1_x7 t_1_x8)), ((t_q 9), .inr (0, oX0 t_9_q (u1a 0) (u1a 1) (u1a 2) (u1a 3) (u1a 4) (u1a 5) (u1a 6) t_9_x10 t_9_x11)), ((t_q 7), .inr (10, oX10 t_7_q t_7_x0 t_7_x1 t_7_x6)), ((t_7_q 3), .inl (K 0, 24, .inl (fun j => iI (t_7_3_c j)))), ((t_1_q 12), .inl (K 0, 24, .inl (fun j => iI (t_1_12_c j)))), ((t_9_q 3), .inl (K 0, 24, .inl (fun j => iI ((u1b 0) j)))), ((t_9_q 4), .inl (K 0, 24, .inl (fun j => iI ((u1b 1) j)))), ((t_9_q 5), .inl (K 0, 24, .inl (fun j => iI ((u1b 2) j))))] := hD
    rw [hQ]; exact fn_iret hx hb hr hlocks rfl hP hD hS ((fun k => ([(u1a 0), (u1a 1), (u1a 2), (u1a 3), (u1a 4), (u1a 5), (u1a 6)] : List Int).getD k 0), (fun k => ([(u1b 0), (u1b 1), (u1b 2)] : List (Nat → Int)).getD k (fun _ => 0))) ⟨kr14, rfl, by omega, (by show 0 ≤ (u1a 0) ∧ (u1a 0) ≤ 4095 ∧ 0 ≤ (u1a 1) ∧ (u1a 1) ≤ 4095 ∧ 0 ≤ (u1a 2) ∧ (u1a 2) ≤ 24 ∧ (-2147483648) ≤ (u1a 3) ∧ (u1a 3) ≤ 2147483647 ∧ (-1) ≤ (u1a 4) ∧ (u1a 4) ≤ 4095 ∧ 0 ≤ (u1a 5) ∧ (u1a 5) ≤ 4095 ∧ 0 ≤ (u1a 6) ∧ (u1a 6) ≤ 4095; omega), (hu1_0), (hu1_1), (hu1_2), trivial⟩ [0, 1, 2, 3, 4, 5, 6, 7, 8] (by decide) rfl dX11_most_17
  · refine lv_iload_n hx hb dX11_most_9 rfl (lv_at hl 0 rfl) ?_
    refine lv_goto (tgt := 17) hx hb dX11_most_10 (by decide) ?_
    rw [hQ]; exact fn_iret hx hb hr hlocks rfl hP hD hS ((fun k => ([(u1a 0), (u1a 1), (u1a 2), (u1a 3), (u1a 4), (u1a 5), (u1a 6)] : List Int).getD k 0), (fun k => ([(u1b 0), (u1b 1), (u1b 2)] : List (Nat → Int)).getD k (fun _ => 0))) ⟨kr1, rfl, by omega, (by show 0 ≤ (u1a 0) ∧ (u1a 0) ≤ 4095 ∧ 0 ≤ (u1a 1) ∧ (u1a 1) ≤ 4095 ∧ 0 ≤ (u1a 2) ∧ (u1a 2) ≤ 24 ∧ (-2147483648) ≤ (u1a 3) ∧ (u1a 3) ≤ 2147483647 ∧ (-1) ≤ (u1a 4) ∧ (u1a 4) ≤ 4095 ∧ 0 ≤ (u1a 5) ∧ (u1a 5) ≤ 4095 ∧ 0 ≤ (u1a 6) ∧ (u1a 6) ≤ 4095; omega), (hu1_0), (hu1_1), (hu1_2), trivial⟩ [0, 1, 2, 3, 4, 5, 6, 7, 8] (by decide) rfl dX11_most_17
theorem dX11_sure_0 : decode cX11_sure 0 = .ok (.aload_n 0, 1) := by decide +kernel
theorem dX11_sure_1 : decode cX11_sure 1 = .ok (.invokevirtual 188, 3) := by decide +kernel
theorem dX11_sure_4 : decode cX11_sure 4 = .ok (.ifCond .ne 12, 3) := by decide +kernel
theorem dX11_sure_16 : decode cX11_sure 16 = .ok (.bipush (-2), 2) := by decide +kernel
theorem dX11_sure_18 : decode cX11_sure 18 = .ok (.ireturn, 1) := by decide +kernel
theorem dX11_sure_7 : decode cX11_sure 7 = .ok (.iload_n 1, 1) := by decide +kernel
theorem dX11_sure_8 : decode cX11_sure 8 = .ok (.ifCond .lt 8, 3) := by decide +kernel
theorem dX11_sure_11 : decode cX11_sure 11 = .ok (.iload_n 1, 1) := by decide +kernel
theorem dX11_sure_12 : decode cX11_sure 12 = .ok (.iconst 1, 1) := by decide +kernel
theorem dX11_sure_13 : decode cX11_sure 13 = .ok (.if_icmp .le 6, 3) := by decide +kernel
theorem dX11_sure_19 : decode cX11_sure 19 = .ok (.aload_n 0, 1) := by decide +kernel
theorem dX11_sure_20 : decode cX11_sure 20 = .ok (.getfield 61, 3) := by decide +kernel
theorem dX11_sure_23 : decode cX11_sure 23 = .ok (.aload_n 0, 1) := by decide +kernel
theorem dX11_sure_24 : decode cX11_sure 24 = .ok (.getfield 19, 3) := by decide +kernel
theorem dX11_sure_27 : decode cX11_sure 27 = .ok (.aload_n 0, 1) := by decide +kernel
theorem dX11_sure_28 : decode cX11_sure 28 = .ok (.getfield 51, 3) := by decide +kernel
theorem dX11_sure_31 : decode cX11_sure 31 = .ok (.invokevirtual 259, 3) := by decide +kernel
theorem dX11_sure_34 : decode cX11_sure 34 = .ok (.aload_n 0, 1) := by decide +kernel
theorem dX11_sure_35 : decode cX11_sure 35 = .ok (.getfield 61, 3) := by decide +kernel
theorem dX11_sure_38 : decode cX11_sure 38 = .ok (.invokevirtual 266, 3) := by decide +kernel
theorem dX11_sure_41 : decode cX11_sure 41 = .ok (.aload_n 0, 1) := by decide +kernel
theorem dX11_sure_42 : decode cX11_sure 42 = .ok (.getfield 61, 3) := by decide +kernel
theorem dX11_sure_45 : decode cX11_sure 45 = .ok (.getfield 269, 3) := by decide +kernel
theorem dX11_sure_48 : decode cX11_sure 48 = .ok (.ifCond .ne 5, 3) := by decide +kernel
theorem dX11_sure_53 : decode cX11_sure 53 = .ok (.iload_n 1, 1) := by decide +kernel
theorem dX11_sure_54 : decode cX11_sure 54 = .ok (.ifCond .ne 13, 3) := by decide +kernel
theorem dX11_sure_67 : decode cX11_sure 67 = .ok (.aload_n 0, 1) := by decide +kernel
theorem dX11_sure_68 : decode cX11_sure 68 = .ok (.getfield 61, 3) := by decide +kernel
theorem dX11_sure_71 : decode cX11_sure 71 = .ok (.getfield 282, 3) := by decide +kernel
theorem dX11_sure_74 : decode cX11_sure 74 = .ok (.ireturn, 1) := by decide +kernel
theorem dX11_sure_57 : decode cX11_sure 57 = .ok (.aload_n 0, 1) := by decide +kernel
theorem dX11_sure_58 : decode cX11_sure 58 = .ok (.getfield 61, 3) := by decide +kernel
theorem dX11_sure_61 : decode cX11_sure 61 = .ok (.getfield 279, 3) := by decide +kernel
theorem dX11_sure_64 : decode cX11_sure 64 = .ok (.goto 10, 3) := by decide +kernel
theorem dX11_sure_51 : decode cX11_sure 51 = .ok (.iconst 0, 1) := by decide +kernel
theorem dX11_sure_52 : decode cX11_sure 52 = .ok (.ireturn, 1) := by decide +kernel
set_option maxHeartbeats 4000000 in
set_option maxRecDepth 100000 in
theorem k_X11_sure (l : Launch) (D : va_G) (K : Nat → ClassId) (t : Nat) (t_q t_1_q t_9_q t_7_q : Nat → Nat) (p1 t_1_x0 t_1_x1 t_1_x2 t_1_x3 t_1_x4 t_1_x5 t_1_x6 t_1_x7 t_1_x8 t_9_x0 t_9_x1 t_9_x2 t_9_x6 t_9_x7 t_9_x8 t_9_x9 t_9_x10 t_9_x11 t_7_x0 t_7_x1 t_7_x6 : Int) (t_7_3_c : Nat → Int) (t_1_12_c : Nat → Int) (t_9_3_c : Nat → Int) (t_9_4_c : Nat → Int) (t_9_5_c : Nat → Int) (hp1 : (-2147483648) ≤ p1 ∧ p1 ≤ 2147483647) (hi_t_1 : bX7 t_1_x0 t_1_x1 t_1_x2 t_1_x3 t_1_x4 t_1_x5 t_1_x6 t_1_x7 t_1_x8) (hi_t_9 : bX0 t_9_x0 t_9_x1 t_9_x2 t_9_x6 t_9_x7 t_9_x8 t_9_x9 t_9_x10 t_9_x11) (hi_t_7 : bX10 t_7_x0 t_7_x1 t_7_x6) (hc_t_7_3 : ∀ j : Nat, (-1) ≤ t_7_3_c j ∧ t_7_3_c j ≤ 11) (hc_t_1_12 : ∀ j : Nat, 0 ≤ t_1_12_c j ∧ t_1_12_c j ≤ 11) (hc_t_9_3 : ∀ j : Nat, 0 ≤ t_9_3_c j ∧ t_9_3_c j ≤ 11) (hc_t_9_4 : ∀ j : Nat, 0 ≤ t_9_4_c j ∧ t_9_4_c j ≤ 11) (hc_t_9_5 : ∀ j : Nat, 0 ≤ t_9_5_c j ∧ t_9_5_c j ≤ 1) : fn_CI (S := (Nat → Int) × (Nat → Nat → Int)) l D K yX11_sure (fn_ws yX11_sure cX11_sure 2 (some .int)) ({ frames := 12, cells := 0, slots := 0, locals := 300 } : Room) [.ref t, .int (iI p1)] [(t, .inr (11, oX11 t_q)), ((t_q 1), .inr (7, oX7 t_1_q t_1_x0 t_1_x1 t_1_x2 t_1_x3 t_1_x4 t_1_x5 t_1_x6 t_1_x7 t_1_x8)), ((t_q 9), .inr (0, oX0 t_9_q t_9_x0 t_9_x1 t_9_x2 t_9_x6 t_9_x7 t_9_x8 t_9_x9 t_9_x10 t_9_x11)), ((t_q 7), .inr (10, oX10 t_7_q t_7_x0 t_7_x1 t_7_x6)), ((t_7_q 3), .inl (K 0, 24, .inl (fun j => iI (t_7_3_c j)))), ((t_1_q 12), .inl (K 0, 24, .inl (fun j => iI (t_1_12_c j)))), ((t_9_q 3), .inl (K 0, 24, .inl (fun j => iI (t_9_3_c j)))), ((t_9_q 4), .inl (K 0, 24, .inl (fun j => iI (t_9_4_c j)))), ((t_9_q 5), .inl (K 0, 24, .inl (fun j => iI (t_9_5_c j))))] (fun r u => ∃ k : Int, r = iI k ∧ ((-2) ≤ k ∧ k ≤ 4095) ∧ (0 ≤ (u.1 0) ∧ (u.1 0) ≤ 4095 ∧ 0 ≤ (u.1 1) ∧ (u.1 1) ≤ 4095 ∧ 0 ≤ (u.1 2) ∧ (u.1 2) ≤ 24 ∧ (-2147483648) ≤ (u.1 3) ∧ (u.1 3) ≤ 2147483647 ∧ (-1) ≤ (u.1 4) ∧ (u.1 4) ≤ 4095 ∧ 0 ≤ (u.1 5) ∧ (u.1 5) ≤ 4095 ∧ 0 ≤ (u.1 6) ∧ (u.1 6) ≤ 4095) ∧ (∀ j : Nat, 0 ≤ (u.2 0) j ∧ (u.2 0) j ≤ 11) ∧ (∀ j : Nat, 0 ≤ (u.2 1) j ∧ (u.2 1) j ≤ 11) ∧ (∀ j : Nat, 0 ≤ (u.2 2) j ∧ (u.2 2) j ≤ 1) ∧ True) (fun u => [(t, .inr (11, oX11 t_q)), ((t_q 1), .inr (7, oX7 t_1_q t_1_x0 t_1_x1 t_1_x2 t_1_x3 t_1_x4 t_1_x5 t_1_x6 t_1_x7 t_1_x8)), ((t_q 9), .inr (0, oX0 t_9_q (u.1 0) (u.1 1) (u.1 2) (u.1 3) (u.1 4) (u.1 5) (u.1 6) t_9_x10 t_9_x11)), ((t_q 7), .inr (10, oX10 t_7_q t_7_x0 t_7_x1 t_7_x6)), ((t_7_q 3), .inl (K 0, 24, .inl (fun j => iI (t_7_3_c j)))), ((t_1_q 12), .inl (K 0, 24, .inl (fun j => iI (t_1_12_c j)))), ((t_9_q 3), .inl (K 0, 24, .inl (fun j => iI ((u.2 0) j)))), ((t_9_q 4), .inl (K 0, 24, .inl (fun j => iI ((u.2 1) j)))), ((t_9_q 5), .inl (K 0, 24, .inl (fun j => iI ((u.2 2) j))))]) 0 0 := by
  refine g_inI (cc := cX11_sure) (maxL := 2) (ret := (some .int)) (by decide) rfl (Nat.le_of_ble_eq_true rfl) ?_
  intro p e s m below meth c A ls ag Q B hA hP hD hS hl hQ
  obtain ⟨hx, hb, hr, hml, hts, hown, hlocks, hin, hK⟩ := B
  have hown : s.vm.findClass RX11 = some m.cls := hown
  have hts := fun w h => hts w (List.mem_cons_of_mem _ h)
  have hl : lv_has ls 2 [(0, .ref t), (1, .int (iI p1))] := hl
  refine lv_aload_n hx hb dX11_sure_0 rfl (lv_at hl 0 rfl) ?_
  refine fn_goi (wc := [(t, .inr (11, oX11 t_q)), ((t_q 1), .inr (7, oX7 t_1_q t_1_x0 t_1_x1 t_1_x2 t_1_x3 t_1_x4 t_1_x5 t_1_x6 t_1_x7 t_1_x8))]) (wr := [((t_q 9), .inr (0, oX0 t_9_q t_9_x0 t_9_x1 t_9_x2 t_9_x6 t_9_x7 t_9_x8 t_9_x9 t_9_x10 t_9_x11)), ((t_q 7), .inr (10, oX10 t_7_q t_7_x0 t_7_x1 t_7_x6)), ((t_7_q 3), .inl (K 0, 24, .inl (fun j => iI (t_7_3_c j)))), ((t_1_q 12), .inl (K 0, 24, .inl (fun j => iI (t_1_12_c j)))), ((t_9_q 3), .inl (K 0, 24, .inl (fun j => iI (t_9_3_c j)))), ((t_9_q 4), .inl (K 0, 24, .inl (fun j => iI (t_9_4_c j)))), ((t_9_q 5), .inl (K 0, 24, .inl (fun j => iI (t_9_5_c j))))]) hK hP hD hS hA [0, 1] [2, 3, 4, 5, 6, 7, 8] rfl rfl (by decide) (fun hp => va_runV (C := RX11) (As := []) (rest := []) ⟨hx, hb, hml, hown, hts⟩ (k_X11_noTown (l := l) (D := D) (K := K) (t := t) (t_q := t_q) (t_1_q := t_1_q) (t_1_x0 := t_1_x0) (t_1_x1 := t_1_x1) (t_1_x2 := t_1_x2) (t_1_x3 := t_1_x3) (t_1_x4 := t_1_x4) (t_1_x5 := t_1_x5) (t_1_x6 := t_1_x6) (t_1_x7 := t_1_x7) (t_1_x8 := t_1_x8) (hi_t_1 := hi_t_1) _) (cwV 0 hts (fn_ginV (fn_gin wd_709) wd_706 wd_708 wp_30 wd_1) rfl rfl rfl (by decide +kernel) ⟨Nat.le_of_ble_eq_true rfl, Nat.le_of_ble_eq_true rfl⟩) ⟨fn_blind, va_recv hK.1 hP (ci := 11) (q0 := 0) rfl rfl, hp⟩ rfl rfl hl.1 rfl (lv_room (Nat.le_of_ble_eq_true rfl)) dX11_sure_1 ⟨Nat.le_of_ble_eq_true rfl, Nat.le_of_ble_eq_true rfl⟩) (fun r1 u1 H locs hwu1 hP hD hS => ?_)
  obtain ⟨u1a, u1b⟩ := u1
  obtain ⟨kr1, rfl, hkr1, -⟩ := hwu1
  have hP : va_P D vwCl [((t_q 9), .inr (0, oX0 t_9_q t_9_x0 t_9_x1 t_9_x2 t_9_x6 t_9_x7 t_9_x8 t_9_x9 t_9_x10 t_9_x11)), ((t_q 7), .inr (10, oX10 t_7_q t_7_x0 t_7_x1 t_7_x6)), ((t_7_q 3), .inl (K 0, 24, .inl (fun j => iI (t_7_3_c j)))), ((t_1_q 12), .inl (K 0, 24, .inl (fun j => iI (t_1_12_c j)))), ((t_9_q 3), .inl (K 0, 24, .inl (fun j => iI (t_9_3_c j)))), ((t_9_q 4), .inl (K 0, 24, .inl (fun j => iI (t_9_4_c j)))), ((t_9_q 5), .inl (K 0, 24, .inl (fun j => iI (t_9_5_c j)))), (t, .inr (11, oX11 t_q)), ((t_q 1), .inr (7, oX7 t_1_q t_1_x0 t_1_x1 t_1_x2 t_1_x3 t_1_x4 t_1_x5 t_1_x6 t_1_x7 t_1_x8))] H := hP
  have hD : va_D A [((t_q 9), .inr (0, oX0 t_9_q t_9_x0 t_9_x1 t_9_x2 t_9_x6 t_9_x7 t_9_x8 t_9_x9 t_9_x10 t_9_x11)), ((t_q 7), .inr (10, oX10 t_7_q t_7_x0 t_7_x1 t_7_x6)), ((t_7_q 3), .inl (K 0, 24, .inl (fun j => iI (t_7_3_c j)))), ((t_1_q 12), .inl (K 0, 24, .inl (fun j => iI (t_1_12_c j)))), ((t_9_q 3), .inl (K 0, 24, .inl (fun j => iI (t_9_3_c j)))), ((t_9_q 4), .inl (K 0, 24, .inl (fun j => iI (t_9_4_c j)))), ((t_9_q 5), .inl (K 0, 24, .inl (fun j => iI (t_9_5_c j)))), (t, .inr (11, oX11 t_q)), ((t_q 1), .inr (7, oX7 t_1_q t_1_x0 t_1_x1 t_1_x2 t_1_x3 t_1_x4 t_1_x5 t_1_x6 t_1_x7 t_1_x8))] := hD
  refine g_if_ne (tgt := 16) hx hb (by omega) dX11_sure_4 (by decide) (fun c4 => ?_) (fun c4 => ?_)
  · refine lv_bipush (v := iI (-2)) hx hb dX11_sure_16 (by decide) ?_
    have y18_1 : 0 ≤ t_9_x0 ∧ t_9_x0 ≤ 4095 := hi_t_9.1
    have y18_2 : 0 ≤ t_9_x1 ∧ t_9_x1 ≤ 4095 := hi_t_9.2.1
    have y18_3 : 0 ≤ t_9_x2 ∧ t_9_x2 ≤ 24 := hi_t_9.2.2.1
    have y18_4 : (-2147483648) ≤ t_9_x6 ∧ t_9_x6 ≤ 2147483647 := hi_t_9.2.2.2.1
    have y18_5 : (-1) ≤ t_9_x7 ∧ t_9_x7 ≤ 4095 := hi_t_9.2.2.2.2.1
    have y18_6 : 0 ≤ t_9_x8 ∧ t_9_x8 ≤ 4095 := hi_t_9.2.2.2.2.2.1
    have y18_7 : 0 ≤ t_9_x9 ∧ t_9_x9 ≤ 4095 := hi_t_9.2.2.2.2.2.2.1
    rw [hQ]; exact fn_iret hx hb hr hlocks rfl hP hD hS ((fun k => ([t_9_x0, t_9_x1, t_9_x2, t_9_x6, t_9_x7, t_9_x8, t_9_x9] : List Int).getD k 0), (fun k => ([t_9_3_c, t_9_4_c, t_9_5_c] : List (Nat → Int)).getD k (fun _ => 0))) ⟨(-2), rfl, by omega, (by show 0 ≤ t_9_x0 ∧ t_9_x0 ≤ 4095 ∧ 0 ≤ t_9_x1 ∧ t_9_x1 ≤ 4095 ∧ 0 ≤ t_9_x2 ∧ t_9_x2 ≤ 24 ∧ (-2147483648) ≤ t_9_x6 ∧ t_9_x6 ≤ 2147483647 ∧ (-1) ≤ t_9_x7 ∧ t_9_x7 ≤ 4095 ∧ 0 ≤ t_9_x8 ∧ t_9_x8 ≤ 4095 ∧ 0 ≤ t_9_x9 ∧ t_9_x9 ≤ 4095; omega), (hc_t_9_3), (hc_t_9_4), (hc_t_9_5), trivial⟩ [7, 8, 0, 1, 2, 3, 4, 5, 6] (by decide) rfl dX11_sure_18
  · refine lv_iload_n hx hb dX11_sure_7 rfl (lv_at hl 1 rfl) ?_
    refine g_if_lt (tgt := 16) hx hb (by omega) dX11_sure_8 (by decide) (fun c8 => ?_) (fun c8 => ?_)
    · refine lv_bipush (v := iI (-2)) hx hb dX11_sure_16 (by decide) ?_
      have y18_1 : 0 ≤ t_9_x0 ∧ t_9_x0 ≤ 4095 := hi_t_9.1
      have y18_2 : 0 ≤ t_9_x1 ∧ t_9_x1 ≤ 4095 := hi_t_9.2.1
      have y18_3 : 0 ≤ t_9_x2 ∧ t_9_x2 ≤ 24 := hi_t_9.2.2.1
      have y18_4 : (-2147483648) ≤ t_9_x6 ∧ t_9_x6 ≤ 2147483647 := hi_t_9.2.2.2.1
      have y18_5 : (-1) ≤ t_9_x7 ∧ t_9_x7 ≤ 4095 := hi_t_9.2.2.2.2.1
      have y18_6 : 0 ≤ t_9_x8 ∧ t_9_x8 ≤ 4095 := hi_t_9.2.2.2.2.2.1
      have y18_7 : 0 ≤ t_9_x9 ∧ t_9_x9 ≤ 4095 := hi_t_9.2.2.2.2.2.2.1
      rw [hQ]; exact fn_iret hx hb hr hlocks rfl hP hD hS ((fun k => ([t_9_x0, t_9_x1, t_9_x2, t_9_x6, t_9_x7, t_9_x8, t_9_x9] : List Int).getD k 0), (fun k => ([t_9_3_c, t_9_4_c, t_9_5_c] : List (Nat → Int)).getD k (fun _ => 0))) ⟨(-2), rfl, by omega, (by show 0 ≤ t_9_x0 ∧ t_9_x0 ≤ 4095 ∧ 0 ≤ t_9_x1 ∧ t_9_x1 ≤ 4095 ∧ 0 ≤ t_9_x2 ∧ t_9_x2 ≤ 24 ∧ (-2147483648) ≤ t_9_x6 ∧ t_9_x6 ≤ 2147483647 ∧ (-1) ≤ t_9_x7 ∧ t_9_x7 ≤ 4095 ∧ 0 ≤ t_9_x8 ∧ t_9_x8 ≤ 4095 ∧ 0 ≤ t_9_x9 ∧ t_9_x9 ≤ 4095; omega), (hc_t_9_3), (hc_t_9_4), (hc_t_9_5), trivial⟩ [7, 8, 0, 1, 2, 3, 4, 5, 6] (by decide) rfl dX11_sure_18
    · refine lv_iload_n hx hb dX11_sure_11 rfl (lv_at hl 1 rfl) ?_
      refine lv_iconst (v := iI 1) hx hb dX11_sure_12 rfl ?_
      refine g_icmp_le (tgt := 19) hx hb (by omega) (by omega) dX11_sure_13 (by decide) (fun c13 => ?_) (fun c13 => ?_)
      · refine lv_aload_n hx hb dX11_sure_19 rfl (lv_at hl 0 rfl) ?_
        refine va_get (D := D) (own := RX11) (ci := 11) (v := .ref (t_q 9)) (C := RX11) (T := TX11) (N := 13) hx hb hts inb_X11 hown hK.1 hP 7 rfl rfl 9 (by decide) (hts _ wd_431) (fun _ h9 => h9) rfl dX11_sure_20 ?_
        refine lv_aload_n hx hb dX11_sure_23 rfl (lv_at hl 0 rfl) ?_
        refine va_get (D := D) (own := RX11) (ci := 11) (v := .ref (t_q 1)) (C := RX11) (T := TX11) (N := 13) hx hb hts inb_X11 hown hK.1 hP 7 rfl rfl 1 (by decide) (hts _ wd_423) (fun _ h9 => h9) rfl dX11_sure_24 ?_
        refine lv_aload_n hx hb dX11_sure_27 rfl (lv_at hl 0 rfl) ?_
        refine va_get (D := D) (own := RX11) (ci := 11) (v := .ref (t_q 7)) (C := RX11) (T := TX11) (N := 13) hx hb hts inb_X11 hown hK.1 hP 7 rfl rfl 7 (by decide) (hts _ wd_429) (fun _ h9 => h9) rfl dX11_sure_28 ?_
        refine fn_gov (wc := [((t_q 1), .inr (7, oX7 t_1_q t_1_x0 t_1_x1 t_1_x2 t_1_x3 t_1_x4 t_1_x5 t_1_x6 t_1_x7 t_1_x8)), ((t_q 9), .inr (0, oX0 t_9_q t_9_x0 t_9_x1 t_9_x2 t_9_x6 t_9_x7 t_9_x8 t_9_x9 t_9_x10 t_9_x11)), ((t_q 7), .inr (10, oX10 t_7_q t_7_x0 t_7_x1 t_7_x6)), ((t_7_q 3), .inl (K 0, 24, .inl (fun j => iI (t_7_3_c j)))), ((t_1_q 12), .inl (K 0, 24, .inl (fun j => iI (t_1_12_c j)))), ((t_9_q 3), .inl (K 0, 24, .inl (fun j => iI (t_9_3_c j)))), ((t_9_q 4), .inl (K 0, 24, .inl (fun j => iI (t_9_4_c j)))), ((t_9_q 5), .inl (K 0, 24, .inl (fun j => iI (t_9_5_c j))))]) (wr := [(t, .inr (11, oX11 t_q))]) hK hP hD hS hA [8, 0, 1, 2, 3, 4, 5, 6] [7] rfl rfl (by decide) (fun hp => va_runVN (C := RX0) (As := [.ref (t_q 1), .ref (t_q 7)]) (rest := []) ⟨hx, hb, hml, hown, hts⟩ (k_X0_take (l := l) (D := D) (K := K) (t := (t_q 9)) (a1 := (t_q 1)) (a2 := (t_q 7)) (a1_q := t_1_q) (a1_x0 := t_1_x0) (a1_x1 := t_1_x1) (a1_x2 := t_1_x2) (a1_x3 := t_1_x3) (a1_x4 := t_1_x4) (a1_x5 := t_1_x5) (a1_x6 := t_1_x6) (a1_x7 := t_1_x7) (a1_x8 := t_1_x8) (t_q := t_9_q) (t_x0 := t_9_x0) (t_x1 := t_9_x1) (t_x2 := t_9_x2) (t_x6 := t_9_x6) (t_x7 := t_9_x7) (t_x8 := t_9_x8) (t_x9 := t_9_x9) (t_x10 := t_9_x10) (t_x11 := t_9_x11) (a2_q := t_7_q) (a2_x0 := t_7_x0) (a2_x1 := t_7_x1) (a2_x6 := t_7_x6) (a2_3_c := t_7_3_c) (a1_12_c := t_1_12_c) (t_3_c := t_9_3_c) (t_4_c := t_9_4_c) (t_5_c := t_9_5_c) (hi_a1 := hi_t_1) (hi_t := hi_t_9) (hi_a2 := hi_t_7) (hc_a2_3 := hc_t_7_3) (hc_a1_12 := hc_t_1_12) (hc_t_3 := hc_t_9_3) (hc_t_4 := hc_t_9_4) (hc_t_5 := hc_t_9_5) _) ⟨va_cnB (own := RX11) 2 hts (fn_gin wd_875) rfl rfl rfl (hK.nw 127 rfl) (hts _ wd_7) (by decide +kernel) ⟨Nat.le_of_ble_eq_true rfl, Nat.le_of_ble_eq_true rfl⟩, hts _ wd_874, hts _ wp_46⟩ ⟨fn_blind, va_recv hK.1 hP (ci := 0) (q0 := 0) rfl rfl, hp⟩ rfl rfl hl.1 rfl (lv_room (Nat.le_of_ble_eq_true rfl)) dX11_sure_31 ⟨Nat.le_of_ble_eq_true rfl, Nat.le_of_ble_eq_true rfl⟩) (fun u31 H locs hwu31 hP hD hS => ?_)
        obtain ⟨u31a, u31b⟩ := u31
        obtain ⟨hqu310, hu31_00, hu31_10, hu31_20, -⟩ := hwu31
        have hqu31 : 0 ≤ (u31a 0) ∧ (u31a 0) ≤ 4095 ∧ 0 ≤ (u31a 1) ∧ (u31a 1) ≤ 4095 ∧ 0 ≤ (u31a 2) ∧ (u31a 2) ≤ 24 := hqu310
        have hu31_0 : ∀ j : Nat, 0 ≤ (u31b 0) j ∧ (u31b 0) j ≤ 11 := hu31_00
        have hu31_1 : ∀ j : Nat, 0 ≤ (u31b 1) j ∧ (u31b 1) j ≤ 11 := hu31_10
        have hu31_2 : ∀ j : Nat, 0 ≤ (u31b 2) j ∧ (u31b 2) j ≤ 1 := hu31_20
        clear hqu310 hu31_00 hu31_10 hu31_20
        have hP : va_P D vwCl [(t, .inr (11, oX11 t_q)), ((t_q 1), .inr (7, oX7 t_1_q t_1_x0 t_1_x1 t_1_x2 t_1_x3 t_1_x4 t_1_x5 t_1_x6 t_1_x7 t_1_x8)), ((t_q 9), .inr (0, oX0 t_9_q (u31a 0) (u31a 1) (u31a 2) t_9_x6 t_9_x7 t_9_x8 t_9_x9 t_9_x10 t_9_x11)), ((t_q 7), .inr (10, oX10 t_7_q t_7_x0 t_7_x1 t_7_x6)), ((t_7_q 3), .inl (K 0, 24, .inl (fun j => iI (t_7_3_c j)))), ((t_1_q 12), .inl (K 0, 24, .inl (fun j => iI (t_1_12_c j)))), ((t_9_q 3), .inl (K 0, 24, .inl (fun j => iI ((u31b 0) j)))), ((t_9_q 4), .inl (K 0, 24, .inl (fun j => iI ((u31b 1) j)))), ((t_9_q 5), .inl (K 0, 24, .inl (fun j => iI ((u31b 2) j))))] H := hP
        have hD : va_D A [(t, .inr (11, oX11 t_q)), ((t_q 1), .inr (7, oX7 t_1_q t_1_x0 t_1_x1 t_1_x2 t_1_x3 t_1_x4 t_1_x5 t_1_x6 t_1_x7 t_1_x8)), ((t_q 9), .inr (0, oX0 t_9_q (u31a 0) (u31a 1) (u31a 2) t_9_x6 t_9_x7 t_9_x8 t_9_x9 t_9_x10 t_9_x11)), ((t_q 7), .inr (10, oX10 t_7_q t_7_x0 t_7_x1 t_7_x6)), ((t_7_q 3), .inl (K 0, 24, .inl (fun j => iI (t_7_3_c j)))), ((t_1_q 12), .inl (K 0, 24, .inl (fun j => iI (t_1_12_c j)))), ((t_9_q 3), .inl (K 0, 24, .inl (fun j => iI ((u31b 0) j)))), ((t_9_q 4), .inl (K 0, 24, .inl (fun j => iI ((u31b 1) j)))), ((t_9_q 5), .inl (K 0, 24, .inl (fun j => iI ((u31b 2) j))))] := hD
        refine lv_aload_n hx hb dX11_sure_34 rfl (lv_at hl 0 rfl) ?_
        refine va_get (D := D) (own := RX11) (ci := 11) (v := .ref (t_q 9)) (C := RX11) (T := TX11) (N := 13) hx hb hts inb_X11 hown hK.1 hP 0 rfl rfl 9 (by decide) (hts _ wd_431) (fun _ h9 => h9) rfl dX11_sure_35 ?_
        refine fn_gov (wc := [((t_q 9), .inr (0, oX0 t_9_q (u31a 0) (u31a 1) (u31a 2) t_9_x6 t_9_x7 t_9_x8 t_9_x9 t_9_x10 t_9_x11)), ((t_9_q 3), .inl (K 0, 24, .inl (fun j => iI ((u31b 0) j)))), ((t_9_q 4), .inl (K 0, 24, .inl (fun j => iI ((u31b 1) j)))), ((t_9_q 5), .inl (K 0, 24, .inl (fun j => iI ((u31b 2) j))))]) (wr := [(t, .inr (11, oX11 t_q)), ((t_q 1), .inr (7, oX7 t_1_q t_1_x0 t_1_x1 t_1_x2 t_1_x3 t_1_x4 t_1_x5 t_1_x6 t_1_x7 t_1_x8)), ((t_q 7), .inr (10, oX10 t_7_q t_7_x0 t_7_x1 t_7_x6)), ((t_7_q 3), .inl (K 0, 24, .inl (fun j => iI (t_7_3_c j)))), ((t_1_q 12), .inl (K 0, 24, .inl (fun j => iI (t_1_12_c j))))]) hK hP hD hS hA [2, 6, 7, 8] [0, 1, 3, 4, 5] rfl rfl (by decide) (fun hp => va_runVN (C := RX0) (As := []) (rest := []) ⟨hx, hb, hml, hown, hts⟩ (k_X0_searchWays (l := l) (D := D) (K := K) (t := (t_q 9)) (t_q := t_9_q) (t_x0 := (u31a 0)) (t_x1 := (u31a 1)) (t_x2 := (u31a 2)) (t_x6 := t_9_x6) (t_x7 := t_9_x7) (t_x8 := t_9_x8) (t_x9 := t_9_x9) (t_x10 := t_9_x10) (t_x11 := t_9_x11) (t_3_c := (u31b 0)) (t_4_c := (u31b 1)) (t_5_c := (u31b 2)) (hi_t := ⟨(by omega), (by omega), (by omega), hi_t_9.2.2.2.1, hi_t_9.2.2.2.2.1, hi_t_9.2.2.2.2.2.1, hi_t_9.2.2.2.2.2.2.1, hi_t_9.2.2.2.2.2.2.2.1, hi_t_9.2.2.2.2.2.2.2.2⟩) (hc_t_3 := hu31_0) (hc_t_4 := hu31_1) (hc_t_5 := hu31_2) _) ⟨va_cnB (own := RX11) 0 hts (fn_gin wd_891) rfl rfl rfl (hK.nw 129 rfl) (hts _ wd_7) (by decide +kernel) ⟨Nat.le_of_ble_eq_true rfl, Nat.le_of_ble_eq_true rfl⟩, hts _ wd_890, hts _ wp_49⟩ ⟨fn_blind, va_recv hK.1 hP (ci := 0) (q0 := 2) rfl rfl, hp⟩ rfl rfl hl.1 rfl (lv_room (Nat.le_of_ble_eq_true rfl)) dX11_sure_38 ⟨Nat.le_of_ble_eq_true rfl, Nat.le_of_ble_eq_true rfl⟩) (fun u38 H locs hwu38 hP hD hS => ?_)
        obtain ⟨u38a, u38b⟩ := u38
        obtain ⟨hqu380, -⟩ := hwu38
        have hqu38 : (-2147483648) ≤ (u38a 0) ∧ (u38a 0) ≤ 2147483647 ∧ (-1) ≤ (u38a 1) ∧ (u38a 1) ≤ 4095 ∧ 0 ≤ (u38a 2) ∧ (u38a 2) ≤ 4095 ∧ 0 ≤ (u38a 3) ∧ (u38a 3) ≤ 4095 := hqu380
        clear hqu380
        have hP : va_P D vwCl [(t, .inr (11, oX11 t_q)), ((t_q 1), .inr (7, oX7 t_1_q t_1_x0 t_1_x1 t_1_x2 t_1_x3 t_1_x4 t_1_x5 t_1_x6 t_1_x7 t_1_x8)), ((t_q 7), .inr (10, oX10 t_7_q t_7_x0 t_7_x1 t_7_x6)), ((t_7_q 3), .inl (K 0, 24, .inl (fun j => iI (t_7_3_c j)))), ((t_1_q 12), .inl (K 0, 24, .inl (fun j => iI (t_1_12_c j)))), ((t_q 9), .inr (0, oX0 t_9_q (u31a 0) (u31a 1) (u31a 2) (u38a 0) (u38a 1) (u38a 2) (u38a 3) t_9_x10 t_9_x11)), ((t_9_q 3), .inl (K 0, 24, .inl (fun j => iI ((u31b 0) j)))), ((t_9_q 4), .inl (K 0, 24, .inl (fun j => iI ((u31b 1) j)))), ((t_9_q 5), .inl (K 0, 24, .inl (fun j => iI ((u31b 2) j))))] H := hP
        have hD : va_D A [(t, .inr (11, oX11 t_q)), ((t_q 1), .inr (7, oX7 t_1_q t_1_x0 t_1_x1 t_1_x2 t_1_x3 t_1_x4 t_1_x5 t_1_x6 t_1_x7 t_1_x8)), ((t_q 7), .inr (10, oX10 t_7_q t_7_x0 t_7_x1 t_7_x6)), ((t_7_q 3), .inl (K 0, 24, .inl (fun j => iI (t_7_3_c j)))), ((t_1_q 12), .inl (K 0, 24, .inl (fun j => iI (t_1_12_c j)))), ((t_q 9), .inr (0, oX0 t_9_q (u31a 0) (u31a 1) (u31a 2) (u38a 0) (u38a 1) (u38a 2) (u38a 3) t_9_x10 t_9_x11)), ((t_9_q 3), .inl (K 0, 24, .inl (fun j => iI ((u31b 0) j)))), ((t_9_q 4), .inl (K 0, 24, .inl (fun j => iI ((u31b 1) j)))), ((t_9_q 5), .inl (K 0, 24, .inl (fun j => iI ((u31b 2) j))))] := hD
        refine lv_aload_n hx hb dX11_sure_41 rfl (lv_at hl 0 rfl) ?_
        refine fn_at 42 rfl ?_
        refine va_get (D := D) (own := RX11) (ci := 11) (v := .ref (t_q 9)) (C := RX11) (T := TX11) (N := 13) hx hb hts inb_X11 hown hK.1 hP 0 rfl rfl 9 (by decide) (hts _ wd_431) (fun _ h9 => h9) rfl dX11_sure_42 ?_
        refine va_getN (D := D) (own := RX11) (ci := 0) (v := .int (iI (u38a 0))) (C := RX0) (T := TX0) (N := 12) hx hb hts inb_X0 hown hK.1 hP 5 rfl rfl 6 (by decide) (hK.nf 73 rfl) (fun _ h9 => h9) rfl dX11_sure_45 ?_
        refine g_if_ne (tgt := 53) hx hb (by omega) dX11_sure_48 (by decide) (fun c48 => ?_) (fun c48 => ?_)
        · refine lv_iload_n hx hb dX11_sure_53 rfl (lv_at hl 1 rfl) ?_
          refine g_if_ne (tgt := 67) hx hb (by omega) dX11_sure_54 (by decide) (fun c54 => ?_) (fun c54 => ?_)
          · refine lv_aload_n hx hb dX11_sure_67 rfl (lv_at hl 0 rfl) ?_
            refine va_get (D := D) (own := RX11) (ci := 11) (v := .ref (t_q 9)) (C := RX11) (T := TX11) (N := 13) hx hb hts inb_X11 hown hK.1 hP 0 rfl rfl 9 (by decide) (hts _ wd_431) (fun _ h9 => h9) rfl dX11_sure_68 ?_
            refine va_getN (D := D) (own := RX11) (ci := 0) (v := .int (iI (u38a 3))) (C := RX0) (T := TX0) (N := 12) hx hb hts inb_X0 hown hK.1 hP 5 rfl rfl 9 (by decide) (hK.nf 76 rfl) (fun _ h9 => h9) rfl dX11_sure_71 ?_
            rw [hQ]; exact fn_iret hx hb hr hlocks rfl hP hD hS ((fun k => ([(u31a 0), (u31a 1), (u31a 2), (u38a 0), (u38a 1), (u38a 2), (u38a 3)] : List Int).getD k 0), (fun k => ([(u31b 0), (u31b 1), (u31b 2)] : List (Nat → Int)).getD k (fun _ => 0))) ⟨(u38a 3), rfl, by omega, (by show 0 ≤ (u31a 0) ∧ (u31a 0) ≤ 4095 ∧ 0 ≤ (u31a 1) ∧ (u31a 1) ≤ 4095 ∧ 0 ≤ (u31a 2) ∧ (u31a 2) ≤ 24 ∧ (-2147483648) ≤ (u38a 0) ∧ (u38a 0) ≤ 2147483647 ∧ (-1) ≤ (u38a 1) ∧ (u38a 1) ≤ 4095 ∧ 0 ≤ (u38a 2) ∧ (u38a 2) ≤ 4095 ∧ 0 ≤ (u38a 3) ∧ (u38a 3) ≤ 4095; omega), (hu31_0), (hu31_1), (hu31_2), trivial⟩ [0, 1, 5, 2, 3, 4, 6, 7, 8] (by decide) rfl dX11_sure_74
          · refine lv_aload_n hx hb dX11_sure_57 rfl (lv_at hl 0 rfl) ?_
            refine va_get (D := D) (own := RX11) (ci := 11) (v := .ref (t_q 9)) (C := RX11) (T := TX11) (N := 13) hx hb hts inb_X11 hown hK.1 hP 0 rfl rfl 9 (by decide) (hts _ wd_431) (fun _ h9 => h9) rfl dX11_sure_58 ?_
            refine va_getN (D := D) (own := RX11) (ci := 0) (v := .int (iI (u38a 2))) (C := RX0) (T := TX0) (N := 12) hx hb hts inb_X0 hown hK.1 hP 5 rfl rfl 8 (by decide) (hK.nf 75 rfl) (fun _ h9 => h9) rfl dX11_sure_61 ?_
            refine lv_goto (tgt := 74) hx hb dX11_sure_64 (by decide) ?_
            rw [hQ]; exact fn_iret hx hb hr hlocks rfl hP hD hS ((fun k => ([(u31a 0), (u31a 1), (u31a 2), (u38a 0), (u38a 1), (u38a 2), (u38a 3)] : List Int).getD k 0), (fun k => ([(u31b 0), (u31b 1), (u31b 2)] : List (Nat → Int)).getD k (fun _ => 0))) ⟨(u38a 2), rfl, by omega, (by show 0 ≤ (u31a 0) ∧ (u31a 0) ≤ 4095 ∧ 0 ≤ (u31a 1) ∧ (u31a 1) ≤ 4095 ∧ 0 ≤ (u31a 2) ∧ (u31a 2) ≤ 24 ∧ (-2147483648) ≤ (u38a 0) ∧ (u38a 0) ≤ 2147483647 ∧ (-1) ≤ (u38a 1) ∧ (u38a 1) ≤ 4095 ∧ 0 ≤ (u38a 2) ∧ (u38a 2) ≤ 4095 ∧ 0 ≤ (u38a 3) ∧ (u38a 3) ≤ 4095; omega), (hu31_0), (hu31_1), (hu31_2), trivial⟩ [0, 1, 5, 2, 3, 4, 6, 7, 8] (by decide) rfl dX11_sure_74
        · refine lv_iconst (v := iI 0) hx hb dX11_sure_51 rfl ?_
          rw [hQ]; exact fn_iret hx hb hr hlocks rfl hP hD hS ((fun k => ([(u31a 0), (u31a 1), (u31a 2), (u38a 0), (u38a 1), (u38a 2), (u38a 3)] : List Int).getD k 0), (fun k => ([(u31b 0), (u31b 1), (u31b 2)] : List (Nat → Int)).getD k (fun _ => 0))) ⟨0, rfl, by omega, (by show 0 ≤ (u31a 0) ∧ (u31a 0) ≤ 4095 ∧ 0 ≤ (u31a 1) ∧ (u31a 1) ≤ 4095 ∧ 0 ≤ (u31a 2) ∧ (u31a 2) ≤ 24 ∧ (-2147483648) ≤ (u38a 0) ∧ (u38a 0) ≤ 2147483647 ∧ (-1) ≤ (u38a 1) ∧ (u38a 1) ≤ 4095 ∧ 0 ≤ (u38a 2) ∧ (u38a 2) ≤ 4095 ∧ 0 ≤ (u38a 3) ∧ (u38a 3) ≤ 4095; omega), (hu31_0), (hu31_1), (hu31_2), trivial⟩ [0, 1, 5, 2, 3, 4, 6, 7, 8] (by decide) rfl dX11_sure_52
      · refine lv_bipush (v := iI (-2)) hx hb dX11_sure_16 (by decide) ?_
        have y18_1 : 0 ≤ t_9_x0 ∧ t_9_x0 ≤ 4095 := hi_t_9.1
        have y18_2 : 0 ≤ t_9_x1 ∧ t_9_x1 ≤ 4095 := hi_t_9.2.1
        have y18_3 : 0 ≤ t_9_x2 ∧ t_9_x2 ≤ 24 := hi_t_9.2.2.1
        have y18_4 : (-2147483648) ≤ t_9_x6 ∧ t_9_x6 ≤ 2147483647 := hi_t_9.2.2.2.1
        have y18_5 : (-1) ≤ t_9_x7 ∧ t_9_x7 ≤ 4095 := hi_t_9.2.2.2.2.1
        have y18_6 : 0 ≤ t_9_x8 ∧ t_9_x8 ≤ 4095 := hi_t_9.2.2.2.2.2.1
        have y18_7 : 0 ≤ t_9_x9 ∧ t_9_x9 ≤ 4095 := hi_t_9.2.2.2.2.2.2.1
        rw [hQ]; exact fn_iret hx hb hr hlocks rfl hP hD hS ((fun k => ([t_9_x0, t_9_x1, t_9_x2, t_9_x6, t_9_x7, t_9_x8, t_9_x9] : List Int).getD k 0), (fun k => ([t_9_3_c, t_9_4_c, t_9_5_c] : List (Nat → Int)).getD k (fun _ => 0))) ⟨(-2), rfl, by omega, (by show 0 ≤ t_9_x0 ∧ t_9_x0 ≤ 4095 ∧ 0 ≤ t_9_x1 ∧ t_9_x1 ≤ 4095 ∧ 0 ≤ t_9_x2 ∧ t_9_x2 ≤ 24 ∧ (-2147483648) ≤ t_9_x6 ∧ t_9_x6 ≤ 2147483647 ∧ (-1) ≤ t_9_x7 ∧ t_9_x7 ≤ 4095 ∧ 0 ≤ t_9_x8 ∧ t_9_x8 ≤ 4095 ∧ 0 ≤ t_9_x9 ∧ t_9_x9 ≤ 4095; omega), (hc_t_9_3), (hc_t_9_4), (hc_t_9_5), trivial⟩ [7, 8, 0, 1, 2, 3, 4, 5, 6] (by decide) rfl dX11_sure_18
theorem wd_913 : Cond.code ⟨"FootNotes$Faith", "searchLoosest", "(I)V"⟩ prog_2_method_6_code 5 (Option.none : Option Jvm.ClassFile.FieldType) ∈ fn_big := fn_tb (fn_l4 (List.mem_of_getElem? (i := 193) (by decide +kernel))) (by decide +kernel)
theorem wd_912 : Cond.instanceMethod ⟨"FootNotes$Faith", "searchLoosest", "(I)V"⟩ ∈ fn_big := fn_tb (fn_l4 (List.mem_of_getElem? (i := 192) (by decide +kernel))) (by decide +kernel)
theorem wp_50 : Cond.selects "FootNotes$Faith" ⟨"FootNotes$Faith", "searchLoosest", "(I)V"⟩ ⟨"FootNotes$Faith", "searchLoosest", "(I)V"⟩ ∈ fn_big := fn_sel (q := (⟨"FootNotes$Faith", "searchLoosest", "(I)V"⟩, 12)) 50 (by decide +kernel) (by decide +kernel)
theorem dX11_loose_0 : decode cX11_loose 0 = .ok (.aload_n 0, 1) := by decide +kernel
theorem dX11_loose_1 : decode cX11_loose 1 = .ok (.iload_n 1, 1) := by decide +kernel
theorem dX11_loose_2 : decode cX11_loose 2 = .ok (.invokevirtual 256, 3) := by decide +kernel
theorem dX11_loose_5 : decode cX11_loose 5 = .ok (.ifCond .eq 6, 3) := by decide +kernel
theorem dX11_loose_11 : decode cX11_loose 11 = .ok (.aload_n 0, 1) := by decide +kernel
theorem dX11_loose_12 : decode cX11_loose 12 = .ok (.getfield 61, 3) := by decide +kernel
theorem dX11_loose_15 : decode cX11_loose 15 = .ok (.aload_n 0, 1) := by decide +kernel
theorem dX11_loose_16 : decode cX11_loose 16 = .ok (.getfield 19, 3) := by decide +kernel
theorem dX11_loose_19 : decode cX11_loose 19 = .ok (.aload_n 0, 1) := by decide +kernel
theorem dX11_loose_20 : decode cX11_loose 20 = .ok (.getfield 51, 3) := by decide +kernel
theorem dX11_loose_23 : decode cX11_loose 23 = .ok (.invokevirtual 259, 3) := by decide +kernel
theorem dX11_loose_26 : decode cX11_loose 26 = .ok (.aload_n 0, 1) := by decide +kernel
theorem dX11_loose_27 : decode cX11_loose 27 = .ok (.getfield 61, 3) := by decide +kernel
theorem dX11_loose_30 : decode cX11_loose 30 = .ok (.iload_n 1, 1) := by decide +kernel
theorem dX11_loose_31 : decode cX11_loose 31 = .ok (.invokevirtual 285, 3) := by decide +kernel
theorem dX11_loose_34 : decode cX11_loose 34 = .ok (.aload_n 0, 1) := by decide +kernel
theorem dX11_loose_35 : decode cX11_loose 35 = .ok (.getfield 61, 3) := by decide +kernel
theorem dX11_loose_38 : decode cX11_loose 38 = .ok (.getfield 288, 3) := by decide +kernel
theorem dX11_loose_41 : decode cX11_loose 41 = .ok (.ireturn, 1) := by decide +kernel
theorem dX11_loose_8 : decode cX11_loose 8 = .ok (.bipush (-2), 2) := by decide +kernel
theorem dX11_loose_10 : decode cX11_loose 10 = .ok (.ireturn, 1) := by decide +kernel
set_option maxHeartbeats 4000000 in
set_option maxRecDepth 100000 in
theorem k_X11_loose (l : Launch) (D : va_G) (K : Nat → ClassId) (t : Nat) (t_q t_1_q t_9_q t_7_q : Nat → Nat) (p1 t_1_x0 t_1_x1 t_1_x2 t_1_x3 t_1_x4 t_1_x5 t_1_x6 t_1_x7 t_1_x8 t_9_x0 t_9_x1 t_9_x2 t_9_x6 t_9_x7 t_9_x8 t_9_x9 t_9_x10 t_9_x11 t_7_x0 t_7_x1 t_7_x6 : Int) (t_7_3_c : Nat → Int) (t_1_12_c : Nat → Int) (t_9_3_c : Nat → Int) (t_9_4_c : Nat → Int) (t_9_5_c : Nat → Int) (hp1 : (-2147483648) ≤ p1 ∧ p1 ≤ 2147483647) (hi_t_1 : bX7 t_1_x0 t_1_x1 t_1_x2 t_1_x3 t_1_x4 t_1_x5 t_1_x6 t_1_x7 t_1_x8) (hi_t_9 : bX0 t_9_x0 t_9_x1 t_9_x2 t_9_x6 t_9_x7 t_9_x8 t_9_x9 t_9_x10 t_9_x11) (hi_t_7 : bX10 t_7_x0 t_7_x1 t_7_x6) (hc_t_7_3 : ∀ j : Nat, (-1) ≤ t_7_3_c j ∧ t_7_3_c j ≤ 11) (hc_t_1_12 : ∀ j : Nat, 0 ≤ t_1_12_c j ∧ t_1_12_c j ≤ 11) (hc_t_9_3 : ∀ j : Nat, 0 ≤ t_9_3_c j ∧ t_9_3_c j ≤ 11) (hc_t_9_4 : ∀ j : Nat, 0 ≤ t_9_4_c j ∧ t_9_4_c j ≤ 11) (hc_t_9_5 : ∀ j : Nat, 0 ≤ t_9_5_c j ∧ t_9_5_c j ≤ 1) : fn_CI (S := (Nat → Int) × (Nat → Nat → Int)) l D K yX11_loose (fn_ws yX11_loose cX11_loose 2 (some .int)) ({ frames := 12, cells := 0, slots := 0, locals := 300 } : Room) [.ref t, .int (iI p1)] [(t, .inr (11, oX11 t_q)), ((t_q 1), .inr (7, oX7 t_1_q t_1_x0 t_1_x1 t_1_x2 t_1_x3 t_1_x4 t_1_x5 t_1_x6 t_1_x7 t_1_x8)), ((t_q 9), .inr (0, oX0 t_9_q t_9_x0 t_9_x1 t_9_x2 t_9_x6 t_9_x7 t_9_x8 t_9_x9 t_9_x10 t_9_x11)), ((t_q 7), .inr (10, oX10 t_7_q t_7_x0 t_7_x1 t_7_x6)), ((t_7_q 3), .inl (K 0, 24, .inl (fun j => iI (t_7_3_c j)))), ((t_1_q 12), .inl (K 0, 24, .inl (fun j => iI (t_1_12_c j)))), ((t_9_q 3), .inl (K 0, 24, .inl (fun j => iI (t_9_3_c j)))), ((t_9_q 4), .inl (K 0, 24, .inl (fun j => iI (t_9_4_c j)))), ((t_9_q 5), .inl (K 0, 24, .inl (fun j => iI (t_9_5_c j))))] (fun r u => ∃ k : Int, r = iI k ∧ ((-2) ≤ k ∧ k ≤ 25) ∧ (0 ≤ (u.1 0) ∧ (u.1 0) ≤ 4095 ∧ 0 ≤ (u.1 1) ∧ (u.1 1) ≤ 4095 ∧ 0 ≤ (u.1 2) ∧ (u.1 2) ≤ 24 ∧ 0 ≤ (u.1 3) ∧ (u.1 3) ≤ 25 ∧ 0 ≤ (u.1 4) ∧ (u.1 4) ≤ 4095) ∧ (∀ j : Nat, 0 ≤ (u.2 0) j ∧ (u.2 0) j ≤ 11) ∧ (∀ j : Nat, 0 ≤ (u.2 1) j ∧ (u.2 1) j ≤ 11) ∧ (∀ j : Nat, 0 ≤ (u.2 2) j ∧ (u.2 2) j ≤ 1) ∧ True) (fun u => [(t, .inr (11, oX11 t_q)), ((t_q 1), .inr (7, oX7 t_1_q t_1_x0 t_1_x1 t_1_x2 t_1_x3 t_1_x4 t_1_x5 t_1_x6 t_1_x7 t_1_x8)), ((t_q 9), .inr (0, oX0 t_9_q (u.1 0) (u.1 1) (u.1 2) t_9_x6 t_9_x7 t_9_x8 t_9_x9 (u.1 3) (u.1 4))), ((t_q 7), .inr (10, oX10 t_7_q t_7_x0 t_7_x1 t_7_x6)), ((t_7_q 3), .inl (K 0, 24, .inl (fun j => iI (t_7_3_c j)))), ((t_1_q 12), .inl (K 0, 24, .inl (fun j => iI (t_1_12_c j)))), ((t_9_q 3), .inl (K 0, 24, .inl (fun j => iI ((u.2 0) j)))), ((t_9_q 4), .inl (K 0, 24, .inl (fun j => iI ((u.2 1) j)))), ((t_9_q 5), .inl (K 0, 24, .inl (fun j => iI ((u.2 2) j))))]) 0 0 := by
  refine g_inI (cc := cX11_loose) (maxL := 2) (ret := (some .int)) (by decide) rfl (Nat.le_of_ble_eq_true rfl) ?_
  intro p e s m below meth c A ls ag Q B hA hP hD hS hl hQ
  obtain ⟨hx, hb, hr, hml, hts, hown, hlocks, hin, hK⟩ := B
  have hown : s.vm.findClass RX11 = some m.cls := hown
  have hts := fun w h => hts w (List.mem_cons_of_mem _ h)
  have hl : lv_has ls 2 [(0, .ref t), (1, .int (iI p1))] := hl
  refine lv_aload_n hx hb dX11_loose_0 rfl (lv_at hl 0 rfl) ?_
  refine lv_iload_n hx hb dX11_loose_1 rfl (lv_at hl 1 rfl) ?_
  refine fn_goi (wc := [(t, .inr (11, oX11 t_q)), ((t_q 1), .inr (7, oX7 t_1_q t_1_x0 t_1_x1 t_1_x2 t_1_x3 t_1_x4 t_1_x5 t_1_x6 t_1_x7 t_1_x8))]) (wr := [((t_q 9), .inr (0, oX0 t_9_q t_9_x0 t_9_x1 t_9_x2 t_9_x6 t_9_x7 t_9_x8 t_9_x9 t_9_x10 t_9_x11)), ((t_q 7), .inr (10, oX10 t_7_q t_7_x0 t_7_x1 t_7_x6)), ((t_7_q 3), .inl (K 0, 24, .inl (fun j => iI (t_7_3_c j)))), ((t_1_q 12), .inl (K 0, 24, .inl (fun j => iI (t_1_12_c j)))), ((t_9_q 3), .inl (K 0, 24, .inl (fun j => iI (t_9_3_c j)))), ((t_9_q 4), .inl (K 0, 24, .inl (fun j => iI (t_9_4_c j)))), ((t_9_q 5), .inl (K 0, 24, .inl (fun j => iI (t_9_5_c j))))]) hK hP hD hS hA [0, 1] [2, 3, 4, 5, 6, 7, 8] rfl rfl (by decide) (fun hp => va_runV (C := RX11) (As := [.int (iI p1)]) (rest := []) ⟨hx, hb, hml, hown, hts⟩ (k_X11_noSet (l := l) (D := D) (K := K) (t := t) (p1 := p1) (t_q := t_q) (t_1_q := t_1_q) (t_1_x0 := t_1_x0) (t_1_x1 := t_1_x1) (t_1_x2 := t_1_x2) (t_1_x3 := t_1_x3) (t_1_x4 := t_1_x4) (t_1_x5 := t_1_x5) (t_1_x6 := t_1_x6) (t_1_x7 := t_1_x7) (t_1_x8 := t_1_x8) (hp1 := (by omega)) (hi_t_1 := hi_t_1) _) (cwV 1 hts (fn_ginV (fn_gin wd_871) wd_868 wd_870 wp_45 wd_1) rfl rfl rfl (by decide +kernel) ⟨Nat.le_of_ble_eq_true rfl, Nat.le_of_ble_eq_true rfl⟩) ⟨fn_blind, va_recv hK.1 hP (ci := 11) (q0 := 0) rfl rfl, hp⟩ rfl rfl hl.1 rfl (lv_room (Nat.le_of_ble_eq_true rfl)) dX11_loose_2 ⟨Nat.le_of_ble_eq_true rfl, Nat.le_of_ble_eq_true rfl⟩) (fun r2 u2 H locs hwu2 hP hD hS => ?_)
  obtain ⟨u2a, u2b⟩ := u2
  obtain ⟨kr2, rfl, hkr2, hqu20, -⟩ := hwu2
  have hqu2 : (kr2 = 0 → 0 ≤ p1 ∧ p1 ≤ 4095) := hqu20
  clear hqu20
  have hP : va_P D vwCl [((t_q 9), .inr (0, oX0 t_9_q t_9_x0 t_9_x1 t_9_x2 t_9_x6 t_9_x7 t_9_x8 t_9_x9 t_9_x10 t_9_x11)), ((t_q 7), .inr (10, oX10 t_7_q t_7_x0 t_7_x1 t_7_x6)), ((t_7_q 3), .inl (K 0, 24, .inl (fun j => iI (t_7_3_c j)))), ((t_1_q 12), .inl (K 0, 24, .inl (fun j => iI (t_1_12_c j)))), ((t_9_q 3), .inl (K 0, 24, .inl (fun j => iI (t_9_3_c j)))), ((t_9_q 4), .inl (K 0, 24, .inl (fun j => iI (t_9_4_c j)))), ((t_9_q 5), .inl (K 0, 24, .inl (fun j => iI (t_9_5_c j)))), (t, .inr (11, oX11 t_q)), ((t_q 1), .inr (7, oX7 t_1_q t_1_x0 t_1_x1 t_1_x2 t_1_x3 t_1_x4 t_1_x5 t_1_x6 t_1_x7 t_1_x8))] H := hP
  have hD : va_D A [((t_q 9), .inr (0, oX0 t_9_q t_9_x0 t_9_x1 t_9_x2 t_9_x6 t_9_x7 t_9_x8 t_9_x9 t_9_x10 t_9_x11)), ((t_q 7), .inr (10, oX10 t_7_q t_7_x0 t_7_x1 t_7_x6)), ((t_7_q 3), .inl (K 0, 24, .inl (fun j => iI (t_7_3_c j)))), ((t_1_q 12), .inl (K 0, 24, .inl (fun j => iI (t_1_12_c j)))), ((t_9_q 3), .inl (K 0, 24, .inl (fun j => iI (t_9_3_c j)))), ((t_9_q 4), .inl (K 0, 24, .inl (fun j => iI (t_9_4_c j)))), ((t_9_q 5), .inl (K 0, 24, .inl (fun j => iI (t_9_5_c j)))), (t, .inr (11, oX11 t_q)), ((t_q 1), .inr (7, oX7 t_1_q t_1_x0 t_1_x1 t_1_x2 t_1_x3 t_1_x4 t_1_x5 t_1_x6 t_1_x7 t_1_x8))] := hD
  refine g_if_eq (tgt := 11) hx hb (by omega) dX11_loose_5 (by decide) (fun c5 => ?_) (fun c5 => ?_)
  · refine lv_aload_n hx hb dX11_loose_11 rfl (lv_at hl 0 rfl) ?_
    refine va_get (D := D) (own := RX11) (ci := 11) (v := .ref (t_q 9)) (C := RX11) (T := TX11) (N := 13) hx hb hts inb_X11 hown hK.1 hP 7 rfl rfl 9 (by decide) (hts _ wd_431) (fun _ h9 => h9) rfl dX11_loose_12 ?_
    refine lv_aload_n hx hb dX11_loose_15 rfl (lv_at hl 0 rfl) ?_
    refine va_get (D := D) (own := RX11) (ci := 11) (v := .ref (t_q 1)) (C := RX11) (T := TX11) (N := 13) hx hb hts inb_X11 hown hK.1 hP 7 rfl rfl 1 (by decide) (hts _ wd_423) (fun _ h9 => h9) rfl dX11_loose_16 ?_
    refine lv_aload_n hx hb dX11_loose_19 rfl (lv_at hl 0 rfl) ?_
    refine va_get (D := D) (own := RX11) (ci := 11) (v := .ref (t_q 7)) (C := RX11) (T := TX11) (N := 13) hx hb hts inb_X11 hown hK.1 hP 7 rfl rfl 7 (by decide) (hts _ wd_429) (fun _ h9 => h9) rfl dX11_loose_20 ?_
    refine fn_gov (wc := [((t_q 1), .inr (7, oX7 t_1_q t_1_x0 t_1_x1 t_1_x2 t_1_x3 t_1_x4 t_1_x5 t_1_x6 t_1_x7 t_1_x8)), ((t_q 9), .inr (0, oX0 t_9_q t_9_x0 t_9_x1 t_9_x2 t_9_x6 t_9_x7 t_9_x8 t_9_x9 t_9_x10 t_9_x11)), ((t_q 7), .inr (10, oX10 t_7_q t_7_x0 t_7_x1 t_7_x6)), ((t_7_q 3), .inl (K 0, 24, .inl (fun j => iI (t_7_3_c j)))), ((t_1_q 12), .inl (K 0, 24, .inl (fun j => iI (t_1_12_c j)))), ((t_9_q 3), .inl (K 0, 24, .inl (fun j => iI (t_9_3_c j)))), ((t_9_q 4), .inl (K 0, 24, .inl (fun j => iI (t_9_4_c j)))), ((t_9_q 5), .inl (K 0, 24, .inl (fun j => iI (t_9_5_c j))))]) (wr := [(t, .inr (11, oX11 t_q))]) hK hP hD hS hA [8, 0, 1, 2, 3, 4, 5, 6] [7] rfl rfl (by decide) (fun hp => va_runVN (C := RX0) (As := [.ref (t_q 1), .ref (t_q 7)]) (rest := []) ⟨hx, hb, hml, hown, hts⟩ (k_X0_take (l := l) (D := D) (K := K) (t := (t_q 9)) (a1 := (t_q 1)) (a2 := (t_q 7)) (a1_q := t_1_q) (a1_x0 := t_1_x0) (a1_x1 := t_1_x1) (a1_x2 := t_1_x2) (a1_x3 := t_1_x3) (a1_x4 := t_1_x4) (a1_x5 := t_1_x5) (a1_x6 := t_1_x6) (a1_x7 := t_1_x7) (a1_x8 := t_1_x8) (t_q := t_9_q) (t_x0 := t_9_x0) (t_x1 := t_9_x1) (t_x2 := t_9_x2) (t_x6 := t_9_x6) (t_x7 := t_9_x7) (t_x8 := t_9_x8) (t_x9 := t_9_x9) (t_x10 := t_9_x10) (t_x11 := t_9_x11) (a2_q := t_7_q) (a2_x0 := t_7_x0) (a2_x1 := t_7_x1) (a2_x6 := t_7_x6) (a2_3_c := t_7_3_c) (a1_12_c := t_1_12_c) (t_3_c := t_9_3_c) (t_4_c := t_9_4_c) (t_5_c := t_9_5_c) (hi_a1 := hi_t_1) (hi_t := hi_t_9) (hi_a2 := hi_t_7) (hc_a2_3 := hc_t_7_3) (hc_a1_12 := hc_t_1_12) (hc_t_3 := hc_t_9_3) (hc_t_4 := hc_t_9_4) (hc_t_5 := hc_t_9_5) _) ⟨va_cnB (own := RX11) 2 hts (fn_gin wd_875) rfl rfl rfl (hK.nw 127 rfl) (hts _ wd_7) (by decide +kernel) ⟨Nat.le_of_ble_eq_true rfl, Nat.le_of_ble_eq_true rfl⟩, hts _ wd_874, hts _ wp_46⟩ ⟨fn_blind, va_recv hK.1 hP (ci := 0) (q0 := 0) rfl rfl, hp⟩ rfl rfl hl.1 rfl (lv_room (Nat.le_of_ble_eq_true rfl)) dX11_loose_23 ⟨Nat.le_of_ble_eq_true rfl, Nat.le_of_ble_eq_true rfl⟩) (fun u23 H locs hwu23 hP hD hS => ?_)
    obtain ⟨u23a, u23b⟩ := u23
    obtain ⟨hqu230, hu23_00, hu23_10, hu23_20, -⟩ := hwu23
    have hqu23 : 0 ≤ (u23a 0) ∧ (u23a 0) ≤ 4095 ∧ 0 ≤ (u23a 1) ∧ (u23a 1) ≤ 4095 ∧ 0 ≤ (u23a 2) ∧ (u23a 2) ≤ 24 := hqu230
    have hu23_0 : ∀ j : Nat, 0 ≤ (u23b 0) j ∧ (u23b 0) j ≤ 11 := hu23_00
    have hu23_1 : ∀ j : Nat, 0 ≤ (u23b 1) j ∧ (u23b 1) j ≤ 11 := hu23_10
    have hu23_2 : ∀ j : Nat, 0 ≤ (u23b 2) j ∧ (u23b 2) j ≤ 1 := hu23_20
    clear hqu230 hu23_00 hu23_10 hu23_20
    have hP : va_P D vwCl [(t, .inr (11, oX11 t_q)), ((t_q 1), .inr (7, oX7 t_1_q t_1_x0 t_1_x1 t_1_x2 t_1_x3 t_1_x4 t_1_x5 t_1_x6 t_1_x7 t_1_x8)), ((t_q 9), .inr (0, oX0 t_9_q (u23a 0) (u23a 1) (u23a 2) t_9_x6 t_9_x7 t_9_x8 t_9_x9 t_9_x10 t_9_x11)), ((t_q 7), .inr (10, oX10 t_7_q t_7_x0 t_7_x1 t_7_x6)), ((t_7_q 3), .inl (K 0, 24, .inl (fun j => iI (t_7_3_c j)))), ((t_1_q 12), .inl (K 0, 24, .inl (fun j => iI (t_1_12_c j)))), ((t_9_q 3), .inl (K 0, 24, .inl (fun j => iI ((u23b 0) j)))), ((t_9_q 4), .inl (K 0, 24, .inl (fun j => iI ((u23b 1) j)))), ((t_9_q 5), .inl (K 0, 24, .inl (fun j => iI ((u23b 2) j))))] H := hP
    have hD : va_D A [(t, .inr (11, oX11 t_q)), ((t_q 1), .inr (7, oX7 t_1_q t_1_x0 t_1_x1 t_1_x2 t_1_x3 t_1_x4 t_1_x5 t_1_x6 t_1_x7 t_1_x8)), ((t_q 9), .inr (0, oX0 t_9_q (u23a 0) (u23a 1) (u23a 2) t_9_x6 t_9_x7 t_9_x8 t_9_x9 t_9_x10 t_9_x11)), ((t_q 7), .inr (10, oX10 t_7_q t_7_x0 t_7_x1 t_7_x6)), ((t_7_q 3), .inl (K 0, 24, .inl (fun j => iI (t_7_3_c j)))), ((t_1_q 12), .inl (K 0, 24, .inl (fun j => iI (t_1_12_c j)))), ((t_9_q 3), .inl (K 0, 24, .inl (fun j => iI ((u23b 0) j)))), ((t_9_q 4), .inl (K 0, 24, .inl (fun j => iI ((u23b 1) j)))), ((t_9_q 5), .inl (K 0, 24, .inl (fun j => iI ((u23b 2) j))))] := hD
    refine lv_aload_n hx hb dX11_loose_26 rfl (lv_at hl 0 rfl) ?_
    refine va_get (D := D) (own := RX11) (ci := 11) (v := .ref (t_q 9)) (C := RX11) (T := TX11) (N := 13) hx hb hts inb_X11 hown hK.1 hP 0 rfl rfl 9 (by decide) (hts _ wd_431) (fun _ h9 => h9) rfl dX11_loose_27 ?_
    refine lv_iload_n hx hb dX11_loose_30 rfl (lv_at hl 1 rfl) ?_
    refine fn_gov (wc := [((t_q 9), .inr (0, oX0 t_9_q (u23a 0) (u23a 1) (u23a 2) t_9_x6 t_9_x7 t_9_x8 t_9_x9 t_9_x10 t_9_x11)), ((t_9_q 3), .inl (K 0, 24, .inl (fun j => iI ((u23b 0) j)))), ((t_9_q 4), .inl (K 0, 24, .inl (fun j => iI ((u23b 1) j)))), ((t_9_q 5), .inl (K 0, 24, .inl (fun j => iI ((u23b 2) j))))]) (wr := [(t, .inr (11, oX11 t_q)), ((t_q 1), .inr (7, oX7 t_1_q t_1_x0 t_1_x1 t_1_x2 t_1_x3 t_1_x4 t_1_x5 t_1_x6 t_1_x7 t_1_x8)), ((t_q 7), .inr (10, oX10 t_7_q t_7_x0 t_7_x1 t_7_x6)), ((t_7_q 3), .inl (K 0, 24, .inl (fun j => iI (t_7_3_c j)))), ((t_1_q 12), .inl (K 0, 24, .inl (fun j => iI (t_1_12_c j))))]) hK hP hD hS hA [2, 6, 7, 8] [0, 1, 3, 4, 5] rfl rfl (by decide) (fun hp => va_runVN (C := RX0) (As := [.int (iI p1)]) (rest := []) ⟨hx, hb, hml, hown, hts⟩ (k_X0_searchLoosest (l := l) (D := D) (K := K) (t := (t_q 9)) (p1 := p1) (t_q := t_9_q) (t_x0 := (u23a 0)) (t_x1 := (u23a 1)) (t_x2 := (u23a 2)) (t_x6 := t_9_x6) (t_x7 := t_9_x7) (t_x8 := t_9_x8) (t_x9 := t_9_x9) (t_x10 := t_9_x10) (t_x11 := t_9_x11) (t_3_c := (u23b 0)) (t_4_c := (u23b 1)) (t_5_c := (u23b 2)) (hp1 := (by omega)) (hi_t := ⟨(by omega), (by omega), (by omega), hi_t_9.2.2.2.1, hi_t_9.2.2.2.2.1, hi_t_9.2.2.2.2.2.1, hi_t_9.2.2.2.2.2.2.1, hi_t_9.2.2.2.2.2.2.2.1, hi_t_9.2.2.2.2.2.2.2.2⟩) (hc_t_3 := hu23_0) (hc_t_4 := hu23_1) (hc_t_5 := hu23_2) _) ⟨va_cnB (own := RX11) 1 hts (fn_gin wd_913) rfl rfl rfl (hK.nw 130 rfl) (hts _ wd_7) (by decide +kernel) ⟨Nat.le_of_ble_eq_true rfl, Nat.le_of_ble_eq_true rfl⟩, hts _ wd_912, hts _ wp_50⟩ ⟨fn_blind, va_recv hK.1 hP (ci := 0) (q0 := 2) rfl rfl, hp⟩ rfl rfl hl.1 rfl (lv_room (Nat.le_of_ble_eq_true rfl)) dX11_loose_31 ⟨Nat.le_of_ble_eq_true rfl, Nat.le_of_ble_eq_true rfl⟩) (fun u31 H locs hwu31 hP hD hS => ?_)
    obtain ⟨u31a, u31b⟩ := u31
    obtain ⟨hqu310, -⟩ := hwu31
    have hqu31 : 0 ≤ (u31a 0) ∧ (u31a 0) ≤ 25 ∧ 0 ≤ (u31a 1) ∧ (u31a 1) ≤ 4095 := hqu310
    clear hqu310
    have hP : va_P D vwCl [(t, .inr (11, oX11 t_q)), ((t_q 1), .inr (7, oX7 t_1_q t_1_x0 t_1_x1 t_1_x2 t_1_x3 t_1_x4 t_1_x5 t_1_x6 t_1_x7 t_1_x8)), ((t_q 7), .inr (10, oX10 t_7_q t_7_x0 t_7_x1 t_7_x6)), ((t_7_q 3), .inl (K 0, 24, .inl (fun j => iI (t_7_3_c j)))), ((t_1_q 12), .inl (K 0, 24, .inl (fun j => iI (t_1_12_c j)))), ((t_q 9), .inr (0, oX0 t_9_q (u23a 0) (u23a 1) (u23a 2) t_9_x6 t_9_x7 t_9_x8 t_9_x9 (u31a 0) (u31a 1))), ((t_9_q 3), .inl (K 0, 24, .inl (fun j => iI ((u23b 0) j)))), ((t_9_q 4), .inl (K 0, 24, .inl (fun j => iI ((u23b 1) j)))), ((t_9_q 5), .inl (K 0, 24, .inl (fun j => iI ((u23b 2) j))))] H := hP
    have hD : va_D A [(t, .inr (11, oX11 t_q)), ((t_q 1), .inr (7, oX7 t_1_q t_1_x0 t_1_x1 t_1_x2 t_1_x3 t_1_x4 t_1_x5 t_1_x6 t_1_x7 t_1_x8)), ((t_q 7), .inr (10, oX10 t_7_q t_7_x0 t_7_x1 t_7_x6)), ((t_7_q 3), .inl (K 0, 24, .inl (fun j => iI (t_7_3_c j)))), ((t_1_q 12), .inl (K 0, 24, .inl (fun j => iI (t_1_12_c j)))), ((t_q 9), .inr (0, oX0 t_9_q (u23a 0) (u23a 1) (u23a 2) t_9_x6 t_9_x7 t_9_x8 t_9_x9 (u31a 0) (u31a 1))), ((t_9_q 3), .inl (K 0, 24, .inl (fun j => iI ((u23b 0) j)))), ((t_9_q 4), .inl (K 0, 24, .inl (fun j => iI ((u23b 1) j)))), ((t_9_q 5), .inl (K 0, 24, .inl (fun j => iI ((u23b 2) j))))] := hD
    refine lv_aload_n hx hb dX11_loose_34 rfl (lv_at hl 0 rfl) ?_
    refine va_get (D := D) (own := RX11) (ci := 11) (v := .ref (t_q 9)) (C := RX11) (T := TX11) (N := 13) hx hb hts inb_X11 hown hK.1 hP 0 rfl rfl 9 (by decide) (hts _ wd_431) (fun _ h9 => h9) rfl dX11_loose_35 ?_
    refine va_getN (D := D) (own := RX11) (ci := 0) (v := .int (iI (u31a 0))) (C := RX0) (T := TX0) (N := 12) hx hb hts inb_X0 hown hK.1 hP 5 rfl rfl 10 (by decide) (hK.nf 77 rfl) (fun _ h9 => h9) rfl dX11_loose_38 ?_
    rw [hQ]; exact fn_iret hx hb hr hlocks rfl hP hD hS ((fun k => ([(u23a 0), (u23a 1), (u23a 2), (u31a 0), (u31a 1)] : List Int).getD k 0), (fun k => ([(u23b 0), (u23b 1), (u23b 2)] : List (Nat → Int)).getD k (fun _ => 0))) ⟨(u31a 0), rfl, by omega, (by show 0 ≤ (u23a 0) ∧ (u23a 0) ≤ 4095 ∧ 0 ≤ (u23a 1) ∧ (u23a 1) ≤ 4095 ∧ 0 ≤ (u23a 2) ∧ (u23a 2) ≤ 24 ∧ 0 ≤ (u31a 0) ∧ (u31a 0) ≤ 25 ∧ 0 ≤ (u31a 1) ∧ (u31a 1) ≤ 4095; omega), (hu23_0), (hu23_1), (hu23_2), trivial⟩ [0, 1, 5, 2, 3, 4, 6, 7, 8] (by decide) rfl dX11_loose_41
  · refine lv_bipush (v := iI (-2)) hx hb dX11_loose_8 (by decide) ?_
    have y10_1 : 0 ≤ t_9_x0 ∧ t_9_x0 ≤ 4095 := hi_t_9.1
    have y10_2 : 0 ≤ t_9_x1 ∧ t_9_x1 ≤ 4095 := hi_t_9.2.1
    have y10_3 : 0 ≤ t_9_x2 ∧ t_9_x2 ≤ 24 := hi_t_9.2.2.1
    have y10_4 : 0 ≤ t_9_x10 ∧ t_9_x10 ≤ 25 := hi_t_9.2.2.2.2.2.2.2.1
    have y10_5 : 0 ≤ t_9_x11 ∧ t_9_x11 ≤ 4095 := hi_t_9.2.2.2.2.2.2.2.2
    rw [hQ]; exact fn_iret hx hb hr hlocks rfl hP hD hS ((fun k => ([t_9_x0, t_9_x1, t_9_x2, t_9_x10, t_9_x11] : List Int).getD k 0), (fun k => ([t_9_3_c, t_9_4_c, t_9_5_c] : List (Nat → Int)).getD k (fun _ => 0))) ⟨(-2), rfl, by omega, (by show 0 ≤ t_9_x0 ∧ t_9_x0 ≤ 4095 ∧ 0 ≤ t_9_x1 ∧ t_9_x1 ≤ 4095 ∧ 0 ≤ t_9_x2 ∧ t_9_x2 ≤ 24 ∧ 0 ≤ t_9_x10 ∧ t_9_x10 ≤ 25 ∧ 0 ≤ t_9_x11 ∧ t_9_x11 ≤ 4095; omega), (hc_t_9_3), (hc_t_9_4), (hc_t_9_5), trivial⟩ [7, 8, 0, 1, 2, 3, 4, 5, 6] (by decide) rfl dX11_loose_10
theorem dX11_loosely_0 : decode cX11_loosely 0 = .ok (.aload_n 0, 1) := by decide +kernel
theorem dX11_loosely_1 : decode cX11_loosely 1 = .ok (.iload_n 1, 1) := by decide +kernel
theorem dX11_loosely_2 : decode cX11_loosely 2 = .ok (.invokevirtual 256, 3) := by decide +kernel
theorem dX11_loosely_5 : decode cX11_loosely 5 = .ok (.ifCond .eq 6, 3) := by decide +kernel
theorem dX11_loosely_11 : decode cX11_loosely 11 = .ok (.aload_n 0, 1) := by decide +kernel
theorem dX11_loosely_12 : decode cX11_loosely 12 = .ok (.getfield 61, 3) := by decide +kernel
theorem dX11_loosely_15 : decode cX11_loosely 15 = .ok (.aload_n 0, 1) := by decide +kernel
theorem dX11_loosely_16 : decode cX11_loosely 16 = .ok (.getfield 19, 3) := by decide +kernel
theorem dX11_loosely_19 : decode cX11_loosely 19 = .ok (.aload_n 0, 1) := by decide +kernel
theorem dX11_loosely_20 : decode cX11_loosely 20 = .ok (.getfield 51, 3) := by decide +kernel
theorem dX11_loosely_23 : decode cX11_loosely 23 = .ok (.invokevirtual 259, 3) := by decide +kernel
theorem dX11_loosely_26 : decode cX11_loosely 26 = .ok (.aload_n 0, 1) := by decide +kernel
theorem dX11_loosely_27 : decode cX11_loosely 27 = .ok (.getfield 61, 3) := by decide +kernel
theorem dX11_loosely_30 : decode cX11_loosely 30 = .ok (.iload_n 1, 1) := by decide +kernel
theorem dX11_loosely_31 : decode cX11_loosely 31 = .ok (.invokevirtual 285, 3) := by decide +kernel
theorem dX11_loosely_34 : decode cX11_loosely 34 = .ok (.aload_n 0, 1) := by decide +kernel
theorem dX11_loosely_35 : decode cX11_loosely 35 = .ok (.getfield 61, 3) := by decide +kernel
theorem dX11_loosely_38 : decode cX11_loosely 38 = .ok (.getfield 291, 3) := by decide +kernel
theorem dX11_loosely_41 : decode cX11_loosely 41 = .ok (.ireturn, 1) := by decide +kernel
theorem dX11_loosely_8 : decode cX11_loosely 8 = .ok (.bipush (-2), 2) := by decide +kernel
theorem dX11_loosely_10 : decode cX11_loosely 10 = .ok (.ireturn, 1) := by decide +kernel
set_option maxHeartbeats 4000000 in
set_option maxRecDepth 100000 in
theorem k_X11_loosely (l : Launch) (D : va_G) (K : Nat → ClassId) (t : Nat) (t_q t_1_q t_9_q t_7_q : Nat → Nat) (p1 t_1_x0 t_1_x1 t_1_x2 t_1_x3 t_1_x4 t_1_x5 t_1_x6 t_1_x7 t_1_x8 t_9_x0 t_9_x1 t_9_x2 t_9_x6 t_9_x7 t_9_x8 t_9_x9 t_9_x10 t_9_x11 t_7_x0 t_7_x1 t_7_x6 : Int) (t_7_3_c : Nat → Int) (t_1_12_c : Nat → Int) (t_9_3_c : Nat → Int) (t_9_4_c : Nat → Int) (t_9_5_c : Nat → Int) (hp1 : (-2147483648) ≤ p1 ∧ p1 ≤ 2147483647) (hi_t_1 : bX7 t_1_x0 t_1_x1 t_1_x2 t_1_x3 t_1_x4 t_1_x5 t_1_x6 t_1_x7 t_1_x8) (hi_t_9 : bX0 t_9_x0 t_9_x1 t_9_x2 t_9_x6 t_9_x7 t_9_x8 t_9_x9 t_9_x10 t_9_x11) (hi_t_7 : bX10 t_7_x0 t_7_x1 t_7_x6) (hc_t_7_3 : ∀ j : Nat, (-1) ≤ t_7_3_c j ∧ t_7_3_c j ≤ 11) (hc_t_1_12 : ∀ j : Nat, 0 ≤ t_1_12_c j ∧ t_1_12_c j ≤ 11) (hc_t_9_3 : ∀ j : Nat, 0 ≤ t_9_3_c j ∧ t_9_3_c j ≤ 11) (hc_t_9_4 : ∀ j : Nat, 0 ≤ t_9_4_c j ∧ t_9_4_c j ≤ 11) (hc_t_9_5 : ∀ j : Nat, 0 ≤ t_9_5_c j ∧ t_9_5_c j ≤ 1) : fn_CI (S := (Nat → Int) × (Nat → Nat → Int)) l D K yX11_loosely (fn_ws yX11_loosely cX11_loosely 2 (some .int)) ({ frames := 12, cells := 0, slots := 0, locals := 300 } : Room) [.ref t, .int (iI p1)] [(t, .inr (11, oX11 t_q)), ((t_q 1), .inr (7, oX7 t_1_q t_1_x0 t_1_x1 t_1_x2 t_1_x3 t_1_x4 t_1_x5 t_1_x6 t_1_x7 t_1_x8)), ((t_q 9), .inr (0, oX0 t_9_q t_9_x0 t_9_x1 t_9_x2 t_9_x6 t_9_x7 t_9_x8 t_9_x9 t_9_x10 t_9_x11)), ((t_q 7), .inr (10, oX10 t_7_q t_7_x0 t_7_x1 t_7_x6)), ((t_7_q 3), .inl (K 0, 24, .inl (fun j => iI (t_7_3_c j)))), ((t_1_q 12), .inl (K 0, 24, .inl (fun j => iI (t_1_12_c j)))), ((t_9_q 3), .inl (K 0, 24, .inl (fun j => iI (t_9_3_c j)))), ((t_9_q 4), .inl (K 0, 24, .inl (fun j => iI (t_9_4_c j)))), ((t_9_q 5), .inl (K 0, 24, .inl (fun j => iI (t_9_5_c j))))] (fun r u => ∃ k : Int, r = iI k ∧ ((-2) ≤ k ∧ k ≤ 4095) ∧ (0 ≤ (u.1 0) ∧ (u.1 0) ≤ 4095 ∧ 0 ≤ (u.1 1) ∧ (u.1 1) ≤ 4095 ∧ 0 ≤ (u.1 2) ∧ (u.1 2) ≤ 24 ∧ 0 ≤ (u.1 3) ∧ (u.1 3) ≤ 25 ∧ 0 ≤ (u.1 4) ∧ (u.1 4) ≤ 4095) ∧ (∀ j : Nat, 0 ≤ (u.2 0) j ∧ (u.2 0) j ≤ 11) ∧ (∀ j : Nat, 0 ≤ (u.2 1) j ∧ (u.2 1) j ≤ 11) ∧ (∀ j : Nat, 0 ≤ (u.2 2) j ∧ (u.2 2) j ≤ 1) ∧ True) (fun u => [(t, .inr (11, oX11 t_q)), ((t_q 1), .inr (7, oX7 t_1_q t_1_x0 t_1_x1 t_1_x2 t_1_x3 t_1_x4 t_1_x5 t_1_x6 t_1_x7 t_1_x8)), ((t_q 9), .inr (0, oX0 t_9_q (u.1 0) (u.1 1) (u.1 2) t_9_x6 t_9_x7 t_9_x8 t_9_x9 (u.1 3) (u.1 4))), ((t_q 7), .inr (10, oX10 t_7_q t_7_x0 t_7_x1 t_7_x6)), ((t_7_q 3), .inl (K 0, 24, .inl (fun j => iI (t_7_3_c j)))), ((t_1_q 12), .inl (K 0, 24, .inl (fun j => iI (t_1_12_c j)))), ((t_9_q 3), .inl (K 0, 24, .inl (fun j => iI ((u.2 0) j)))), ((t_9_q 4), .inl (K 0, 24, .inl (fun j => iI ((u.2 1) j)))), ((t_9_q 5), .inl (K 0, 24, .inl (fun j => iI ((u.2 2) j))))]) 0 0 := by
  refine g_inI (cc := cX11_loosely) (maxL := 2) (ret := (some .int)) (by decide) rfl (Nat.le_of_ble_eq_true rfl) ?_
  intro p e s m below meth c A ls ag Q B hA hP hD hS hl hQ
  obtain ⟨hx, hb, hr, hml, hts, hown, hlocks, hin, hK⟩ := B
  have hown : s.vm.findClass RX11 = some m.cls := hown
  have hts := fun w h => hts w (List.mem_cons_of_mem _ h)
  have hl : lv_has ls 2 [(0, .ref t), (1, .int (iI p1))] := hl
  refine lv_aload_n hx hb dX11_loosely_0 rfl (lv_at hl 0 rfl) ?_
  refine lv_iload_n hx hb dX11_loosely_1 rfl (lv_at hl 1 rfl) ?_
  refine fn_goi (wc := [(t, .inr (11, oX11 t_q)), ((t_q 1), .inr (7, oX7 t_1_q t_1_x0 t_1_x1 t_1_x2 t_1_x3 t_1_x4 t_1_x5 t_1_x6 t_1_x7 t_1_x8))]) (wr := [((t_q 9), .inr (0, oX0 t_9_q t_9_x0 t_9_x1 t_9_x2 t_9_x6 t_9_x7 t_9_x8 t_9_x9 t_9_x10 t_9_x11)), ((t_q 7), .inr (10, oX10 t_7_q t_7_x0 t_7_x1 t_7_x6)), ((t_7_q 3), .inl (K 0, 24, .inl (fun j => iI (t_7_3_c j)))), ((t_1_q 12), .inl (K 0, 24, .inl (fun j => iI (t_1_12_c j)))), ((t_9_q 3), .inl (K 0, 24, .inl (fun j => iI (t_9_3_c j)))), ((t_9_q 4), .inl (K 0, 24, .inl (fun j => iI (t_9_4_c j)))), ((t_9_q 5), .inl (K 0, 24, .inl (fun j => iI (t_9_5_c j))))]) hK hP hD hS hA [0, 1] [2, 3, 4, 5, 6, 7, 8] rfl rfl (by decide) (fun hp => va_runV (C := RX11) (As := [.int (iI p1)]) (rest := []) ⟨hx, hb, hml, hown, hts⟩ (k_X11_noSet (l := l) (D := D) (K := K) (t := t) (p1 := p1) (t_q := t_q) (t_1_q := t_1_q) (t_1_x0 := t_1_x0) (t_1_x1 := t_1_x1) (t_1_x2 := t_1_x2) (t_1_x3 := t_1_x3) (t_1_x4 := t_1_x4) (t_1_x5 := t_1_x5) (t_1_x6 := t_1_x6) (t_1_x7 := t_1_x7) (t_1_x8 := t_1_x8) (hp1 := (by omega)) (hi_t_1 := hi_t_1) _) (cwV 1 hts (fn_ginV (fn_gin wd_871) wd_868 wd_870 wp_45 wd_1) rfl rfl rfl (by decide +kernel) ⟨Nat.le_of_ble_eq_true rfl, Nat.le_of_ble_eq_true rfl⟩) ⟨fn_blind, va_recv hK.1 hP (ci := 11) (q0 := 0) rfl rfl, hp⟩ rfl rfl hl.1 rfl (lv_room (Nat.le_of_ble_eq_true rfl)) dX11_loosely_2 ⟨Nat.le_of_ble_eq_true rfl, Nat.le_of_ble_eq_true rfl⟩) (fun r2 u2 H locs hwu2 hP hD hS => ?_)
  obtain ⟨u2a, u2b⟩ := u2
  obtain ⟨kr2, rfl, hkr2, hqu20, -⟩ := hwu2
  have hqu2 : (kr2 = 0 → 0 ≤ p1 ∧ p1 ≤ 4095) := hqu20
  clear hqu20
  have hP : va_P D vwCl [((t_q 9), .inr (0, oX0 t_9_q t_9_x0 t_9_x1 t_9_x2 t_9_x6 t_9_x7 t_9_x8 t_9_x9 t_9_x10 t_9_x11)), ((t_q 7), .inr (10, oX10 t_7_q t_7_x0 t_7_x1 t_7_x6)), ((t_7_q 3), .inl (K 0, 24, .inl (fun j => iI (t_7_3_c j)))), ((t_1_q 12), .inl (K 0, 24, .inl (fun j => iI (t_1_12_c j)))), ((t_9_q 3), .inl (K 0, 24, .inl (fun j => iI (t_9_3_c j)))), ((t_9_q 4), .inl (K 0, 24, .inl (fun j => iI (t_9_4_c j)))), ((t_9_q 5), .inl (K 0, 24, .inl (fun j => iI (t_9_5_c j)))), (t, .inr (11, oX11 t_q)), ((t_q 1), .inr (7, oX7 t_1_q t_1_x0 t_1_x1 t_1_x2 t_1_x3 t_1_x4 t_1_x5 t_1_x6 t_1_x7 t_1_x8))] H := hP
  have hD : va_D A [((t_q 9), .inr (0, oX0 t_9_q t_9_x0 t_9_x1 t_9_x2 t_9_x6 t_9_x7 t_9_x8 t_9_x9 t_9_x10 t_9_x11)), ((t_q 7), .inr (10, oX10 t_7_q t_7_x0 t_7_x1 t_7_x6)), ((t_7_q 3), .inl (K 0, 24, .inl (fun j => iI (t_7_3_c j)))), ((t_1_q 12), .inl (K 0, 24, .inl (fun j => iI (t_1_12_c j)))), ((t_9_q 3), .inl (K 0, 24, .inl (fun j => iI (t_9_3_c j)))), ((t_9_q 4), .inl (K 0, 24, .inl (fun j => iI (t_9_4_c j)))), ((t_9_q 5), .inl (K 0, 24, .inl (fun j => iI (t_9_5_c j)))), (t, .inr (11, oX11 t_q)), ((t_q 1), .inr (7, oX7 t_1_q t_1_x0 t_1_x1 t_1_x2 t_1_x3 t_1_x4 t_1_x5 t_1_x6 t_1_x7 t_1_x8))] := hD
  refine g_if_eq (tgt := 11) hx hb (by omega) dX11_loosely_5 (by decide) (fun c5 => ?_) (fun c5 => ?_)
  · refine lv_aload_n hx hb dX11_loosely_11 rfl (lv_at hl 0 rfl) ?_
    refine va_get (D := D) (own := RX11) (ci := 11) (v := .ref (t_q 9)) (C := RX11) (T := TX11) (N := 13) hx hb hts inb_X11 hown hK.1 hP 7 rfl rfl 9 (by decide) (hts _ wd_431) (fun _ h9 => h9) rfl dX11_loosely_12 ?_
    refine lv_aload_n hx hb dX11_loosely_15 rfl (lv_at hl 0 rfl) ?_
    refine va_get (D := D) (own := RX11) (ci := 11) (v := .ref (t_q 1)) (C := RX11) (T := TX11) (N := 13) hx hb hts inb_X11 hown hK.1 hP 7 rfl rfl 1 (by decide) (hts _ wd_423) (fun _ h9 => h9) rfl dX11_loosely_16 ?_
    refine lv_aload_n hx hb dX11_loosely_19 rfl (lv_at hl 0 rfl) ?_
    refine va_get (D := D) (own := RX11) (ci := 11) (v := .ref (t_q 7)) (C := RX11) (T := TX11) (N := 13) hx hb hts inb_X11 hown hK.1 hP 7 rfl rfl 7 (by decide) (hts _ wd_429) (fun _ h9 => h9) rfl dX11_loosely_20 ?_
    refine fn_gov (wc := [((t_q 1), .inr (7, oX7 t_1_q t_1_x0 t_1_x1 t_1_x2 t_1_x3 t_1_x4 t_1_x5 t_1_x6 t_1_x7 t_1_x8)), ((t_q 9), .inr (0, oX0 t_9_q t_9_x0 t_9_x1 t_9_x2 t_9_x6 t_9_x7 t_9_x8 t_9_x9 t_9_x10 t_9_x11)), ((t_q 7), .inr (10, oX10 t_7_q t_7_x0 t_7_x1 t_7_x6)), ((t_7_q 3), .inl (K 0, 24, .inl (fun j => iI (t_7_3_c j)))), ((t_1_q 12), .inl (K 0, 24, .inl (fun j => iI (t_1_12_c j)))), ((t_9_q 3), .inl (K 0, 24, .inl (fun j => iI (t_9_3_c j)))), ((t_9_q 4), .inl (K 0, 24, .inl (fun j => iI (t_9_4_c j)))), ((t_9_q 5), .inl (K 0, 24, .inl (fun j => iI (t_9_5_c j))))]) (wr := [(t, .inr (11, oX11 t_q))]) hK hP hD hS hA [8, 0, 1, 2, 3, 4, 5, 6] [7] rfl rfl (by decide) (fun hp => va_runVN (C := RX0) (As := [.ref (t_q 1), .ref (t_q 7)]) (rest := []) ⟨hx, hb, hml, hown, hts⟩ (k_X0_take (l := l) (D := D) (K := K) (t := (t_q 9)) (a1 := (t_q 1)) (a2 := (t_q 7)) (a1_q := t_1_q) (a1_x0 := t_1_x0) (a1_x1 := t_1_x1) (a1_x2 := t_1_x2) (a1_x3 := t_1_x3) (a1_x4 := t_1_x4) (a1_x5 := t_1_x5) (a1_x6 := t_1_x6) (a1_x7 := t_1_x7) (a1_x8 := t_1_x8) (t_q := t_9_q) (t_x0 := t_9_x0) (t_x1 := t_9_x1) (t_x2 := t_9_x2) (t_x6 := t_9_x6) (t_x7 := t_9_x7) (t_x8 := t_9_x8) (t_x9 := t_9_x9) (t_x10 := t_9_x10) (t_x11 := t_9_x11) (a2_q := t_7_q) (a2_x0 := t_7_x0) (a2_x1 := t_7_x1) (a2_x6 := t_7_x6) (a2_3_c := t_7_3_c) (a1_12_c := t_1_12_c) (t_3_c := t_9_3_c) (t_4_c := t_9_4_c) (t_5_c := t_9_5_c) (hi_a1 := hi_t_1) (hi_t := hi_t_9) (hi_a2 := hi_t_7) (hc_a2_3 := hc_t_7_3) (hc_a1_12 := hc_t_1_12) (hc_t_3 := hc_t_9_3) (hc_t_4 := hc_t_9_4) (hc_t_5 := hc_t_9_5) _) ⟨va_cnB (own := RX11) 2 hts (fn_gin wd_875) rfl rfl rfl (hK.nw 127 rfl) (hts _ wd_7) (by decide +kernel) ⟨Nat.le_of_ble_eq_true rfl, Nat.le_of_ble_eq_true rfl⟩, hts _ wd_874, hts _ wp_46⟩ ⟨fn_blind, va_recv hK.1 hP (ci := 0) (q0 := 0) rfl rfl, hp⟩ rfl rfl hl.1 rfl (lv_room (Nat.le_of_ble_eq_true rfl)) dX11_loosely_23 ⟨Nat.le_of_ble_eq_true rfl, Nat.le_of_ble_eq_true rfl⟩) (fun u23 H locs hwu23 hP hD hS => ?_)
    obtain ⟨u23a, u23b⟩ := u23
    obtain ⟨hqu230, hu23_00, hu23_10, hu23_20, -⟩ := hwu23
    have hqu23 : 0 ≤ (u23a 0) ∧ (u23a 0) ≤ 4095 ∧ 0 ≤ (u23a 1) ∧ (u23a 1) ≤ 4095 ∧ 0 ≤ (u23a 2) ∧ (u23a 2) ≤ 24 := hqu230
    have hu23_0 : ∀ j : Nat, 0 ≤ (u23b 0) j ∧ (u23b 0) j ≤ 11 := hu23_00
    have hu23_1 : ∀ j : Nat, 0 ≤ (u23b 1) j ∧ (u23b 1) j ≤ 11 := hu23_10
    have hu23_2 : ∀ j : Nat, 0 ≤ (u23b 2) j ∧ (u23b 2) j ≤ 1 := hu23_20
    clear hqu230 hu23_00 hu23_10 hu23_20
    have hP : va_P D vwCl [(t, .inr (11, oX11 t_q)), ((t_q 1), .inr (7, oX7 t_1_q t_1_x0 t_1_x1 t_1_x2 t_1_x3 t_1_x4 t_1_x5 t_1_x6 t_1_x7 t_1_x8)), ((t_q 9), .inr (0, oX0 t_9_q (u23a 0) (u23a 1) (u23a 2) t_9_x6 t_9_x7 t_9_x8 t_9_x9 t_9_x10 t_9_x11)), ((t_q 7), .inr (10, oX10 t_7_q t_7_x0 t_7_x1 t_7_x6)), ((t_7_q 3), .inl (K 0, 24, .inl (fun j => iI (t_7_3_c j)))), ((t_1_q 12), .inl (K 0, 24, .inl (fun j => iI (t_1_12_c j)))), ((t_9_q 3), .inl (K 0, 24, .inl (fun j => iI ((u23b 0) j)))), ((t_9_q 4), .inl (K 0, 24, .inl (fun j => iI ((u23b 1) j)))), ((t_9_q 5), .inl (K 0, 24, .inl (fun j => iI ((u23b 2) j))))] H := hP
    have hD : va_D A [(t, .inr (11, oX11 t_q)), ((t_q 1), .inr (7, oX7 t_1_q t_1_x0 t_1_x1 t_1_x2 t_1_x3 t_1_x4 t_1_x5 t_1_x6 t_1_x7 t_1_x8)), ((t_q 9), .inr (0, oX0 t_9_q (u23a 0) (u23a 1) (u23a 2) t_9_x6 t_9_x7 t_9_x8 t_9_x9 t_9_x10 t_9_x11)), ((t_q 7), .inr (10, oX10 t_7_q t_7_x0 t_7_x1 t_7_x6)), ((t_7_q 3), .inl (K 0, 24, .inl (fun j => iI (t_7_3_c j)))), ((t_1_q 12), .inl (K 0, 24, .inl (fun j => iI (t_1_12_c j)))), ((t_9_q 3), .inl (K 0, 24, .inl (fun j => iI ((u23b 0) j)))), ((t_9_q 4), .inl (K 0, 24, .inl (fun j => iI ((u23b 1) j)))), ((t_9_q 5), .inl (K 0, 24, .inl (fun j => iI ((u23b 2) j))))] := hD
    refine lv_aload_n hx hb dX11_loosely_26 rfl (lv_at hl 0 rfl) ?_
    refine va_get (D := D) (own := RX11) (ci := 11) (v := .ref (t_q 9)) (C := RX11) (T := TX11) (N := 13) hx hb hts inb_X11 hown hK.1 hP 0 rfl rfl 9 (by decide) (hts _ wd_431) (fun _ h9 => h9) rfl dX11_loosely_27 ?_
    refine lv_iload_n hx hb dX11_loosely_30 rfl (lv_at hl 1 rfl) ?_
    refine fn_gov (wc := [((t_q 9), .inr (0, oX0 t_9_q (u23a 0) (u23a 1) (u23a 2) t_9_x6 t_9_x7 t_9_x8 t_9_x9 t_9_x10 t_9_x11)), ((t_9_q 3), .inl (K 0, 24, .inl (fun j => iI ((u23b 0) j)))), ((t_9_q 4), .inl (K 0, 24, .inl (fun j => iI ((u23b 1) j)))), ((t_9_q 5), .inl (K 0, 24, .inl (fun j => iI ((u23b 2) j))))]) (wr := [(t, .inr (11, oX11 t_q)), ((t_q 1), .inr (7, oX7 t_1_q t_1_x0 t_1_x1 t_1_x2 t_1_x3 t_1_x4 t_1_x5 t_1_x6 t_1_x7 t_1_x8)), ((t_q 7), .inr (10, oX10 t_7_q t_7_x0 t_7_x1 t_7_x6)), ((t_7_q 3), .inl (K 0, 24, .inl (fun j => iI (t_7_3_c j)))), ((t_1_q 12), .inl (K 0, 24, .inl (fun j => iI (t_1_12_c j))))]) hK hP hD hS hA [2, 6, 7, 8] [0, 1, 3, 4, 5] rfl rfl (by decide) (fun hp => va_runVN (C := RX0) (As := [.int (iI p1)]) (rest := []) ⟨hx, hb, hml, hown, hts⟩ (k_X0_searchLoosest (l := l) (D := D) (K := K) (t := (t_q 9)) (p1 := p1) (t_q := t_9_q) (t_x0 := (u23a 0)) (t_x1 := (u23a 1)) (t_x2 := (u23a 2)) (t_x6 := t_9_x6) (t_x7 := t_9_x7) (t_x8 := t_9_x8) (t_x9 := t_9_x9) (t_x10 := t_9_x10) (t_x11 := t_9_x11) (t_3_c := (u23b 0)) (t_4_c := (u23b 1)) (t_5_c := (u23b 2)) (hp1 := (by omega)) (hi_t := ⟨(by omega), (by omega), (by omega), hi_t_9.2.2.2.1, hi_t_9.2.2.2.2.1, hi_t_9.2.2.2.2.2.1, hi_t_9.2.2.2.2.2.2.1, hi_t_9.2.2.2.2.2.2.2.1, hi_t_9.2.2.2.2.2.2.2.2⟩) (hc_t_3 := hu23_0) (hc_t_4 := hu23_1) (hc_t_5 := hu23_2) _) ⟨va_cnB (own := RX11) 1 hts (fn_gin wd_913) rfl rfl rfl (hK.nw 130 rfl) (hts _ wd_7) (by decide +kernel) ⟨Nat.le_of_ble_eq_true rfl, Nat.le_of_ble_eq_true rfl⟩, hts _ wd_912, hts _ wp_50⟩ ⟨fn_blind, va_recv hK.1 hP (ci := 0) (q0 := 2) rfl rfl, hp⟩ rfl rfl hl.1 rfl (lv_room (Nat.le_of_ble_eq_true rfl)) dX11_loosely_31 ⟨Nat.le_of_ble_eq_true rfl, Nat.le_of_ble_eq_true rfl⟩) (fun u31 H locs hwu31 hP hD hS => ?_)
    obtain ⟨u31a, u31b⟩ := u31
    obtain ⟨hqu310, -⟩ := hwu31
    have hqu31 : 0 ≤ (u31a 0) ∧ (u31a 0) ≤ 25 ∧ 0 ≤ (u31a 1) ∧ (u31a 1) ≤ 4095 := hqu310
    clear hqu310
    have hP : va_P D vwCl [(t, .inr (11, oX11 t_q)), ((t_q 1), .inr (7, oX7 t_1_q t_1_x0 t_1_x1 t_1_x2 t_1_x3 t_1_x4 t_1_x5 t_1_x6 t_1_x7 t_1_x8)), ((t_q 7), .inr (10, oX10 t_7_q t_7_x0 t_7_x1 t_7_x6)), ((t_7_q 3), .inl (K 0, 24, .inl (fun j => iI (t_7_3_c j)))), ((t_1_q 12), .inl (K 0, 24, .inl (fun j => iI (t_1_12_c j)))), ((t_q 9), .inr (0, oX0 t_9_q (u23a 0) (u23a 1) (u23a 2) t_9_x6 t_9_x7 t_9_x8 t_9_x9 (u31a 0) (u31a 1))), ((t_9_q 3), .inl (K 0, 24, .inl (fun j => iI ((u23b 0) j)))), ((t_9_q 4), .inl (K 0, 24, .inl (fun j => iI ((u23b 1) j)))), ((t_9_q 5), .inl (K 0, 24, .inl (fun j => iI ((u23b 2) j))))] H := hP
    have hD : va_D A [(t, .inr (11, oX11 t_q)), ((t_q 1), .inr (7, oX7 t_1_q t_1_x0 t_1_x1 t_1_x2 t_1_x3 t_1_x4 t_1_x5 t_1_x6 t_1_x7 t_1_x8)), ((t_q 7), .inr (10, oX10 t_7_q t_7_x0 t_7_x1 t_7_x6)), ((t_7_q 3), .inl (K 0, 24, .inl (fun j => iI (t_7_3_c j)))), ((t_1_q 12), .inl (K 0, 24, .inl (fun j => iI (t_1_12_c j)))), ((t_q 9), .inr (0, oX0 t_9_q (u23a 0) (u23a 1) (u23a 2) t_9_x6 t_9_x7 t_9_x8 t_9_x9 (u31a 0) (u31a 1))), ((t_9_q 3), .inl (K 0, 24, .inl (fun j => iI ((u23b 0) j)))), ((t_9_q 4), .inl (K 0, 24, .inl (fun j => iI ((u23b 1) j)))), ((t_9_q 5), .inl (K 0, 24, .inl (fun j => iI ((u23b 2) j))))] := hD
    refine lv_aload_n hx hb dX11_loosely_34 rfl (lv_at hl 0 rfl) ?_
    refine va_get (D := D) (own := RX11) (ci := 11) (v := .ref (t_q 9)) (C := RX11) (T := TX11) (N := 13) hx hb hts inb_X11 hown hK.1 hP 0 rfl rfl 9 (by decide) (hts _ wd_431) (fun _ h9 => h9) rfl dX11_loosely_35 ?_
    refine va_getN (D := D) (own := RX11) (ci := 0) (v := .int (iI (u31a 1))) (C := RX0) (T := TX0) (N := 12) hx hb hts inb_X0 hown hK.1 hP 5 rfl rfl 11 (by decide) (hK.nf 78 rfl) (fun _ h9 => h9) rfl dX11_loosely_38 ?_
    rw [hQ]; exact fn_iret hx hb hr hlocks rfl hP hD hS ((fun k => ([(u23a 0), (u23a 1), (u23a 2), (u31a 0), (u31a 1)] : List Int).getD k 0), (fun k => ([(u23b 0), (u23b 1), (u23b 2)] : List (Nat → Int)).getD k (fun _ => 0))) ⟨(u31a 1), rfl, by omega, (by show 0 ≤ (u23a 0) ∧ (u23a 0) ≤ 4095 ∧ 0 ≤ (u23a 1) ∧ (u23a 1) ≤ 4095 ∧ 0 ≤ (u23a 2) ∧ (u23a 2) ≤ 24 ∧ 0 ≤ (u31a 0) ∧ (u31a 0) ≤ 25 ∧ 0 ≤ (u31a 1) ∧ (u31a 1) ≤ 4095; omega), (hu23_0), (hu23_1), (hu23_2), trivial⟩ [0, 1, 5, 2, 3, 4, 6, 7, 8] (by decide) rfl dX11_loosely_41
  · refine lv_bipush (v := iI (-2)) hx hb dX11_loosely_8 (by decide) ?_
    have y10_1 : 0 ≤ t_9_x0 ∧ t_9_x0 ≤ 4095 := hi_t_9.1
    have y10_2 : 0 ≤ t_9_x1 ∧ t_9_x1 ≤ 4095 := hi_t_9.2.1
    have y10_3 : 0 ≤ t_9_x2 ∧ t_9_x2 ≤ 24 := hi_t_9.2.2.1
    have y10_4 : 0 ≤ t_9_x10 ∧ t_9_x10 ≤ 25 := hi_t_9.2.2.2.2.2.2.2.1
    have y10_5 : 0 ≤ t_9_x11 ∧ t_9_x11 ≤ 4095 := hi_t_9.2.2.2.2.2.2.2.2
    rw [hQ]; exact fn_iret hx hb hr hlocks rfl hP hD hS ((fun k => ([t_9_x0, t_9_x1, t_9_x2, t_9_x10, t_9_x11] : List Int).getD k 0), (fun k => ([t_9_3_c, t_9_4_c, t_9_5_c] : List (Nat → Int)).getD k (fun _ => 0))) ⟨(-2), rfl, by omega, (by show 0 ≤ t_9_x0 ∧ t_9_x0 ≤ 4095 ∧ 0 ≤ t_9_x1 ∧ t_9_x1 ≤ 4095 ∧ 0 ≤ t_9_x2 ∧ t_9_x2 ≤ 24 ∧ 0 ≤ t_9_x10 ∧ t_9_x10 ≤ 25 ∧ 0 ≤ t_9_x11 ∧ t_9_x11 ≤ 4095; omega), (hc_t_9_3), (hc_t_9_4), (hc_t_9_5), trivial⟩ [7, 8, 0, 1, 2, 3, 4, 5, 6] (by decide) rfl dX11_loosely_10
theorem wd_432 : Cond.fieldLink "FootNotes" 68 "FootNotes" "tour" "LFootNotes$Tour;" ∈ fn_big := fn_tb (fn_l2 (List.mem_of_getElem? (i := 192) (by decide +kernel))) (by decide +kernel)
theorem wd_929 : Cond.code ⟨"FootNotes$Turns", "measureFromDoors", "(LFootNotes$Text;LFootNotes$Shelf;LFootNotes$Web;)V"⟩ prog_11_method_2_code 5 (Option.none : Option Jvm.ClassFile.FieldType) ∈ fn_big := fn_tb (fn_l4 (List.mem_of_getElem? (i := 209) (by decide +kernel))) (by decide +kernel)
theorem wd_928 : Cond.instanceMethod ⟨"FootNotes$Turns", "measureFromDoors", "(LFootNotes$Text;LFootNotes$Shelf;LFootNotes$Web;)V"⟩ ∈ fn_big := fn_tb (fn_l4 (List.mem_of_getElem? (i := 208) (by decide +kernel))) (by decide +kernel)
theorem wp_52 : Cond.selects "FootNotes$Turns" ⟨"FootNotes$Turns", "measureFromDoors", "(LFootNotes$Text;LFootNotes$Shelf;LFootNotes$Web;)V"⟩ ⟨"FootNotes$Turns", "measureFromDoors", "(LFootNotes$Text;LFootNotes$Shelf;LFootNotes$Web;)V"⟩ ∈ fn_big := fn_sel (q := (⟨"FootNotes$Turns", "measureFromDoors", "(LFootNotes$Text;LFootNotes$Shelf;LFootNotes$Web;)V"⟩, 6)) 52 (by decide +kernel) (by decide +kernel)
theorem wd_947 : Cond.code ⟨"FootNotes$Turns", "measureFrom", "(ILFootNotes$Shelf;LFootNotes$Web;)V"⟩ prog_11_method_3_code 8 (Option.none : Option Jvm.ClassFile.FieldType) ∈ fn_big := fn_tb (fn_l4 (List.mem_of_getElem? (i := 227) (by decide +kernel))) (by decide +kernel)
theorem wd_946 : Cond.instanceMethod ⟨"FootNotes$Turns", "measureFrom", "(ILFootNotes$Shelf;LFootNotes$Web;)V"⟩ ∈ fn_big := fn_tb (fn_l4 (List.mem_of_getElem? (i := 226) (by decide +kernel))) (by decide +kernel)
theorem wp_56 : Cond.selects "FootNotes$Turns" ⟨"FootNotes$Turns", "measureFrom", "(ILFootNotes$Shelf;LFootNotes$Web;)V"⟩ ⟨"FootNotes$Turns", "measureFrom", "(ILFootNotes$Shelf;LFootNotes$Web;)V"⟩ ∈ fn_big := fn_sel (q := (⟨"FootNotes$Turns", "measureFrom", "(ILFootNotes$Shelf;LFootNotes$Web;)V"⟩, 6)) 56 (by decide +kernel) (by decide +kernel)
theorem dX11_leaves_0 : decode cX11_leaves 0 = .ok (.aload_n 0, 1) := by decide +kernel
theorem dX11_leaves_1 : decode cX11_leaves 1 = .ok (.getfield 19, 3) := by decide +kernel
theorem dX11_leaves_4 : decode cX11_leaves 4 = .ok (.iload_n 1, 1) := by decide +kernel
theorem dX11_leaves_5 : decode cX11_leaves 5 = .ok (.invokevirtual 130, 3) := by decide +kernel
theorem dX11_leaves_8 : decode cX11_leaves 8 = .ok (.ifCond .eq 14, 3) := by decide +kernel
theorem dX11_leaves_22 : decode cX11_leaves 22 = .ok (.bipush (-2), 2) := by decide +kernel
theorem dX11_leaves_24 : decode cX11_leaves 24 = .ok (.ireturn, 1) := by decide +kernel
theorem dX11_leaves_11 : decode cX11_leaves 11 = .ok (.aload_n 0, 1) := by decide +kernel
theorem dX11_leaves_12 : decode cX11_leaves 12 = .ok (.getfield 19, 3) := by decide +kernel
theorem dX11_leaves_15 : decode cX11_leaves 15 = .ok (.iload_n 2, 1) := by decide +kernel
theorem dX11_leaves_16 : decode cX11_leaves 16 = .ok (.invokevirtual 130, 3) := by decide +kernel
theorem dX11_leaves_19 : decode cX11_leaves 19 = .ok (.ifCond .ne 6, 3) := by decide +kernel
theorem dX11_leaves_25 : decode cX11_leaves 25 = .ok (.aload_n 0, 1) := by decide +kernel
theorem dX11_leaves_26 : decode cX11_leaves 26 = .ok (.getfield 51, 3) := by decide +kernel
theorem dX11_leaves_29 : decode cX11_leaves 29 = .ok (.iload_n 1, 1) := by decide +kernel
theorem dX11_leaves_30 : decode cX11_leaves 30 = .ok (.invokevirtual 294, 3) := by decide +kernel
theorem dX11_leaves_33 : decode cX11_leaves 33 = .ok (.ifCond .ne 14, 3) := by decide +kernel
theorem dX11_leaves_47 : decode cX11_leaves 47 = .ok (.iconst (-1), 1) := by decide +kernel
theorem dX11_leaves_48 : decode cX11_leaves 48 = .ok (.ireturn, 1) := by decide +kernel
theorem dX11_leaves_36 : decode cX11_leaves 36 = .ok (.aload_n 0, 1) := by decide +kernel
theorem dX11_leaves_37 : decode cX11_leaves 37 = .ok (.getfield 51, 3) := by decide +kernel
theorem dX11_leaves_40 : decode cX11_leaves 40 = .ok (.iload_n 2, 1) := by decide +kernel
theorem dX11_leaves_41 : decode cX11_leaves 41 = .ok (.invokevirtual 294, 3) := by decide +kernel
theorem dX11_leaves_44 : decode cX11_leaves 44 = .ok (.ifCond .eq 5, 3) := by decide +kernel
theorem dX11_leaves_49 : decode cX11_leaves 49 = .ok (.aload_n 0, 1) := by decide +kernel
theorem dX11_leaves_50 : decode cX11_leaves 50 = .ok (.getfield 68, 3) := by decide +kernel
theorem dX11_leaves_53 : decode cX11_leaves 53 = .ok (.getfield 297, 3) := by decide +kernel
theorem dX11_leaves_56 : decode cX11_leaves 56 = .ok (.astore_n 3, 1) := by decide +kernel
theorem dX11_leaves_57 : decode cX11_leaves 57 = .ok (.aload_n 3, 1) := by decide +kernel
theorem dX11_leaves_58 : decode cX11_leaves 58 = .ok (.aload_n 0, 1) := by decide +kernel
theorem dX11_leaves_59 : decode cX11_leaves 59 = .ok (.getfield 19, 3) := by decide +kernel
theorem dX11_leaves_62 : decode cX11_leaves 62 = .ok (.aload_n 0, 1) := by decide +kernel
theorem dX11_leaves_63 : decode cX11_leaves 63 = .ok (.getfield 26, 3) := by decide +kernel
theorem dX11_leaves_66 : decode cX11_leaves 66 = .ok (.aload_n 0, 1) := by decide +kernel
theorem dX11_leaves_67 : decode cX11_leaves 67 = .ok (.getfield 51, 3) := by decide +kernel
theorem dX11_leaves_70 : decode cX11_leaves 70 = .ok (.invokevirtual 301, 3) := by decide +kernel
theorem dX11_leaves_73 : decode cX11_leaves 73 = .ok (.aload_n 3, 1) := by decide +kernel
theorem dX11_leaves_74 : decode cX11_leaves 74 = .ok (.iload_n 1, 1) := by decide +kernel
theorem dX11_leaves_75 : decode cX11_leaves 75 = .ok (.aload_n 0, 1) := by decide +kernel
theorem dX11_leaves_76 : decode cX11_leaves 76 = .ok (.getfield 26, 3) := by decide +kernel
theorem dX11_leaves_79 : decode cX11_leaves 79 = .ok (.aload_n 0, 1) := by decide +kernel
theorem dX11_leaves_80 : decode cX11_leaves 80 = .ok (.getfield 51, 3) := by decide +kernel
theorem dX11_leaves_83 : decode cX11_leaves 83 = .ok (.invokevirtual 307, 3) := by decide +kernel
theorem dX11_leaves_86 : decode cX11_leaves 86 = .ok (.aload_n 3, 1) := by decide +kernel
theorem dX11_leaves_87 : decode cX11_leaves 87 = .ok (.iload_n 1, 1) := by decide +kernel
theorem dX11_leaves_88 : decode cX11_leaves 88 = .ok (.iload_n 2, 1) := by decide +kernel
theorem dX11_leaves_89 : decode cX11_leaves 89 = .ok (.invokevirtual 311, 3) := by decide +kernel
theorem dX11_leaves_92 : decode cX11_leaves 92 = .ok (.ireturn, 1) := by decide +kernel
set_option maxHeartbeats 4000000 in
set_option maxRecDepth 100000 in
theorem k_X11_leaves (l : Launch) (D : va_G) (K : Nat → ClassId) (t : Nat) (t_q t_1_q t_7_q t_10_q t_10_0_q t_2_q : Nat → Nat) (p1 p2 t_1_x0 t_1_x1 t_1_x2 t_1_x3 t_1_x4 t_1_x5 t_1_x6 t_1_x7 t_1_x8 t_7_x0 t_7_x1 t_7_x6 t_10_x1 t_10_0_x0 t_10_0_x4 t_2_x0 : Int) (t_7_2_c : Nat → Int) (t_10_0_1_c : Nat → Int) (t_10_0_3_c : Nat → Int) (t_2_1_c : Nat → Int) (t_2_2_c : Nat → Int) (t_7_4_c : Nat → Int) (t_10_0_2_c : Nat → Int) (t_10_0_5_c : Nat → Int) (hp1 : (-2147483648) ≤ p1 ∧ p1 ≤ 2147483647) (hp2 : (-2147483648) ≤ p2 ∧ p2 ≤ 2147483647) (hi_t_1 : bX7 t_1_x0 t_1_x1 t_1_x2 t_1_x3 t_1_x4 t_1_x5 t_1_x6 t_1_x7 t_1_x8) (hi_t_7 : bX10 t_7_x0 t_7_x1 t_7_x6) (hc_t_7_2 : ∀ j : Nat, (-1) ≤ t_7_2_c j ∧ t_7_2_c j ≤ 149) (hi_t_10 : bX8 t_10_x1) (hi_t_10_0 : bX9 t_10_0_x0 t_10_0_x4) (hc_t_10_0_1 : ∀ j : Nat, (-2147483648) ≤ t_10_0_1_c j ∧ t_10_0_1_c j ≤ 2147483647) (hc_t_10_0_3 : ∀ j : Nat, 0 ≤ t_10_0_3_c j ∧ t_10_0_3_c j ≤ 149) (hi_t_2 : bX5 t_2_x0) (hc_t_2_1 : ∀ j : Nat, (-1000) ≤ t_2_1_c j ∧ t_2_1_c j ≤ 30) (hc_t_2_2 : ∀ j : Nat, (-4) ≤ t_2_2_c j ∧ t_2_2_c j ≤ 11) (hc_t_7_4 : ∀ j : Nat, 0 ≤ t_7_4_c j ∧ t_7_4_c j ≤ 4095) (hc_t_10_0_2 : ∀ j : Nat, (-2147483648) ≤ t_10_0_2_c j ∧ t_10_0_2_c j ≤ 2147483647) (hc_t_10_0_5 : ∀ j : Nat, (-2147483648) ≤ t_10_0_5_c j ∧ t_10_0_5_c j ≤ 2147483647) : fn_CI (S := (Nat → Int) × (Nat → Nat → Int)) l D K yX11_leaves (fn_ws yX11_leaves cX11_leaves 4 (some .int)) ({ frames := 20, cells := 0, slots := 0, locals := 500 } : Room) [.ref t, .int (iI p1), .int (iI p2)] [(t, .inr (11, oX11 t_q)), ((t_q 1), .inr (7, oX7 t_1_q t_1_x0 t_1_x1 t_1_x2 t_1_x3 t_1_x4 t_1_x5 t_1_x6 t_1_x7 t_1_x8)), ((t_q 7), .inr (10, oX10 t_7_q t_7_x0 t_7_x1 t_7_x6)), ((t_7_q 2), .inl (K 0, 12, .inl (fun j => iI (t_7_2_c j)))), ((t_q 10), .inr (8, oX8 t_10_q t_10_x1)), ((t_10_q 0), .inr (9, oX9 t_10_0_q t_10_0_x0 t_10_0_x4)), ((t_10_0_q 1), .inl (K 0, 150, .inl (fun j => iI (t_10_0_1_c j)))), ((t_10_0_q 3), .inl (K 0, 150, .inl (fun j => iI (t_10_0_3_c j)))), ((t_q 2), .inr (5, oX5 t_2_q t_2_x0)), ((t_2_q 1), .inl (K 0, 5, .inl (fun j => iI (t_2_1_c j)))), ((t_2_q 2), .inl (K 0, 150, .inl (fun j => iI (t_2_2_c j)))), ((t_7_q 4), .inl (K 0, 12, .inl (fun j => iI (t_7_4_c j)))), ((t_10_0_q 2), .inl (K 0, 150, .inl (fun j => iI (t_10_0_2_c j)))), ((t_10_0_q 5), .inl (K 0, 144, .inl (fun j => iI (t_10_0_5_c j))))] (fun r u => ∃ k : Int, r = iI k ∧ ((-2147483648) ≤ k ∧ k ≤ 2147483647) ∧ ((-2147483648) ≤ (u.1 0) ∧ (u.1 0) ≤ 2147483647 ∧ 0 ≤ (u.1 1) ∧ (u.1 1) ≤ 150) ∧ (∀ j : Nat, (-2147483648) ≤ (u.2 0) j ∧ (u.2 0) j ≤ 2147483647) ∧ (∀ j : Nat, (-2147483648) ≤ (u.2 1) j ∧ (u.2 1) j ≤ 2147483647) ∧ (∀ j : Nat, 0 ≤ (u.2 2) j ∧ (u.2 2) j ≤ 149) ∧ (∀ j : Nat, (-2147483648) ≤ (u.2 3) j ∧ (u.2 3) j ≤ 2147483647) ∧ True) (fun u => [(t, .inr (11, oX11 t_q)), ((t_q 1), .inr (7, oX7 t_1_q t_1_x0 t_1_x1 t_1_x2 t_1_x3 t_1_x4 t_1_x5 t_1_x6 t_1_x7 t_1_x8)), ((t_q 7), .inr (10, oX10 t_7_q t_7_x0 t_7_x1 t_7_x6)), ((t_7_q 2), .inl (K 0, 12, .inl (fun j => iI (t_7_2_c j)))), ((t_q 10), .inr (8, oX8 t_10_q t_10_x1)), ((t_10_q 0), .inr (9, oX9 t_10_0_q (u.1 0) (u.1 1))), ((t_10_0_q 1), .inl (K 0, 150, .inl (fun j => iI ((u.2 0) j)))), ((t_10_0_q 3), .inl (K 0, 150, .inl (fun j => iI ((u.2 2) j)))), ((t_q 2), .inr (5, oX5 t_2_q t_2_x0)), ((t_2_q 1), .inl (K 0, 5, .inl (fun j => iI (t_2_1_c j)))), ((t_2_q 2), .inl (K 0, 150, .inl (fun j => iI (t_2_2_c j)))), ((t_7_q 4), .inl (K 0, 12, .inl (fun j => iI (t_7_4_c j)))), ((t_10_0_q 2), .inl (K 0, 150, .inl (fun j => iI ((u.2 1) j)))), ((t_10_0_q 5), .inl (K 0, 144, .inl (fun j => iI ((u.2 3) j))))]) 0 0 := by
  refine g_inI (cc := cX11_leaves) (maxL := 4) (ret := (some .int)) (by decide) rfl (Nat.le_of_ble_eq_true rfl) ?_
  intro p e s m below meth c A ls ag Q B hA hP hD hS hl hQ
  obtain ⟨hx, hb, hr, hml, hts, hown, hlocks, hin, hK⟩ := B
  have hown : s.vm.findClass RX11 = some m.cls := hown
  have hts := fun w h => hts w (List.mem_cons_of_mem _ h)
  have hl : lv_has ls 4 [(0, .ref t), (1, .int (iI p1)), (2, .int (iI p2))] := hl
  refine lv_aload_n hx hb dX11_leaves_0 rfl (lv_at hl 0 rfl) ?_
  refine va_get (D := D) (own := RX11) (ci := 11) (v := .ref (t_q 1)) (C := RX11) (T := TX11) (N := 13) hx hb hts inb_X11 hown hK.1 hP 0 rfl rfl 1 (by decide) (hts _ wd_423) (fun _ h9 => h9) rfl dX11_leaves_1 ?_
  refine lv_iload_n hx hb dX11_leaves_4 rfl (lv_at hl 1 rfl) ?_
  refine fn_goi (wc := [((t_q 1), .inr (7, oX7 t_1_q t_1_x0 t_1_x1 t_1_x2 t_1_x3 t_1_x4 t_1_x5 t_1_x6 t_1_x7 t_1_x8))]) (wr := [(t, .inr (11, oX11 t_q)), ((t_q 7), .inr (10, oX10 t_7_q t_7_x0 t_7_x1 t_7_x6)), ((t_7_q 2), .inl (K 0, 12, .inl (fun j => iI (t_7_2_c j)))), ((t_q 10), .inr (8, oX8 t_10_q t_10_x1)), ((t_10_q 0), .inr (9, oX9 t_10_0_q t_10_0_x0 t_10_0_x4)), ((t_10_0_q 1), .inl (K 0, 150, .inl (fun j => iI (t_10_0_1_c j)))), ((t_10_0_q 3), .inl (K 0, 150, .inl (fun j => iI (t_10_0_3_c j)))), ((t_q 2), .inr (5, oX5 t_2_q t_2_x0)), ((t_2_q 1), .inl (K 0, 5, .inl (fun j => iI (t_2_1_c j)))), ((t_2_q 2), .inl (K 0, 150, .inl (fun j => iI (t_2_2_c j)))), ((t_7_q 4), .inl (K 0, 12, .inl (fun j => iI (t_7_4_c j)))), ((t_10_0_q 2), .inl (K 0, 150, .inl (fun j => iI (t_10_0_2_c j)))), ((t_10_0_q 5), .inl (K 0, 144, .inl (fun j => iI (t_10_0_5_c j))))]) hK hP hD hS hA [1] [0, 2, 3, 4, 5, 6, 7, 8, 9, 10, 11, 12, 13] rfl rfl (by decide) (fun hp => va_runVN (C := RX7) (As := [.int (iI p1)]) (rest := []) ⟨hx, hb, hml, hown, hts⟩ (k_X7_hasPage (l := l) (D := D) (K := K) (t := (t_q 1)) (p1 := p1) (t_q := t_1_q) (t_x0 := t_1_x0) (t_x1 := t_1_x1) (t_x2 := t_1_x2) (t_x3 := t_1_x3) (t_x4 := t_1_x4) (t_x5 := t_1_x5) (t_x6 := t_1_x6) (t_x7 := t_1_x7) (t_x8 := t_1_x8) (hp1 := (by omega)) (hi_t := hi_t_1) _) ⟨va_cnB (own := RX11) 1 hts (fn_gin wd_662) rfl rfl rfl (hK.nw 108 rfl) (hts _ wd_4) (by decide +kernel) ⟨Nat.le_of_ble_eq_true rfl, Nat.le_of_ble_eq_true rfl⟩, hts _ wd_661, hts _ wp_25⟩ ⟨fn_blind, va_recv hK.1 hP (ci := 7) (q0 := 1) rfl rfl, hp⟩ rfl rfl hl.1 rfl (lv_room (Nat.le_of_ble_eq_true rfl)) dX11_leaves_5 ⟨Nat.le_of_ble_eq_true rfl, Nat.le_of_ble_eq_true rfl⟩) (fun r5 u5 H locs hwu5 hP hD hS => ?_)
  obtain ⟨u5a, u5b⟩ := u5
  obtain ⟨kr5, rfl, hkr5, hqu50, -⟩ := hwu5
  have hqu5 : (kr5 = 1 → 0 ≤ p1 ∧ p1 < t_1_x4 ∧ p1 ≤ 11) := hqu50
  clear hqu50
  have hP : va_P D vwCl [(t, .inr (11, oX11 t_q)), ((t_q 7), .inr (10, oX10 t_7_q t_7_x0 t_7_x1 t_7_x6)), ((t_7_q 2), .inl (K 0, 12, .inl (fun j => iI (t_7_2_c j)))), ((t_q 10), .inr (8, oX8 t_10_q t_10_x1)), ((t_10_q 0), .inr (9, oX9 t_10_0_q t_10_0_x0 t_10_0_x4)), ((t_10_0_q 1), .inl (K 0, 150, .inl (fun j => iI (t_10_0_1_c j)))), ((t_10_0_q 3), .inl (K 0, 150, .inl (fun j => iI (t_10_0_3_c j)))), ((t_q 2), .inr (5, oX5 t_2_q t_2_x0)), ((t_2_q 1), .inl (K 0, 5, .inl (fun j => iI (t_2_1_c j)))), ((t_2_q 2), .inl (K 0, 150, .inl (fun j => iI (t_2_2_c j)))), ((t_7_q 4), .inl (K 0, 12, .inl (fun j => iI (t_7_4_c j)))), ((t_10_0_q 2), .inl (K 0, 150, .inl (fun j => iI (t_10_0_2_c j)))), ((t_10_0_q 5), .inl (K 0, 144, .inl (fun j => iI (t_10_0_5_c j)))), ((t_q 1), .inr (7, oX7 t_1_q t_1_x0 t_1_x1 t_1_x2 t_1_x3 t_1_x4 t_1_x5 t_1_x6 t_1_x7 t_1_x8))] H := hP
  have hD : va_D A [(t, .inr (11, oX11 t_q)), ((t_q 7), .inr (10, oX10 t_7_q t_7_x0 t_7_x1 t_7_x6)), ((t_7_q 2), .inl (K 0, 12, .inl (fun j => iI (t_7_2_c j)))), ((t_q 10), .inr (8, oX8 t_10_q t_10_x1)), ((t_10_q 0), .inr (9, oX9 t_10_0_q t_10_0_x0 t_10_0_x4)), ((t_10_0_q 1), .inl (K 0, 150, .inl (fun j => iI (t_10_0_1_c j)))), ((t_10_0_q 3), .inl (K 0, 150, .inl (fun j => iI (t_10_0_3_c j)))), ((t_q 2), .inr (5, oX5 t_2_q t_2_x0)), ((t_2_q 1), .inl (K 0, 5, .inl (fun j => iI (t_2_1_c j)))), ((t_2_q 2), .inl (K 0, 150, .inl (fun j => iI (t_2_2_c j)))), ((t_7_q 4), .inl (K 0, 12, .inl (fun j => iI (t_7_4_c j)))), ((t_10_0_q 2), .inl (K 0, 150, .inl (fun j => iI (t_10_0_2_c j)))), ((t_10_0_q 5), .inl (K 0, 144, .inl (fun j => iI (t_10_0_5_c j)))), ((t_q 1), .inr (7, oX7 t_1_q t_1_x0 t_1_x1 t_1_x2 t_1_x3 t_1_x4 t_1_x5 t_1_x6 t_1_x7 t_1_x8))] := hD
  refine g_if_eq (tgt := 22) hx hb (by omega) dX11_leaves_8 (by decide) (fun c8 => ?_) (fun c8 => ?_)
  · refine lv_bipush (v := iI (-2)) hx hb dX11_leaves_22 (by decide) ?_
    have y24_1 : (-2147483648) ≤ t_10_0_x0 ∧ t_10_0_x0 ≤ 2147483647 := hi_t_10_0.1
    have y24_2 : 0 ≤ t_10_0_x4 ∧ t_10_0_x4 ≤ 150 := hi_t_10_0.2
    rw [hQ]; exact fn_iret hx hb hr hlocks rfl hP hD hS ((fun k => ([t_10_0_x0, t_10_0_x4] : List Int).getD k 0), (fun k => ([t_10_0_1_c, t_10_0_2_c, t_10_0_3_c, t_10_0_5_c] : List (Nat → Int)).getD k (fun _ => 0))) ⟨(-2), rfl, by omega, (by show (-2147483648) ≤ t_10_0_x0 ∧ t_10_0_x0 ≤ 2147483647 ∧ 0 ≤ t_10_0_x4 ∧ t_10_0_x4 ≤ 150; omega), (hc_t_10_0_1), (hc_t_10_0_2), (hc_t_10_0_3), (hc_t_10_0_5), trivial⟩ [0, 13, 1, 2, 3, 4, 5, 6, 7, 8, 9, 10, 11, 12] (by decide) rfl dX11_leaves_24
  · refine lv_aload_n hx hb dX11_leaves_11 rfl (lv_at hl 0 rfl) ?_
    refine va_get (D := D) (own := RX11) (ci := 11) (v := .ref (t_q 1)) (C := RX11) (T := TX11) (N := 13) hx hb hts inb_X11 hown hK.1 hP 0 rfl rfl 1 (by decide) (hts _ wd_423) (fun _ h9 => h9) rfl dX11_leaves_12 ?_
    refine lv_iload_n hx hb dX11_leaves_15 rfl (lv_at hl 2 rfl) ?_
    refine fn_goi (wc := [((t_q 1), .inr (7, oX7 t_1_q t_1_x0 t_1_x1 t_1_x2 t_1_x3 t_1_x4 t_1_x5 t_1_x6 t_1_x7 t_1_x8))]) (wr := [(t, .inr (11, oX11 t_q)), ((t_q 7), .inr (10, oX10 t_7_q t_7_x0 t_7_x1 t_7_x6)), ((t_7_q 2), .inl (K 0, 12, .inl (fun j => iI (t_7_2_c j)))), ((t_q 10), .inr (8, oX8 t_10_q t_10_x1)), ((t_10_q 0), .inr (9, oX9 t_10_0_q t_10_0_x0 t_10_0_x4)), ((t_10_0_q 1), .inl (K 0, 150, .inl (fun j => iI (t_10_0_1_c j)))), ((t_10_0_q 3), .inl (K 0, 150, .inl (fun j => iI (t_10_0_3_c j)))), ((t_q 2), .inr (5, oX5 t_2_q t_2_x0)), ((t_2_q 1), .inl (K 0, 5, .inl (fun j => iI (t_2_1_c j)))), ((t_2_q 2), .inl (K 0, 150, .inl (fun j => iI (t_2_2_c j)))), ((t_7_q 4), .inl (K 0, 12, .inl (fun j => iI (t_7_4_c j)))), ((t_10_0_q 2), .inl (K 0, 150, .inl (fun j => iI (t_10_0_2_c j)))), ((t_10_0_q 5), .inl (K 0, 144, .inl (fun j => iI (t_10_0_5_c j))))]) hK hP hD hS hA [13] [0, 1, 2, 3, 4, 5, 6, 7, 8, 9, 10, 11, 12] rfl rfl (by decide) (fun hp => va_runVN (C := RX7) (As := [.int (iI p2)]) (rest := []) ⟨hx, hb, hml, hown, hts⟩ (k_X7_hasPage (l := l) (D := D) (K := K) (t := (t_q 1)) (p1 := p2) (t_q := t_1_q) (t_x0 := t_1_x0) (t_x1 := t_1_x1) (t_x2 := t_1_x2) (t_x3 := t_1_x3) (t_x4 := t_1_x4) (t_x5 := t_1_x5) (t_x6 := t_1_x6) (t_x7 := t_1_x7) (t_x8 := t_1_x8) (hp1 := (by omega)) (hi_t := hi_t_1) _) ⟨va_cnB (own := RX11) 1 hts (fn_gin wd_662) rfl rfl rfl (hK.nw 108 rfl) (hts _ wd_4) (by decide +kernel) ⟨Nat.le_of_ble_eq_true rfl, Nat.le_of_ble_eq_true rfl⟩, hts _ wd_661, hts _ wp_25⟩ ⟨fn_blind, va_recv hK.1 hP (ci := 7) (q0 := 13) rfl rfl, hp⟩ rfl rfl hl.1 rfl (lv_room (Nat.le_of_ble_eq_true rfl)) dX11_leaves_16 ⟨Nat.le_of_ble_eq_true rfl, Nat.le_of_ble_eq_true rfl⟩) (fun r16 u16 H locs hwu16 hP hD hS => ?_)
    obtain ⟨u16a, u16b⟩ := u16
    obtain ⟨kr16, rfl, hkr16, hqu160, -⟩ := hwu16
    have hqu16 : (kr16 = 1 → 0 ≤ p2 ∧ p2 < t_1_x4 ∧ p2 ≤ 11) := hqu160
    clear hqu160
    have hP : va_P D vwCl [(t, .inr (11, oX11 t_q)), ((t_q 7), .inr (10, oX10 t_7_q t_7_x0 t_7_x1 t_7_x6)), ((t_7_q 2), .inl (K 0, 12, .inl (fun j => iI (t_7_2_c j)))), ((t_q 10), .inr (8, oX8 t_10_q t_10_x1)), ((t_10_q 0), .inr (9, oX9 t_10_0_q t_10_0_x0 t_10_0_x4)), ((t_10_0_q 1), .inl (K 0, 150, .inl (fun j => iI (t_10_0_1_c j)))), ((t_10_0_q 3), .inl (K 0, 150, .inl (fun j => iI (t_10_0_3_c j)))), ((t_q 2), .inr (5, oX5 t_2_q t_2_x0)), ((t_2_q 1), .inl (K 0, 5, .inl (fun j => iI (t_2_1_c j)))), ((t_2_q 2), .inl (K 0, 150, .inl (fun j => iI (t_2_2_c j)))), ((t_7_q 4), .inl (K 0, 12, .inl (fun j => iI (t_7_4_c j)))), ((t_10_0_q 2), .inl (K 0, 150, .inl (fun j => iI (t_10_0_2_c j)))), ((t_10_0_q 5), .inl (K 0, 144, .inl (fun j => iI (t_10_0_5_c j)))), ((t_q 1), .inr (7, oX7 t_1_q t_1_x0 t_1_x1 t_1_x2 t_1_x3 t_1_x4 t_1_x5 t_1_x6 t_1_x7 t_1_x8))] H := hP
    have hD : va_D A [(t, .inr (11, oX11 t_q)), ((t_q 7), .inr (10, oX10 t_7_q t_7_x0 t_7_x1 t_7_x6)), ((t_7_q 2), .inl (K 0, 12, .inl (fun j => iI (t_7_2_c j)))), ((t_q 10), .inr (8, oX8 t_10_q t_10_x1)), ((t_10_q 0), .inr (9, oX9 t_10_0_q t_10_0_x0 t_10_0_x4)), ((t_10_0_q 1), .inl (K 0, 150, .inl (fun j => iI (t_10_0_1_c j)))), ((t_10_0_q 3), .inl (K 0, 150, .inl (fun j => iI (t_10_0_3_c j)))), ((t_q 2), .inr (5, oX5 t_2_q t_2_x0)), ((t_2_q 1), .inl (K 0, 5, .inl (fun j => iI (t_2_1_c j)))), ((t_2_q 2), .inl (K 0, 150, .inl (fun j => iI (t_2_2_c j)))), ((t_7_q 4), .inl (K 0, 12, .inl (fun j => iI (t_7_4_c j)))), ((t_10_0_q 2), .inl (K 0, 150, .inl (fun j => iI (t_10_0_2_c j)))), ((t_10_0_q 5), .inl (K 0, 144, .inl (fun j => iI (t_10_0_5_c j)))), ((t_q 1), .inr (7, oX7 t_1_q t_1_x0 t_1_x1 t_1_x2 t_1_x3 t_1_x4 t_1_x5 t_1_x6 t_1_x7 t_1_x8))] := hD
    refine g_if_ne (tgt := 25) hx hb (by omega) dX11_leaves_19 (by decide) (fun c19 => ?_) (fun c19 => ?_)
    · refine lv_aload_n hx hb dX11_leaves_25 rfl (lv_at hl 0 rfl) ?_
      refine va_get (D := D) (own := RX11) (ci := 11) (v := .ref (t_q 7)) (C := RX11) (T := TX11) (N := 13) hx hb hts inb_X11 hown hK.1 hP 0 rfl rfl 7 (by decide) (hts _ wd_429) (fun _ h9 => h9) rfl dX11_leaves_26 ?_
      refine lv_iload_n hx hb dX11_leaves_29 rfl (lv_at hl 1 rfl) ?_
      refine fn_goi (wc := [((t_q 7), .inr (10, oX10 t_7_q t_7_x0 t_7_x1 t_7_x6)), ((t_7_q 2), .inl (K 0, 12, .inl (fun j => iI (t_7_2_c j))))]) (wr := [(t, .inr (11, oX11 t_q)), ((t_q 10), .inr (8, oX8 t_10_q t_10_x1)), ((t_10_q 0), .inr (9, oX9 t_10_0_q t_10_0_x0 t_10_0_x4)), ((t_10_0_q 1), .inl (K 0, 150, .inl (fun j => iI (t_10_0_1_c j)))), ((t_10_0_q 3), .inl (K 0, 150, .inl (fun j => iI (t_10_0_3_c j)))), ((t_q 2), .inr (5, oX5 t_2_q t_2_x0)), ((t_2_q 1), .inl (K 0, 5, .inl (fun j => iI (t_2_1_c j)))), ((t_2_q 2), .inl (K 0, 150, .inl (fun j => iI (t_2_2_c j)))), ((t_7_q 4), .inl (K 0, 12, .inl (fun j => iI (t_7_4_c j)))), ((t_10_0_q 2), .inl (K 0, 150, .inl (fun j => iI (t_10_0_2_c j)))), ((t_10_0_q 5), .inl (K 0, 144, .inl (fun j => iI (t_10_0_5_c j)))), ((t_q 1), .inr (7, oX7 t_1_q t_1_x0 t_1_x1 t_1_x2 t_1_x3 t_1_x4 t_1_x5 t_1_x6 t_1_x7 t_1_x8))]) hK hP hD hS hA [1, 2] [0, 3, 4, 5, 6, 7, 8, 9, 10, 11, 12, 13] rfl rfl (by decide) (fun hp => va_runVN (C := RX10) (As := [.int (iI p1)]) (rest := []) ⟨hx, hb, hml, hown, hts⟩ (k_X10_isTorn (l := l) (D := D) (K := K) (t := (t_q 7)) (p1 := p1) (t_q := t_7_q) (t_x0 := t_7_x0) (t_x1 := t_7_x1) (t_x6 := t_7_x6) (t_2_c := t_7_2_c) (hp1 := (by omega)) (hi_t := hi_t_7) (hc_t_2 := hc_t_7_2) _) ⟨va_cnB (own := RX11) 1 hts (fn_gin wd_925) rfl rfl rfl (hK.nw 131 rfl) (hts _ wd_6) (by decide +kernel) ⟨Nat.le_of_ble_eq_true rfl, Nat.le_of_ble_eq_true rfl⟩, hts _ wd_924, hts _ wp_51⟩ ⟨fn_blind, va_recv hK.1 hP (ci := 10) (q0 := 1) rfl rfl, hp⟩ rfl rfl hl.1 rfl (lv_room (Nat.le_of_ble_eq_true rfl)) dX11_leaves_30 ⟨Nat.le_of_ble_eq_true rfl, Nat.le_of_ble_eq_true rfl⟩) (fun r30 u30 H locs hwu30 hP hD hS => ?_)
      obtain ⟨u30a, u30b⟩ := u30
      obtain ⟨kr30, rfl, hkr30, hqu300, -⟩ := hwu30
      have hqu30 : (kr30 = 0 → 0 ≤ t_7_2_c (Int.toNat p1)) := hqu300
      clear hqu300
      have hP : va_P D vwCl [(t, .inr (11, oX11 t_q)), ((t_q 10), .inr (8, oX8 t_10_q t_10_x1)), ((t_10_q 0), .inr (9, oX9 t_10_0_q t_10_0_x0 t_10_0_x4)), ((t_10_0_q 1), .inl (K 0, 150, .inl (fun j => iI (t_10_0_1_c j)))), ((t_10_0_q 3), .inl (K 0, 150, .inl (fun j => iI (t_10_0_3_c j)))), ((t_q 2), .inr (5, oX5 t_2_q t_2_x0)), ((t_2_q 1), .inl (K 0, 5, .inl (fun j => iI (t_2_1_c j)))), ((t_2_q 2), .inl (K 0, 150, .inl (fun j => iI (t_2_2_c j)))), ((t_7_q 4), .inl (K 0, 12, .inl (fun j => iI (t_7_4_c j)))), ((t_10_0_q 2), .inl (K 0, 150, .inl (fun j => iI (t_10_0_2_c j)))), ((t_10_0_q 5), .inl (K 0, 144, .inl (fun j => iI (t_10_0_5_c j)))), ((t_q 1), .inr (7, oX7 t_1_q t_1_x0 t_1_x1 t_1_x2 t_1_x3 t_1_x4 t_1_x5 t_1_x6 t_1_x7 t_1_x8)), ((t_q 7), .inr (10, oX10 t_7_q t_7_x0 t_7_x1 t_7_x6)), ((t_7_q 2), .inl (K 0, 12, .inl (fun j => iI (t_7_2_c j))))] H := hP
      have hD : va_D A [(t, .inr (11, oX11 t_q)), ((t_q 10), .inr (8, oX8 t_10_q t_10_x1)), ((t_10_q 0), .inr (9, oX9 t_10_0_q t_10_0_x0 t_10_0_x4)), ((t_10_0_q 1), .inl (K 0, 150, .inl (fun j => iI (t_10_0_1_c j)))), ((t_10_0_q 3), .inl (K 0, 150, .inl (fun j => iI (t_10_0_3_c j)))), ((t_q 2), .inr (5, oX5 t_2_q t_2_x0)), ((t_2_q 1), .inl (K 0, 5, .inl (fun j => iI (t_2_1_c j)))), ((t_2_q 2), .inl (K 0, 150, .inl (fun j => iI (t_2_2_c j)))), ((t_7_q 4), .inl (K 0, 12, .inl (fun j => iI (t_7_4_c j)))), ((t_10_0_q 2), .inl (K 0, 150, .inl (fun j => iI (t_10_0_2_c j)))), ((t_10_0_q 5), .inl (K 0, 144, .inl (fun j => iI (t_10_0_5_c j)))), ((t_q 1), .inr (7, oX7 t_1_q t_1_x0 t_1_x1 t_1_x2 t_1_x3 t_1_x4 t_1_x5 t_1_x6 t_1_x7 t_1_x8)), ((t_q 7), .inr (10, oX10 t_7_q t_7_x0 t_7_x1 t_7_x6)), ((t_7_q 2), .inl (K 0, 12, .inl (fun j => iI (t_7_2_c j))))] := hD
      refine g_if_ne (tgt := 47) hx hb (by omega) dX11_leaves_33 (by decide) (fun c33 => ?_) (fun c33 => ?_)
      · refine lv_iconst (v := iI (-1)) hx hb dX11_leaves_47 rfl ?_
        have y48_1 : (-2147483648) ≤ t_10_0_x0 ∧ t_10_0_x0 ≤ 2147483647 := hi_t_10_0.1
        have y48_2 : 0 ≤ t_10_0_x4 ∧ t_10_0_x4 ≤ 150 := hi_t_10_0.2
        rw [hQ]; exact fn_iret hx hb hr hlocks rfl hP hD hS ((fun k => ([t_10_0_x0, t_10_0_x4] : List Int).getD k 0), (fun k => ([t_10_0_1_c, t_10_0_2_c, t_10_0_3_c, t_10_0_5_c] : List (Nat → Int)).getD k (fun _ => 0))) ⟨(-1), rfl, by omega, (by show (-2147483648) ≤ t_10_0_x0 ∧ t_10_0_x0 ≤ 2147483647 ∧ 0 ≤ t_10_0_x4 ∧ t_10_0_x4 ≤ 150; omega), (hc_t_10_0_1), (hc_t_10_0_2), (hc_t_10_0_3), (hc_t_10_0_5), trivial⟩ [0, 11, 12, 13, 1, 2, 3, 4, 5, 6, 7, 8, 9, 10] (by decide) rfl dX11_leaves_48
      · refine lv_aload_n hx hb dX11_leaves_36 rfl (lv_at hl 0 rfl) ?_
        refine va_get (D := D) (own := RX11) (ci := 11) (v := .ref (t_q 7)) (C := RX11) (T := TX11) (N := 13) hx hb hts inb_X11 hown hK.1 hP 0 rfl rfl 7 (by decide) (hts _ wd_429) (fun _ h9 => h9) rfl dX11_leaves_37 ?_
        refine lv_iload_n hx hb dX11_leaves_40 rfl (lv_at hl 2 rfl) ?_
        refine fn_goi (wc := [((t_q 7), .inr (10, oX10 t_7_q t_7_x0 t_7_x1 t_7_x6)), ((t_7_q 2), .inl (K 0, 12, .inl (fun j => iI (t_7_2_c j))))]) (wr := [(t, .inr (11, oX11 t_q)), ((t_q 10), .inr (8, oX8 t_10_q t_10_x1)), ((t_10_q 0), .inr (9, oX9 t_10_0_q t_10_0_x0 t_10_0_x4)), ((t_10_0_q 1), .inl (K 0, 150, .inl (fun j => iI (t_10_0_1_c j)))), ((t_10_0_q 3), .inl (K 0, 150, .inl (fun j => iI (t_10_0_3_c j)))), ((t_q 2), .inr (5, oX5 t_2_q t_2_x0)), ((t_2_q 1), .inl (K 0, 5, .inl (fun j => iI (t_2_1_c j)))), ((t_2_q 2), .inl (K 0, 150, .inl (fun j => iI (t_2_2_c j)))), ((t_7_q 4), .inl (K 0, 12, .inl (fun j => iI (t_7_4_c j)))), ((t_10_0_q 2), .inl (K 0, 150, .inl (fun j => iI (t_10_0_2_c j)))), ((t_10_0_q 5), .inl (K 0, 144, .inl (fun j => iI (t_10_0_5_c j)))), ((t_q 1), .inr (7, oX7 t_1_q t_1_x0 t_1_x1 t_1_x2 t_1_x3 t_1_x4 t_1_x5 t_1_x6 t_1_x7 t_1_x8))]) hK hP hD hS hA [12, 13] [0, 1, 2, 3, 4, 5, 6, 7, 8, 9, 10, 11] rfl rfl (by decide) (fun hp => va_runVN (C := RX10) (As := [.int (iI p2)]) (rest := []) ⟨hx, hb, hml, hown, hts⟩ (k_X10_isTorn (l := l) (D := D) (K := K) (t := (t_q 7)) (p1 := p2) (t_q := t_7_q) (t_x0 := t_7_x0) (t_x1 := t_7_x1) (t_x6 := t_7_x6) (t_2_c := t_7_2_c) (hp1 := (by omega)) (hi_t := hi_t_7) (hc_t_2 := hc_t_7_2) _) ⟨va_cnB (own := RX11) 1 hts (fn_gin wd_925) rfl rfl rfl (hK.nw 131 rfl) (hts _ wd_6) (by decide +kernel) ⟨Nat.le_of_ble_eq_true rfl, Nat.le_of_ble_eq_true rfl⟩, hts _ wd_924, hts _ wp_51⟩ ⟨fn_blind, va_recv hK.1 hP (ci := 10) (q0 := 12) rfl rfl, hp⟩ rfl rfl hl.1 rfl (lv_room (Nat.le_of_ble_eq_true rfl)) dX11_leaves_41 ⟨Nat.le_of_ble_eq_true rfl, Nat.le_of_ble_eq_true rfl⟩) (fun r41 u41 H locs hwu41 hP hD hS => ?_)
        obtain ⟨u41a, u41b⟩ := u41
        obtain ⟨kr41, rfl, hkr41, hqu410, -⟩ := hwu41
        have hqu41 : (kr41 = 0 → 0 ≤ t_7_2_c (Int.toNat p2)) := hqu410
        clear hqu410
        have hP : va_P D vwCl [(t, .inr (11, oX11 t_q)), ((t_q 10), .inr (8, oX8 t_10_q t_10_x1)), ((t_10_q 0), .inr (9, oX9 t_10_0_q t_10_0_x0 t_10_0_x4)), ((t_10_0_q 1), .inl (K 0, 150, .inl (fun j => iI (t_10_0_1_c j)))), ((t_10_0_q 3), .inl (K 0, 150, .inl (fun j => iI (t_10_0_3_c j)))), ((t_q 2), .inr (5, oX5 t_2_q t_2_x0)), ((t_2_q 1), .inl (K 0, 5, .inl (fun j => iI (t_2_1_c j)))), ((t_2_q 2), .inl (K 0, 150, .inl (fun j => iI (t_2_2_c j)))), ((t_7_q 4), .inl (K 0, 12, .inl (fun j => iI (t_7_4_c j)))), ((t_10_0_q 2), .inl (K 0, 150, .inl (fun j => iI (t_10_0_2_c j)))), ((t_10_0_q 5), .inl (K 0, 144, .inl (fun j => iI (t_10_0_5_c j)))), ((t_q 1), .inr (7, oX7 t_1_q t_1_x0 t_1_x1 t_1_x2 t_1_x3 t_1_x4 t_1_x5 t_1_x6 t_1_x7 t_1_x8)), ((t_q 7), .inr (10, oX10 t_7_q t_7_x0 t_7_x1 t_7_x6)), ((t_7_q 2), .inl (K 0, 12, .inl (fun j => iI (t_7_2_c j))))] H := hP
        have hD : va_D A [(t, .inr (11, oX11 t_q)), ((t_q 10), .inr (8, oX8 t_10_q t_10_x1)), ((t_10_q 0), .inr (9, oX9 t_10_0_q t_10_0_x0 t_10_0_x4)), ((t_10_0_q 1), .inl (K 0, 150, .inl (fun j => iI (t_10_0_1_c j)))), ((t_10_0_q 3), .inl (K 0, 150, .inl (fun j => iI (t_10_0_3_c j)))), ((t_q 2), .inr (5, oX5 t_2_q t_2_x0)), ((t_2_q 1), .inl (K 0, 5, .inl (fun j => iI (t_2_1_c j)))), ((t_2_q 2), .inl (K 0, 150, .inl (fun j => iI (t_2_2_c j)))), ((t_7_q 4), .inl (K 0, 12, .inl (fun j => iI (t_7_4_c j)))), ((t_10_0_q 2), .inl (K 0, 150, .inl (fun j => iI (t_10_0_2_c j)))), ((t_10_0_q 5), .inl (K 0, 144, .inl (fun j => iI (t_10_0_5_c j)))), ((t_q 1), .inr (7, oX7 t_1_q t_1_x0 t_1_x1 t_1_x2 t_1_x3 t_1_x4 t_1_x5 t_1_x6 t_1_x7 t_1_x8)), ((t_q 7), .inr (10, oX10 t_7_q t_7_x0 t_7_x1 t_7_x6)), ((t_7_q 2), .inl (K 0, 12, .inl (fun j => iI (t_7_2_c j))))] := hD
        refine fn_at 44 rfl ?_
        refine g_if_eq (tgt := 49) hx hb (by omega) dX11_leaves_44 (by decide) (fun c44 => ?_) (fun c44 => ?_)
        · refine lv_aload_n hx hb dX11_leaves_49 rfl (lv_at hl 0 rfl) ?_
          refine va_get (D := D) (own := RX11) (ci := 11) (v := .ref (t_q 10)) (C := RX11) (T := TX11) (N := 13) hx hb hts inb_X11 hown hK.1 hP 0 rfl rfl 10 (by decide) (hts _ wd_432) (fun _ h9 => h9) rfl dX11_leaves_50 ?_
          refine va_getN (D := D) (own := RX11) (ci := 8) (v := .ref (t_10_q 0)) (C := RX8) (T := TX8) (N := 4) hx hb hts inb_X8 hown hK.1 hP 1 rfl rfl 0 (by decide) (hK.nf 81 rfl) (fun _ h9 => h9) rfl dX11_leaves_53 ?_
          refine lv_astore_n (lv' := [(3, .ref (t_10_q 0)), (0, .ref t), (1, .int (iI p1)), (2, .int (iI p2))]) hx hb dX11_leaves_56 rfl hl (by decide) rfl (fun ls hl => ?_)
          refine lv_aload_n hx hb dX11_leaves_57 rfl (lv_at hl 0 rfl) ?_
          refine lv_aload_n hx hb dX11_leaves_58 rfl (lv_at hl 1 rfl) ?_
          refine va_get (D := D) (own := RX11) (ci := 11) (v := .ref (t_q 1)) (C := RX11) (T := TX11) (N := 13) hx hb hts inb_X11 hown hK.1 hP 0 rfl rfl 1 (by decide) (hts _ wd_423) (fun _ h9 => h9) rfl dX11_leaves_59 ?_
          refine lv_aload_n hx hb dX11_leaves_62 rfl (lv_at hl 1 rfl) ?_
          refine va_get (D := D) (own := RX11) (ci := 11) (v := .ref (t_q 2)) (C := RX11) (T := TX11) (N := 13) hx hb hts inb_X11 hown hK.1 hP 0 rfl rfl 2 (by decide) (hts _ wd_424) (fun _ h9 => h9) rfl dX11_leaves_63 ?_
          refine lv_aload_n hx hb dX11_leaves_66 rfl (lv_at hl 1 rfl) ?_
          refine va_get (D := D) (own := RX11) (ci := 11) (v := .ref (t_q 7)) (C := RX11) (T := TX11) (N := 13) hx hb hts inb_X11 hown hK.1 hP 0 rfl rfl 7 (by decide) (hts _ wd_429) (fun _ h9 => h9) rfl dX11_leaves_67 ?_
          refine fn_gov (wc := [((t_q 1), .inr (7, oX7 t_1_q t_1_x0 t_1_x1 t_1_x2 t_1_x3 t_1_x4 t_1_x5 t_1_x6 t_1_x7 t_1_x8)), ((t_10_q 0), .inr (9, oX9 t_10_0_q t_10_0_x0 t_10_0_x4)), ((t_10_0_q 1), .inl (K 0, 150, .inl (fun j => iI (t_10_0_1_c j)))), ((t_10_0_q 3), .inl (K 0, 150, .inl (fun j => iI (t_10_0_3_c j)))), ((t_q 2), .inr (5, oX5 t_2_q t_2_x0)), ((t_2_q 1), .inl (K 0, 5, .inl (fun j => iI (t_2_1_c j)))), ((t_2_q 2), .inl (K 0, 150, .inl (fun j => iI (t_2_2_c j)))), ((t_q 7), .inr (10, oX10 t_7_q t_7_x0 t_7_x1 t_7_x6)), ((t_7_q 4), .inl (K 0, 12, .inl (fun j => iI (t_7_4_c j)))), ((t_7_q 2), .inl (K 0, 12, .inl (fun j => iI (t_7_2_c j))))]) (wr := [(t, .inr (11, oX11 t_q)), ((t_q 10), .inr (8, oX8 t_10_q t_10_x1)), ((t_10_0_q 2), .inl (K 0, 150, .inl (fun j => iI (t_10_0_2_c j)))), ((t_10_0_q 5), .inl (K 0, 144, .inl (fun j => iI (t_10_0_5_c j))))]) hK hP hD hS hA [11, 2, 3, 4, 5, 6, 7, 12, 8, 13] [0, 1, 9, 10] rfl rfl (by decide) (fun hp => va_runVN (C := RX9) (As := [.ref (t_q 1), .ref (t_q 2), .ref (t_q 7)]) (rest := []) ⟨hx, hb, hml, hown, hts⟩ (k_X9_measureFromDoors (l := l) (D := D) (K := K) (t := (t_10_q 0)) (a1 := (t_q 1)) (a2 := (t_q 2)) (a3 := (t_q 7)) (a1_q := t_1_q) (a1_x0 := t_1_x0) (a1_x1 := t_1_x1) (a1_x2 := t_1_x2) (a1_x3 := t_1_x3) (a1_x4 := t_1_x4) (a1_x5 := t_1_x5) (a1_x6 := t_1_x6) (a1_x7 := t_1_x7) (a1_x8 := t_1_x8) (t_q := t_10_0_q) (t_x0 := t_10_0_x0) (t_x4 := t_10_0_x4) (t_1_c := t_10_0_1_c) (t_3_c := t_10_0_3_c) (a2_q := t_2_q) (a2_x0 := t_2_x0) (a2_1_c := t_2_1_c) (a2_2_c := t_2_2_c) (a3_q := t_7_q) (a3_x0 := t_7_x0) (a3_x1 := t_7_x1) (a3_x6 := t_7_x6) (a3_4_c := t_7_4_c) (a3_2_c := t_7_2_c) (hi_a1 := hi_t_1) (hi_t := hi_t_10_0) (hc_t_1 := hc_t_10_0_1) (hc_t_3 := hc_t_10_0_3) (hi_a2 := hi_t_2) (hc_a2_1 := hc_t_2_1) (hc_a2_2 := hc_t_2_2) (hi_a3 := hi_t_7) (hc_a3_4 := hc_t_7_4) (hc_a3_2 := hc_t_7_2) _) ⟨va_cnB (own := RX11) 3 hts (fn_gin wd_929) rfl rfl rfl (hK.nw 132 rfl) (hts _ wd_9) (by decide +kernel) ⟨Nat.le_of_ble_eq_true rfl, Nat.le_of_ble_eq_true rfl⟩, hts _ wd_928, hts _ wp_52⟩ ⟨fn_blind, va_recv hK.1 hP (ci := 9) (q0 := 2) rfl rfl, hp⟩ rfl rfl hl.1 rfl (lv_room (Nat.le_of_ble_eq_true rfl)) dX11_leaves_70 ⟨Nat.le_of_ble_eq_true rfl, Nat.le_of_ble_eq_true rfl⟩) (fun u70 H locs hwu70 hP hD hS => ?_)
          obtain ⟨u70a, u70b⟩ := u70
          obtain ⟨hqu700, hu70_00, hu70_10, -⟩ := hwu70
          have hqu70 : (-2147483648) ≤ (u70a 0) ∧ (u70a 0) ≤ 2147483647 ∧ 0 ≤ (u70a 1) ∧ (u70a 1) ≤ 150 := hqu700
          have hu70_0 : ∀ j : Nat, (-2147483648) ≤ (u70b 0) j ∧ (u70b 0) j ≤ 2147483647 := hu70_00
          have hu70_1 : ∀ j : Nat, 0 ≤ (u70b 1) j ∧ (u70b 1) j ≤ 149 := hu70_10
          clear hqu700 hu70_00 hu70_10
          have hP : va_P D vwCl [(t, .inr (11, oX11 t_q)), ((t_q 10), .inr (8, oX8 t_10_q t_10_x1)), ((t_10_0_q 2), .inl (K 0, 150, .inl (fun j => iI (t_10_0_2_c j)))), ((t_10_0_q 5), .inl (K 0, 144, .inl (fun j => iI (t_10_0_5_c j)))), ((t_q 1), .inr (7, oX7 t_1_q t_1_x0 t_1_x1 t_1_x2 t_1_x3 t_1_x4 t_1_x5 t_1_x6 t_1_x7 t_1_x8)), ((t_10_q 0), .inr (9, oX9 t_10_0_q (u70a 0) (u70a 1))), ((t_10_0_q 1), .inl (K 0, 150, .inl (fun j => iI ((u70b 0) j)))), ((t_10_0_q 3), .inl (K 0, 150, .inl (fun j => iI ((u70b 1) j)))), ((t_q 2), .inr (5, oX5 t_2_q t_2_x0)), ((t_2_q 1), .inl (K 0, 5, .inl (fun j => iI (t_2_1_c j)))), ((t_2_q 2), .inl (K 0, 150, .inl (fun j => iI (t_2_2_c j)))), ((t_q 7), .inr (10, oX10 t_7_q t_7_x0 t_7_x1 t_7_x6)), ((t_7_q 4), .inl (K 0, 12, .inl (fun j => iI (t_7_4_c j)))), ((t_7_q 2), .inl (K 0, 12, .inl (fun j => iI (t_7_2_c j))))] H := hP
          have hD : va_D A [(t, .inr (11, oX11 t_q)), ((t_q 10), .inr (8, oX8 t_10_q t_10_x1)), ((t_10_0_q 2), .inl (K 0, 150, .inl (fun j => iI (t_10_0_2_c j)))), ((t_10_0_q 5), .inl (K 0, 144, .inl (fun j => iI (t_10_0_5_c j)))), ((t_q 1), .inr (7, oX7 t_1_q t_1_x0 t_1_x1 t_1_x2 t_1_x3 t_1_x4 t_1_x5 t_1_x6 t_1_x7 t_1_x8)), ((t_10_q 0), .inr (9, oX9 t_10_0_q (u70a 0) (u70a 1))), ((t_10_0_q 1), .inl (K 0, 150, .inl (fun j => iI ((u70b 0) j)))), ((t_10_0_q 3), .inl (K 0, 150, .inl (fun j => iI ((u70b 1) j)))), ((t_q 2), .inr (5, oX5 t_2_q t_2_x0)), ((t_2_q 1), .inl (K 0, 5, .inl (fun j => iI (t_2_1_c j)))), ((t_2_q 2), .inl (K 0, 150, .inl (fun j => iI (t_2_2_c j)))), ((t_q 7), .inr (10, oX10 t_7_q t_7_x0 t_7_x1 t_7_x6)), ((t_7_q 4), .inl (K 0, 12, .inl (fun j => iI (t_7_4_c j)))), ((t_7_q 2), .inl (K 0, 12, .inl (fun j => iI (t_7_2_c j))))] := hD
          refine lv_aload_n hx hb dX11_leaves_73 rfl (lv_at hl 0 rfl) ?_
          refine lv_iload_n hx hb dX11_leaves_74 rfl (lv_at hl 2 rfl) ?_
          refine lv_aload_n hx hb dX11_leaves_75 rfl (lv_at hl 1 rfl) ?_
          refine va_get (D := D) (own := RX11) (ci := 11) (v := .ref (t_q 2)) (C := RX11) (T := TX11) (N := 13) hx hb hts inb_X11 hown hK.1 hP 0 rfl rfl 2 (by decide) (hts _ wd_424) (fun _ h9 => h9) rfl dX11_leaves_76 ?_
          refine lv_aload_n hx hb dX11_leaves_79 rfl (lv_at hl 1 rfl) ?_
          refine va_get (D := D) (own := RX11) (ci := 11) (v := .ref (t_q 7)) (C := RX11) (T := TX11) (N := 13) hx hb hts inb_X11 hown hK.1 hP 0 rfl rfl 7 (by decide) (hts _ wd_429) (fun _ h9 => h9) rfl dX11_leaves_80 ?_
          refine fn_gov (wc := [((t_q 7), .inr (10, oX10 t_7_q t_7_x0 t_7_x1 t_7_x6)), ((t_7_q 2), .inl (K 0, 12, .inl (fun j => iI (t_7_2_c j)))), ((t_10_q 0), .inr (9, oX9 t_10_0_q (u70a 0) (u70a 1))), ((t_10_0_q 2), .inl (K 0, 150, .inl (fun j => iI (t_10_0_2_c j)))), ((t_10_0_q 3), .inl (K 0, 150, .inl (fun j => iI ((u70b 1) j)))), ((t_q 2), .inr (5, oX5 t_2_q t_2_x0)), ((t_2_q 1), .inl (K 0, 5, .inl (fun j => iI (t_2_1_c j)))), ((t_2_q 2), .inl (K 0, 150, .inl (fun j => iI (t_2_2_c j)))), ((t_7_q 4), .inl (K 0, 12, .inl (fun j => iI (t_7_4_c j)))), ((t_10_0_q 1), .inl (K 0, 150, .inl (fun j => iI ((u70b 0) j)))), ((t_10_0_q 5), .inl (K 0, 144, .inl (fun j => iI (t_10_0_5_c j))))]) (wr := [(t, .inr (11, oX11 t_q)), ((t_q 10), .inr (8, oX8 t_10_q t_10_x1)), ((t_q 1), .inr (7, oX7 t_1_q t_1_x0 t_1_x1 t_1_x2 t_1_x3 t_1_x4 t_1_x5 t_1_x6 t_1_x7 t_1_x8))]) hK hP hD hS hA [11, 13, 5, 2, 7, 8, 9, 10, 12, 6, 3] [0, 1, 4] rfl rfl (by decide) (fun hp => va_runVN (C := RX9) (As := [.int (iI p1), .ref (t_q 2), .ref (t_q 7)]) (rest := []) ⟨hx, hb, hml, hown, hts⟩ (k_X9_measureFrom (l := l) (D := D) (K := K) (t := (t_10_q 0)) (p1 := p1) (a2 := (t_q 2)) (a3 := (t_q 7)) (a3_q := t_7_q) (a3_x0 := t_7_x0) (a3_x1 := t_7_x1) (a3_x6 := t_7_x6) (a3_2_c := t_7_2_c) (t_q := t_10_0_q) (t_x0 := (u70a 0)) (t_x4 := (u70a 1)) (t_2_c := t_10_0_2_c) (t_3_c := (u70b 1)) (a2_q := t_2_q) (a2_x0 := t_2_x0) (a2_1_c := t_2_1_c) (a2_2_c := t_2_2_c) (a3_4_c := t_7_4_c) (t_1_c := (u70b 0)) (t_5_c := t_10_0_5_c) (hp1 := (by omega)) (hi_a3 := hi_t_7) (hc_a3_2 := hc_t_7_2) (hi_t := ⟨(by omega), (by omega)⟩) (hc_t_2 := hc_t_10_0_2) (hc_t_3 := hu70_1) (hi_a2 := hi_t_2) (hc_a2_1 := hc_t_2_1) (hc_a2_2 := hc_t_2_2) (hc_a3_4 := hc_t_7_4) (hc_t_1 := hu70_0) (hc_t_5 := hc_t_10_0_5) _) ⟨va_cnB (own := RX11) 3 hts (fn_gin wd_947) rfl rfl rfl (hK.nw 134 rfl) (hts _ wd_9) (by decide +kernel) ⟨Nat.le_of_ble_eq_true rfl, Nat.le_of_ble_eq_true rfl⟩, hts _ wd_946, hts _ wp_56⟩ ⟨fn_blind, va_recv hK.1 hP (ci := 9) (q0 := 5) rfl rfl, hp⟩ rfl rfl hl.1 rfl (lv_room (Nat.le_of_ble_eq_true rfl)) dX11_leaves_83 ⟨Nat.le_of_ble_eq_true rfl, Nat.le_of_ble_eq_true rfl⟩) (fun u83 H locs hwu83 hP hD hS => ?_)
          obtain ⟨u83a, u83b⟩ := u83
          obtain ⟨hqu830, hu83_00, hu83_10, hu83_20, -⟩ := hwu83
          have hqu83 : 0 ≤ (u83a 0) ∧ (u83a 0) ≤ 150 := hqu830
          have hu83_0 : ∀ j : Nat, (-2147483648) ≤ (u83b 0) j ∧ (u83b 0) j ≤ 2147483647 := hu83_00
          have hu83_1 : ∀ j : Nat, 0 ≤ (u83b 1) j ∧ (u83b 1) j ≤ 149 := hu83_10
          have hu83_2 : ∀ j : Nat, (-2147483648) ≤ (u83b 2) j ∧ (u83b 2) j ≤ 2147483647 := hu83_20
          clear hqu830 hu83_00 hu83_10 hu83_20
          have hP : va_P D vwCl [(t, .inr (11, oX11 t_q)), ((t_q 10), .inr (8, oX8 t_10_q t_10_x1)), ((t_q 1), .inr (7, oX7 t_1_q t_1_x0 t_1_x1 t_1_x2 t_1_x3 t_1_x4 t_1_x5 t_1_x6 t_1_x7 t_1_x8)), ((t_q 7), .inr (10, oX10 t_7_q t_7_x0 t_7_x1 t_7_x6)), ((t_7_q 2), .inl (K 0, 12, .inl (fun j => iI (t_7_2_c j)))), ((t_10_q 0), .inr (9, oX9 t_10_0_q (u70a 0) (u83a 0))), ((t_10_0_q 2), .inl (K 0, 150, .inl (fun j => iI ((u83b 0) j)))), ((t_10_0_q 3), .inl (K 0, 150, .inl (fun j => iI ((u83b 1) j)))), ((t_q 2), .inr (5, oX5 t_2_q t_2_x0)), ((t_2_q 1), .inl (K 0, 5, .inl (fun j => iI (t_2_1_c j)))), ((t_2_q 2), .inl (K 0, 150, .inl (fun j => iI (t_2_2_c j)))), ((t_7_q 4), .inl (K 0, 12, .inl (fun j => iI (t_7_4_c j)))), ((t_10_0_q 1), .inl (K 0, 150, .inl (fun j => iI ((u70b 0) j)))), ((t_10_0_q 5), .inl (K 0, 144, .inl (fun j => iI ((u83b 2) j))))] H := hP
          have hD : va_D A [(t, .inr (11, oX11 t_q)), ((t_q 10), .inr (8, oX8 t_10_q t_10_x1)), ((t_q 1), .inr (7, oX7 t_1_q t_1_x0 t_1_x1 t_1_x2 t_1_x3 t_1_x4 t_1_x5 t_1_x6 t_1_x7 t_1_x8)), ((t_q 7), .inr (10, oX10 t_7_q t_7_x0 t_7_x1 t_7_x6)), ((t_7_q 2), .inl (K 0, 12, .inl (fun j => iI (t_7_2_c j)))), ((t_10_q 0), .inr (9, oX9 t_10_0_q (u70a 0) (u83a 0))), ((t_10_0_q 2), .inl (K 0, 150, .inl (fun j => iI ((u83b 0) j)))), ((t_10_0_q 3), .inl (K 0, 150, .inl (fun j => iI ((u83b 1) j)))), ((t_q 2), .inr (5, oX5 t_2_q t_2_x0)), ((t_2_q 1), .inl (K 0, 5, .inl (fun j => iI (t_2_1_c j)))), ((t_2_q 2), .inl (K 0, 150, .inl (fun j => iI (t_2_2_c j)))), ((t_7_q 4), .inl (K 0, 12, .inl (fun j => iI (t_7_4_c j)))), ((t_10_0_q 1), .inl (K 0, 150, .inl (fun j => iI ((u70b 0) j)))), ((t_10_0_q 5), .inl (K 0, 144, .inl (fun j => iI ((u83b 2) j))))] := hD
          refine fn_at 86 rfl ?_
          refine lv_aload_n hx hb dX11_leaves_86 rfl (lv_at hl 0 rfl) ?_
          refine lv_iload_n hx hb dX11_leaves_87 rfl (lv_at hl 2 rfl) ?_
          refine lv_iload_n hx hb dX11_leaves_88 rfl (lv_at hl 3 rfl) ?_
          refine fn_goi (wc := [((t_10_q 0), .inr (9, oX9 t_10_0_q (u70a 0) (u83a 0))), ((t_10_0_q 5), .inl (K 0, 144, .inl (fun j => iI ((u83b 2) j))))]) (wr := [(t, .inr (11, oX11 t_q)), ((t_q 10), .inr (8, oX8 t_10_q t_10_x1)), ((t_q 1), .inr (7, oX7 t_1_q t_1_x0 t_1_x1 t_1_x2 t_1_x3 t_1_x4 t_1_x5 t_1_x6 t_1_x7 t_1_x8)), ((t_q 7), .inr (10, oX10 t_7_q t_7_x0 t_7_x1 t_7_x6)), ((t_7_q 2), .inl (K 0, 12, .inl (fun j => iI (t_7_2_c j)))), ((t_10_0_q 2), .inl (K 0, 150, .inl (fun j => iI ((u83b 0) j)))), ((t_10_0_q 3), .inl (K 0, 150, .inl (fun j => iI ((u83b 1) j)))), ((t_q 2), .inr (5, oX5 t_2_q t_2_x0)), ((t_2_q 1), .inl (K 0, 5, .inl (fun j => iI (t_2_1_c j)))), ((t_2_q 2), .inl (K 0, 150, .inl (fun j => iI (t_2_2_c j)))), ((t_7_q 4), .inl (K 0, 12, .inl (fun j => iI (t_7_4_c j)))), ((t_10_0_q 1), .inl (K 0, 150, .inl (fun j => iI ((u70b 0) j))))]) hK hP hD hS hA [5, 13] [0, 1, 2, 3, 4, 6, 7, 8, 9, 10, 11, 12] rfl rfl (by decide) (fun hp => va_runVN (C := RX9) (As := [.int (iI p1), .int (iI p2)]) (rest := []) ⟨hx, hb, hml, hown, hts⟩ (k_X9_between (l := l) (D := D) (K := K) (t := (t_10_q 0)) (p1 := p1) (p2 := p2) (t_q := t_10_0_q) (t_x0 := (u70a 0)) (t_x4 := (u83a 0)) (t_5_c := (u83b 2)) (hp1 := (by omega)) (hp2 := (by omega)) (hi_t := ⟨(by omega), (by omega)⟩) (hc_t_5 := hu83_2) _) ⟨va_cnB (own := RX11) 2 hts (fn_gin wd_952) rfl rfl rfl (hK.nw 136 rfl) (hts _ wd_9) (by decide +kernel) ⟨Nat.le_of_ble_eq_true rfl, Nat.le_of_ble_eq_true rfl⟩, hts _ wd_951, hts _ wp_57⟩ ⟨fn_blind, va_recv hK.1 hP (ci := 9) (q0 := 5) rfl rfl, hp⟩ rfl rfl hl.1 rfl (lv_room (Nat.le_of_ble_eq_true rfl)) dX11_leaves_89 ⟨Nat.le_of_ble_eq_true rfl, Nat.le_of_ble_eq_true rfl⟩) (fun r89 u89 H locs hwu89 hP hD hS => ?_)
          obtain ⟨u89a, u89b⟩ := u89
          obtain ⟨kr89, rfl, hkr89, -⟩ := hwu89
          have hP : va_P D vwCl [(t, .inr (11, oX11 t_q)), ((t_q 10), .inr (8, oX8 t_10_q t_10_x1)), ((t_q 1), .inr (7, oX7 t_1_q t_1_x0 t_1_x1 t_1_x2 t_1_x3 t_1_x4 t_1_x5 t_1_x6 t_1_x7 t_1_x8)), ((t_q 7), .inr (10, oX10 t_7_q t_7_x0 t_7_x1 t_7_x6)), ((t_7_q 2), .inl (K 0, 12, .inl (fun j => iI (t_7_2_c j)))), ((t_10_0_q 2), .inl (K 0, 150, .inl (fun j => iI ((u83b 0) j)))), ((t_10_0_q 3), .inl (K 0, 150, .inl (fun j => iI ((u83b 1) j)))), ((t_q 2), .inr (5, oX5 t_2_q t_2_x0)), ((t_2_q 1), .inl (K 0, 5, .inl (fun j => iI (t_2_1_c j)))), ((t_2_q 2), .inl (K 0, 150, .inl (fun j => iI (t_2_2_c j)))), ((t_7_q 4), .inl (K 0, 12, .inl (fun j => iI (t_7_4_c j)))), ((t_10_0_q 1), .inl (K 0, 150, .inl (fun j => iI ((u70b 0) j)))), ((t_10_q 0), .inr (9, oX9 t_10_0_q (u70a 0) (u83a 0))), ((t_10_0_q 5), .inl (K 0, 144, .inl (fun j => iI ((u83b 2) j))))] H := hP
          have hD : va_D A [(t, .inr (11, oX11 t_q)), ((t_q 10), .inr (8, oX8 t_10_q t_10_x1)), ((t_q 1), .inr (7, oX7 t_1_q t_1_x0 t_1_x1 t_1_x2 t_1_x3 t_1_x4 t_1_x5 t_1_x6 t_1_x7 t_1_x8)), ((t_q 7), .inr (10, oX10 t_7_q t_7_x0 t_7_x1 t_7_x6)), ((t_7_q 2), .inl (K 0, 12, .inl (fun j => iI (t_7_2_c j)))), ((t_10_0_q 2), .inl (K 0, 150, .inl (fun j => iI ((u83b 0) j)))), ((t_10_0_q 3), .inl (K 0, 150, .inl (fun j => iI ((u83b 1) j)))), ((t_q 2), .inr (5, oX5 t_2_q t_2_x0)), ((t_2_q 1), .inl (K 0, 5, .inl (fun j => iI (t_2_1_c j)))), ((t_2_q 2), .inl (K 0, 150, .inl (fun j => iI (t_2_2_c j)))), ((t_7_q 4), .inl (K 0, 12, .inl (fun j => iI (t_7_4_c j)))), ((t_10_0_q 1), .inl (K 0, 150, .inl (fun j => iI ((u70b 0) j)))), ((t_10_q 0), .inr (9, oX9 t_10_0_q (u70a 0) (u83a 0))), ((t_10_0_q 5), .inl (K 0, 144, .inl (fun j => iI ((u83b 2) j))))] := hD
          rw [hQ]; exact fn_iret hx hb hr hlocks rfl hP hD hS ((fun k => ([(u70a 0), (u83a 0)] : List Int).getD k 0), (fun k => ([(u70b 0), (u83b 0), (u83b 1), (u83b 2)] : List (Nat → Int)).getD k (fun _ => 0))) ⟨kr89, rfl, by omega, (by show (-2147483648) ≤ (u70a 0) ∧ (u70a 0) ≤ 2147483647 ∧ 0 ≤ (u83a 0) ∧ (u83a 0) ≤ 150; omega), (hu70_0), (hu83_0), (hu83_1), (hu83_2), trivial⟩ [0, 2, 3, 4, 1, 12, 11, 6, 7, 8, 9, 10, 5, 13] (by decide) rfl dX11_leaves_92
        · refine lv_iconst (v := iI (-1)) hx hb dX11_leaves_47 rfl ?_
          have y48_1 : (-2147483648) ≤ t_10_0_x0 ∧ t_10_0_x0 ≤ 2147483647 := hi_t_10_0.1
          have y48_2 : 0 ≤ t_10_0_x4 ∧ t_10_0_x4 ≤ 150 := hi_t_10_0.2
          rw [hQ]; exact fn_iret hx hb hr hlocks rfl hP hD hS ((fun k => ([t_10_0_x0, t_10_0_x4] : List Int).getD k 0), (fun k => ([t_10_0_1_c, t_10_0_2_c, t_10_0_3_c, t_10_0_5_c] : List (Nat → Int)).getD k (fun _ => 0))) ⟨(-1), rfl, by omega, (by show (-2147483648) ≤ t_10_0_x0 ∧ t_10_0_x0 ≤ 2147483647 ∧ 0 ≤ t_10_0_x4 ∧ t_10_0_x4 ≤ 150; omega), (hc_t_10_0_1), (hc_t_10_0_2), (hc_t_10_0_3), (hc_t_10_0_5), trivial⟩ [0, 11, 12, 13, 1, 2, 3, 4, 5, 6, 7, 8, 9, 10] (by decide) rfl dX11_leaves_48
    · refine lv_bipush (v := iI (-2)) hx hb dX11_leaves_22 (by decide) ?_
      have y24_1 : (-2147483648) ≤ t_10_0_x0 ∧ t_10_0_x0 ≤ 2147483647 := hi_t_10_0.1
      have y24_2 : 0 ≤ t_10_0_x4 ∧ t_10_0_x4 ≤ 150 := hi_t_10_0.2
      rw [hQ]; exact fn_iret hx hb hr hlocks rfl hP hD hS ((fun k => ([t_10_0_x0, t_10_0_x4] : List Int).getD k 0), (fun k => ([t_10_0_1_c, t_10_0_2_c, t_10_0_3_c, t_10_0_5_c] : List (Nat → Int)).getD k (fun _ => 0))) ⟨(-2), rfl, by omega, (by show (-2147483648) ≤ t_10_0_x0 ∧ t_10_0_x0 ≤ 2147483647 ∧ 0 ≤ t_10_0_x4 ∧ t_10_0_x4 ≤ 150; omega), (hc_t_10_0_1), (hc_t_10_0_2), (hc_t_10_0_3), (hc_t_10_0_5), trivial⟩ [0, 13, 1, 2, 3, 4, 5, 6, 7, 8, 9, 10, 11, 12] (by decide) rfl dX11_leaves_24
