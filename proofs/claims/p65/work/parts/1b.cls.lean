theorem wd_357 : Cond.fieldLink "FootNotes$Precedence" 27 "FootNotes$Precedence" "books" "I" ∈ fn_big := fn_tb (fn_l2 (List.mem_of_getElem? (i := 117) (by decide +kernel))) (by decide +kernel)
theorem wd_1054 : Cond.code ⟨"FootNotes$Precedence", "swap", "(II)V"⟩ prog_4_method_6_code 4 (Option.none : Option Jvm.ClassFile.FieldType) ∈ fn_big := fn_tb (fn_l5 (List.mem_of_getElem? (i := 94) (by decide +kernel))) (by decide +kernel)
theorem wd_10 : Cond.initialized "FootNotes$Precedence" ∈ fn_big := fn_tb (fn_l1 (List.mem_of_getElem? (i := 10) (by decide +kernel))) (by decide +kernel)
theorem wd_1051 : Cond.methodLink "FootNotes$Precedence" 71 ⟨"FootNotes$Precedence", "swap", "(II)V"⟩ ∈ fn_big := fn_tb (fn_l5 (List.mem_of_getElem? (i := 91) (by decide +kernel))) (by decide +kernel)
theorem wd_1053 : Cond.instanceMethod ⟨"FootNotes$Precedence", "swap", "(II)V"⟩ ∈ fn_big := fn_tb (fn_l5 (List.mem_of_getElem? (i := 93) (by decide +kernel))) (by decide +kernel)
theorem wp_75 : Cond.selects "FootNotes$Precedence" ⟨"FootNotes$Precedence", "swap", "(II)V"⟩ ⟨"FootNotes$Precedence", "swap", "(II)V"⟩ ∈ fn_big := fn_sel (q := (⟨"FootNotes$Precedence", "swap", "(II)V"⟩, 6)) 75 (by decide +kernel) (by decide +kernel)
theorem dX2_moveToNextOrder_91 : decode cX2_moveToNextOrder 91 = .ok (.iload_n 3, 1) := by decide +kernel
theorem dX2_moveToNextOrder_92 : decode cX2_moveToNextOrder 92 = .ok (.iload 4, 2) := by decide +kernel
theorem dX2_moveToNextOrder_94 : decode cX2_moveToNextOrder 94 = .ok (.if_icmp .ge 19, 3) := by decide +kernel
theorem dX2_moveToNextOrder_113 : decode cX2_moveToNextOrder 113 = .ok (.iconst 1, 1) := by decide +kernel
theorem dX2_moveToNextOrder_114 : decode cX2_moveToNextOrder 114 = .ok (.ireturn, 1) := by decide +kernel
theorem dX2_moveToNextOrder_97 : decode cX2_moveToNextOrder 97 = .ok (.aload_n 0, 1) := by decide +kernel
theorem dX2_moveToNextOrder_98 : decode cX2_moveToNextOrder 98 = .ok (.iload_n 3, 1) := by decide +kernel
theorem dX2_moveToNextOrder_99 : decode cX2_moveToNextOrder 99 = .ok (.iload 4, 2) := by decide +kernel
theorem dX2_moveToNextOrder_101 : decode cX2_moveToNextOrder 101 = .ok (.invokevirtual 71, 3) := by decide +kernel
theorem dX2_moveToNextOrder_104 : decode cX2_moveToNextOrder 104 = .ok (.iinc 3 1, 3) := by decide +kernel
theorem dX2_moveToNextOrder_107 : decode cX2_moveToNextOrder 107 = .ok (.iinc 4 (-1), 3) := by decide +kernel
theorem dX2_moveToNextOrder_110 : decode cX2_moveToNextOrder 110 = .ok (.goto (-19), 3) := by decide +kernel
theorem dX2_moveToNextOrder_73 : decode cX2_moveToNextOrder 73 = .ok (.aload_n 0, 1) := by decide +kernel
theorem dX2_moveToNextOrder_74 : decode cX2_moveToNextOrder 74 = .ok (.iload_n 1, 1) := by decide +kernel
theorem dX2_moveToNextOrder_75 : decode cX2_moveToNextOrder 75 = .ok (.iload_n 2, 1) := by decide +kernel
theorem dX2_moveToNextOrder_76 : decode cX2_moveToNextOrder 76 = .ok (.invokevirtual 71, 3) := by decide +kernel
theorem dX2_moveToNextOrder_79 : decode cX2_moveToNextOrder 79 = .ok (.iload_n 1, 1) := by decide +kernel
theorem dX2_moveToNextOrder_80 : decode cX2_moveToNextOrder 80 = .ok (.iconst 1, 1) := by decide +kernel
theorem dX2_moveToNextOrder_81 : decode cX2_moveToNextOrder 81 = .ok (.iadd, 1) := by decide +kernel
theorem dX2_moveToNextOrder_82 : decode cX2_moveToNextOrder 82 = .ok (.istore_n 3, 1) := by decide +kernel
theorem dX2_moveToNextOrder_83 : decode cX2_moveToNextOrder 83 = .ok (.aload_n 0, 1) := by decide +kernel
theorem dX2_moveToNextOrder_84 : decode cX2_moveToNextOrder 84 = .ok (.getfield 27, 3) := by decide +kernel
theorem dX2_moveToNextOrder_87 : decode cX2_moveToNextOrder 87 = .ok (.iconst 1, 1) := by decide +kernel
theorem dX2_moveToNextOrder_88 : decode cX2_moveToNextOrder 88 = .ok (.isub, 1) := by decide +kernel
theorem dX2_moveToNextOrder_89 : decode cX2_moveToNextOrder 89 = .ok (.istore 4, 2) := by decide +kernel
theorem dX2_moveToNextOrder_47 : decode cX2_moveToNextOrder 47 = .ok (.iload_n 2, 1) := by decide +kernel
theorem dX2_moveToNextOrder_48 : decode cX2_moveToNextOrder 48 = .ok (.iload_n 1, 1) := by decide +kernel
theorem dX2_moveToNextOrder_49 : decode cX2_moveToNextOrder 49 = .ok (.if_icmp .le 24, 3) := by decide +kernel
theorem dX2_moveToNextOrder_52 : decode cX2_moveToNextOrder 52 = .ok (.aload_n 0, 1) := by decide +kernel
theorem dX2_moveToNextOrder_53 : decode cX2_moveToNextOrder 53 = .ok (.getfield 15, 3) := by decide +kernel
theorem dX2_moveToNextOrder_56 : decode cX2_moveToNextOrder 56 = .ok (.iload_n 2, 1) := by decide +kernel
theorem dX2_moveToNextOrder_57 : decode cX2_moveToNextOrder 57 = .ok (.iaload, 1) := by decide +kernel
theorem dX2_moveToNextOrder_58 : decode cX2_moveToNextOrder 58 = .ok (.aload_n 0, 1) := by decide +kernel
theorem dX2_moveToNextOrder_59 : decode cX2_moveToNextOrder 59 = .ok (.getfield 15, 3) := by decide +kernel
theorem dX2_moveToNextOrder_62 : decode cX2_moveToNextOrder 62 = .ok (.iload_n 1, 1) := by decide +kernel
theorem dX2_moveToNextOrder_63 : decode cX2_moveToNextOrder 63 = .ok (.iaload, 1) := by decide +kernel
theorem dX2_moveToNextOrder_64 : decode cX2_moveToNextOrder 64 = .ok (.if_icmp .ge 9, 3) := by decide +kernel
theorem dX2_moveToNextOrder_67 : decode cX2_moveToNextOrder 67 = .ok (.iinc 2 (-1), 3) := by decide +kernel
theorem dX2_moveToNextOrder_70 : decode cX2_moveToNextOrder 70 = .ok (.goto (-23), 3) := by decide +kernel
theorem dX2_moveToNextOrder_34 : decode cX2_moveToNextOrder 34 = .ok (.iload_n 1, 1) := by decide +kernel
theorem dX2_moveToNextOrder_35 : decode cX2_moveToNextOrder 35 = .ok (.ifCond .ge 5, 3) := by decide +kernel
theorem dX2_moveToNextOrder_40 : decode cX2_moveToNextOrder 40 = .ok (.aload_n 0, 1) := by decide +kernel
theorem dX2_moveToNextOrder_41 : decode cX2_moveToNextOrder 41 = .ok (.getfield 27, 3) := by decide +kernel
theorem dX2_moveToNextOrder_44 : decode cX2_moveToNextOrder 44 = .ok (.iconst 1, 1) := by decide +kernel
theorem dX2_moveToNextOrder_45 : decode cX2_moveToNextOrder 45 = .ok (.isub, 1) := by decide +kernel
theorem dX2_moveToNextOrder_46 : decode cX2_moveToNextOrder 46 = .ok (.istore_n 2, 1) := by decide +kernel
theorem dX2_moveToNextOrder_38 : decode cX2_moveToNextOrder 38 = .ok (.iconst 0, 1) := by decide +kernel
theorem dX2_moveToNextOrder_39 : decode cX2_moveToNextOrder 39 = .ok (.ireturn, 1) := by decide +kernel
theorem dX2_moveToNextOrder_7 : decode cX2_moveToNextOrder 7 = .ok (.iload_n 1, 1) := by decide +kernel
theorem dX2_moveToNextOrder_8 : decode cX2_moveToNextOrder 8 = .ok (.ifCond .lt 26, 3) := by decide +kernel
theorem dX2_moveToNextOrder_11 : decode cX2_moveToNextOrder 11 = .ok (.aload_n 0, 1) := by decide +kernel
theorem dX2_moveToNextOrder_12 : decode cX2_moveToNextOrder 12 = .ok (.getfield 15, 3) := by decide +kernel
theorem dX2_moveToNextOrder_15 : decode cX2_moveToNextOrder 15 = .ok (.iload_n 1, 1) := by decide +kernel
theorem dX2_moveToNextOrder_16 : decode cX2_moveToNextOrder 16 = .ok (.iaload, 1) := by decide +kernel
theorem dX2_moveToNextOrder_17 : decode cX2_moveToNextOrder 17 = .ok (.aload_n 0, 1) := by decide +kernel
theorem dX2_moveToNextOrder_18 : decode cX2_moveToNextOrder 18 = .ok (.getfield 15, 3) := by decide +kernel
theorem dX2_moveToNextOrder_21 : decode cX2_moveToNextOrder 21 = .ok (.iload_n 1, 1) := by decide +kernel
theorem dX2_moveToNextOrder_22 : decode cX2_moveToNextOrder 22 = .ok (.iconst 1, 1) := by decide +kernel
theorem dX2_moveToNextOrder_23 : decode cX2_moveToNextOrder 23 = .ok (.iadd, 1) := by decide +kernel
theorem dX2_moveToNextOrder_24 : decode cX2_moveToNextOrder 24 = .ok (.iaload, 1) := by decide +kernel
theorem dX2_moveToNextOrder_25 : decode cX2_moveToNextOrder 25 = .ok (.if_icmp .le 9, 3) := by decide +kernel
theorem dX2_moveToNextOrder_28 : decode cX2_moveToNextOrder 28 = .ok (.iinc 1 (-1), 3) := by decide +kernel
theorem dX2_moveToNextOrder_31 : decode cX2_moveToNextOrder 31 = .ok (.goto (-24), 3) := by decide +kernel
theorem dX2_moveToNextOrder_0 : decode cX2_moveToNextOrder 0 = .ok (.aload_n 0, 1) := by decide +kernel
theorem dX2_moveToNextOrder_1 : decode cX2_moveToNextOrder 1 = .ok (.getfield 27, 3) := by decide +kernel
theorem dX2_moveToNextOrder_4 : decode cX2_moveToNextOrder 4 = .ok (.iconst 2, 1) := by decide +kernel
theorem dX2_moveToNextOrder_5 : decode cX2_moveToNextOrder 5 = .ok (.isub, 1) := by decide +kernel
theorem dX2_moveToNextOrder_6 : decode cX2_moveToNextOrder 6 = .ok (.istore_n 1, 1) := by decide +kernel
set_option maxHeartbeats 4000000 in
set_option maxRecDepth 100000 in
theorem k_X2_moveToNextOrder (l : Launch) (D : va_G) (K : Nat → ClassId) (t : Nat) (t_q : Nat → Nat) (t_x0 t_x4 t_x5 : Int) (t_2_c : Nat → Int) (hi_t : bX2 t_x0 t_x4 t_x5) (hc_t_2 : ∀ j : Nat, 0 ≤ t_2_c j ∧ t_2_c j ≤ 4) : fn_CI (S := (Nat → Int) × (Nat → Nat → Int)) l D K yX2_moveToNextOrder (fn_ws yX2_moveToNextOrder cX2_moveToNextOrder 5 (some .boolean)) ({ frames := 8, cells := 0, slots := 0, locals := 200 } : Room) [.ref t] [(t, .inr (2, oX2 t_q t_x0 t_x4 t_x5)), ((t_q 2), .inl (K 0, 5, .inl (fun j => iI (t_2_c j))))] (fun r u => ∃ k : Int, r = iI k ∧ (0 ≤ k ∧ k ≤ 1) ∧ (∀ j : Nat, 0 ≤ (u.2 0) j ∧ (u.2 0) j ≤ 4) ∧ True) (fun u => [(t, .inr (2, oX2 t_q t_x0 t_x4 t_x5)), ((t_q 2), .inl (K 0, 5, .inl (fun j => iI ((u.2 0) j))))]) 0 0 := by
  refine g_inI (cc := cX2_moveToNextOrder) (maxL := 5) (ret := (some .boolean)) (by decide) rfl (Nat.le_of_ble_eq_true rfl) ?_
  intro p e s m below meth c A ls ag Q B hA hP hD hS hl hQ
  obtain ⟨hx, hb, hr, hml, hts, hown, hlocks, hin, hK⟩ := B
  have hown : s.vm.findClass RX2 = some m.cls := hown
  have hts := fun w h => hts w (List.mem_cons_of_mem _ h)
  have J91 : ∀ (n : Nat) (x91_1 : Int) (x91_2 : Int) (x91_3 : Int) (x91_4 : Int) (c91_t_2 : Nat → Int) (H : Heap) (locs : List Loc) (ls : Array Slot), (x91_4 - (-1)).toNat < n → (0 ≤ x91_1 ∧ x91_1 ≤ 3 ∧ 0 ≤ x91_2 ∧ x91_2 ≤ 4 ∧ 1 ≤ x91_3 ∧ x91_3 ≤ 4 ∧ (-1) ≤ x91_4 ∧ x91_4 ≤ 4) → (∀ j : Nat, 0 ≤ c91_t_2 j ∧ c91_t_2 j ≤ 4) → va_P D vwCl [(t, .inr (2, oX2 t_q t_x0 t_x4 t_x5)), ((t_q 2), .inl (K 0, 5, .inl (fun j => iI (c91_t_2 j))))] H → va_D A [(t, .inr (2, oX2 t_q t_x0 t_x4 t_x5)), ((t_q 2), .inl (K 0, 5, .inl (fun j => iI (c91_t_2 j))))] → va_S A s.heap H locs → lv_has ls 5 [(0, .ref t), (1, .int (iI x91_1)), (2, .int (iI x91_2)), (3, .int (iI x91_3)), (4, .int (iI x91_4))] → W p l e ({ frames := 8, cells := 0, slots := 0, locals := 200 } : Room) s m ag below meth c H locs 0 0 Q (F0 m 91 ls []) := by
    intro n
    induction n with
    | zero =>
      intro x91_1 x91_2 x91_3 x91_4 c91_t_2 H locs ls hm91 hf91 hc91_t_2 hP hD hS hl
      exact absurd hm91 (Nat.not_lt_zero _)
    | succ n ih91 =>
      intro x91_1 x91_2 x91_3 x91_4 c91_t_2 H locs ls hm91 hf91 hc91_t_2 hP hD hS hl
      refine lv_iload_n hx hb dX2_moveToNextOrder_91 rfl (lv_at hl 3 rfl) ?_
      refine lv_iload hx hb dX2_moveToNextOrder_92 (lv_at hl 4 rfl) ?_
      refine g_icmp_ge (tgt := 113) hx hb (by omega) (by omega) dX2_moveToNextOrder_94 (by decide) (fun c94 => ?_) (fun c94 => ?_)
      · refine lv_iconst (v := iI 1) hx hb dX2_moveToNextOrder_113 rfl ?_
        rw [hQ]; exact fn_iret hx hb hr hlocks (iI_nz (by omega)) hP hD hS ((fun _ => 0), (fun k => ([c91_t_2] : List (Nat → Int)).getD k (fun _ => 0))) ⟨1, rfl, by omega, (hc91_t_2), trivial⟩ [0, 1] (by decide) rfl dX2_moveToNextOrder_114
      · refine lv_aload_n hx hb dX2_moveToNextOrder_97 rfl (lv_at hl 0 rfl) ?_
        refine lv_iload_n hx hb dX2_moveToNextOrder_98 rfl (lv_at hl 3 rfl) ?_
        refine lv_iload hx hb dX2_moveToNextOrder_99 (lv_at hl 4 rfl) ?_
        refine fn_gov (wc := [(t, .inr (2, oX2 t_q t_x0 t_x4 t_x5)), ((t_q 2), .inl (K 0, 5, .inl (fun j => iI (c91_t_2 j))))]) (wr := []) hK hP hD hS hA [0, 1] [] rfl rfl (by decide) (fun hp => va_runV (C := RX2) (As := [.int (iI x91_3), .int (iI x91_4)]) (rest := []) ⟨hx, hb, hml, hown, hts⟩ (k_X2_swap (l := l) (D := D) (K := K) (t := t) (p1 := x91_3) (p2 := x91_4) (t_q := t_q) (t_x0 := t_x0) (t_x4 := t_x4) (t_x5 := t_x5) (t_2_c := c91_t_2) (hp1 := (by omega)) (hp2 := (by omega)) (hi_t := hi_t) (hc_t_2 := hc91_t_2) _) (cwV 2 hts (fn_ginV (fn_gin wd_1054) wd_1051 wd_1053 wp_75 wd_10) rfl rfl rfl (by decide +kernel) ⟨Nat.le_of_ble_eq_true rfl, Nat.le_of_ble_eq_true rfl⟩) ⟨fn_blind, va_recv hK.1 hP (ci := 2) (q0 := 0) rfl rfl, hp⟩ rfl rfl hl.1 rfl (lv_room (Nat.le_of_ble_eq_true rfl)) dX2_moveToNextOrder_101 ⟨Nat.le_of_ble_eq_true rfl, Nat.le_of_ble_eq_true rfl⟩) (fun u101 H locs hwu101 hP hD hS => ?_)
        obtain ⟨u101a, u101b⟩ := u101
        obtain ⟨hu101_00, -⟩ := hwu101
        have hu101_0 : ∀ j : Nat, 0 ≤ (u101b 0) j ∧ (u101b 0) j ≤ 4 := hu101_00
        clear hu101_00
        have hP : va_P D vwCl [(t, .inr (2, oX2 t_q t_x0 t_x4 t_x5)), ((t_q 2), .inl (K 0, 5, .inl (fun j => iI ((u101b 0) j))))] H := hP
        have hD : va_D A [(t, .inr (2, oX2 t_q t_x0 t_x4 t_x5)), ((t_q 2), .inl (K 0, 5, .inl (fun j => iI ((u101b 0) j))))] := hD
        refine lv_iinc (v := iI (x91_3 + 1)) (lv' := [(3, .int (iI (x91_3 + 1))), (0, .ref t), (1, .int (iI x91_1)), (2, .int (iI x91_2)), (4, .int (iI x91_4))]) hx hb dX2_moveToNextOrder_104 hl (k := 3) rfl (iI_add _ _) (by decide) rfl (fun ls hl => ?_)
        refine lv_iinc (v := iI (x91_4 + (-1))) (lv' := [(4, .int (iI (x91_4 + (-1)))), (3, .int (iI (x91_3 + 1))), (0, .ref t), (1, .int (iI x91_1)), (2, .int (iI x91_2))]) hx hb dX2_moveToNextOrder_107 hl (k := 4) rfl (iI_add _ _) (by decide) rfl (fun ls hl => ?_)
        refine lv_goto (tgt := 91) hx hb dX2_moveToNextOrder_110 (by decide) ?_
        exact ih91 x91_1 x91_2 (x91_3 + 1) (x91_4 + (-1)) (u101b 0) _ _ ls (by omega) (by omega) hu101_0 (hP.sub [0, 1] rfl) (hD.sub [0, 1] (by decide) rfl) hS (lv_sub hl [2, 3, 4, 1, 0] rfl)
  have J73 : ∀ (x73_1 : Int) (x73_2 : Int) (H : Heap) (locs : List Loc) (ls : Array Slot), (0 ≤ x73_1 ∧ x73_1 ≤ 3 ∧ 0 ≤ x73_2 ∧ x73_2 ≤ 4 ∧ x73_1 ≤ x73_2 ∧ 0 ≤ x73_2) → va_P D vwCl [(t, .inr (2, oX2 t_q t_x0 t_x4 t_x5)), ((t_q 2), .inl (K 0, 5, .inl (fun j => iI (t_2_c j))))] H → va_D A [(t, .inr (2, oX2 t_q t_x0 t_x4 t_x5)), ((t_q 2), .inl (K 0, 5, .inl (fun j => iI (t_2_c j))))] → va_S A s.heap H locs → lv_has ls 5 [(0, .ref t), (1, .int (iI x73_1)), (2, .int (iI x73_2))] → W p l e ({ frames := 8, cells := 0, slots := 0, locals := 200 } : Room) s m ag below meth c H locs 0 0 Q (F0 m 73 ls []) := by
    intro x73_1 x73_2 H locs ls hf73 hP hD hS hl
    refine lv_aload_n hx hb dX2_moveToNextOrder_73 rfl (lv_at hl 0 rfl) ?_
    refine lv_iload_n hx hb dX2_moveToNextOrder_74 rfl (lv_at hl 1 rfl) ?_
    refine lv_iload_n hx hb dX2_moveToNextOrder_75 rfl (lv_at hl 2 rfl) ?_
    refine fn_gov (wc := [(t, .inr (2, oX2 t_q t_x0 t_x4 t_x5)), ((t_q 2), .inl (K 0, 5, .inl (fun j => iI (t_2_c j))))]) (wr := []) hK hP hD hS hA [0, 1] [] rfl rfl (by decide) (fun hp => va_runV (C := RX2) (As := [.int (iI x73_1), .int (iI x73_2)]) (rest := []) ⟨hx, hb, hml, hown, hts⟩ (k_X2_swap (l := l) (D := D) (K := K) (t := t) (p1 := x73_1) (p2 := x73_2) (t_q := t_q) (t_x0 := t_x0) (t_x4 := t_x4) (t_x5 := t_x5) (t_2_c := t_2_c) (hp1 := (by omega)) (hp2 := (by omega)) (hi_t := hi_t) (hc_t_2 := hc_t_2) _) (cwV 2 hts (fn_ginV (fn_gin wd_1054) wd_1051 wd_1053 wp_75 wd_10) rfl rfl rfl (by decide +kernel) ⟨Nat.le_of_ble_eq_true rfl, Nat.le_of_ble_eq_true rfl⟩) ⟨fn_blind, va_recv hK.1 hP (ci := 2) (q0 := 0) rfl rfl, hp⟩ rfl rfl hl.1 rfl (lv_room (Nat.le_of_ble_eq_true rfl)) dX2_moveToNextOrder_76 ⟨Nat.le_of_ble_eq_true rfl, Nat.le_of_ble_eq_true rfl⟩) (fun u76 H locs hwu76 hP hD hS => ?_)
    obtain ⟨u76a, u76b⟩ := u76
    obtain ⟨hu76_00, -⟩ := hwu76
    have hu76_0 : ∀ j : Nat, 0 ≤ (u76b 0) j ∧ (u76b 0) j ≤ 4 := hu76_00
    clear hu76_00
    have hP : va_P D vwCl [(t, .inr (2, oX2 t_q t_x0 t_x4 t_x5)), ((t_q 2), .inl (K 0, 5, .inl (fun j => iI ((u76b 0) j))))] H := hP
    have hD : va_D A [(t, .inr (2, oX2 t_q t_x0 t_x4 t_x5)), ((t_q 2), .inl (K 0, 5, .inl (fun j => iI ((u76b 0) j))))] := hD
    refine lv_iload_n hx hb dX2_moveToNextOrder_79 rfl (lv_at hl 1 rfl) ?_
    refine lv_iconst (v := iI 1) hx hb dX2_moveToNextOrder_80 rfl ?_
    refine g_iadd hx hb dX2_moveToNextOrder_81 ?_
    refine lv_istore_n (lv' := [(3, .int (iI (x73_1 + 1))), (0, .ref t), (1, .int (iI x73_1)), (2, .int (iI x73_2))]) hx hb dX2_moveToNextOrder_82 rfl hl (by decide) rfl (fun ls hl => ?_)
    refine lv_aload_n hx hb dX2_moveToNextOrder_83 rfl (lv_at hl 1 rfl) ?_
    refine va_get (D := D) (own := RX2) (ci := 2) (v := .int (iI t_x0)) (C := RX2) (T := TX2) (N := 6) hx hb hts inb_X2 hown hK.1 hP 0 rfl rfl 0 (by decide) (hts _ wd_357) (fun _ h9 => h9) rfl dX2_moveToNextOrder_84 ?_
    have y84_1 : 0 ≤ t_x0 ∧ t_x0 ≤ 5 := hi_t.1
    refine lv_iconst (v := iI 1) hx hb dX2_moveToNextOrder_87 rfl ?_
    refine g_isub hx hb dX2_moveToNextOrder_88 ?_
    refine lv_istore (lv' := [(4, .int (iI (t_x0 - 1))), (3, .int (iI (x73_1 + 1))), (0, .ref t), (1, .int (iI x73_1)), (2, .int (iI x73_2))]) hx hb dX2_moveToNextOrder_89 hl (by decide) rfl (fun ls hl => ?_)
    exact J91 _ x73_1 x73_2 (x73_1 + 1) (t_x0 - 1) (u76b 0) _ _ ls (Nat.lt_succ_self _) (by omega) hu76_0 (hP.sub [0, 1] rfl) (hD.sub [0, 1] (by decide) rfl) hS (lv_sub hl [2, 3, 4, 1, 0] rfl)
  have J47 : ∀ (n : Nat) (x47_1 : Int) (x47_2 : Int) (H : Heap) (locs : List Loc) (ls : Array Slot), (x47_2 - (-1)).toNat < n → (0 ≤ x47_1 ∧ x47_1 ≤ 3 ∧ (-1) ≤ x47_2 ∧ x47_2 ≤ 4 ∧ x47_1 ≤ x47_2) → va_P D vwCl [(t, .inr (2, oX2 t_q t_x0 t_x4 t_x5)), ((t_q 2), .inl (K 0, 5, .inl (fun j => iI (t_2_c j))))] H → va_D A [(t, .inr (2, oX2 t_q t_x0 t_x4 t_x5)), ((t_q 2), .inl (K 0, 5, .inl (fun j => iI (t_2_c j))))] → va_S A s.heap H locs → lv_has ls 5 [(0, .ref t), (1, .int (iI x47_1)), (2, .int (iI x47_2))] → W p l e ({ frames := 8, cells := 0, slots := 0, locals := 200 } : Room) s m ag below meth c H locs 0 0 Q (F0 m 47 ls []) := by
    intro n
    induction n with
    | zero =>
      intro x47_1 x47_2 H locs ls hm47 hf47 hP hD hS hl
      exact absurd hm47 (Nat.not_lt_zero _)
    | succ n ih47 =>
      intro x47_1 x47_2 H locs ls hm47 hf47 hP hD hS hl
      refine lv_iload_n hx hb dX2_moveToNextOrder_47 rfl (lv_at hl 2 rfl) ?_
      refine lv_iload_n hx hb dX2_moveToNextOrder_48 rfl (lv_at hl 1 rfl) ?_
      refine g_icmp_le (tgt := 73) hx hb (by omega) (by omega) dX2_moveToNextOrder_49 (by decide) (fun c49 => ?_) (fun c49 => ?_)
      · exact J73 x47_1 x47_2 _ _ ls (by omega) (hP.sub [0, 1] rfl) (hD.sub [0, 1] (by decide) rfl) hS (lv_sub hl [0, 1, 2] rfl)
      · refine lv_aload_n hx hb dX2_moveToNextOrder_52 rfl (lv_at hl 0 rfl) ?_
        refine va_get (D := D) (own := RX2) (ci := 2) (v := .ref (t_q 2)) (C := RX2) (T := TX2) (N := 6) hx hb hts inb_X2 hown hK.1 hP 0 rfl rfl 2 (by decide) (hts _ wd_359) (fun _ h9 => h9) rfl dX2_moveToNextOrder_53 ?_
        refine lv_iload_n hx hb dX2_moveToNextOrder_56 rfl (lv_at hl 2 rfl) ?_
        refine g_iald hx hb hK.1 hP 1 0 rfl rfl (by omega) (by omega) (by decide) dX2_moveToNextOrder_57 ?_
        have y57 : 0 ≤ (t_2_c x47_2.toNat) ∧ (t_2_c x47_2.toNat) ≤ 4 := hc_t_2 x47_2.toNat
        refine lv_aload_n hx hb dX2_moveToNextOrder_58 rfl (lv_at hl 0 rfl) ?_
        refine va_get (D := D) (own := RX2) (ci := 2) (v := .ref (t_q 2)) (C := RX2) (T := TX2) (N := 6) hx hb hts inb_X2 hown hK.1 hP 0 rfl rfl 2 (by decide) (hts _ wd_359) (fun _ h9 => h9) rfl dX2_moveToNextOrder_59 ?_
        refine lv_iload_n hx hb dX2_moveToNextOrder_62 rfl (lv_at hl 1 rfl) ?_
        refine g_iald hx hb hK.1 hP 1 0 rfl rfl (by omega) (by omega) (by decide) dX2_moveToNextOrder_63 ?_
        have y63 : 0 ≤ (t_2_c x47_1.toNat) ∧ (t_2_c x47_1.toNat) ≤ 4 := hc_t_2 x47_1.toNat
        refine g_icmp_ge (tgt := 73) hx hb (by omega) (by omega) dX2_moveToNextOrder_64 (by decide) (fun c64 => ?_) (fun c64 => ?_)
        · exact J73 x47_1 x47_2 _ _ ls (by omega) (hP.sub [0, 1] rfl) (hD.sub [0, 1] (by decide) rfl) hS (lv_sub hl [0, 1, 2] rfl)
        · refine lv_iinc (v := iI (x47_2 + (-1))) (lv' := [(2, .int (iI (x47_2 + (-1)))), (0, .ref t), (1, .int (iI x47_1))]) hx hb dX2_moveToNextOrder_67 hl (k := 2) rfl (iI_add _ _) (by decide) rfl (fun ls hl => ?_)
          refine lv_goto (tgt := 47) hx hb dX2_moveToNextOrder_70 (by decide) ?_
          exact ih47 x47_1 (x47_2 + (-1)) _ _ ls (by omega) (by omega) (hP.sub [0, 1] rfl) (hD.sub [0, 1] (by decide) rfl) hS (lv_sub hl [1, 2, 0] rfl)
  have J34 : ∀ (x34_1 : Int) (H : Heap) (locs : List Loc) (ls : Array Slot), ((-2) ≤ x34_1 ∧ x34_1 ≤ 3 ∧ x34_1 ≤ t_x0 - 2) → va_P D vwCl [(t, .inr (2, oX2 t_q t_x0 t_x4 t_x5)), ((t_q 2), .inl (K 0, 5, .inl (fun j => iI (t_2_c j))))] H → va_D A [(t, .inr (2, oX2 t_q t_x0 t_x4 t_x5)), ((t_q 2), .inl (K 0, 5, .inl (fun j => iI (t_2_c j))))] → va_S A s.heap H locs → lv_has ls 5 [(0, .ref t), (1, .int (iI x34_1))] → W p l e ({ frames := 8, cells := 0, slots := 0, locals := 200 } : Room) s m ag below meth c H locs 0 0 Q (F0 m 34 ls []) := by
    intro x34_1 H locs ls hf34 hP hD hS hl
    refine lv_iload_n hx hb dX2_moveToNextOrder_34 rfl (lv_at hl 1 rfl) ?_
    refine g_if_ge (tgt := 40) hx hb (by omega) dX2_moveToNextOrder_35 (by decide) (fun c35 => ?_) (fun c35 => ?_)
    · refine lv_aload_n hx hb dX2_moveToNextOrder_40 rfl (lv_at hl 0 rfl) ?_
      refine va_get (D := D) (own := RX2) (ci := 2) (v := .int (iI t_x0)) (C := RX2) (T := TX2) (N := 6) hx hb hts inb_X2 hown hK.1 hP 0 rfl rfl 0 (by decide) (hts _ wd_357) (fun _ h9 => h9) rfl dX2_moveToNextOrder_41 ?_
      have y41_1 : 0 ≤ t_x0 ∧ t_x0 ≤ 5 := hi_t.1
      refine lv_iconst (v := iI 1) hx hb dX2_moveToNextOrder_44 rfl ?_
      refine g_isub hx hb dX2_moveToNextOrder_45 ?_
      refine lv_istore_n (lv' := [(2, .int (iI (t_x0 - 1))), (0, .ref t), (1, .int (iI x34_1))]) hx hb dX2_moveToNextOrder_46 rfl hl (by decide) rfl (fun ls hl => ?_)
      exact J47 _ x34_1 (t_x0 - 1) _ _ ls (Nat.lt_succ_self _) (by omega) (hP.sub [0, 1] rfl) (hD.sub [0, 1] (by decide) rfl) hS (lv_sub hl [1, 2, 0] rfl)
    · refine lv_iconst (v := iI 0) hx hb dX2_moveToNextOrder_38 rfl ?_
      rw [hQ]; exact fn_iret hx hb hr hlocks (iI_nz (by omega)) hP hD hS ((fun _ => 0), (fun k => ([t_2_c] : List (Nat → Int)).getD k (fun _ => 0))) ⟨0, rfl, by omega, (hc_t_2), trivial⟩ [0, 1] (by decide) rfl dX2_moveToNextOrder_39
  have J7 : ∀ (n : Nat) (x7_1 : Int) (H : Heap) (locs : List Loc) (ls : Array Slot), (x7_1 - (-2)).toNat < n → ((-2) ≤ x7_1 ∧ x7_1 ≤ 3 ∧ x7_1 ≤ t_x0 - 2) → va_P D vwCl [(t, .inr (2, oX2 t_q t_x0 t_x4 t_x5)), ((t_q 2), .inl (K 0, 5, .inl (fun j => iI (t_2_c j))))] H → va_D A [(t, .inr (2, oX2 t_q t_x0 t_x4 t_x5)), ((t_q 2), .inl (K 0, 5, .inl (fun j => iI (t_2_c j))))] → va_S A s.heap H locs → lv_has ls 5 [(0, .ref t), (1, .int (iI x7_1))] → W p l e ({ frames := 8, cells := 0, slots := 0, locals := 200 } : Room) s m ag below meth c H locs 0 0 Q (F0 m 7 ls []) := by
    intro n
    induction n with
    | zero =>
      intro x7_1 H locs ls hm7 hf7 hP hD hS hl
      exact absurd hm7 (Nat.not_lt_zero _)
    | succ n ih7 =>
      intro x7_1 H locs ls hm7 hf7 hP hD hS hl
      refine lv_iload_n hx hb dX2_moveToNextOrder_7 rfl (lv_at hl 1 rfl) ?_
      refine g_if_lt (tgt := 34) hx hb (by omega) dX2_moveToNextOrder_8 (by decide) (fun c8 => ?_) (fun c8 => ?_)
      · exact J34 x7_1 _ _ ls (by omega) (hP.sub [0, 1] rfl) (hD.sub [0, 1] (by decide) rfl) hS (lv_sub hl [0, 1] rfl)
      · refine lv_aload_n hx hb dX2_moveToNextOrder_11 rfl (lv_at hl 0 rfl) ?_
        refine va_get (D := D) (own := RX2) (ci := 2) (v := .ref (t_q 2)) (C := RX2) (T := TX2) (N := 6) hx hb hts inb_X2 hown hK.1 hP 0 rfl rfl 2 (by decide) (hts _ wd_359) (fun _ h9 => h9) rfl dX2_moveToNextOrder_12 ?_
        refine lv_iload_n hx hb dX2_moveToNextOrder_15 rfl (lv_at hl 1 rfl) ?_
        refine g_iald hx hb hK.1 hP 1 0 rfl rfl (by omega) (by omega) (by decide) dX2_moveToNextOrder_16 ?_
        have y16 : 0 ≤ (t_2_c x7_1.toNat) ∧ (t_2_c x7_1.toNat) ≤ 4 := hc_t_2 x7_1.toNat
        refine lv_aload_n hx hb dX2_moveToNextOrder_17 rfl (lv_at hl 0 rfl) ?_
        refine va_get (D := D) (own := RX2) (ci := 2) (v := .ref (t_q 2)) (C := RX2) (T := TX2) (N := 6) hx hb hts inb_X2 hown hK.1 hP 0 rfl rfl 2 (by decide) (hts _ wd_359) (fun _ h9 => h9) rfl dX2_moveToNextOrder_18 ?_
        refine lv_iload_n hx hb dX2_moveToNextOrder_21 rfl (lv_at hl 1 rfl) ?_
        refine lv_iconst (v := iI 1) hx hb dX2_moveToNextOrder_22 rfl ?_
        refine g_iadd hx hb dX2_moveToNextOrder_23 ?_
        refine g_iald hx hb hK.1 hP 1 0 rfl rfl (by omega) (by omega) (by decide) dX2_moveToNextOrder_24 ?_
        have y24 : 0 ≤ (t_2_c ((x7_1 + 1).toNat)) ∧ (t_2_c ((x7_1 + 1).toNat)) ≤ 4 := hc_t_2 ((x7_1 + 1).toNat)
        refine g_icmp_le (tgt := 34) hx hb (by omega) (by omega) dX2_moveToNextOrder_25 (by decide) (fun c25 => ?_) (fun c25 => ?_)
        · exact J34 x7_1 _ _ ls (by omega) (hP.sub [0, 1] rfl) (hD.sub [0, 1] (by decide) rfl) hS (lv_sub hl [0, 1] rfl)
        · refine lv_iinc (v := iI (x7_1 + (-1))) (lv' := [(1, .int (iI (x7_1 + (-1)))), (0, .ref t)]) hx hb dX2_moveToNextOrder_28 hl (k := 1) rfl (iI_add _ _) (by decide) rfl (fun ls hl => ?_)
          refine lv_goto (tgt := 7) hx hb dX2_moveToNextOrder_31 (by decide) ?_
          exact ih7 (x7_1 + (-1)) _ _ ls (by omega) (by omega) (hP.sub [0, 1] rfl) (hD.sub [0, 1] (by decide) rfl) hS (lv_sub hl [1, 0] rfl)
  have hl : lv_has ls 5 [(0, .ref t)] := hl
  refine lv_aload_n hx hb dX2_moveToNextOrder_0 rfl (lv_at hl 0 rfl) ?_
  refine va_get (D := D) (own := RX2) (ci := 2) (v := .int (iI t_x0)) (C := RX2) (T := TX2) (N := 6) hx hb hts inb_X2 hown hK.1 hP 0 rfl rfl 0 (by decide) (hts _ wd_357) (fun _ h9 => h9) rfl dX2_moveToNextOrder_1 ?_
  have y1_1 : 0 ≤ t_x0 ∧ t_x0 ≤ 5 := hi_t.1
  refine lv_iconst (v := iI 2) hx hb dX2_moveToNextOrder_4 rfl ?_
  refine g_isub hx hb dX2_moveToNextOrder_5 ?_
  refine lv_istore_n (lv' := [(1, .int (iI (t_x0 - 2))), (0, .ref t)]) hx hb dX2_moveToNextOrder_6 rfl hl (by decide) rfl (fun ls hl => ?_)
  exact J7 _ (t_x0 - 2) _ _ ls (Nat.lt_succ_self _) (by omega) (hP.sub [0, 1] rfl) (hD.sub [0, 1] (by decide) rfl) hS (lv_sub hl [1, 0] rfl)
theorem wd_358 : Cond.fieldLink "FootNotes$Precedence" 9 "FootNotes$Precedence" "sent" "[I" ∈ fn_big := fn_tb (fn_l2 (List.mem_of_getElem? (i := 118) (by decide +kernel))) (by decide +kernel)
theorem wd_1041 : Cond.methodLink "FootNotes$Precedence" 45 ⟨"java/util/Arrays", "fill", "([II)V"⟩ ∈ fn_big := fn_tb (fn_l5 (List.mem_of_getElem? (i := 81) (by decide +kernel))) (by decide +kernel)
theorem dX2_tally_69 : decode cX2_tally 69 = .ok (.iinc 3 1, 3) := by decide +kernel
theorem dX2_tally_72 : decode cX2_tally 72 = .ok (.goto (-62), 3) := by decide +kernel
theorem dX2_tally_10 : decode cX2_tally 10 = .ok (.iload_n 3, 1) := by decide +kernel
theorem dX2_tally_11 : decode cX2_tally 11 = .ok (.aload_n 1, 1) := by decide +kernel
theorem dX2_tally_12 : decode cX2_tally 12 = .ok (.getfield 51, 3) := by decide +kernel
theorem dX2_tally_15 : decode cX2_tally 15 = .ok (.if_icmp .ge 60, 3) := by decide +kernel
theorem dX2_tally_75 : decode cX2_tally 75 = .ok (.return_, 1) := by decide +kernel
theorem dX2_tally_18 : decode cX2_tally 18 = .ok (.aload_n 2, 1) := by decide +kernel
theorem dX2_tally_19 : decode cX2_tally 19 = .ok (.getfield 54, 3) := by decide +kernel
theorem dX2_tally_22 : decode cX2_tally 22 = .ok (.iload_n 3, 1) := by decide +kernel
theorem dX2_tally_23 : decode cX2_tally 23 = .ok (.iaload, 1) := by decide +kernel
theorem dX2_tally_24 : decode cX2_tally 24 = .ok (.ifCond .lt 45, 3) := by decide +kernel
theorem dX2_tally_27 : decode cX2_tally 27 = .ok (.aload_n 1, 1) := by decide +kernel
theorem dX2_tally_28 : decode cX2_tally 28 = .ok (.getfield 59, 3) := by decide +kernel
theorem dX2_tally_31 : decode cX2_tally 31 = .ok (.aload_n 1, 1) := by decide +kernel
theorem dX2_tally_32 : decode cX2_tally 32 = .ok (.getfield 62, 3) := by decide +kernel
theorem dX2_tally_35 : decode cX2_tally 35 = .ok (.iload_n 3, 1) := by decide +kernel
theorem dX2_tally_36 : decode cX2_tally 36 = .ok (.iaload, 1) := by decide +kernel
theorem dX2_tally_37 : decode cX2_tally 37 = .ok (.iaload, 1) := by decide +kernel
theorem dX2_tally_38 : decode cX2_tally 38 = .ok (.istore 4, 2) := by decide +kernel
theorem dX2_tally_40 : decode cX2_tally 40 = .ok (.aload_n 1, 1) := by decide +kernel
theorem dX2_tally_41 : decode cX2_tally 41 = .ok (.getfield 59, 3) := by decide +kernel
theorem dX2_tally_44 : decode cX2_tally 44 = .ok (.aload_n 2, 1) := by decide +kernel
theorem dX2_tally_45 : decode cX2_tally 45 = .ok (.getfield 54, 3) := by decide +kernel
theorem dX2_tally_48 : decode cX2_tally 48 = .ok (.iload_n 3, 1) := by decide +kernel
theorem dX2_tally_49 : decode cX2_tally 49 = .ok (.iaload, 1) := by decide +kernel
theorem dX2_tally_50 : decode cX2_tally 50 = .ok (.iaload, 1) := by decide +kernel
theorem dX2_tally_51 : decode cX2_tally 51 = .ok (.istore 5, 2) := by decide +kernel
theorem dX2_tally_53 : decode cX2_tally 53 = .ok (.aload_n 0, 1) := by decide +kernel
theorem dX2_tally_54 : decode cX2_tally 54 = .ok (.getfield 9, 3) := by decide +kernel
theorem dX2_tally_57 : decode cX2_tally 57 = .ok (.iload 4, 2) := by decide +kernel
theorem dX2_tally_59 : decode cX2_tally 59 = .ok (.iconst 5, 1) := by decide +kernel
theorem dX2_tally_60 : decode cX2_tally 60 = .ok (.imul, 1) := by decide +kernel
theorem dX2_tally_61 : decode cX2_tally 61 = .ok (.iload 5, 2) := by decide +kernel
theorem dX2_tally_63 : decode cX2_tally 63 = .ok (.iadd, 1) := by decide +kernel
theorem dX2_tally_64 : decode cX2_tally 64 = .ok (.dup2, 1) := by decide +kernel
theorem dX2_tally_65 : decode cX2_tally 65 = .ok (.iaload, 1) := by decide +kernel
theorem dX2_tally_66 : decode cX2_tally 66 = .ok (.iconst 1, 1) := by decide +kernel
theorem dX2_tally_67 : decode cX2_tally 67 = .ok (.iadd, 1) := by decide +kernel
theorem dX2_tally_68 : decode cX2_tally 68 = .ok (.iastore, 1) := by decide +kernel
theorem dX2_tally_0 : decode cX2_tally 0 = .ok (.aload_n 0, 1) := by decide +kernel
theorem dX2_tally_1 : decode cX2_tally 1 = .ok (.getfield 9, 3) := by decide +kernel
theorem dX2_tally_4 : decode cX2_tally 4 = .ok (.iconst 0, 1) := by decide +kernel
theorem dX2_tally_5 : decode cX2_tally 5 = .ok (.invokestatic 45, 3) := by decide +kernel
theorem dX2_tally_8 : decode cX2_tally 8 = .ok (.iconst 0, 1) := by decide +kernel
theorem dX2_tally_9 : decode cX2_tally 9 = .ok (.istore_n 3, 1) := by decide +kernel
set_option maxHeartbeats 4000000 in
set_option maxRecDepth 100000 in
theorem k_X2_tally (l : Launch) (D : va_G) (K : Nat → ClassId) (t a1 a2 : Nat) (t_q a1_q a2_q : Nat → Nat) (t_x0 t_x4 t_x5 a1_x0 a1_x1 a1_x2 a1_x3 a1_x4 a1_x5 a1_x6 a1_x7 a1_x8 a2_x0 a2_x1 a2_x6 : Int) (t_1_c : Nat → Int) (a2_3_c : Nat → Int) (a1_12_c : Nat → Int) (a1_11_c : Nat → Int) (hi_t : bX2 t_x0 t_x4 t_x5) (hc_t_1 : ∀ j : Nat, (-2147483648) ≤ t_1_c j ∧ t_1_c j ≤ 2147483647) (hi_a1 : bX7 a1_x0 a1_x1 a1_x2 a1_x3 a1_x4 a1_x5 a1_x6 a1_x7 a1_x8) (hi_a2 : bX10 a2_x0 a2_x1 a2_x6) (hc_a2_3 : ∀ j : Nat, (-1) ≤ a2_3_c j ∧ a2_3_c j ≤ 11) (hc_a1_12 : ∀ j : Nat, 0 ≤ a1_12_c j ∧ a1_12_c j ≤ 11) (hc_a1_11 : ∀ j : Nat, 0 ≤ a1_11_c j ∧ a1_11_c j ≤ 4) : fn_CV (S := (Nat → Int) × (Nat → Nat → Int)) l D K yX2_tally (fn_ws yX2_tally cX2_tally 6 none) ({ frames := 8, cells := 0, slots := 0, locals := 200 } : Room) [.ref t, .ref a1, .ref a2] [(t, .inr (2, oX2 t_q t_x0 t_x4 t_x5)), ((t_q 1), .inl (K 0, 25, .inl (fun j => iI (t_1_c j)))), (a1, .inr (7, oX7 a1_q a1_x0 a1_x1 a1_x2 a1_x3 a1_x4 a1_x5 a1_x6 a1_x7 a1_x8)), (a2, .inr (10, oX10 a2_q a2_x0 a2_x1 a2_x6)), ((a2_q 3), .inl (K 0, 24, .inl (fun j => iI (a2_3_c j)))), ((a1_q 12), .inl (K 0, 24, .inl (fun j => iI (a1_12_c j)))), ((a1_q 11), .inl (K 0, 12, .inl (fun j => iI (a1_11_c j))))] (fun u => (∀ j : Nat, (-2147483648) ≤ (u.2 0) j ∧ (u.2 0) j ≤ 2147483647) ∧ True) (fun u => [(t, .inr (2, oX2 t_q t_x0 t_x4 t_x5)), ((t_q 1), .inl (K 0, 25, .inl (fun j => iI ((u.2 0) j)))), (a1, .inr (7, oX7 a1_q a1_x0 a1_x1 a1_x2 a1_x3 a1_x4 a1_x5 a1_x6 a1_x7 a1_x8)), (a2, .inr (10, oX10 a2_q a2_x0 a2_x1 a2_x6)), ((a2_q 3), .inl (K 0, 24, .inl (fun j => iI (a2_3_c j)))), ((a1_q 12), .inl (K 0, 24, .inl (fun j => iI (a1_12_c j)))), ((a1_q 11), .inl (K 0, 12, .inl (fun j => iI (a1_11_c j))))]) 0 0 := by
  refine g_inV (cc := cX2_tally) (maxL := 6) (ret := none) (by decide) rfl (Nat.le_of_ble_eq_true rfl) ?_
  intro p e s m below meth c A ls ag Q B hA hP hD hS hl hQ
  obtain ⟨hx, hb, hr, hml, hts, hown, hlocks, hin, hK⟩ := B
  have hown : s.vm.findClass RX2 = some m.cls := hown
  have hts := fun w h => hts w (List.mem_cons_of_mem _ h)
  have J10 : ∀ (n : Nat) (x10_3 : Int) (c10_t_1 : Nat → Int) (H : Heap) (locs : List Loc) (ls : Array Slot), (24 - x10_3).toNat < n → (0 ≤ x10_3 ∧ x10_3 ≤ 24) → (∀ j : Nat, (-2147483648) ≤ c10_t_1 j ∧ c10_t_1 j ≤ 2147483647) → va_P D vwCl [(t, .inr (2, oX2 t_q t_x0 t_x4 t_x5)), ((t_q 1), .inl (K 0, 25, .inl (fun j => iI (c10_t_1 j)))), (a1, .inr (7, oX7 a1_q a1_x0 a1_x1 a1_x2 a1_x3 a1_x4 a1_x5 a1_x6 a1_x7 a1_x8)), (a2, .inr (10, oX10 a2_q a2_x0 a2_x1 a2_x6)), ((a2_q 3), .inl (K 0, 24, .inl (fun j => iI (a2_3_c j)))), ((a1_q 12), .inl (K 0, 24, .inl (fun j => iI (a1_12_c j)))), ((a1_q 11), .inl (K 0, 12, .inl (fun j => iI (a1_11_c j))))] H → va_D A [(t, .inr (2, oX2 t_q t_x0 t_x4 t_x5)), ((t_q 1), .inl (K 0, 25, .inl (fun j => iI (c10_t_1 j)))), (a1, .inr (7, oX7 a1_q a1_x0 a1_x1 a1_x2 a1_x3 a1_x4 a1_x5 a1_x6 a1_x7 a1_x8)), (a2, .inr (10, oX10 a2_q a2_x0 a2_x1 a2_x6)), ((a2_q 3), .inl (K 0, 24, .inl (fun j => iI (a2_3_c j)))), ((a1_q 12), .inl (K 0, 24, .inl (fun j => iI (a1_12_c j)))), ((a1_q 11), .inl (K 0, 12, .inl (fun j => iI (a1_11_c j))))] → va_S A s.heap H locs → lv_has ls 6 [(0, .ref t), (1, .ref a1), (2, .ref a2), (3, .int (iI x10_3))] → W p l e ({ frames := 8, cells := 0, slots := 0, locals := 200 } : Room) s m ag below meth c H locs 0 0 Q (F0 m 10 ls []) := by
    intro n
    induction n with
    | zero =>
      intro x10_3 c10_t_1 H locs ls hm10 hf10 hc10_t_1 hP hD hS hl
      exact absurd hm10 (Nat.not_lt_zero _)
    | succ n ih10 =>
      intro x10_3 c10_t_1 H locs ls hm10 hf10 hc10_t_1 hP hD hS hl
      have J69 : ∀ (c69_t_1 : Nat → Int) (H : Heap) (locs : List Loc) (ls : Array Slot), (0 ≤ x10_3 ∧ x10_3 ≤ 23 ∧ 1 ≤ a1_x5 ∧ a1_x5 ≤ 24) → (∀ j : Nat, (-2147483648) ≤ c69_t_1 j ∧ c69_t_1 j ≤ 2147483647) → va_P D vwCl [(t, .inr (2, oX2 t_q t_x0 t_x4 t_x5)), ((t_q 1), .inl (K 0, 25, .inl (fun j => iI (c69_t_1 j)))), (a1, .inr (7, oX7 a1_q a1_x0 a1_x1 a1_x2 a1_x3 a1_x4 a1_x5 a1_x6 a1_x7 a1_x8)), (a2, .inr (10, oX10 a2_q a2_x0 a2_x1 a2_x6)), ((a2_q 3), .inl (K 0, 24, .inl (fun j => iI (a2_3_c j)))), ((a1_q 12), .inl (K 0, 24, .inl (fun j => iI (a1_12_c j)))), ((a1_q 11), .inl (K 0, 12, .inl (fun j => iI (a1_11_c j))))] H → va_D A [(t, .inr (2, oX2 t_q t_x0 t_x4 t_x5)), ((t_q 1), .inl (K 0, 25, .inl (fun j => iI (c69_t_1 j)))), (a1, .inr (7, oX7 a1_q a1_x0 a1_x1 a1_x2 a1_x3 a1_x4 a1_x5 a1_x6 a1_x7 a1_x8)), (a2, .inr (10, oX10 a2_q a2_x0 a2_x1 a2_x6)), ((a2_q 3), .inl (K 0, 24, .inl (fun j => iI (a2_3_c j)))), ((a1_q 12), .inl (K 0, 24, .inl (fun j => iI (a1_12_c j)))), ((a1_q 11), .inl (K 0, 12, .inl (fun j => iI (a1_11_c j))))] → va_S A s.heap H locs → lv_has ls 6 [(0, .ref t), (1, .ref a1), (2, .ref a2), (3, .int (iI x10_3))] → W p l e ({ frames := 8, cells := 0, slots := 0, locals := 200 } : Room) s m ag below meth c H locs 0 0 Q (F0 m 69 ls []) := by
        intro c69_t_1 H locs ls hf69 hc69_t_1 hP hD hS hl
        refine lv_iinc (v := iI (x10_3 + 1)) (lv' := [(3, .int (iI (x10_3 + 1))), (0, .ref t), (1, .ref a1), (2, .ref a2)]) hx hb dX2_tally_69 hl (k := 3) rfl (iI_add _ _) (by decide) rfl (fun ls hl => ?_)
        refine lv_goto (tgt := 10) hx hb dX2_tally_72 (by decide) ?_
        exact ih10 (x10_3 + 1) c69_t_1 _ _ ls (by omega) (by omega) hc69_t_1 (hP.sub [0, 1, 2, 3, 4, 5, 6] rfl) (hD.sub [0, 1, 2, 3, 4, 5, 6] (by decide) rfl) hS (lv_sub hl [1, 2, 3, 0] rfl)
      refine lv_iload_n hx hb dX2_tally_10 rfl (lv_at hl 3 rfl) ?_
      refine lv_aload_n hx hb dX2_tally_11 rfl (lv_at hl 1 rfl) ?_
      refine va_getN (D := D) (own := RX2) (ci := 7) (v := .int (iI a1_x5)) (C := RX7) (T := TX7) (N := 15) hx hb hts inb_X7 hown hK.1 hP 2 rfl rfl 5 (by decide) (hK.nf 27 rfl) (fun _ h9 => h9) rfl dX2_tally_12 ?_
      have y12_1 : 0 ≤ a1_x5 ∧ a1_x5 ≤ 24 := hi_a1.2.2.2.2.2.1
      refine g_icmp_ge (tgt := 75) hx hb (by omega) (by omega) dX2_tally_15 (by decide) (fun c15 => ?_) (fun c15 => ?_)
      · rw [hQ]; exact fn_vret hx hb hr hlocks hP hD hS ((fun _ => 0), (fun k => ([c10_t_1] : List (Nat → Int)).getD k (fun _ => 0))) ⟨(hc10_t_1), trivial⟩ [0, 1, 2, 3, 4, 5, 6] (by decide) rfl dX2_tally_75
      · refine lv_aload_n hx hb dX2_tally_18 rfl (lv_at hl 2 rfl) ?_
        refine va_getN (D := D) (own := RX2) (ci := 10) (v := .ref (a2_q 3)) (C := RX10) (T := TX10) (N := 7) hx hb hts inb_X10 hown hK.1 hP 3 rfl rfl 3 (by decide) (hK.nf 68 rfl) (fun _ h9 => h9) rfl dX2_tally_19 ?_
        refine lv_iload_n hx hb dX2_tally_22 rfl (lv_at hl 3 rfl) ?_
        refine g_iald hx hb hK.1 hP 4 0 rfl rfl (by omega) (by omega) (by decide) dX2_tally_23 ?_
        have y23 : (-1) ≤ (a2_3_c x10_3.toNat) ∧ (a2_3_c x10_3.toNat) ≤ 11 := hc_a2_3 x10_3.toNat
        refine g_if_lt (tgt := 69) hx hb (by omega) dX2_tally_24 (by decide) (fun c24 => ?_) (fun c24 => ?_)
        · exact J69 c10_t_1 _ _ ls (by omega) hc10_t_1 (hP.sub [0, 1, 2, 3, 4, 5, 6] rfl) (hD.sub [0, 1, 2, 3, 4, 5, 6] (by decide) rfl) hS (lv_sub hl [0, 1, 2, 3] rfl)
        · refine lv_aload_n hx hb dX2_tally_27 rfl (lv_at hl 1 rfl) ?_
          refine va_getN (D := D) (own := RX2) (ci := 7) (v := .ref (a1_q 11)) (C := RX7) (T := TX7) (N := 15) hx hb hts inb_X7 hown hK.1 hP 2 rfl rfl 11 (by decide) (hK.nf 40 rfl) (fun _ h9 => h9) rfl dX2_tally_28 ?_
          refine lv_aload_n hx hb dX2_tally_31 rfl (lv_at hl 1 rfl) ?_
          refine va_getN (D := D) (own := RX2) (ci := 7) (v := .ref (a1_q 12)) (C := RX7) (T := TX7) (N := 15) hx hb hts inb_X7 hown hK.1 hP 2 rfl rfl 12 (by decide) (hK.nf 45 rfl) (fun _ h9 => h9) rfl dX2_tally_32 ?_
          refine lv_iload_n hx hb dX2_tally_35 rfl (lv_at hl 3 rfl) ?_
          refine g_iald hx hb hK.1 hP 5 0 rfl rfl (by omega) (by omega) (by decide) dX2_tally_36 ?_
          have y36 : 0 ≤ (a1_12_c x10_3.toNat) ∧ (a1_12_c x10_3.toNat) ≤ 11 := hc_a1_12 x10_3.toNat
          refine g_iald hx hb hK.1 hP 6 0 rfl rfl (by omega) (by omega) (by decide) dX2_tally_37 ?_
          have y37 : 0 ≤ (a1_11_c ((a1_12_c x10_3.toNat).toNat)) ∧ (a1_11_c ((a1_12_c x10_3.toNat).toNat)) ≤ 4 := hc_a1_11 ((a1_12_c x10_3.toNat).toNat)
          refine lv_istore (lv' := [(4, .int (iI (a1_11_c ((a1_12_c x10_3.toNat).toNat)))), (0, .ref t), (1, .ref a1), (2, .ref a2), (3, .int (iI x10_3))]) hx hb dX2_tally_38 hl (by decide) rfl (fun ls hl => ?_)
          refine lv_aload_n hx hb dX2_tally_40 rfl (lv_at hl 2 rfl) ?_
          refine va_getN (D := D) (own := RX2) (ci := 7) (v := .ref (a1_q 11)) (C := RX7) (T := TX7) (N := 15) hx hb hts inb_X7 hown hK.1 hP 2 rfl rfl 11 (by decide) (hK.nf 40 rfl) (fun _ h9 => h9) rfl dX2_tally_41 ?_
          refine fn_at 44 rfl ?_
          refine lv_aload_n hx hb dX2_tally_44 rfl (lv_at hl 3 rfl) ?_
          refine va_getN (D := D) (own := RX2) (ci := 10) (v := .ref (a2_q 3)) (C := RX10) (T := TX10) (N := 7) hx hb hts inb_X10 hown hK.1 hP 3 rfl rfl 3 (by decide) (hK.nf 68 rfl) (fun _ h9 => h9) rfl dX2_tally_45 ?_
          refine lv_iload_n hx hb dX2_tally_48 rfl (lv_at hl 4 rfl) ?_
          refine g_iald hx hb hK.1 hP 4 0 rfl rfl (by omega) (by omega) (by decide) dX2_tally_49 ?_
          refine g_iald hx hb hK.1 hP 6 0 rfl rfl (by omega) (by omega) (by decide) dX2_tally_50 ?_
          have y50 : 0 ≤ (a1_11_c ((a2_3_c x10_3.toNat).toNat)) ∧ (a1_11_c ((a2_3_c x10_3.toNat).toNat)) ≤ 4 := hc_a1_11 ((a2_3_c x10_3.toNat).toNat)
          refine lv_istore (lv' := [(5, .int (iI (a1_11_c ((a2_3_c x10_3.toNat).toNat)))), (4, .int (iI (a1_11_c ((a1_12_c x10_3.toNat).toNat)))), (0, .ref t), (1, .ref a1), (2, .ref a2), (3, .int (iI x10_3))]) hx hb dX2_tally_51 hl (by decide) rfl (fun ls hl => ?_)
          refine lv_aload_n hx hb dX2_tally_53 rfl (lv_at hl 2 rfl) ?_
          refine va_get (D := D) (own := RX2) (ci := 2) (v := .ref (t_q 1)) (C := RX2) (T := TX2) (N := 6) hx hb hts inb_X2 hown hK.1 hP 0 rfl rfl 1 (by decide) (hts _ wd_358) (fun _ h9 => h9) rfl dX2_tally_54 ?_
          refine lv_iload hx hb dX2_tally_57 (lv_at hl 1 rfl) ?_
          refine lv_iconst (v := iI 5) hx hb dX2_tally_59 rfl ?_
          refine g_imul hx hb dX2_tally_60 ?_
          refine lv_iload hx hb dX2_tally_61 (lv_at hl 0 rfl) ?_
          refine g_iadd hx hb dX2_tally_63 ?_
          refine lv_dup2_11 hx hb dX2_tally_64 rfl rfl ?_
          refine g_iald hx hb hK.1 hP 1 0 rfl rfl (by omega) (by omega) (by decide) dX2_tally_65 ?_
          have y65 : (-2147483648) ≤ (c10_t_1 (((a1_11_c ((a1_12_c x10_3.toNat).toNat)) * 5 + (a1_11_c ((a2_3_c x10_3.toNat).toNat))).toNat)) ∧ (c10_t_1 (((a1_11_c ((a1_12_c x10_3.toNat).toNat)) * 5 + (a1_11_c ((a2_3_c x10_3.toNat).toNat))).toNat)) ≤ 2147483647 := hc10_t_1 (((a1_11_c ((a1_12_c x10_3.toNat).toNat)) * 5 + (a1_11_c ((a2_3_c x10_3.toNat).toNat))).toNat)
          refine lv_iconst (v := iI 1) hx hb dX2_tally_66 rfl ?_
          refine g_iadd hx hb dX2_tally_67 ?_
          refine g_any (fun w67 hw67 ew67 => ?_)
          refine g_iast hx hb hK.1 hP hD hS 1 0 rfl rfl (by omega) (by omega) (by decide) dX2_tally_68 (fun H locs g68 eg68 hP hD hS => ?_)
          have hg68 : ∀ j : Nat, (-2147483648) ≤ g68 j ∧ g68 j ≤ 2147483647 := by rw [eg68]; exact uI_all hc10_t_1 (by omega)
          have hP : va_P D vwCl [(t, .inr (2, oX2 t_q t_x0 t_x4 t_x5)), ((t_q 1), .inl (K 0, 25, .inl (fun j => iI (g68 j)))), (a1, .inr (7, oX7 a1_q a1_x0 a1_x1 a1_x2 a1_x3 a1_x4 a1_x5 a1_x6 a1_x7 a1_x8)), (a2, .inr (10, oX10 a2_q a2_x0 a2_x1 a2_x6)), ((a2_q 3), .inl (K 0, 24, .inl (fun j => iI (a2_3_c j)))), ((a1_q 12), .inl (K 0, 24, .inl (fun j => iI (a1_12_c j)))), ((a1_q 11), .inl (K 0, 12, .inl (fun j => iI (a1_11_c j))))] H := hP
          have hD : va_D A [(t, .inr (2, oX2 t_q t_x0 t_x4 t_x5)), ((t_q 1), .inl (K 0, 25, .inl (fun j => iI (g68 j)))), (a1, .inr (7, oX7 a1_q a1_x0 a1_x1 a1_x2 a1_x3 a1_x4 a1_x5 a1_x6 a1_x7 a1_x8)), (a2, .inr (10, oX10 a2_q a2_x0 a2_x1 a2_x6)), ((a2_q 3), .inl (K 0, 24, .inl (fun j => iI (a2_3_c j)))), ((a1_q 12), .inl (K 0, 24, .inl (fun j => iI (a1_12_c j)))), ((a1_q 11), .inl (K 0, 12, .inl (fun j => iI (a1_11_c j))))] := hD
          exact J69 g68 _ _ ls (by omega) hg68 (hP.sub [0, 1, 2, 3, 4, 5, 6] rfl) (hD.sub [0, 1, 2, 3, 4, 5, 6] (by decide) rfl) hS (lv_sub hl [2, 3, 4, 5] rfl)
  have hl : lv_has ls 6 [(0, .ref t), (1, .ref a1), (2, .ref a2)] := hl
  refine lv_aload_n hx hb dX2_tally_0 rfl (lv_at hl 0 rfl) ?_
  refine va_get (D := D) (own := RX2) (ci := 2) (v := .ref (t_q 1)) (C := RX2) (T := TX2) (N := 6) hx hb hts inb_X2 hown hK.1 hP 0 rfl rfl 1 (by decide) (hts _ wd_358) (fun _ h9 => h9) rfl dX2_tally_1 ?_
  refine lv_iconst (v := iI 0) hx hb dX2_tally_4 rfl ?_
  refine fn_gov (wc := [((t_q 1), .inl (K 0, 25, .inl (fun j => iI (t_1_c j))))]) (wr := [(t, .inr (2, oX2 t_q t_x0 t_x4 t_x5)), (a1, .inr (7, oX7 a1_q a1_x0 a1_x1 a1_x2 a1_x3 a1_x4 a1_x5 a1_x6 a1_x7 a1_x8)), (a2, .inr (10, oX10 a2_q a2_x0 a2_x1 a2_x6)), ((a2_q 3), .inl (K 0, 24, .inl (fun j => iI (a2_3_c j)))), ((a1_q 12), .inl (K 0, 24, .inl (fun j => iI (a1_12_c j)))), ((a1_q 11), .inl (K 0, 12, .inl (fun j => iI (a1_11_c j))))]) hK hP hD hS hA [1] [0, 2, 3, 4, 5, 6] rfl rfl (by decide) (fun hp => va_runS (As := [.ref (t_q 1), .int (iI 0)]) (rest := []) ⟨hx, hb, hml, hown, hts⟩ (k_J7_fill_53178 (l := l) (D := D) (K := K) (a1 := (t_q 1)) (p2 := 0) (a1_c := t_1_c) (a1_n := 25) (hp2 := (by omega)) (hn_a1 := (by decide)) (hc_a1 := hc_t_1) _) (va_cwS 2 hts (fn_ginS (fn_gin wd_646) wd_1041 wd_645 wd_20) rfl rfl rfl (by decide +kernel) ⟨Nat.le_of_ble_eq_true rfl, Nat.le_of_ble_eq_true rfl⟩) ⟨fn_blind, hp⟩ rfl rfl hl.1 rfl (lv_room (Nat.le_of_ble_eq_true rfl)) dX2_tally_5 ⟨Nat.le_of_ble_eq_true rfl, Nat.le_of_ble_eq_true rfl⟩) (fun u5 H locs hwu5 hP hD hS => ?_)
  obtain ⟨u5a, u5b⟩ := u5
  obtain ⟨hqu5_f0, hu5_00, -⟩ := hwu5
  have hqu5_f : ∀ j : Nat, (u5b 0) j = (0 : Int) ∨ (u5b 0) j = t_1_c j := hqu5_f0
  have hu5_0 : ∀ j : Nat, (-2147483648) ≤ (u5b 0) j ∧ (u5b 0) j ≤ 2147483647 := hu5_00
  clear hqu5_f0 hu5_00
  have hu5_0 : ∀ j : Nat, (-2147483648) ≤ (u5b 0) j ∧ (u5b 0) j ≤ 2147483647 := (fun j => by have h9 := hqu5_f j; have h8 := hc_t_1 j; omega)
  have hP : va_P D vwCl [(t, .inr (2, oX2 t_q t_x0 t_x4 t_x5)), (a1, .inr (7, oX7 a1_q a1_x0 a1_x1 a1_x2 a1_x3 a1_x4 a1_x5 a1_x6 a1_x7 a1_x8)), (a2, .inr (10, oX10 a2_q a2_x0 a2_x1 a2_x6)), ((a2_q 3), .inl (K 0, 24, .inl (fun j => iI (a2_3_c j)))), ((a1_q 12), .inl (K 0, 24, .inl (fun j => iI (a1_12_c j)))), ((a1_q 11), .inl (K 0, 12, .inl (fun j => iI (a1_11_c j)))), ((t_q 1), .inl (K 0, 25, .inl (fun j => iI ((u5b 0) j))))] H := hP
  have hD : va_D A [(t, .inr (2, oX2 t_q t_x0 t_x4 t_x5)), (a1, .inr (7, oX7 a1_q a1_x0 a1_x1 a1_x2 a1_x3 a1_x4 a1_x5 a1_x6 a1_x7 a1_x8)), (a2, .inr (10, oX10 a2_q a2_x0 a2_x1 a2_x6)), ((a2_q 3), .inl (K 0, 24, .inl (fun j => iI (a2_3_c j)))), ((a1_q 12), .inl (K 0, 24, .inl (fun j => iI (a1_12_c j)))), ((a1_q 11), .inl (K 0, 12, .inl (fun j => iI (a1_11_c j)))), ((t_q 1), .inl (K 0, 25, .inl (fun j => iI ((u5b 0) j))))] := hD
  refine lv_iconst (v := iI 0) hx hb dX2_tally_8 rfl ?_
  refine lv_istore_n (lv' := [(3, .int (iI 0)), (0, .ref t), (1, .ref a1), (2, .ref a2)]) hx hb dX2_tally_9 rfl hl (by decide) rfl (fun ls hl => ?_)
  exact J10 _ 0 (u5b 0) _ _ ls (Nat.lt_succ_self _) (by omega) hu5_0 (hP.sub [0, 6, 1, 2, 3, 4, 5] rfl) (hD.sub [0, 6, 1, 2, 3, 4, 5] (by decide) rfl) hS (lv_sub hl [1, 2, 3, 0] rfl)
theorem wd_362 : Cond.fieldLink "FootNotes$Precedence" 32 "FootNotes$Precedence" "fewest" "I" ∈ fn_big := fn_tb (fn_l2 (List.mem_of_getElem? (i := 122) (by decide +kernel))) (by decide +kernel)
theorem wd_364 : Cond.fieldLink "FootNotes$Precedence" 35 "FootNotes$Precedence" "found" "I" ∈ fn_big := fn_tb (fn_l2 (List.mem_of_getElem? (i := 124) (by decide +kernel))) (by decide +kernel)
theorem wd_360 : Cond.fieldLink "FootNotes$Precedence" 18 "FootNotes$Precedence" "best" "[I" ∈ fn_big := fn_tb (fn_l2 (List.mem_of_getElem? (i := 120) (by decide +kernel))) (by decide +kernel)
theorem wd_1046 : Cond.methodLink "FootNotes$Precedence" 65 ⟨"java/lang/System", "arraycopy", "(Ljava/lang/Object;ILjava/lang/Object;II)V"⟩ ∈ fn_big := fn_tb (fn_l5 (List.mem_of_getElem? (i := 86) (by decide +kernel))) (by decide +kernel)
theorem wd_622 : Cond.native ⟨"java/lang/System", "arraycopy", "(Ljava/lang/Object;ILjava/lang/Object;II)V"⟩ ∈ fn_big := fn_tb (fn_l3 (List.mem_of_getElem? (i := 142) (by decide +kernel))) (by decide +kernel)
theorem wd_621 : Cond.static ⟨"java/lang/System", "arraycopy", "(Ljava/lang/Object;ILjava/lang/Object;II)V"⟩ ∈ fn_big := fn_tb (fn_l3 (List.mem_of_getElem? (i := 141) (by decide +kernel))) (by decide +kernel)
theorem wd_19 : Cond.initialized "java/lang/System" ∈ fn_big := fn_tb (fn_l1 (List.mem_of_getElem? (i := 19) (by decide +kernel))) (by decide +kernel)
theorem dX2_weighTried_94 : decode cX2_weighTried 94 = .ok (.iload_n 1, 1) := by decide +kernel
theorem dX2_weighTried_95 : decode cX2_weighTried 95 = .ok (.aload_n 0, 1) := by decide +kernel
theorem dX2_weighTried_96 : decode cX2_weighTried 96 = .ok (.getfield 32, 3) := by decide +kernel
theorem dX2_weighTried_99 : decode cX2_weighTried 99 = .ok (.if_icmp .ne 13, 3) := by decide +kernel
theorem dX2_weighTried_112 : decode cX2_weighTried 112 = .ok (.return_, 1) := by decide +kernel
theorem dX2_weighTried_102 : decode cX2_weighTried 102 = .ok (.aload_n 0, 1) := by decide +kernel
theorem dX2_weighTried_103 : decode cX2_weighTried 103 = .ok (.dup, 1) := by decide +kernel
theorem dX2_weighTried_104 : decode cX2_weighTried 104 = .ok (.getfield 35, 3) := by decide +kernel
theorem dX2_weighTried_107 : decode cX2_weighTried 107 = .ok (.iconst 1, 1) := by decide +kernel
theorem dX2_weighTried_108 : decode cX2_weighTried 108 = .ok (.iadd, 1) := by decide +kernel
theorem dX2_weighTried_109 : decode cX2_weighTried 109 = .ok (.putfield 35, 3) := by decide +kernel
theorem dX2_weighTried_16 : decode cX2_weighTried 16 = .ok (.iload_n 3, 1) := by decide +kernel
theorem dX2_weighTried_17 : decode cX2_weighTried 17 = .ok (.aload_n 0, 1) := by decide +kernel
theorem dX2_weighTried_18 : decode cX2_weighTried 18 = .ok (.getfield 27, 3) := by decide +kernel
theorem dX2_weighTried_21 : decode cX2_weighTried 21 = .ok (.if_icmp .ge 32, 3) := by decide +kernel
theorem dX2_weighTried_53 : decode cX2_weighTried 53 = .ok (.iinc 2 1, 3) := by decide +kernel
theorem dX2_weighTried_56 : decode cX2_weighTried 56 = .ok (.goto (-52), 3) := by decide +kernel
theorem dX2_weighTried_24 : decode cX2_weighTried 24 = .ok (.iload_n 1, 1) := by decide +kernel
theorem dX2_weighTried_25 : decode cX2_weighTried 25 = .ok (.aload_n 0, 1) := by decide +kernel
theorem dX2_weighTried_26 : decode cX2_weighTried 26 = .ok (.getfield 9, 3) := by decide +kernel
theorem dX2_weighTried_29 : decode cX2_weighTried 29 = .ok (.aload_n 0, 1) := by decide +kernel
theorem dX2_weighTried_30 : decode cX2_weighTried 30 = .ok (.getfield 15, 3) := by decide +kernel
theorem dX2_weighTried_33 : decode cX2_weighTried 33 = .ok (.iload_n 2, 1) := by decide +kernel
theorem dX2_weighTried_34 : decode cX2_weighTried 34 = .ok (.iaload, 1) := by decide +kernel
theorem dX2_weighTried_35 : decode cX2_weighTried 35 = .ok (.iconst 5, 1) := by decide +kernel
theorem dX2_weighTried_36 : decode cX2_weighTried 36 = .ok (.imul, 1) := by decide +kernel
theorem dX2_weighTried_37 : decode cX2_weighTried 37 = .ok (.aload_n 0, 1) := by decide +kernel
theorem dX2_weighTried_38 : decode cX2_weighTried 38 = .ok (.getfield 15, 3) := by decide +kernel
theorem dX2_weighTried_41 : decode cX2_weighTried 41 = .ok (.iload_n 3, 1) := by decide +kernel
theorem dX2_weighTried_42 : decode cX2_weighTried 42 = .ok (.iaload, 1) := by decide +kernel
theorem dX2_weighTried_43 : decode cX2_weighTried 43 = .ok (.iadd, 1) := by decide +kernel
theorem dX2_weighTried_44 : decode cX2_weighTried 44 = .ok (.iaload, 1) := by decide +kernel
theorem dX2_weighTried_45 : decode cX2_weighTried 45 = .ok (.iadd, 1) := by decide +kernel
theorem dX2_weighTried_46 : decode cX2_weighTried 46 = .ok (.istore_n 1, 1) := by decide +kernel
theorem dX2_weighTried_47 : decode cX2_weighTried 47 = .ok (.iinc 3 1, 3) := by decide +kernel
theorem dX2_weighTried_50 : decode cX2_weighTried 50 = .ok (.goto (-34), 3) := by decide +kernel
theorem dX2_weighTried_4 : decode cX2_weighTried 4 = .ok (.iload_n 2, 1) := by decide +kernel
theorem dX2_weighTried_5 : decode cX2_weighTried 5 = .ok (.aload_n 0, 1) := by decide +kernel
theorem dX2_weighTried_6 : decode cX2_weighTried 6 = .ok (.getfield 27, 3) := by decide +kernel
theorem dX2_weighTried_9 : decode cX2_weighTried 9 = .ok (.if_icmp .ge 50, 3) := by decide +kernel
theorem dX2_weighTried_59 : decode cX2_weighTried 59 = .ok (.iload_n 1, 1) := by decide +kernel
theorem dX2_weighTried_60 : decode cX2_weighTried 60 = .ok (.aload_n 0, 1) := by decide +kernel
theorem dX2_weighTried_61 : decode cX2_weighTried 61 = .ok (.getfield 32, 3) := by decide +kernel
theorem dX2_weighTried_64 : decode cX2_weighTried 64 = .ok (.if_icmp .ge 30, 3) := by decide +kernel
theorem dX2_weighTried_67 : decode cX2_weighTried 67 = .ok (.aload_n 0, 1) := by decide +kernel
theorem dX2_weighTried_68 : decode cX2_weighTried 68 = .ok (.iload_n 1, 1) := by decide +kernel
theorem dX2_weighTried_69 : decode cX2_weighTried 69 = .ok (.putfield 32, 3) := by decide +kernel
theorem dX2_weighTried_72 : decode cX2_weighTried 72 = .ok (.aload_n 0, 1) := by decide +kernel
theorem dX2_weighTried_73 : decode cX2_weighTried 73 = .ok (.iconst 0, 1) := by decide +kernel
theorem dX2_weighTried_74 : decode cX2_weighTried 74 = .ok (.putfield 35, 3) := by decide +kernel
theorem dX2_weighTried_77 : decode cX2_weighTried 77 = .ok (.aload_n 0, 1) := by decide +kernel
theorem dX2_weighTried_78 : decode cX2_weighTried 78 = .ok (.getfield 15, 3) := by decide +kernel
theorem dX2_weighTried_81 : decode cX2_weighTried 81 = .ok (.iconst 0, 1) := by decide +kernel
theorem dX2_weighTried_82 : decode cX2_weighTried 82 = .ok (.aload_n 0, 1) := by decide +kernel
theorem dX2_weighTried_83 : decode cX2_weighTried 83 = .ok (.getfield 18, 3) := by decide +kernel
theorem dX2_weighTried_86 : decode cX2_weighTried 86 = .ok (.iconst 0, 1) := by decide +kernel
theorem dX2_weighTried_87 : decode cX2_weighTried 87 = .ok (.aload_n 0, 1) := by decide +kernel
theorem dX2_weighTried_88 : decode cX2_weighTried 88 = .ok (.getfield 27, 3) := by decide +kernel
theorem dX2_weighTried_91 : decode cX2_weighTried 91 = .ok (.invokestatic 65, 3) := by decide +kernel
theorem dX2_weighTried_12 : decode cX2_weighTried 12 = .ok (.iload_n 2, 1) := by decide +kernel
theorem dX2_weighTried_13 : decode cX2_weighTried 13 = .ok (.iconst 1, 1) := by decide +kernel
theorem dX2_weighTried_14 : decode cX2_weighTried 14 = .ok (.iadd, 1) := by decide +kernel
theorem dX2_weighTried_15 : decode cX2_weighTried 15 = .ok (.istore_n 3, 1) := by decide +kernel
theorem dX2_weighTried_0 : decode cX2_weighTried 0 = .ok (.iconst 0, 1) := by decide +kernel
theorem dX2_weighTried_1 : decode cX2_weighTried 1 = .ok (.istore_n 1, 1) := by decide +kernel
theorem dX2_weighTried_2 : decode cX2_weighTried 2 = .ok (.iconst 0, 1) := by decide +kernel
theorem dX2_weighTried_3 : decode cX2_weighTried 3 = .ok (.istore_n 2, 1) := by decide +kernel
set_option maxHeartbeats 4000000 in
set_option maxRecDepth 100000 in
theorem k_X2_weighTried (l : Launch) (D : va_G) (K : Nat → ClassId) (t : Nat) (t_q : Nat → Nat) (t_x0 t_x4 t_x5 : Int) (t_2_c : Nat → Int) (t_3_c : Nat → Int) (t_1_c : Nat → Int) (hi_t : bX2 t_x0 t_x4 t_x5) (hc_t_2 : ∀ j : Nat, 0 ≤ t_2_c j ∧ t_2_c j ≤ 4) (hc_t_3 : ∀ j : Nat, 0 ≤ t_3_c j ∧ t_3_c j ≤ 4) (hc_t_1 : ∀ j : Nat, (-2147483648) ≤ t_1_c j ∧ t_1_c j ≤ 2147483647) : fn_CV (S := (Nat → Int) × (Nat → Nat → Int)) l D K yX2_weighTried (fn_ws yX2_weighTried cX2_weighTried 4 none) ({ frames := 8, cells := 0, slots := 0, locals := 200 } : Room) [.ref t] [(t, .inr (2, oX2 t_q t_x0 t_x4 t_x5)), ((t_q 2), .inl (K 0, 5, .inl (fun j => iI (t_2_c j)))), ((t_q 3), .inl (K 0, 5, .inl (fun j => iI (t_3_c j)))), ((t_q 1), .inl (K 0, 25, .inl (fun j => iI (t_1_c j))))] (fun u => ((-2147483648) ≤ (u.1 0) ∧ (u.1 0) ≤ 2147483647 ∧ (-2147483648) ≤ (u.1 1) ∧ (u.1 1) ≤ 2147483647) ∧ (∀ j : Nat, 0 ≤ (u.2 0) j ∧ (u.2 0) j ≤ 4) ∧ True) (fun u => [(t, .inr (2, oX2 t_q t_x0 (u.1 0) (u.1 1))), ((t_q 2), .inl (K 0, 5, .inl (fun j => iI (t_2_c j)))), ((t_q 3), .inl (K 0, 5, .inl (fun j => iI ((u.2 0) j)))), ((t_q 1), .inl (K 0, 25, .inl (fun j => iI (t_1_c j))))]) 0 0 := by
  refine g_inV (cc := cX2_weighTried) (maxL := 4) (ret := none) (by decide) rfl (Nat.le_of_ble_eq_true rfl) ?_
  intro p e s m below meth c A ls ag Q B hA hP hD hS hl hQ
  obtain ⟨hx, hb, hr, hml, hts, hown, hlocks, hin, hK⟩ := B
  have hown : s.vm.findClass RX2 = some m.cls := hown
  have hts := fun w h => hts w (List.mem_cons_of_mem _ h)
  have J94 : ∀ (x94_1 : Int) (x94_2 : Int) (f94_t_4 : Int) (f94_t_5 : Int) (c94_t_3 : Nat → Int) (H : Heap) (locs : List Loc) (ls : Array Slot), ((-2147483648) ≤ x94_1 ∧ x94_1 ≤ 2147483647 ∧ 0 ≤ x94_2 ∧ x94_2 ≤ 5 ∧ (-2147483648) ≤ f94_t_4 ∧ f94_t_4 ≤ 2147483647 ∧ (-2147483648) ≤ f94_t_5 ∧ f94_t_5 ≤ 2147483647) → (∀ j : Nat, 0 ≤ c94_t_3 j ∧ c94_t_3 j ≤ 4) → va_P D vwCl [(t, .inr (2, oX2 t_q t_x0 f94_t_4 f94_t_5)), ((t_q 2), .inl (K 0, 5, .inl (fun j => iI (t_2_c j)))), ((t_q 3), .inl (K 0, 5, .inl (fun j => iI (c94_t_3 j)))), ((t_q 1), .inl (K 0, 25, .inl (fun j => iI (t_1_c j))))] H → va_D A [(t, .inr (2, oX2 t_q t_x0 f94_t_4 f94_t_5)), ((t_q 2), .inl (K 0, 5, .inl (fun j => iI (t_2_c j)))), ((t_q 3), .inl (K 0, 5, .inl (fun j => iI (c94_t_3 j)))), ((t_q 1), .inl (K 0, 25, .inl (fun j => iI (t_1_c j))))] → va_S A s.heap H locs → lv_has ls 4 [(0, .ref t), (1, .int (iI x94_1)), (2, .int (iI x94_2))] → W p l e ({ frames := 8, cells := 0, slots := 0, locals := 200 } : Room) s m ag below meth c H locs 0 0 Q (F0 m 94 ls []) := by
    intro x94_1 x94_2 f94_t_4 f94_t_5 c94_t_3 H locs ls hf94 hc94_t_3 hP hD hS hl
    refine lv_iload_n hx hb dX2_weighTried_94 rfl (lv_at hl 1 rfl) ?_
    refine lv_aload_n hx hb dX2_weighTried_95 rfl (lv_at hl 0 rfl) ?_
    refine va_get (D := D) (own := RX2) (ci := 2) (v := .int (iI f94_t_4)) (C := RX2) (T := TX2) (N := 6) hx hb hts inb_X2 hown hK.1 hP 0 rfl rfl 4 (by decide) (hts _ wd_362) (fun _ h9 => h9) rfl dX2_weighTried_96 ?_
    refine g_icmp_ne (tgt := 112) hx hb (by omega) (by omega) dX2_weighTried_99 (by decide) (fun c99 => ?_) (fun c99 => ?_)
    · rw [hQ]; exact fn_vret hx hb hr hlocks hP hD hS ((fun k => ([f94_t_4, f94_t_5] : List Int).getD k 0), (fun k => ([c94_t_3] : List (Nat → Int)).getD k (fun _ => 0))) ⟨(by show (-2147483648) ≤ f94_t_4 ∧ f94_t_4 ≤ 2147483647 ∧ (-2147483648) ≤ f94_t_5 ∧ f94_t_5 ≤ 2147483647; omega), (hc94_t_3), trivial⟩ [0, 1, 2, 3] (by decide) rfl dX2_weighTried_112
    · refine lv_aload_n hx hb dX2_weighTried_102 rfl (lv_at hl 0 rfl) ?_
      refine lv_dup hx hb dX2_weighTried_103 rfl ?_
      refine va_get (D := D) (own := RX2) (ci := 2) (v := .int (iI f94_t_5)) (C := RX2) (T := TX2) (N := 6) hx hb hts inb_X2 hown hK.1 hP 0 rfl rfl 5 (by decide) (hts _ wd_364) (fun _ h9 => h9) rfl dX2_weighTried_104 ?_
      refine lv_iconst (v := iI 1) hx hb dX2_weighTried_107 rfl ?_
      refine g_iadd hx hb dX2_weighTried_108 ?_
      refine g_any (fun w108 hw108 ew108 => ?_)
      refine va_put (D := D) (own := RX2) (ci := 2) (v := .int (iI w108)) (ty := .int) (C := RX2) (T := TX2) (N := 6) hx hb hts inb_X2 tyX2 tyX2_ok nmX2 hown hK.1 hP hD hS 0 rfl rfl 5 (by decide) (hts _ wd_364) (fun _ h9 => h9) rfl (by decide +kernel) rfl rfl (Nat.le_of_ble_eq_true rfl) dX2_weighTried_109 (fun H locs hP hD hS => ?_)
      have hP : va_P D vwCl [(t, .inr (2, oX2 t_q t_x0 f94_t_4 w108)), ((t_q 2), .inl (K 0, 5, .inl (fun j => iI (t_2_c j)))), ((t_q 3), .inl (K 0, 5, .inl (fun j => iI (c94_t_3 j)))), ((t_q 1), .inl (K 0, 25, .inl (fun j => iI (t_1_c j))))] H := hP
      have hD : va_D A [(t, .inr (2, oX2 t_q t_x0 f94_t_4 w108)), ((t_q 2), .inl (K 0, 5, .inl (fun j => iI (t_2_c j)))), ((t_q 3), .inl (K 0, 5, .inl (fun j => iI (c94_t_3 j)))), ((t_q 1), .inl (K 0, 25, .inl (fun j => iI (t_1_c j))))] := hD
      rw [hQ]; exact fn_vret hx hb hr hlocks hP hD hS ((fun k => ([f94_t_4, w108] : List Int).getD k 0), (fun k => ([c94_t_3] : List (Nat → Int)).getD k (fun _ => 0))) ⟨(by show (-2147483648) ≤ f94_t_4 ∧ f94_t_4 ≤ 2147483647 ∧ (-2147483648) ≤ w108 ∧ w108 ≤ 2147483647; omega), (hc94_t_3), trivial⟩ [0, 1, 2, 3] (by decide) rfl dX2_weighTried_112
  have J4 : ∀ (n : Nat) (x4_1 : Int) (x4_2 : Int) (H : Heap) (locs : List Loc) (ls : Array Slot), (5 - x4_2).toNat < n → ((-2147483648) ≤ x4_1 ∧ x4_1 ≤ 2147483647 ∧ 0 ≤ x4_2 ∧ x4_2 ≤ 5) → va_P D vwCl [(t, .inr (2, oX2 t_q t_x0 t_x4 t_x5)), ((t_q 2), .inl (K 0, 5, .inl (fun j => iI (t_2_c j)))), ((t_q 3), .inl (K 0, 5, .inl (fun j => iI (t_3_c j)))), ((t_q 1), .inl (K 0, 25, .inl (fun j => iI (t_1_c j))))] H → va_D A [(t, .inr (2, oX2 t_q t_x0 t_x4 t_x5)), ((t_q 2), .inl (K 0, 5, .inl (fun j => iI (t_2_c j)))), ((t_q 3), .inl (K 0, 5, .inl (fun j => iI (t_3_c j)))), ((t_q 1), .inl (K 0, 25, .inl (fun j => iI (t_1_c j))))] → va_S A s.heap H locs → lv_has ls 4 [(0, .ref t), (1, .int (iI x4_1)), (2, .int (iI x4_2))] → W p l e ({ frames := 8, cells := 0, slots := 0, locals := 200 } : Room) s m ag below meth c H locs 0 0 Q (F0 m 4 ls []) := by
    intro n
    induction n with
    | zero =>
      intro x4_1 x4_2 H locs ls hm4 hf4 hP hD hS hl
      exact absurd hm4 (Nat.not_lt_zero _)
    | succ n ih4 =>
      intro x4_1 x4_2 H locs ls hm4 hf4 hP hD hS hl
      have J16 : ∀ (n : Nat) (x16_1 : Int) (x16_3 : Int) (H : Heap) (locs : List Loc) (ls : Array Slot), (5 - x16_3).toNat < n → ((-2147483648) ≤ x16_1 ∧ x16_1 ≤ 2147483647 ∧ 0 ≤ x4_2 ∧ x4_2 ≤ 4 ∧ 1 ≤ x16_3 ∧ x16_3 ≤ 5 ∧ 1 ≤ t_x0 ∧ t_x0 ≤ 5) → va_P D vwCl [(t, .inr (2, oX2 t_q t_x0 t_x4 t_x5)), ((t_q 2), .inl (K 0, 5, .inl (fun j => iI (t_2_c j)))), ((t_q 3), .inl (K 0, 5, .inl (fun j => iI (t_3_c j)))), ((t_q 1), .inl (K 0, 25, .inl (fun j => iI (t_1_c j))))] H → va_D A [(t, .inr (2, oX2 t_q t_x0 t_x4 t_x5)), ((t_q 2), .inl (K 0, 5, .inl (fun j => iI (t_2_c j)))), ((t_q 3), .inl (K 0, 5, .inl (fun j => iI (t_3_c j)))), ((t_q 1), .inl (K 0, 25, .inl (fun j => iI (t_1_c j))))] → va_S A s.heap H locs → lv_has ls 4 [(0, .ref t), (1, .int (iI x16_1)), (2, .int (iI x4_2)), (3, .int (iI x16_3))] → W p l e ({ frames := 8, cells := 0, slots := 0, locals := 200 } : Room) s m ag below meth c H locs 0 0 Q (F0 m 16 ls []) := by
        intro n
        induction n with
        | zero =>
          intro x16_1 x16_3 H locs ls hm16 hf16 hP hD hS hl
          exact absurd hm16 (Nat.not_lt_zero _)
        | succ n ih16 =>
          intro x16_1 x16_3 H locs ls hm16 hf16 hP hD hS hl
          refine lv_iload_n hx hb dX2_weighTried_16 rfl (lv_at hl 3 rfl) ?_
          refine lv_aload_n hx hb dX2_weighTried_17 rfl (lv_at hl 0 rfl) ?_
          refine va_get (D := D) (own := RX2) (ci := 2) (v := .int (iI t_x0)) (C := RX2) (T := TX2) (N := 6) hx hb hts inb_X2 hown hK.1 hP 0 rfl rfl 0 (by decide) (hts _ wd_357) (fun _ h9 => h9) rfl dX2_weighTried_18 ?_
          have y18_1 : 0 ≤ t_x0 ∧ t_x0 ≤ 5 := hi_t.1
          refine g_icmp_ge (tgt := 53) hx hb (by omega) (by omega) dX2_weighTried_21 (by decide) (fun c21 => ?_) (fun c21 => ?_)
          · refine lv_iinc (v := iI (x4_2 + 1)) (lv' := [(2, .int (iI (x4_2 + 1))), (0, .ref t), (1, .int (iI x16_1)), (3, .int (iI x16_3))]) hx hb dX2_weighTried_53 hl (k := 2) rfl (iI_add _ _) (by decide) rfl (fun ls hl => ?_)
            refine lv_goto (tgt := 4) hx hb dX2_weighTried_56 (by decide) ?_
            exact ih4 x16_1 (x4_2 + 1) _ _ ls (by omega) (by omega) (hP.sub [0, 1, 2, 3] rfl) (hD.sub [0, 1, 2, 3] (by decide) rfl) hS (lv_sub hl [1, 2, 0] rfl)
          · refine lv_iload_n hx hb dX2_weighTried_24 rfl (lv_at hl 1 rfl) ?_
            refine lv_aload_n hx hb dX2_weighTried_25 rfl (lv_at hl 0 rfl) ?_
            refine va_get (D := D) (own := RX2) (ci := 2) (v := .ref (t_q 1)) (C := RX2) (T := TX2) (N := 6) hx hb hts inb_X2 hown hK.1 hP 0 rfl rfl 1 (by decide) (hts _ wd_358) (fun _ h9 => h9) rfl dX2_weighTried_26 ?_
            refine lv_aload_n hx hb dX2_weighTried_29 rfl (lv_at hl 0 rfl) ?_
            refine va_get (D := D) (own := RX2) (ci := 2) (v := .ref (t_q 2)) (C := RX2) (T := TX2) (N := 6) hx hb hts inb_X2 hown hK.1 hP 0 rfl rfl 2 (by decide) (hts _ wd_359) (fun _ h9 => h9) rfl dX2_weighTried_30 ?_
            refine lv_iload_n hx hb dX2_weighTried_33 rfl (lv_at hl 2 rfl) ?_
            refine g_iald hx hb hK.1 hP 1 0 rfl rfl (by omega) (by omega) (by decide) dX2_weighTried_34 ?_
            have y34 : 0 ≤ (t_2_c x4_2.toNat) ∧ (t_2_c x4_2.toNat) ≤ 4 := hc_t_2 x4_2.toNat
            refine lv_iconst (v := iI 5) hx hb dX2_weighTried_35 rfl ?_
            refine g_imul hx hb dX2_weighTried_36 ?_
            refine lv_aload_n hx hb dX2_weighTried_37 rfl (lv_at hl 0 rfl) ?_
            refine va_get (D := D) (own := RX2) (ci := 2) (v := .ref (t_q 2)) (C := RX2) (T := TX2) (N := 6) hx hb hts inb_X2 hown hK.1 hP 0 rfl rfl 2 (by decide) (hts _ wd_359) (fun _ h9 => h9) rfl dX2_weighTried_38 ?_
            refine lv_iload_n hx hb dX2_weighTried_41 rfl (lv_at hl 3 rfl) ?_
            refine g_iald hx hb hK.1 hP 1 0 rfl rfl (by omega) (by omega) (by decide) dX2_weighTried_42 ?_
            have y42 : 0 ≤ (t_2_c x16_3.toNat) ∧ (t_2_c x16_3.toNat) ≤ 4 := hc_t_2 x16_3.toNat
            refine g_iadd hx hb dX2_weighTried_43 ?_
            refine g_iald hx hb hK.1 hP 3 0 rfl rfl (by omega) (by omega) (by decide) dX2_weighTried_44 ?_
            have y44 : (-2147483648) ≤ (t_1_c (((t_2_c x4_2.toNat) * 5 + (t_2_c x16_3.toNat)).toNat)) ∧ (t_1_c (((t_2_c x4_2.toNat) * 5 + (t_2_c x16_3.toNat)).toNat)) ≤ 2147483647 := hc_t_1 (((t_2_c x4_2.toNat) * 5 + (t_2_c x16_3.toNat)).toNat)
            refine fn_at 45 rfl ?_
            refine g_iadd hx hb dX2_weighTried_45 ?_
            refine g_any (fun w45 hw45 ew45 => ?_)
            refine lv_istore_n (lv' := [(1, .int (iI w45)), (0, .ref t), (2, .int (iI x4_2)), (3, .int (iI x16_3))]) hx hb dX2_weighTried_46 rfl hl (by decide) rfl (fun ls hl => ?_)
            refine lv_iinc (v := iI (x16_3 + 1)) (lv' := [(3, .int (iI (x16_3 + 1))), (1, .int (iI w45)), (0, .ref t), (2, .int (iI x4_2))]) hx hb dX2_weighTried_47 hl (k := 3) rfl (iI_add _ _) (by decide) rfl (fun ls hl => ?_)
            refine lv_goto (tgt := 16) hx hb dX2_weighTried_50 (by decide) ?_
            exact ih16 w45 (x16_3 + 1) _ _ ls (by omega) (by omega) (hP.sub [0, 1, 2, 3] rfl) (hD.sub [0, 1, 2, 3] (by decide) rfl) hS (lv_sub hl [2, 1, 3, 0] rfl)
      refine lv_iload_n hx hb dX2_weighTried_4 rfl (lv_at hl 2 rfl) ?_
      refine lv_aload_n hx hb dX2_weighTried_5 rfl (lv_at hl 0 rfl) ?_
      refine va_get (D := D) (own := RX2) (ci := 2) (v := .int (iI t_x0)) (C := RX2) (T := TX2) (N := 6) hx hb hts inb_X2 hown hK.1 hP 0 rfl rfl 0 (by decide) (hts _ wd_357) (fun _ h9 => h9) rfl dX2_weighTried_6 ?_
      have y6_1 : 0 ≤ t_x0 ∧ t_x0 ≤ 5 := hi_t.1
      refine g_icmp_ge (tgt := 59) hx hb (by omega) (by omega) dX2_weighTried_9 (by decide) (fun c9 => ?_) (fun c9 => ?_)
      · refine lv_iload_n hx hb dX2_weighTried_59 rfl (lv_at hl 1 rfl) ?_
        refine lv_aload_n hx hb dX2_weighTried_60 rfl (lv_at hl 0 rfl) ?_
        refine va_get (D := D) (own := RX2) (ci := 2) (v := .int (iI t_x4)) (C := RX2) (T := TX2) (N := 6) hx hb hts inb_X2 hown hK.1 hP 0 rfl rfl 4 (by decide) (hts _ wd_362) (fun _ h9 => h9) rfl dX2_weighTried_61 ?_
        have y61_2 : (-2147483648) ≤ t_x4 ∧ t_x4 ≤ 2147483647 := hi_t.2.1
        refine g_icmp_ge (tgt := 94) hx hb (by omega) (by omega) dX2_weighTried_64 (by decide) (fun c64 => ?_) (fun c64 => ?_)
        · have y94_3 : (-2147483648) ≤ t_x5 ∧ t_x5 ≤ 2147483647 := hi_t.2.2
          exact J94 x4_1 x4_2 t_x4 t_x5 t_3_c _ _ ls (by omega) hc_t_3 (hP.sub [0, 1, 2, 3] rfl) (hD.sub [0, 1, 2, 3] (by decide) rfl) hS (lv_sub hl [0, 1, 2] rfl)
        · refine lv_aload_n hx hb dX2_weighTried_67 rfl (lv_at hl 0 rfl) ?_
          refine lv_iload_n hx hb dX2_weighTried_68 rfl (lv_at hl 1 rfl) ?_
          refine va_put (D := D) (own := RX2) (ci := 2) (v := .int (iI x4_1)) (ty := .int) (C := RX2) (T := TX2) (N := 6) hx hb hts inb_X2 tyX2 tyX2_ok nmX2 hown hK.1 hP hD hS 0 rfl rfl 4 (by decide) (hts _ wd_362) (fun _ h9 => h9) rfl (by decide +kernel) rfl rfl (Nat.le_of_ble_eq_true rfl) dX2_weighTried_69 (fun H locs hP hD hS => ?_)
          have hP : va_P D vwCl [(t, .inr (2, oX2 t_q t_x0 x4_1 t_x5)), ((t_q 2), .inl (K 0, 5, .inl (fun j => iI (t_2_c j)))), ((t_q 3), .inl (K 0, 5, .inl (fun j => iI (t_3_c j)))), ((t_q 1), .inl (K 0, 25, .inl (fun j => iI (t_1_c j))))] H := hP
          have hD : va_D A [(t, .inr (2, oX2 t_q t_x0 x4_1 t_x5)), ((t_q 2), .inl (K 0, 5, .inl (fun j => iI (t_2_c j)))), ((t_q 3), .inl (K 0, 5, .inl (fun j => iI (t_3_c j)))), ((t_q 1), .inl (K 0, 25, .inl (fun j => iI (t_1_c j))))] := hD
          refine lv_aload_n hx hb dX2_weighTried_72 rfl (lv_at hl 0 rfl) ?_
          refine lv_iconst (v := iI 0) hx hb dX2_weighTried_73 rfl ?_
          refine va_put (D := D) (own := RX2) (ci := 2) (v := .int (iI 0)) (ty := .int) (C := RX2) (T := TX2) (N := 6) hx hb hts inb_X2 tyX2 tyX2_ok nmX2 hown hK.1 hP hD hS 0 rfl rfl 5 (by decide) (hts _ wd_364) (fun _ h9 => h9) rfl (by decide +kernel) rfl rfl (Nat.le_of_ble_eq_true rfl) dX2_weighTried_74 (fun H locs hP hD hS => ?_)
          have hP : va_P D vwCl [(t, .inr (2, oX2 t_q t_x0 x4_1 0)), ((t_q 2), .inl (K 0, 5, .inl (fun j => iI (t_2_c j)))), ((t_q 3), .inl (K 0, 5, .inl (fun j => iI (t_3_c j)))), ((t_q 1), .inl (K 0, 25, .inl (fun j => iI (t_1_c j))))] H := hP
          have hD : va_D A [(t, .inr (2, oX2 t_q t_x0 x4_1 0)), ((t_q 2), .inl (K 0, 5, .inl (fun j => iI (t_2_c j)))), ((t_q 3), .inl (K 0, 5, .inl (fun j => iI (t_3_c j)))), ((t_q 1), .inl (K 0, 25, .inl (fun j => iI (t_1_c j))))] := hD
          refine lv_aload_n hx hb dX2_weighTried_77 rfl (lv_at hl 0 rfl) ?_
          refine va_get (D := D) (own := RX2) (ci := 2) (v := .ref (t_q 2)) (C := RX2) (T := TX2) (N := 6) hx hb hts inb_X2 hown hK.1 hP 0 rfl rfl 2 (by decide) (hts _ wd_359) (fun _ h9 => h9) rfl dX2_weighTried_78 ?_
          refine lv_iconst (v := iI 0) hx hb dX2_weighTried_81 rfl ?_
          refine lv_aload_n hx hb dX2_weighTried_82 rfl (lv_at hl 0 rfl) ?_
          refine va_get (D := D) (own := RX2) (ci := 2) (v := .ref (t_q 3)) (C := RX2) (T := TX2) (N := 6) hx hb hts inb_X2 hown hK.1 hP 0 rfl rfl 3 (by decide) (hts _ wd_360) (fun _ h9 => h9) rfl dX2_weighTried_83 ?_
          refine fn_at 86 rfl ?_
          refine lv_iconst (v := iI 0) hx hb dX2_weighTried_86 rfl ?_
          refine lv_aload_n hx hb dX2_weighTried_87 rfl (lv_at hl 0 rfl) ?_
          refine va_get (D := D) (own := RX2) (ci := 2) (v := .int (iI t_x0)) (C := RX2) (T := TX2) (N := 6) hx hb hts inb_X2 hown hK.1 hP 0 rfl rfl 0 (by decide) (hts _ wd_357) (fun _ h9 => h9) rfl dX2_weighTried_88 ?_
          refine g_cpy (own := RX2) hx hb (hml.trans hl.1.symm) hown (hts _ wd_1046) (hts _ wd_622) (hts _ wd_621) (hts _ wd_19) hK.1 hP hD hS 1 2 0 0 rfl rfl rfl rfl (by omega) (by omega) (by omega) (Nat.le_of_ble_eq_true rfl) (Nat.le_of_ble_eq_true rfl) dX2_weighTried_91 (fun H locs g91 eg91 hP hD hS => ?_)
          have hg91 : ∀ j : Nat, 0 ≤ g91 j ∧ g91 j ≤ 4 := by rw [eg91]; exact cI_all hc_t_2 hc_t_3
          have hP : va_P D vwCl [(t, .inr (2, oX2 t_q t_x0 x4_1 0)), ((t_q 2), .inl (K 0, 5, .inl (fun j => iI (t_2_c j)))), ((t_q 3), .inl (K 0, 5, .inl (fun j => iI (g91 j)))), ((t_q 1), .inl (K 0, 25, .inl (fun j => iI (t_1_c j))))] H := hP
          have hD : va_D A [(t, .inr (2, oX2 t_q t_x0 x4_1 0)), ((t_q 2), .inl (K 0, 5, .inl (fun j => iI (t_2_c j)))), ((t_q 3), .inl (K 0, 5, .inl (fun j => iI (g91 j)))), ((t_q 1), .inl (K 0, 25, .inl (fun j => iI (t_1_c j))))] := hD
          exact J94 x4_1 x4_2 x4_1 0 g91 _ _ ls (by omega) hg91 (hP.sub [0, 1, 2, 3] rfl) (hD.sub [0, 1, 2, 3] (by decide) rfl) hS (lv_sub hl [0, 1, 2] rfl)
      · refine lv_iload_n hx hb dX2_weighTried_12 rfl (lv_at hl 2 rfl) ?_
        refine lv_iconst (v := iI 1) hx hb dX2_weighTried_13 rfl ?_
        refine g_iadd hx hb dX2_weighTried_14 ?_
        refine lv_istore_n (lv' := [(3, .int (iI (x4_2 + 1))), (0, .ref t), (1, .int (iI x4_1)), (2, .int (iI x4_2))]) hx hb dX2_weighTried_15 rfl hl (by decide) rfl (fun ls hl => ?_)
        exact J16 _ x4_1 (x4_2 + 1) _ _ ls (Nat.lt_succ_self _) (by omega) (hP.sub [0, 1, 2, 3] rfl) (hD.sub [0, 1, 2, 3] (by decide) rfl) hS (lv_sub hl [1, 2, 3, 0] rfl)
  have hl : lv_has ls 4 [(0, .ref t)] := hl
  refine lv_iconst (v := iI 0) hx hb dX2_weighTried_0 rfl ?_
  refine lv_istore_n (lv' := [(1, .int (iI 0)), (0, .ref t)]) hx hb dX2_weighTried_1 rfl hl (by decide) rfl (fun ls hl => ?_)
  refine lv_iconst (v := iI 0) hx hb dX2_weighTried_2 rfl ?_
  refine lv_istore_n (lv' := [(2, .int (iI 0)), (1, .int (iI 0)), (0, .ref t)]) hx hb dX2_weighTried_3 rfl hl (by decide) rfl (fun ls hl => ?_)
  exact J4 _ 0 0 _ _ ls (Nat.lt_succ_self _) (by omega) (hP.sub [0, 1, 2, 3] rfl) (hD.sub [0, 1, 2, 3] (by decide) rfl) hS (lv_sub hl [2, 1, 0] rfl)
theorem wd_1045 : Cond.code ⟨"FootNotes$Precedence", "weighTried", "()V"⟩ prog_4_method_4_code 4 (Option.none : Option Jvm.ClassFile.FieldType) ∈ fn_big := fn_tb (fn_l5 (List.mem_of_getElem? (i := 85) (by decide +kernel))) (by decide +kernel)
theorem wd_1042 : Cond.methodLink "FootNotes$Precedence" 38 ⟨"FootNotes$Precedence", "weighTried", "()V"⟩ ∈ fn_big := fn_tb (fn_l5 (List.mem_of_getElem? (i := 82) (by decide +kernel))) (by decide +kernel)
theorem wd_1044 : Cond.instanceMethod ⟨"FootNotes$Precedence", "weighTried", "()V"⟩ ∈ fn_big := fn_tb (fn_l5 (List.mem_of_getElem? (i := 84) (by decide +kernel))) (by decide +kernel)
theorem wp_73 : Cond.selects "FootNotes$Precedence" ⟨"FootNotes$Precedence", "weighTried", "()V"⟩ ⟨"FootNotes$Precedence", "weighTried", "()V"⟩ ∈ fn_big := fn_sel (q := (⟨"FootNotes$Precedence", "weighTried", "()V"⟩, 6)) 73 (by decide +kernel) (by decide +kernel)
theorem wd_1050 : Cond.code ⟨"FootNotes$Precedence", "moveToNextOrder", "()Z"⟩ prog_4_method_5_code 5 (Option.some Jvm.ClassFile.FieldType.boolean) ∈ fn_big := fn_tb (fn_l5 (List.mem_of_getElem? (i := 90) (by decide +kernel))) (by decide +kernel)
theorem wd_1047 : Cond.methodLink "FootNotes$Precedence" 41 ⟨"FootNotes$Precedence", "moveToNextOrder", "()Z"⟩ ∈ fn_big := fn_tb (fn_l5 (List.mem_of_getElem? (i := 87) (by decide +kernel))) (by decide +kernel)
theorem wd_1049 : Cond.instanceMethod ⟨"FootNotes$Precedence", "moveToNextOrder", "()Z"⟩ ∈ fn_big := fn_tb (fn_l5 (List.mem_of_getElem? (i := 89) (by decide +kernel))) (by decide +kernel)
theorem wp_74 : Cond.selects "FootNotes$Precedence" ⟨"FootNotes$Precedence", "moveToNextOrder", "()Z"⟩ ⟨"FootNotes$Precedence", "moveToNextOrder", "()Z"⟩ ∈ fn_big := fn_sel (q := (⟨"FootNotes$Precedence", "moveToNextOrder", "()Z"⟩, 6)) 74 (by decide +kernel) (by decide +kernel)
theorem wd_1040 : Cond.code ⟨"FootNotes$Precedence", "tally", "(LFootNotes$Text;LFootNotes$Web;)V"⟩ prog_4_method_3_code 6 (Option.none : Option Jvm.ClassFile.FieldType) ∈ fn_big := fn_tb (fn_l5 (List.mem_of_getElem? (i := 80) (by decide +kernel))) (by decide +kernel)
theorem wd_1037 : Cond.methodLink "FootNotes$Precedence" 28 ⟨"FootNotes$Precedence", "tally", "(LFootNotes$Text;LFootNotes$Web;)V"⟩ ∈ fn_big := fn_tb (fn_l5 (List.mem_of_getElem? (i := 77) (by decide +kernel))) (by decide +kernel)
theorem wd_1039 : Cond.instanceMethod ⟨"FootNotes$Precedence", "tally", "(LFootNotes$Text;LFootNotes$Web;)V"⟩ ∈ fn_big := fn_tb (fn_l5 (List.mem_of_getElem? (i := 79) (by decide +kernel))) (by decide +kernel)
theorem wp_72 : Cond.selects "FootNotes$Precedence" ⟨"FootNotes$Precedence", "tally", "(LFootNotes$Text;LFootNotes$Web;)V"⟩ ⟨"FootNotes$Precedence", "tally", "(LFootNotes$Text;LFootNotes$Web;)V"⟩ ∈ fn_big := fn_sel (q := (⟨"FootNotes$Precedence", "tally", "(LFootNotes$Text;LFootNotes$Web;)V"⟩, 6)) 72 (by decide +kernel) (by decide +kernel)
theorem dX2_search_53 : decode cX2_search 53 = .ok (.iload 4, 2) := by decide +kernel
theorem dX2_search_55 : decode cX2_search 55 = .ok (.bipush 120, 2) := by decide +kernel
theorem dX2_search_57 : decode cX2_search 57 = .ok (.if_icmp .ge 22, 3) := by decide +kernel
theorem dX2_search_79 : decode cX2_search 79 = .ok (.return_, 1) := by decide +kernel
theorem dX2_search_60 : decode cX2_search 60 = .ok (.iload_n 3, 1) := by decide +kernel
theorem dX2_search_61 : decode cX2_search 61 = .ok (.ifCond .eq 18, 3) := by decide +kernel
theorem dX2_search_64 : decode cX2_search 64 = .ok (.aload_n 0, 1) := by decide +kernel
theorem dX2_search_65 : decode cX2_search 65 = .ok (.invokevirtual 38, 3) := by decide +kernel
theorem dX2_search_68 : decode cX2_search 68 = .ok (.aload_n 0, 1) := by decide +kernel
theorem dX2_search_69 : decode cX2_search 69 = .ok (.invokevirtual 41, 3) := by decide +kernel
theorem dX2_search_72 : decode cX2_search 72 = .ok (.istore_n 3, 1) := by decide +kernel
theorem dX2_search_73 : decode cX2_search 73 = .ok (.iinc 4 1, 3) := by decide +kernel
theorem dX2_search_76 : decode cX2_search 76 = .ok (.goto (-23), 3) := by decide +kernel
theorem dX2_search_16 : decode cX2_search 16 = .ok (.iload_n 3, 1) := by decide +kernel
theorem dX2_search_17 : decode cX2_search 17 = .ok (.aload_n 0, 1) := by decide +kernel
theorem dX2_search_18 : decode cX2_search 18 = .ok (.getfield 27, 3) := by decide +kernel
theorem dX2_search_21 : decode cX2_search 21 = .ok (.if_icmp .ge 16, 3) := by decide +kernel
theorem dX2_search_37 : decode cX2_search 37 = .ok (.aload_n 0, 1) := by decide +kernel
theorem dX2_search_38 : decode cX2_search 38 = .ok (.bipush 25, 2) := by decide +kernel
theorem dX2_search_40 : decode cX2_search 40 = .ok (.putfield 32, 3) := by decide +kernel
theorem dX2_search_43 : decode cX2_search 43 = .ok (.aload_n 0, 1) := by decide +kernel
theorem dX2_search_44 : decode cX2_search 44 = .ok (.iconst 0, 1) := by decide +kernel
theorem dX2_search_45 : decode cX2_search 45 = .ok (.putfield 35, 3) := by decide +kernel
theorem dX2_search_48 : decode cX2_search 48 = .ok (.iconst 1, 1) := by decide +kernel
theorem dX2_search_49 : decode cX2_search 49 = .ok (.istore_n 3, 1) := by decide +kernel
theorem dX2_search_50 : decode cX2_search 50 = .ok (.iconst 0, 1) := by decide +kernel
theorem dX2_search_51 : decode cX2_search 51 = .ok (.istore 4, 2) := by decide +kernel
theorem dX2_search_24 : decode cX2_search 24 = .ok (.aload_n 0, 1) := by decide +kernel
theorem dX2_search_25 : decode cX2_search 25 = .ok (.getfield 15, 3) := by decide +kernel
theorem dX2_search_28 : decode cX2_search 28 = .ok (.iload_n 3, 1) := by decide +kernel
theorem dX2_search_29 : decode cX2_search 29 = .ok (.iload_n 3, 1) := by decide +kernel
theorem dX2_search_30 : decode cX2_search 30 = .ok (.iastore, 1) := by decide +kernel
theorem dX2_search_31 : decode cX2_search 31 = .ok (.iinc 3 1, 3) := by decide +kernel
theorem dX2_search_34 : decode cX2_search 34 = .ok (.goto (-18), 3) := by decide +kernel
theorem dX2_search_0 : decode cX2_search 0 = .ok (.aload_n 0, 1) := by decide +kernel
theorem dX2_search_1 : decode cX2_search 1 = .ok (.aload_n 1, 1) := by decide +kernel
theorem dX2_search_2 : decode cX2_search 2 = .ok (.getfield 21, 3) := by decide +kernel
theorem dX2_search_5 : decode cX2_search 5 = .ok (.putfield 27, 3) := by decide +kernel
theorem dX2_search_8 : decode cX2_search 8 = .ok (.aload_n 0, 1) := by decide +kernel
theorem dX2_search_9 : decode cX2_search 9 = .ok (.aload_n 1, 1) := by decide +kernel
theorem dX2_search_10 : decode cX2_search 10 = .ok (.aload_n 2, 1) := by decide +kernel
theorem dX2_search_11 : decode cX2_search 11 = .ok (.invokevirtual 28, 3) := by decide +kernel
theorem dX2_search_14 : decode cX2_search 14 = .ok (.iconst 0, 1) := by decide +kernel
theorem dX2_search_15 : decode cX2_search 15 = .ok (.istore_n 3, 1) := by decide +kernel
set_option maxHeartbeats 4000000 in
set_option maxRecDepth 100000 in
theorem k_X2_search (l : Launch) (D : va_G) (K : Nat → ClassId) (t a1 a2 : Nat) (a1_q t_q a2_q : Nat → Nat) (a1_x0 a1_x1 a1_x2 a1_x3 a1_x4 a1_x5 a1_x6 a1_x7 a1_x8 t_x0 t_x4 t_x5 a2_x0 a2_x1 a2_x6 : Int) (t_1_c : Nat → Int) (a2_3_c : Nat → Int) (a1_12_c : Nat → Int) (a1_11_c : Nat → Int) (t_2_c : Nat → Int) (t_3_c : Nat → Int) (hi_a1 : bX7 a1_x0 a1_x1 a1_x2 a1_x3 a1_x4 a1_x5 a1_x6 a1_x7 a1_x8) (hi_t : bX2 t_x0 t_x4 t_x5) (hc_t_1 : ∀ j : Nat, (-2147483648) ≤ t_1_c j ∧ t_1_c j ≤ 2147483647) (hi_a2 : bX10 a2_x0 a2_x1 a2_x6) (hc_a2_3 : ∀ j : Nat, (-1) ≤ a2_3_c j ∧ a2_3_c j ≤ 11) (hc_a1_12 : ∀ j : Nat, 0 ≤ a1_12_c j ∧ a1_12_c j ≤ 11) (hc_a1_11 : ∀ j : Nat, 0 ≤ a1_11_c j ∧ a1_11_c j ≤ 4) (hc_t_2 : ∀ j : Nat, 0 ≤ t_2_c j ∧ t_2_c j ≤ 4) (hc_t_3 : ∀ j : Nat, 0 ≤ t_3_c j ∧ t_3_c j ≤ 4) : fn_CV (S := (Nat → Int) × (Nat → Nat → Int)) l D K yX2_search (fn_ws yX2_search cX2_search 5 none) ({ frames := 12, cells := 0, slots := 0, locals := 300 } : Room) [.ref t, .ref a1, .ref a2] [(a1, .inr (7, oX7 a1_q a1_x0 a1_x1 a1_x2 a1_x3 a1_x4 a1_x5 a1_x6 a1_x7 a1_x8)), (t, .inr (2, oX2 t_q t_x0 t_x4 t_x5)), ((t_q 1), .inl (K 0, 25, .inl (fun j => iI (t_1_c j)))), (a2, .inr (10, oX10 a2_q a2_x0 a2_x1 a2_x6)), ((a2_q 3), .inl (K 0, 24, .inl (fun j => iI (a2_3_c j)))), ((a1_q 12), .inl (K 0, 24, .inl (fun j => iI (a1_12_c j)))), ((a1_q 11), .inl (K 0, 12, .inl (fun j => iI (a1_11_c j)))), ((t_q 2), .inl (K 0, 5, .inl (fun j => iI (t_2_c j)))), ((t_q 3), .inl (K 0, 5, .inl (fun j => iI (t_3_c j))))] (fun u => (0 ≤ (u.1 0) ∧ (u.1 0) ≤ 5 ∧ (-2147483648) ≤ (u.1 1) ∧ (u.1 1) ≤ 2147483647 ∧ (-2147483648) ≤ (u.1 2) ∧ (u.1 2) ≤ 2147483647) ∧ (∀ j : Nat, (-2147483648) ≤ (u.2 0) j ∧ (u.2 0) j ≤ 2147483647) ∧ (∀ j : Nat, 0 ≤ (u.2 1) j ∧ (u.2 1) j ≤ 4) ∧ (∀ j : Nat, 0 ≤ (u.2 2) j ∧ (u.2 2) j ≤ 4) ∧ True) (fun u => [(a1, .inr (7, oX7 a1_q a1_x0 a1_x1 a1_x2 a1_x3 a1_x4 a1_x5 a1_x6 a1_x7 a1_x8)), (t, .inr (2, oX2 t_q (u.1 0) (u.1 1) (u.1 2))), ((t_q 1), .inl (K 0, 25, .inl (fun j => iI ((u.2 0) j)))), (a2, .inr (10, oX10 a2_q a2_x0 a2_x1 a2_x6)), ((a2_q 3), .inl (K 0, 24, .inl (fun j => iI (a2_3_c j)))), ((a1_q 12), .inl (K 0, 24, .inl (fun j => iI (a1_12_c j)))), ((a1_q 11), .inl (K 0, 12, .inl (fun j => iI (a1_11_c j)))), ((t_q 2), .inl (K 0, 5, .inl (fun j => iI ((u.2 1) j)))), ((t_q 3), .inl (K 0, 5, .inl (fun j => iI ((u.2 2) j))))]) 0 0 := by
  refine g_inV (cc := cX2_search) (maxL := 5) (ret := none) (by decide) rfl (Nat.le_of_ble_eq_true rfl) ?_
  intro p e s m below meth c A ls ag Q B hA hP hD hS hl hQ
  obtain ⟨hx, hb, hr, hml, hts, hown, hlocks, hin, hK⟩ := B
  have hown : s.vm.findClass RX2 = some m.cls := hown
  have hts := fun w h => hts w (List.mem_cons_of_mem _ h)
  have J53 : ∀ (n : Nat) (x53_3 : Int) (x53_4 : Int) (f53_t_4 : Int) (f53_t_5 : Int) (c53_t_1 : Nat → Int) (c53_t_2 : Nat → Int) (c53_t_3 : Nat → Int) (H : Heap) (locs : List Loc) (ls : Array Slot), (120 - x53_4).toNat < n → (0 ≤ x53_3 ∧ x53_3 ≤ 1 ∧ 0 ≤ x53_4 ∧ x53_4 ≤ 120 ∧ (-2147483648) ≤ f53_t_4 ∧ f53_t_4 ≤ 2147483647 ∧ (-2147483648) ≤ f53_t_5 ∧ f53_t_5 ≤ 2147483647) → (∀ j : Nat, (-2147483648) ≤ c53_t_1 j ∧ c53_t_1 j ≤ 2147483647) → (∀ j : Nat, 0 ≤ c53_t_2 j ∧ c53_t_2 j ≤ 4) → (∀ j : Nat, 0 ≤ c53_t_3 j ∧ c53_t_3 j ≤ 4) → va_P D vwCl [(a1, .inr (7, oX7 a1_q a1_x0 a1_x1 a1_x2 a1_x3 a1_x4 a1_x5 a1_x6 a1_x7 a1_x8)), (t, .inr (2, oX2 t_q a1_x3 f53_t_4 f53_t_5)), ((t_q 1), .inl (K 0, 25, .inl (fun j => iI (c53_t_1 j)))), (a2, .inr (10, oX10 a2_q a2_x0 a2_x1 a2_x6)), ((a2_q 3), .inl (K 0, 24, .inl (fun j => iI (a2_3_c j)))), ((a1_q 12), .inl (K 0, 24, .inl (fun j => iI (a1_12_c j)))), ((a1_q 11), .inl (K 0, 12, .inl (fun j => iI (a1_11_c j)))), ((t_q 2), .inl (K 0, 5, .inl (fun j => iI (c53_t_2 j)))), ((t_q 3), .inl (K 0, 5, .inl (fun j => iI (c53_t_3 j))))] H → va_D A [(a1, .inr (7, oX7 a1_q a1_x0 a1_x1 a1_x2 a1_x3 a1_x4 a1_x5 a1_x6 a1_x7 a1_x8)), (t, .inr (2, oX2 t_q a1_x3 f53_t_4 f53_t_5)), ((t_q 1), .inl (K 0, 25, .inl (fun j => iI (c53_t_1 j)))), (a2, .inr (10, oX10 a2_q a2_x0 a2_x1 a2_x6)), ((a2_q 3), .inl (K 0, 24, .inl (fun j => iI (a2_3_c j)))), ((a1_q 12), .inl (K 0, 24, .inl (fun j => iI (a1_12_c j)))), ((a1_q 11), .inl (K 0, 12, .inl (fun j => iI (a1_11_c j)))), ((t_q 2), .inl (K 0, 5, .inl (fun j => iI (c53_t_2 j)))), ((t_q 3), .inl (K 0, 5, .inl (fun j => iI (c53_t_3 j))))] → va_S A s.heap H locs → lv_has ls 5 [(0, .ref t), (1, .ref a1), (2, .ref a2), (3, .int (iI x53_3)), (4, .int (iI x53_4))] → W p l e ({ frames := 12, cells := 0, slots := 0, locals := 300 } : Room) s m ag below meth c H locs 0 0 Q (F0 m 53 ls []) := by
    intro n
    induction n with
    | zero =>
      intro x53_3 x53_4 f53_t_4 f53_t_5 c53_t_1 c53_t_2 c53_t_3 H locs ls hm53 hf53 hc53_t_1 hc53_t_2 hc53_t_3 hP hD hS hl
      exact absurd hm53 (Nat.not_lt_zero _)
    | succ n ih53 =>
      intro x53_3 x53_4 f53_t_4 f53_t_5 c53_t_1 c53_t_2 c53_t_3 H locs ls hm53 hf53 hc53_t_1 hc53_t_2 hc53_t_3 hP hD hS hl
      refine lv_iload hx hb dX2_search_53 (lv_at hl 4 rfl) ?_
      refine lv_bipush (v := iI 120) hx hb dX2_search_55 (by decide) ?_
      refine g_icmp_ge (tgt := 79) hx hb (by omega) (by omega) dX2_search_57 (by decide) (fun c57 => ?_) (fun c57 => ?_)
      · have y79_1 : 0 ≤ a1_x3 ∧ a1_x3 ≤ 5 := hi_a1.2.2.2.1
        rw [hQ]; exact fn_vret hx hb hr hlocks hP hD hS ((fun k => ([a1_x3, f53_t_4, f53_t_5] : List Int).getD k 0), (fun k => ([c53_t_1, c53_t_2, c53_t_3] : List (Nat → Int)).getD k (fun _ => 0))) ⟨(by show 0 ≤ a1_x3 ∧ a1_x3 ≤ 5 ∧ (-2147483648) ≤ f53_t_4 ∧ f53_t_4 ≤ 2147483647 ∧ (-2147483648) ≤ f53_t_5 ∧ f53_t_5 ≤ 2147483647; omega), (hc53_t_1), (hc53_t_2), (hc53_t_3), trivial⟩ [0, 1, 2, 3, 4, 5, 6, 7, 8] (by decide) rfl dX2_search_79
      · refine lv_iload_n hx hb dX2_search_60 rfl (lv_at hl 3 rfl) ?_
        refine g_if_eq (tgt := 79) hx hb (by omega) dX2_search_61 (by decide) (fun c61 => ?_) (fun c61 => ?_)
        · have y79_1 : 0 ≤ a1_x3 ∧ a1_x3 ≤ 5 := hi_a1.2.2.2.1
          rw [hQ]; exact fn_vret hx hb hr hlocks hP hD hS ((fun k => ([a1_x3, f53_t_4, f53_t_5] : List Int).getD k 0), (fun k => ([c53_t_1, c53_t_2, c53_t_3] : List (Nat → Int)).getD k (fun _ => 0))) ⟨(by show 0 ≤ a1_x3 ∧ a1_x3 ≤ 5 ∧ (-2147483648) ≤ f53_t_4 ∧ f53_t_4 ≤ 2147483647 ∧ (-2147483648) ≤ f53_t_5 ∧ f53_t_5 ≤ 2147483647; omega), (hc53_t_1), (hc53_t_2), (hc53_t_3), trivial⟩ [0, 1, 2, 3, 4, 5, 6, 7, 8] (by decide) rfl dX2_search_79
        · refine lv_aload_n hx hb dX2_search_64 rfl (lv_at hl 0 rfl) ?_
          refine fn_gov (wc := [(t, .inr (2, oX2 t_q a1_x3 f53_t_4 f53_t_5)), ((t_q 2), .inl (K 0, 5, .inl (fun j => iI (c53_t_2 j)))), ((t_q 3), .inl (K 0, 5, .inl (fun j => iI (c53_t_3 j)))), ((t_q 1), .inl (K 0, 25, .inl (fun j => iI (c53_t_1 j))))]) (wr := [(a1, .inr (7, oX7 a1_q a1_x0 a1_x1 a1_x2 a1_x3 a1_x4 a1_x5 a1_x6 a1_x7 a1_x8)), (a2, .inr (10, oX10 a2_q a2_x0 a2_x1 a2_x6)), ((a2_q 3), .inl (K 0, 24, .inl (fun j => iI (a2_3_c j)))), ((a1_q 12), .inl (K 0, 24, .inl (fun j => iI (a1_12_c j)))), ((a1_q 11), .inl (K 0, 12, .inl (fun j => iI (a1_11_c j))))]) hK hP hD hS hA [1, 7, 8, 2] [0, 3, 4, 5, 6] rfl rfl (by decide) (fun hp => va_runV (C := RX2) (As := []) (rest := []) ⟨hx, hb, hml, hown, hts⟩ (k_X2_weighTried (l := l) (D := D) (K := K) (t := t) (t_q := t_q) (t_x0 := a1_x3) (t_x4 := f53_t_4) (t_x5 := f53_t_5) (t_2_c := c53_t_2) (t_3_c := c53_t_3) (t_1_c := c53_t_1) (hi_t := ⟨hi_a1.2.2.2.1, (by omega), (by omega)⟩) (hc_t_2 := hc53_t_2) (hc_t_3 := hc53_t_3) (hc_t_1 := hc53_t_1) _) (cwV 0 hts (fn_ginV (fn_gin wd_1045) wd_1042 wd_1044 wp_73 wd_10) rfl rfl rfl (by decide +kernel) ⟨Nat.le_of_ble_eq_true rfl, Nat.le_of_ble_eq_true rfl⟩) ⟨fn_blind, va_recv hK.1 hP (ci := 2) (q0 := 1) rfl rfl, hp⟩ rfl rfl hl.1 rfl (lv_room (Nat.le_of_ble_eq_true rfl)) dX2_search_65 ⟨Nat.le_of_ble_eq_true rfl, Nat.le_of_ble_eq_true rfl⟩) (fun u65 H locs hwu65 hP hD hS => ?_)
          obtain ⟨u65a, u65b⟩ := u65
          obtain ⟨hqu650, hu65_00, -⟩ := hwu65
          have hqu65 : (-2147483648) ≤ (u65a 0) ∧ (u65a 0) ≤ 2147483647 ∧ (-2147483648) ≤ (u65a 1) ∧ (u65a 1) ≤ 2147483647 := hqu650
          have hu65_0 : ∀ j : Nat, 0 ≤ (u65b 0) j ∧ (u65b 0) j ≤ 4 := hu65_00
          clear hqu650 hu65_00
          have hP : va_P D vwCl [(a1, .inr (7, oX7 a1_q a1_x0 a1_x1 a1_x2 a1_x3 a1_x4 a1_x5 a1_x6 a1_x7 a1_x8)), (a2, .inr (10, oX10 a2_q a2_x0 a2_x1 a2_x6)), ((a2_q 3), .inl (K 0, 24, .inl (fun j => iI (a2_3_c j)))), ((a1_q 12), .inl (K 0, 24, .inl (fun j => iI (a1_12_c j)))), ((a1_q 11), .inl (K 0, 12, .inl (fun j => iI (a1_11_c j)))), (t, .inr (2, oX2 t_q a1_x3 (u65a 0) (u65a 1))), ((t_q 2), .inl (K 0, 5, .inl (fun j => iI (c53_t_2 j)))), ((t_q 3), .inl (K 0, 5, .inl (fun j => iI ((u65b 0) j)))), ((t_q 1), .inl (K 0, 25, .inl (fun j => iI (c53_t_1 j))))] H := hP
          have hD : va_D A [(a1, .inr (7, oX7 a1_q a1_x0 a1_x1 a1_x2 a1_x3 a1_x4 a1_x5 a1_x6 a1_x7 a1_x8)), (a2, .inr (10, oX10 a2_q a2_x0 a2_x1 a2_x6)), ((a2_q 3), .inl (K 0, 24, .inl (fun j => iI (a2_3_c j)))), ((a1_q 12), .inl (K 0, 24, .inl (fun j => iI (a1_12_c j)))), ((a1_q 11), .inl (K 0, 12, .inl (fun j => iI (a1_11_c j)))), (t, .inr (2, oX2 t_q a1_x3 (u65a 0) (u65a 1))), ((t_q 2), .inl (K 0, 5, .inl (fun j => iI (c53_t_2 j)))), ((t_q 3), .inl (K 0, 5, .inl (fun j => iI ((u65b 0) j)))), ((t_q 1), .inl (K 0, 25, .inl (fun j => iI (c53_t_1 j))))] := hD
          refine lv_aload_n hx hb dX2_search_68 rfl (lv_at hl 0 rfl) ?_
          refine fn_goi (wc := [(t, .inr (2, oX2 t_q a1_x3 (u65a 0) (u65a 1))), ((t_q 2), .inl (K 0, 5, .inl (fun j => iI (c53_t_2 j))))]) (wr := [(a1, .inr (7, oX7 a1_q a1_x0 a1_x1 a1_x2 a1_x3 a1_x4 a1_x5 a1_x6 a1_x7 a1_x8)), (a2, .inr (10, oX10 a2_q a2_x0 a2_x1 a2_x6)), ((a2_q 3), .inl (K 0, 24, .inl (fun j => iI (a2_3_c j)))), ((a1_q 12), .inl (K 0, 24, .inl (fun j => iI (a1_12_c j)))), ((a1_q 11), .inl (K 0, 12, .inl (fun j => iI (a1_11_c j)))), ((t_q 3), .inl (K 0, 5, .inl (fun j => iI ((u65b 0) j)))), ((t_q 1), .inl (K 0, 25, .inl (fun j => iI (c53_t_1 j))))]) hK hP hD hS hA [5, 6] [0, 1, 2, 3, 4, 7, 8] rfl rfl (by decide) (fun hp => va_runV (C := RX2) (As := []) (rest := []) ⟨hx, hb, hml, hown, hts⟩ (k_X2_moveToNextOrder (l := l) (D := D) (K := K) (t := t) (t_q := t_q) (t_x0 := a1_x3) (t_x4 := (u65a 0)) (t_x5 := (u65a 1)) (t_2_c := c53_t_2) (hi_t := ⟨hi_a1.2.2.2.1, (by omega), (by omega)⟩) (hc_t_2 := hc53_t_2) _) (cwV 0 hts (fn_ginV (fn_gin wd_1050) wd_1047 wd_1049 wp_74 wd_10) rfl rfl rfl (by decide +kernel) ⟨Nat.le_of_ble_eq_true rfl, Nat.le_of_ble_eq_true rfl⟩) ⟨fn_blind, va_recv hK.1 hP (ci := 2) (q0 := 5) rfl rfl, hp⟩ rfl rfl hl.1 rfl (lv_room (Nat.le_of_ble_eq_true rfl)) dX2_search_69 ⟨Nat.le_of_ble_eq_true rfl, Nat.le_of_ble_eq_true rfl⟩) (fun r69 u69 H locs hwu69 hP hD hS => ?_)
          obtain ⟨u69a, u69b⟩ := u69
          obtain ⟨kr69, rfl, hkr69, hu69_00, -⟩ := hwu69
          have hu69_0 : ∀ j : Nat, 0 ≤ (u69b 0) j ∧ (u69b 0) j ≤ 4 := hu69_00
          clear hu69_00
          have hP : va_P D vwCl [(a1, .inr (7, oX7 a1_q a1_x0 a1_x1 a1_x2 a1_x3 a1_x4 a1_x5 a1_x6 a1_x7 a1_x8)), (a2, .inr (10, oX10 a2_q a2_x0 a2_x1 a2_x6)), ((a2_q 3), .inl (K 0, 24, .inl (fun j => iI (a2_3_c j)))), ((a1_q 12), .inl (K 0, 24, .inl (fun j => iI (a1_12_c j)))), ((a1_q 11), .inl (K 0, 12, .inl (fun j => iI (a1_11_c j)))), ((t_q 3), .inl (K 0, 5, .inl (fun j => iI ((u65b 0) j)))), ((t_q 1), .inl (K 0, 25, .inl (fun j => iI (c53_t_1 j)))), (t, .inr (2, oX2 t_q a1_x3 (u65a 0) (u65a 1))), ((t_q 2), .inl (K 0, 5, .inl (fun j => iI ((u69b 0) j))))] H := hP
          have hD : va_D A [(a1, .inr (7, oX7 a1_q a1_x0 a1_x1 a1_x2 a1_x3 a1_x4 a1_x5 a1_x6 a1_x7 a1_x8)), (a2, .inr (10, oX10 a2_q a2_x0 a2_x1 a2_x6)), ((a2_q 3), .inl (K 0, 24, .inl (fun j => iI (a2_3_c j)))), ((a1_q 12), .inl (K 0, 24, .inl (fun j => iI (a1_12_c j)))), ((a1_q 11), .inl (K 0, 12, .inl (fun j => iI (a1_11_c j)))), ((t_q 3), .inl (K 0, 5, .inl (fun j => iI ((u65b 0) j)))), ((t_q 1), .inl (K 0, 25, .inl (fun j => iI (c53_t_1 j)))), (t, .inr (2, oX2 t_q a1_x3 (u65a 0) (u65a 1))), ((t_q 2), .inl (K 0, 5, .inl (fun j => iI ((u69b 0) j))))] := hD
          refine lv_istore_n (lv' := [(3, .int (iI kr69)), (0, .ref t), (1, .ref a1), (2, .ref a2), (4, .int (iI x53_4))]) hx hb dX2_search_72 rfl hl (by decide) rfl (fun ls hl => ?_)
          refine lv_iinc (v := iI (x53_4 + 1)) (lv' := [(4, .int (iI (x53_4 + 1))), (3, .int (iI kr69)), (0, .ref t), (1, .ref a1), (2, .ref a2)]) hx hb dX2_search_73 hl (k := 4) rfl (iI_add _ _) (by decide) rfl (fun ls hl => ?_)
          refine lv_goto (tgt := 53) hx hb dX2_search_76 (by decide) ?_
          exact ih53 kr69 (x53_4 + 1) (u65a 0) (u65a 1) c53_t_1 (u69b 0) (u65b 0) _ _ ls (by omega) (by omega) hc53_t_1 hu69_0 hu65_0 (hP.sub [0, 7, 6, 1, 2, 3, 4, 8, 5] rfl) (hD.sub [0, 7, 6, 1, 2, 3, 4, 8, 5] (by decide) rfl) hS (lv_sub hl [2, 3, 4, 1, 0] rfl)
  have J16 : ∀ (n : Nat) (x16_3 : Int) (c16_t_1 : Nat → Int) (c16_t_2 : Nat → Int) (H : Heap) (locs : List Loc) (ls : Array Slot), (5 - x16_3).toNat < n → (0 ≤ x16_3 ∧ x16_3 ≤ 5) → (∀ j : Nat, (-2147483648) ≤ c16_t_1 j ∧ c16_t_1 j ≤ 2147483647) → (∀ j : Nat, 0 ≤ c16_t_2 j ∧ c16_t_2 j ≤ 4) → va_P D vwCl [(a1, .inr (7, oX7 a1_q a1_x0 a1_x1 a1_x2 a1_x3 a1_x4 a1_x5 a1_x6 a1_x7 a1_x8)), (t, .inr (2, oX2 t_q a1_x3 t_x4 t_x5)), ((t_q 1), .inl (K 0, 25, .inl (fun j => iI (c16_t_1 j)))), (a2, .inr (10, oX10 a2_q a2_x0 a2_x1 a2_x6)), ((a2_q 3), .inl (K 0, 24, .inl (fun j => iI (a2_3_c j)))), ((a1_q 12), .inl (K 0, 24, .inl (fun j => iI (a1_12_c j)))), ((a1_q 11), .inl (K 0, 12, .inl (fun j => iI (a1_11_c j)))), ((t_q 2), .inl (K 0, 5, .inl (fun j => iI (c16_t_2 j)))), ((t_q 3), .inl (K 0, 5, .inl (fun j => iI (t_3_c j))))] H → va_D A [(a1, .inr (7, oX7 a1_q a1_x0 a1_x1 a1_x2 a1_x3 a1_x4 a1_x5 a1_x6 a1_x7 a1_x8)), (t, .inr (2, oX2 t_q a1_x3 t_x4 t_x5)), ((t_q 1), .inl (K 0, 25, .inl (fun j => iI (c16_t_1 j)))), (a2, .inr (10, oX10 a2_q a2_x0 a2_x1 a2_x6)), ((a2_q 3), .inl (K 0, 24, .inl (fun j => iI (a2_3_c j)))), ((a1_q 12), .inl (K 0, 24, .inl (fun j => iI (a1_12_c j)))), ((a1_q 11), .inl (K 0, 12, .inl (fun j => iI (a1_11_c j)))), ((t_q 2), .inl (K 0, 5, .inl (fun j => iI (c16_t_2 j)))), ((t_q 3), .inl (K 0, 5, .inl (fun j => iI (t_3_c j))))] → va_S A s.heap H locs → lv_has ls 5 [(0, .ref t), (1, .ref a1), (2, .ref a2), (3, .int (iI x16_3))] → W p l e ({ frames := 12, cells := 0, slots := 0, locals := 300 } : Room) s m ag below meth c H locs 0 0 Q (F0 m 16 ls []) := by
    intro n
    induction n with
    | zero =>
      intro x16_3 c16_t_1 c16_t_2 H locs ls hm16 hf16 hc16_t_1 hc16_t_2 hP hD hS hl
      exact absurd hm16 (Nat.not_lt_zero _)
    | succ n ih16 =>
      intro x16_3 c16_t_1 c16_t_2 H locs ls hm16 hf16 hc16_t_1 hc16_t_2 hP hD hS hl
      refine lv_iload_n hx hb dX2_search_16 rfl (lv_at hl 3 rfl) ?_
      refine lv_aload_n hx hb dX2_search_17 rfl (lv_at hl 0 rfl) ?_
      refine va_get (D := D) (own := RX2) (ci := 2) (v := .int (iI a1_x3)) (C := RX2) (T := TX2) (N := 6) hx hb hts inb_X2 hown hK.1 hP 1 rfl rfl 0 (by decide) (hts _ wd_357) (fun _ h9 => h9) rfl dX2_search_18 ?_
      have y18_1 : 0 ≤ a1_x3 ∧ a1_x3 ≤ 5 := hi_a1.2.2.2.1
      refine g_icmp_ge (tgt := 37) hx hb (by omega) (by omega) dX2_search_21 (by decide) (fun c21 => ?_) (fun c21 => ?_)
      · refine lv_aload_n hx hb dX2_search_37 rfl (lv_at hl 0 rfl) ?_
        refine lv_bipush (v := iI 25) hx hb dX2_search_38 (by decide) ?_
        refine va_put (D := D) (own := RX2) (ci := 2) (v := .int (iI 25)) (ty := .int) (C := RX2) (T := TX2) (N := 6) hx hb hts inb_X2 tyX2 tyX2_ok nmX2 hown hK.1 hP hD hS 1 rfl rfl 4 (by decide) (hts _ wd_362) (fun _ h9 => h9) rfl (by decide +kernel) rfl rfl (Nat.le_of_ble_eq_true rfl) dX2_search_40 (fun H locs hP hD hS => ?_)
        have hP : va_P D vwCl [(a1, .inr (7, oX7 a1_q a1_x0 a1_x1 a1_x2 a1_x3 a1_x4 a1_x5 a1_x6 a1_x7 a1_x8)), (t, .inr (2, oX2 t_q a1_x3 25 t_x5)), ((t_q 1), .inl (K 0, 25, .inl (fun j => iI (c16_t_1 j)))), (a2, .inr (10, oX10 a2_q a2_x0 a2_x1 a2_x6)), ((a2_q 3), .inl (K 0, 24, .inl (fun j => iI (a2_3_c j)))), ((a1_q 12), .inl (K 0, 24, .inl (fun j => iI (a1_12_c j)))), ((a1_q 11), .inl (K 0, 12, .inl (fun j => iI (a1_11_c j)))), ((t_q 2), .inl (K 0, 5, .inl (fun j => iI (c16_t_2 j)))), ((t_q 3), .inl (K 0, 5, .inl (fun j => iI (t_3_c j))))] H := hP
        have hD : va_D A [(a1, .inr (7, oX7 a1_q a1_x0 a1_x1 a1_x2 a1_x3 a1_x4 a1_x5 a1_x6 a1_x7 a1_x8)), (t, .inr (2, oX2 t_q a1_x3 25 t_x5)), ((t_q 1), .inl (K 0, 25, .inl (fun j => iI (c16_t_1 j)))), (a2, .inr (10, oX10 a2_q a2_x0 a2_x1 a2_x6)), ((a2_q 3), .inl (K 0, 24, .inl (fun j => iI (a2_3_c j)))), ((a1_q 12), .inl (K 0, 24, .inl (fun j => iI (a1_12_c j)))), ((a1_q 11), .inl (K 0, 12, .inl (fun j => iI (a1_11_c j)))), ((t_q 2), .inl (K 0, 5, .inl (fun j => iI (c16_t_2 j)))), ((t_q 3), .inl (K 0, 5, .inl (fun j => iI (t_3_c j))))] := hD
        refine lv_aload_n hx hb dX2_search_43 rfl (lv_at hl 0 rfl) ?_
        refine lv_iconst (v := iI 0) hx hb dX2_search_44 rfl ?_
        refine va_put (D := D) (own := RX2) (ci := 2) (v := .int (iI 0)) (ty := .int) (C := RX2) (T := TX2) (N := 6) hx hb hts inb_X2 tyX2 tyX2_ok nmX2 hown hK.1 hP hD hS 1 rfl rfl 5 (by decide) (hts _ wd_364) (fun _ h9 => h9) rfl (by decide +kernel) rfl rfl (Nat.le_of_ble_eq_true rfl) dX2_search_45 (fun H locs hP hD hS => ?_)
        have hP : va_P D vwCl [(a1, .inr (7, oX7 a1_q a1_x0 a1_x1 a1_x2 a1_x3 a1_x4 a1_x5 a1_x6 a1_x7 a1_x8)), (t, .inr (2, oX2 t_q a1_x3 25 0)), ((t_q 1), .inl (K 0, 25, .inl (fun j => iI (c16_t_1 j)))), (a2, .inr (10, oX10 a2_q a2_x0 a2_x1 a2_x6)), ((a2_q 3), .inl (K 0, 24, .inl (fun j => iI (a2_3_c j)))), ((a1_q 12), .inl (K 0, 24, .inl (fun j => iI (a1_12_c j)))), ((a1_q 11), .inl (K 0, 12, .inl (fun j => iI (a1_11_c j)))), ((t_q 2), .inl (K 0, 5, .inl (fun j => iI (c16_t_2 j)))), ((t_q 3), .inl (K 0, 5, .inl (fun j => iI (t_3_c j))))] H := hP
        have hD : va_D A [(a1, .inr (7, oX7 a1_q a1_x0 a1_x1 a1_x2 a1_x3 a1_x4 a1_x5 a1_x6 a1_x7 a1_x8)), (t, .inr (2, oX2 t_q a1_x3 25 0)), ((t_q 1), .inl (K 0, 25, .inl (fun j => iI (c16_t_1 j)))), (a2, .inr (10, oX10 a2_q a2_x0 a2_x1 a2_x6)), ((a2_q 3), .inl (K 0, 24, .inl (fun j => iI (a2_3_c j)))), ((a1_q 12), .inl (K 0, 24, .inl (fun j => iI (a1_12_c j)))), ((a1_q 11), .inl (K 0, 12, .inl (fun j => iI (a1_11_c j)))), ((t_q 2), .inl (K 0, 5, .inl (fun j => iI (c16_t_2 j)))), ((t_q 3), .inl (K 0, 5, .inl (fun j => iI (t_3_c j))))] := hD
        refine lv_iconst (v := iI 1) hx hb dX2_search_48 rfl ?_
        refine lv_istore_n (lv' := [(3, .int (iI 1)), (0, .ref t), (1, .ref a1), (2, .ref a2)]) hx hb dX2_search_49 rfl hl (by decide) rfl (fun ls hl => ?_)
        refine lv_iconst (v := iI 0) hx hb dX2_search_50 rfl ?_
        refine lv_istore (lv' := [(4, .int (iI 0)), (3, .int (iI 1)), (0, .ref t), (1, .ref a1), (2, .ref a2)]) hx hb dX2_search_51 hl (by decide) rfl (fun ls hl => ?_)
        exact J53 _ 1 0 25 0 c16_t_1 c16_t_2 t_3_c _ _ ls (Nat.lt_succ_self _) (by omega) hc16_t_1 hc16_t_2 hc_t_3 (hP.sub [0, 1, 2, 3, 4, 5, 6, 7, 8] rfl) (hD.sub [0, 1, 2, 3, 4, 5, 6, 7, 8] (by decide) rfl) hS (lv_sub hl [2, 3, 4, 1, 0] rfl)
      · refine lv_aload_n hx hb dX2_search_24 rfl (lv_at hl 0 rfl) ?_
        refine va_get (D := D) (own := RX2) (ci := 2) (v := .ref (t_q 2)) (C := RX2) (T := TX2) (N := 6) hx hb hts inb_X2 hown hK.1 hP 1 rfl rfl 2 (by decide) (hts _ wd_359) (fun _ h9 => h9) rfl dX2_search_25 ?_
        refine lv_iload_n hx hb dX2_search_28 rfl (lv_at hl 3 rfl) ?_
        refine lv_iload_n hx hb dX2_search_29 rfl (lv_at hl 3 rfl) ?_
        refine g_iast hx hb hK.1 hP hD hS 7 0 rfl rfl (by omega) (by omega) (by decide) dX2_search_30 (fun H locs g30 eg30 hP hD hS => ?_)
        have hg30 : ∀ j : Nat, 0 ≤ g30 j ∧ g30 j ≤ 4 := by rw [eg30]; exact uI_all hc16_t_2 (by omega)
        have hP : va_P D vwCl [(a1, .inr (7, oX7 a1_q a1_x0 a1_x1 a1_x2 a1_x3 a1_x4 a1_x5 a1_x6 a1_x7 a1_x8)), (t, .inr (2, oX2 t_q a1_x3 t_x4 t_x5)), ((t_q 1), .inl (K 0, 25, .inl (fun j => iI (c16_t_1 j)))), (a2, .inr (10, oX10 a2_q a2_x0 a2_x1 a2_x6)), ((a2_q 3), .inl (K 0, 24, .inl (fun j => iI (a2_3_c j)))), ((a1_q 12), .inl (K 0, 24, .inl (fun j => iI (a1_12_c j)))), ((a1_q 11), .inl (K 0, 12, .inl (fun j => iI (a1_11_c j)))), ((t_q 2), .inl (K 0, 5, .inl (fun j => iI (g30 j)))), ((t_q 3), .inl (K 0, 5, .inl (fun j => iI (t_3_c j))))] H := hP
        have hD : va_D A [(a1, .inr (7, oX7 a1_q a1_x0 a1_x1 a1_x2 a1_x3 a1_x4 a1_x5 a1_x6 a1_x7 a1_x8)), (t, .inr (2, oX2 t_q a1_x3 t_x4 t_x5)), ((t_q 1), .inl (K 0, 25, .inl (fun j => iI (c16_t_1 j)))), (a2, .inr (10, oX10 a2_q a2_x0 a2_x1 a2_x6)), ((a2_q 3), .inl (K 0, 24, .inl (fun j => iI (a2_3_c j)))), ((a1_q 12), .inl (K 0, 24, .inl (fun j => iI (a1_12_c j)))), ((a1_q 11), .inl (K 0, 12, .inl (fun j => iI (a1_11_c j)))), ((t_q 2), .inl (K 0, 5, .inl (fun j => iI (g30 j)))), ((t_q 3), .inl (K 0, 5, .inl (fun j => iI (t_3_c j))))] := hD
        refine lv_iinc (v := iI (x16_3 + 1)) (lv' := [(3, .int (iI (x16_3 + 1))), (0, .ref t), (1, .ref a1), (2, .ref a2)]) hx hb dX2_search_31 hl (k := 3) rfl (iI_add _ _) (by decide) rfl (fun ls hl => ?_)
        refine lv_goto (tgt := 16) hx hb dX2_search_34 (by decide) ?_
        exact ih16 (x16_3 + 1) c16_t_1 g30 _ _ ls (by omega) (by omega) hc16_t_1 hg30 (hP.sub [0, 1, 2, 3, 4, 5, 6, 7, 8] rfl) (hD.sub [0, 1, 2, 3, 4, 5, 6, 7, 8] (by decide) rfl) hS (lv_sub hl [1, 2, 3, 0] rfl)
  have hl : lv_has ls 5 [(0, .ref t), (1, .ref a1), (2, .ref a2)] := hl
  refine lv_aload_n hx hb dX2_search_0 rfl (lv_at hl 0 rfl) ?_
  refine lv_aload_n hx hb dX2_search_1 rfl (lv_at hl 1 rfl) ?_
  refine va_getN (D := D) (own := RX2) (ci := 7) (v := .int (iI a1_x3)) (C := RX7) (T := TX7) (N := 15) hx hb hts inb_X7 hown hK.1 hP 0 rfl rfl 3 (by decide) (hK.nf 13 rfl) (fun _ h9 => h9) rfl dX2_search_2 ?_
  have y2_1 : 0 ≤ a1_x3 ∧ a1_x3 ≤ 5 := hi_a1.2.2.2.1
  refine va_put (D := D) (own := RX2) (ci := 2) (v := .int (iI a1_x3)) (ty := .int) (C := RX2) (T := TX2) (N := 6) hx hb hts inb_X2 tyX2 tyX2_ok nmX2 hown hK.1 hP hD hS 1 rfl rfl 0 (by decide) (hts _ wd_357) (fun _ h9 => h9) rfl (by decide +kernel) rfl rfl (Nat.le_of_ble_eq_true rfl) dX2_search_5 (fun H locs hP hD hS => ?_)
  have hP : va_P D vwCl [(a1, .inr (7, oX7 a1_q a1_x0 a1_x1 a1_x2 a1_x3 a1_x4 a1_x5 a1_x6 a1_x7 a1_x8)), (t, .inr (2, oX2 t_q a1_x3 t_x4 t_x5)), ((t_q 1), .inl (K 0, 25, .inl (fun j => iI (t_1_c j)))), (a2, .inr (10, oX10 a2_q a2_x0 a2_x1 a2_x6)), ((a2_q 3), .inl (K 0, 24, .inl (fun j => iI (a2_3_c j)))), ((a1_q 12), .inl (K 0, 24, .inl (fun j => iI (a1_12_c j)))), ((a1_q 11), .inl (K 0, 12, .inl (fun j => iI (a1_11_c j)))), ((t_q 2), .inl (K 0, 5, .inl (fun j => iI (t_2_c j)))), ((t_q 3), .inl (K 0, 5, .inl (fun j => iI (t_3_c j))))] H := hP
  have hD : va_D A [(a1, .inr (7, oX7 a1_q a1_x0 a1_x1 a1_x2 a1_x3 a1_x4 a1_x5 a1_x6 a1_x7 a1_x8)), (t, .inr (2, oX2 t_q a1_x3 t_x4 t_x5)), ((t_q 1), .inl (K 0, 25, .inl (fun j => iI (t_1_c j)))), (a2, .inr (10, oX10 a2_q a2_x0 a2_x1 a2_x6)), ((a2_q 3), .inl (K 0, 24, .inl (fun j => iI (a2_3_c j)))), ((a1_q 12), .inl (K 0, 24, .inl (fun j => iI (a1_12_c j)))), ((a1_q 11), .inl (K 0, 12, .inl (fun j => iI (a1_11_c j)))), ((t_q 2), .inl (K 0, 5, .inl (fun j => iI (t_2_c j)))), ((t_q 3), .inl (K 0, 5, .inl (fun j => iI (t_3_c j))))] := hD
  refine lv_aload_n hx hb dX2_search_8 rfl (lv_at hl 0 rfl) ?_
  refine lv_aload_n hx hb dX2_search_9 rfl (lv_at hl 1 rfl) ?_
  refine lv_aload_n hx hb dX2_search_10 rfl (lv_at hl 2 rfl) ?_
  refine fn_gov (wc := [(t, .inr (2, oX2 t_q a1_x3 t_x4 t_x5)), ((t_q 1), .inl (K 0, 25, .inl (fun j => iI (t_1_c j)))), (a1, .inr (7, oX7 a1_q a1_x0 a1_x1 a1_x2 a1_x3 a1_x4 a1_x5 a1_x6 a1_x7 a1_x8)), (a2, .inr (10, oX10 a2_q a2_x0 a2_x1 a2_x6)), ((a2_q 3), .inl (K 0, 24, .inl (fun j => iI (a2_3_c j)))), ((a1_q 12), .inl (K 0, 24, .inl (fun j => iI (a1_12_c j)))), ((a1_q 11), .inl (K 0, 12, .inl (fun j => iI (a1_11_c j))))]) (wr := [((t_q 2), .inl (K 0, 5, .inl (fun j => iI (t_2_c j)))), ((t_q 3), .inl (K 0, 5, .inl (fun j => iI (t_3_c j))))]) hK hP hD hS hA [1, 2, 0, 3, 4, 5, 6] [7, 8] rfl rfl (by decide) (fun hp => va_runV (C := RX2) (As := [.ref a1, .ref a2]) (rest := []) ⟨hx, hb, hml, hown, hts⟩ (k_X2_tally (l := l) (D := D) (K := K) (t := t) (a1 := a1) (a2 := a2) (t_q := t_q) (t_x0 := a1_x3) (t_x4 := t_x4) (t_x5 := t_x5) (t_1_c := t_1_c) (a1_q := a1_q) (a1_x0 := a1_x0) (a1_x1 := a1_x1) (a1_x2 := a1_x2) (a1_x3 := a1_x3) (a1_x4 := a1_x4) (a1_x5 := a1_x5) (a1_x6 := a1_x6) (a1_x7 := a1_x7) (a1_x8 := a1_x8) (a2_q := a2_q) (a2_x0 := a2_x0) (a2_x1 := a2_x1) (a2_x6 := a2_x6) (a2_3_c := a2_3_c) (a1_12_c := a1_12_c) (a1_11_c := a1_11_c) (hi_t := ⟨hi_a1.2.2.2.1, hi_t.2.1, hi_t.2.2⟩) (hc_t_1 := hc_t_1) (hi_a1 := hi_a1) (hi_a2 := hi_a2) (hc_a2_3 := hc_a2_3) (hc_a1_12 := hc_a1_12) (hc_a1_11 := hc_a1_11) _) (cwV 2 hts (fn_ginV (fn_gin wd_1040) wd_1037 wd_1039 wp_72 wd_10) rfl rfl rfl (by decide +kernel) ⟨Nat.le_of_ble_eq_true rfl, Nat.le_of_ble_eq_true rfl⟩) ⟨fn_blind, va_recv hK.1 hP (ci := 2) (q0 := 1) rfl rfl, hp⟩ rfl rfl hl.1 rfl (lv_room (Nat.le_of_ble_eq_true rfl)) dX2_search_11 ⟨Nat.le_of_ble_eq_true rfl, Nat.le_of_ble_eq_true rfl⟩) (fun u11 H locs hwu11 hP hD hS => ?_)
  obtain ⟨u11a, u11b⟩ := u11
  obtain ⟨hu11_00, -⟩ := hwu11
  have hu11_0 : ∀ j : Nat, (-2147483648) ≤ (u11b 0) j ∧ (u11b 0) j ≤ 2147483647 := hu11_00
  clear hu11_00
  have hP : va_P D vwCl [((t_q 2), .inl (K 0, 5, .inl (fun j => iI (t_2_c j)))), ((t_q 3), .inl (K 0, 5, .inl (fun j => iI (t_3_c j)))), (t, .inr (2, oX2 t_q a1_x3 t_x4 t_x5)), ((t_q 1), .inl (K 0, 25, .inl (fun j => iI ((u11b 0) j)))), (a1, .inr (7, oX7 a1_q a1_x0 a1_x1 a1_x2 a1_x3 a1_x4 a1_x5 a1_x6 a1_x7 a1_x8)), (a2, .inr (10, oX10 a2_q a2_x0 a2_x1 a2_x6)), ((a2_q 3), .inl (K 0, 24, .inl (fun j => iI (a2_3_c j)))), ((a1_q 12), .inl (K 0, 24, .inl (fun j => iI (a1_12_c j)))), ((a1_q 11), .inl (K 0, 12, .inl (fun j => iI (a1_11_c j))))] H := hP
  have hD : va_D A [((t_q 2), .inl (K 0, 5, .inl (fun j => iI (t_2_c j)))), ((t_q 3), .inl (K 0, 5, .inl (fun j => iI (t_3_c j)))), (t, .inr (2, oX2 t_q a1_x3 t_x4 t_x5)), ((t_q 1), .inl (K 0, 25, .inl (fun j => iI ((u11b 0) j)))), (a1, .inr (7, oX7 a1_q a1_x0 a1_x1 a1_x2 a1_x3 a1_x4 a1_x5 a1_x6 a1_x7 a1_x8)), (a2, .inr (10, oX10 a2_q a2_x0 a2_x1 a2_x6)), ((a2_q 3), .inl (K 0, 24, .inl (fun j => iI (a2_3_c j)))), ((a1_q 12), .inl (K 0, 24, .inl (fun j => iI (a1_12_c j)))), ((a1_q 11), .inl (K 0, 12, .inl (fun j => iI (a1_11_c j))))] := hD
  refine lv_iconst (v := iI 0) hx hb dX2_search_14 rfl ?_
  refine lv_istore_n (lv' := [(3, .int (iI 0)), (0, .ref t), (1, .ref a1), (2, .ref a2)]) hx hb dX2_search_15 rfl hl (by decide) rfl (fun ls hl => ?_)
  exact J16 _ 0 (u11b 0) t_2_c _ _ ls (Nat.lt_succ_self _) (by omega) hu11_0 hc_t_2 (hP.sub [4, 2, 3, 5, 6, 7, 8, 0, 1] rfl) (hD.sub [4, 2, 3, 5, 6, 7, 8, 0, 1] (by decide) rfl) hS (lv_sub hl [1, 2, 3, 0] rfl)
theorem wd_163 : Cond.fieldLink "FootNotes$Reader" 29 "FootNotes$Reader" "fault" "I" ∈ fn_big := fn_tb (fn_l1 (List.mem_of_getElem? (i := 163) (by decide +kernel))) (by decide +kernel)
theorem wd_165 : Cond.fieldLink "FootNotes$Reader" 25 "FootNotes$Reader" "faultPlace" "I" ∈ fn_big := fn_tb (fn_l1 (List.mem_of_getElem? (i := 165) (by decide +kernel))) (by decide +kernel)
theorem dX3_blame_0 : decode cX3_blame 0 = .ok (.aload_n 0, 1) := by decide +kernel
theorem dX3_blame_1 : decode cX3_blame 1 = .ok (.getfield 29, 3) := by decide +kernel
theorem dX3_blame_4 : decode cX3_blame 4 = .ok (.ifCond .ne 13, 3) := by decide +kernel
theorem dX3_blame_17 : decode cX3_blame 17 = .ok (.return_, 1) := by decide +kernel
theorem dX3_blame_7 : decode cX3_blame 7 = .ok (.aload_n 0, 1) := by decide +kernel
theorem dX3_blame_8 : decode cX3_blame 8 = .ok (.iload_n 1, 1) := by decide +kernel
theorem dX3_blame_9 : decode cX3_blame 9 = .ok (.putfield 29, 3) := by decide +kernel
theorem dX3_blame_12 : decode cX3_blame 12 = .ok (.aload_n 0, 1) := by decide +kernel
theorem dX3_blame_13 : decode cX3_blame 13 = .ok (.iload_n 2, 1) := by decide +kernel
theorem dX3_blame_14 : decode cX3_blame 14 = .ok (.putfield 25, 3) := by decide +kernel
set_option maxHeartbeats 4000000 in
set_option maxRecDepth 100000 in
theorem k_X3_blame (l : Launch) (D : va_G) (K : Nat → ClassId) (t : Nat) (t_q : Nat → Nat) (p1 p2 t_x2 t_x3 : Int) (hp1 : 1 ≤ p1 ∧ p1 ≤ 3) (hp2 : 0 ≤ p2 ∧ p2 ≤ 1400) (hi_t : bX3 t_x2 t_x3) : fn_CV (S := (Nat → Int) × (Nat → Nat → Int)) l D K yX3_blame (fn_ws yX3_blame cX3_blame 3 none) ({ frames := 4, cells := 0, slots := 0, locals := 100 } : Room) [.ref t, .int (iI p1), .int (iI p2)] [(t, .inr (3, oX3 t_q t_x2 t_x3))] (fun u => (0 ≤ (u.1 0) ∧ (u.1 0) ≤ 3 ∧ (-2147483648) ≤ (u.1 1) ∧ (u.1 1) ≤ 2147483647) ∧ True) (fun u => [(t, .inr (3, oX3 t_q (u.1 0) (u.1 1)))]) 0 0 := by
  refine g_inV (cc := cX3_blame) (maxL := 3) (ret := none) (by decide) rfl (Nat.le_of_ble_eq_true rfl) ?_
  intro p e s m below meth c A ls ag Q B hA hP hD hS hl hQ
  obtain ⟨hx, hb, hr, hml, hts, hown, hlocks, hin, hK⟩ := B
  have hown : s.vm.findClass RX3 = some m.cls := hown
  have hts := fun w h => hts w (List.mem_cons_of_mem _ h)
  have hl : lv_has ls 3 [(0, .ref t), (1, .int (iI p1)), (2, .int (iI p2))] := hl
  refine lv_aload_n hx hb dX3_blame_0 rfl (lv_at hl 0 rfl) ?_
  refine va_get (D := D) (own := RX3) (ci := 3) (v := .int (iI t_x2)) (C := RX3) (T := TX3) (N := 4) hx hb hts inb_X3 hown hK.1 hP 0 rfl rfl 2 (by decide) (hts _ wd_163) (fun _ h9 => h9) rfl dX3_blame_1 ?_
  have y1_1 : 0 ≤ t_x2 ∧ t_x2 ≤ 3 := hi_t.1
  refine g_if_ne (tgt := 17) hx hb (by omega) dX3_blame_4 (by decide) (fun c4 => ?_) (fun c4 => ?_)
  · have y17_2 : (-2147483648) ≤ t_x3 ∧ t_x3 ≤ 2147483647 := hi_t.2
    rw [hQ]; exact fn_vret hx hb hr hlocks hP hD hS ((fun k => ([t_x2, t_x3] : List Int).getD k 0), (fun _ _ => 0)) ⟨(by show 0 ≤ t_x2 ∧ t_x2 ≤ 3 ∧ (-2147483648) ≤ t_x3 ∧ t_x3 ≤ 2147483647; omega), trivial⟩ [0] (by decide) rfl dX3_blame_17
  · refine lv_aload_n hx hb dX3_blame_7 rfl (lv_at hl 0 rfl) ?_
    refine lv_iload_n hx hb dX3_blame_8 rfl (lv_at hl 1 rfl) ?_
    refine va_put (D := D) (own := RX3) (ci := 3) (v := .int (iI p1)) (ty := .int) (C := RX3) (T := TX3) (N := 4) hx hb hts inb_X3 tyX3 tyX3_ok nmX3 hown hK.1 hP hD hS 0 rfl rfl 2 (by decide) (hts _ wd_163) (fun _ h9 => h9) rfl (by decide +kernel) rfl rfl (Nat.le_of_ble_eq_true rfl) dX3_blame_9 (fun H locs hP hD hS => ?_)
    have hP : va_P D vwCl [(t, .inr (3, oX3 t_q p1 t_x3))] H := hP
    have hD : va_D A [(t, .inr (3, oX3 t_q p1 t_x3))] := hD
    refine lv_aload_n hx hb dX3_blame_12 rfl (lv_at hl 0 rfl) ?_
    refine lv_iload_n hx hb dX3_blame_13 rfl (lv_at hl 2 rfl) ?_
    refine va_put (D := D) (own := RX3) (ci := 3) (v := .int (iI p2)) (ty := .int) (C := RX3) (T := TX3) (N := 4) hx hb hts inb_X3 tyX3 tyX3_ok nmX3 hown hK.1 hP hD hS 0 rfl rfl 3 (by decide) (hts _ wd_165) (fun _ h9 => h9) rfl (by decide +kernel) rfl rfl (Nat.le_of_ble_eq_true rfl) dX3_blame_14 (fun H locs hP hD hS => ?_)
    have hP : va_P D vwCl [(t, .inr (3, oX3 t_q p1 p2))] H := hP
    have hD : va_D A [(t, .inr (3, oX3 t_q p1 p2))] := hD
    rw [hQ]; exact fn_vret hx hb hr hlocks hP hD hS ((fun k => ([p1, p2] : List Int).getD k 0), (fun _ _ => 0)) ⟨(by show 0 ≤ p1 ∧ p1 ≤ 3 ∧ (-2147483648) ≤ p2 ∧ p2 ≤ 2147483647; omega), trivial⟩ [0] (by decide) rfl dX3_blame_17
theorem dX6_kindOf_28 : decode cX6_kindOf 28 = .ok (.iload_n 0, 1) := by decide +kernel
theorem dX6_kindOf_29 : decode cX6_kindOf 29 = .ok (.bipush 59, 2) := by decide +kernel
theorem dX6_kindOf_31 : decode cX6_kindOf 31 = .ok (.if_icmp .ne 7, 3) := by decide +kernel
theorem dX6_kindOf_38 : decode cX6_kindOf 38 = .ok (.iconst 4, 1) := by decide +kernel
theorem dX6_kindOf_39 : decode cX6_kindOf 39 = .ok (.ireturn, 1) := by decide +kernel
theorem dX6_kindOf_34 : decode cX6_kindOf 34 = .ok (.iconst 3, 1) := by decide +kernel
theorem dX6_kindOf_35 : decode cX6_kindOf 35 = .ok (.goto 4, 3) := by decide +kernel
theorem dX6_kindOf_14 : decode cX6_kindOf 14 = .ok (.iload_n 0, 1) := by decide +kernel
theorem dX6_kindOf_15 : decode cX6_kindOf 15 = .ok (.bipush 48, 2) := by decide +kernel
theorem dX6_kindOf_17 : decode cX6_kindOf 17 = .ok (.if_icmp .lt 11, 3) := by decide +kernel
theorem dX6_kindOf_20 : decode cX6_kindOf 20 = .ok (.iload_n 0, 1) := by decide +kernel
theorem dX6_kindOf_21 : decode cX6_kindOf 21 = .ok (.bipush 57, 2) := by decide +kernel
theorem dX6_kindOf_23 : decode cX6_kindOf 23 = .ok (.if_icmp .gt 5, 3) := by decide +kernel
theorem dX6_kindOf_26 : decode cX6_kindOf 26 = .ok (.iconst 2, 1) := by decide +kernel
theorem dX6_kindOf_27 : decode cX6_kindOf 27 = .ok (.ireturn, 1) := by decide +kernel
theorem dX6_kindOf_0 : decode cX6_kindOf 0 = .ok (.iload_n 0, 1) := by decide +kernel
theorem dX6_kindOf_1 : decode cX6_kindOf 1 = .ok (.bipush 97, 2) := by decide +kernel
theorem dX6_kindOf_3 : decode cX6_kindOf 3 = .ok (.if_icmp .lt 11, 3) := by decide +kernel
theorem dX6_kindOf_6 : decode cX6_kindOf 6 = .ok (.iload_n 0, 1) := by decide +kernel
theorem dX6_kindOf_7 : decode cX6_kindOf 7 = .ok (.bipush 122, 2) := by decide +kernel
theorem dX6_kindOf_9 : decode cX6_kindOf 9 = .ok (.if_icmp .gt 5, 3) := by decide +kernel
theorem dX6_kindOf_12 : decode cX6_kindOf 12 = .ok (.iconst 1, 1) := by decide +kernel
theorem dX6_kindOf_13 : decode cX6_kindOf 13 = .ok (.ireturn, 1) := by decide +kernel
set_option maxHeartbeats 4000000 in
set_option maxRecDepth 100000 in
theorem k_X6_kindOf (l : Launch) (D : va_G) (K : Nat → ClassId) (p1 : Int) (hp1 : (-128) ≤ p1 ∧ p1 ≤ 127) : fn_CI (S := (Nat → Int) × (Nat → Nat → Int)) l D K yX6_kindOf (fn_ws yX6_kindOf cX6_kindOf 1 (some .int)) ({ frames := 4, cells := 0, slots := 0, locals := 100 } : Room) [.int (iI p1)] [] (fun r u => ∃ k : Int, r = iI k ∧ (1 ≤ k ∧ k ≤ 4) ∧ True) (fun u => []) 0 0 := by
  refine g_inI (cc := cX6_kindOf) (maxL := 1) (ret := (some .int)) (by decide) rfl (Nat.le_of_ble_eq_true rfl) ?_
  intro p e s m below meth c A ls ag Q B hA hP hD hS hl hQ
  obtain ⟨hx, hb, hr, hml, hts, hown, hlocks, hin, hK⟩ := B
  have hown : s.vm.findClass RX6 = some m.cls := hown
  have hts := fun w h => hts w (List.mem_cons_of_mem _ h)
  have J28 : ∀  (H : Heap) (locs : List Loc) (ls : Array Slot), va_P D vwCl [] H → va_D A [] → va_S A s.heap H locs → lv_has ls 1 [(0, .int (iI p1))] → W p l e ({ frames := 4, cells := 0, slots := 0, locals := 100 } : Room) s m ag below meth c H locs 0 0 Q (F0 m 28 ls []) := by
    intro  H locs ls  hP hD hS hl
    refine lv_iload_n hx hb dX6_kindOf_28 rfl (lv_at hl 0 rfl) ?_
    refine lv_bipush (v := iI 59) hx hb dX6_kindOf_29 (by decide) ?_
    refine g_icmp_ne (tgt := 38) hx hb (by omega) (by omega) dX6_kindOf_31 (by decide) (fun c31 => ?_) (fun c31 => ?_)
    · refine lv_iconst (v := iI 4) hx hb dX6_kindOf_38 rfl ?_
      rw [hQ]; exact fn_iret hx hb hr hlocks rfl hP hD hS ((fun _ => 0), (fun _ _ => 0)) ⟨4, rfl, by omega, trivial⟩ [] (by decide) rfl dX6_kindOf_39
    · refine lv_iconst (v := iI 3) hx hb dX6_kindOf_34 rfl ?_
      refine lv_goto (tgt := 39) hx hb dX6_kindOf_35 (by decide) ?_
      rw [hQ]; exact fn_iret hx hb hr hlocks rfl hP hD hS ((fun _ => 0), (fun _ _ => 0)) ⟨3, rfl, by omega, trivial⟩ [] (by decide) rfl dX6_kindOf_39
  have J14 : ∀  (H : Heap) (locs : List Loc) (ls : Array Slot), va_P D vwCl [] H → va_D A [] → va_S A s.heap H locs → lv_has ls 1 [(0, .int (iI p1))] → W p l e ({ frames := 4, cells := 0, slots := 0, locals := 100 } : Room) s m ag below meth c H locs 0 0 Q (F0 m 14 ls []) := by
    intro  H locs ls  hP hD hS hl
    refine lv_iload_n hx hb dX6_kindOf_14 rfl (lv_at hl 0 rfl) ?_
    refine lv_bipush (v := iI 48) hx hb dX6_kindOf_15 (by decide) ?_
    refine g_icmp_lt (tgt := 28) hx hb (by omega) (by omega) dX6_kindOf_17 (by decide) (fun c17 => ?_) (fun c17 => ?_)
    · exact J28  _ _ ls  (hP.sub [] rfl) (hD.sub [] (by decide) rfl) hS (lv_sub hl [0] rfl)
    · refine lv_iload_n hx hb dX6_kindOf_20 rfl (lv_at hl 0 rfl) ?_
      refine lv_bipush (v := iI 57) hx hb dX6_kindOf_21 (by decide) ?_
      refine g_icmp_gt (tgt := 28) hx hb (by omega) (by omega) dX6_kindOf_23 (by decide) (fun c23 => ?_) (fun c23 => ?_)
      · exact J28  _ _ ls  (hP.sub [] rfl) (hD.sub [] (by decide) rfl) hS (lv_sub hl [0] rfl)
      · refine lv_iconst (v := iI 2) hx hb dX6_kindOf_26 rfl ?_
        rw [hQ]; exact fn_iret hx hb hr hlocks rfl hP hD hS ((fun _ => 0), (fun _ _ => 0)) ⟨2, rfl, by omega, trivial⟩ [] (by decide) rfl dX6_kindOf_27
  have hl : lv_has ls 1 [(0, .int (iI p1))] := hl
  refine lv_iload_n hx hb dX6_kindOf_0 rfl (lv_at hl 0 rfl) ?_
  refine lv_bipush (v := iI 97) hx hb dX6_kindOf_1 (by decide) ?_
  refine g_icmp_lt (tgt := 14) hx hb (by omega) (by omega) dX6_kindOf_3 (by decide) (fun c3 => ?_) (fun c3 => ?_)
  · exact J14  _ _ ls  (hP.sub [] rfl) (hD.sub [] (by decide) rfl) hS (lv_sub hl [0] rfl)
  · refine lv_iload_n hx hb dX6_kindOf_6 rfl (lv_at hl 0 rfl) ?_
    refine lv_bipush (v := iI 122) hx hb dX6_kindOf_7 (by decide) ?_
    refine g_icmp_gt (tgt := 14) hx hb (by omega) (by omega) dX6_kindOf_9 (by decide) (fun c9 => ?_) (fun c9 => ?_)
    · exact J14  _ _ ls  (hP.sub [] rfl) (hD.sub [] (by decide) rfl) hS (lv_sub hl [0] rfl)
    · refine lv_iconst (v := iI 1) hx hb dX6_kindOf_12 rfl ?_
      rw [hQ]; exact fn_iret hx hb hr hlocks rfl hP hD hS ((fun _ => 0), (fun _ _ => 0)) ⟨1, rfl, by omega, trivial⟩ [] (by decide) rfl dX6_kindOf_13
theorem wd_49 : Cond.fieldLink "FootNotes$Tape" 19 "FootNotes$Tape" "stop" "I" ∈ fn_big := fn_tb (fn_l1 (List.mem_of_getElem? (i := 49) (by decide +kernel))) (by decide +kernel)
theorem wd_48 : Cond.fieldLink "FootNotes$Tape" 25 "FootNotes$Tape" "start" "I" ∈ fn_big := fn_tb (fn_l1 (List.mem_of_getElem? (i := 48) (by decide +kernel))) (by decide +kernel)
theorem wd_42 : Cond.fieldLink "FootNotes$Tape" 15 "FootNotes$Tape" "size" "I" ∈ fn_big := fn_tb (fn_l1 (List.mem_of_getElem? (i := 42) (by decide +kernel))) (by decide +kernel)
theorem wd_44 : Cond.fieldLink "FootNotes$Tape" 9 "FootNotes$Tape" "bytes" "[B" ∈ fn_big := fn_tb (fn_l1 (List.mem_of_getElem? (i := 44) (by decide +kernel))) (by decide +kernel)
theorem wd_46 : Cond.fieldLink "FootNotes$Tape" 28 "FootNotes$Tape" "kind" "I" ∈ fn_big := fn_tb (fn_l1 (List.mem_of_getElem? (i := 46) (by decide +kernel))) (by decide +kernel)
theorem wd_496 : Cond.code ⟨"FootNotes$Tape", "kindOf", "(B)I"⟩ prog_8_method_5_code 1 (Option.some Jvm.ClassFile.FieldType.int) ∈ fn_big := fn_tb (fn_l3 (List.mem_of_getElem? (i := 16) (by decide +kernel))) (by decide +kernel)
theorem wd_3 : Cond.initialized "FootNotes$Tape" ∈ fn_big := fn_tb (fn_l1 (List.mem_of_getElem? (i := 3) (by decide +kernel))) (by decide +kernel)
theorem wd_494 : Cond.methodLink "FootNotes$Tape" 31 ⟨"FootNotes$Tape", "kindOf", "(B)I"⟩ ∈ fn_big := fn_tb (fn_l3 (List.mem_of_getElem? (i := 14) (by decide +kernel))) (by decide +kernel)
theorem wd_495 : Cond.static ⟨"FootNotes$Tape", "kindOf", "(B)I"⟩ ∈ fn_big := fn_tb (fn_l3 (List.mem_of_getElem? (i := 15) (by decide +kernel))) (by decide +kernel)
theorem dX6_moveOn_119 : decode cX6_moveOn 119 = .ok (.aload_n 0, 1) := by decide +kernel
theorem dX6_moveOn_120 : decode cX6_moveOn 120 = .ok (.getfield 19, 3) := by decide +kernel
theorem dX6_moveOn_123 : decode cX6_moveOn 123 = .ok (.aload_n 0, 1) := by decide +kernel
theorem dX6_moveOn_124 : decode cX6_moveOn 124 = .ok (.getfield 15, 3) := by decide +kernel
theorem dX6_moveOn_127 : decode cX6_moveOn 127 = .ok (.if_icmp .ge 43, 3) := by decide +kernel
theorem dX6_moveOn_170 : decode cX6_moveOn 170 = .ok (.return_, 1) := by decide +kernel
theorem dX6_moveOn_130 : decode cX6_moveOn 130 = .ok (.aload_n 0, 1) := by decide +kernel
theorem dX6_moveOn_131 : decode cX6_moveOn 131 = .ok (.getfield 28, 3) := by decide +kernel
theorem dX6_moveOn_134 : decode cX6_moveOn 134 = .ok (.iconst 3, 1) := by decide +kernel
theorem dX6_moveOn_135 : decode cX6_moveOn 135 = .ok (.if_icmp .eq 35, 3) := by decide +kernel
theorem dX6_moveOn_138 : decode cX6_moveOn 138 = .ok (.aload_n 0, 1) := by decide +kernel
theorem dX6_moveOn_139 : decode cX6_moveOn 139 = .ok (.getfield 9, 3) := by decide +kernel
theorem dX6_moveOn_142 : decode cX6_moveOn 142 = .ok (.aload_n 0, 1) := by decide +kernel
theorem dX6_moveOn_143 : decode cX6_moveOn 143 = .ok (.getfield 19, 3) := by decide +kernel
theorem dX6_moveOn_146 : decode cX6_moveOn 146 = .ok (.baload, 1) := by decide +kernel
theorem dX6_moveOn_147 : decode cX6_moveOn 147 = .ok (.invokestatic 31, 3) := by decide +kernel
theorem dX6_moveOn_150 : decode cX6_moveOn 150 = .ok (.aload_n 0, 1) := by decide +kernel
theorem dX6_moveOn_151 : decode cX6_moveOn 151 = .ok (.getfield 28, 3) := by decide +kernel
theorem dX6_moveOn_154 : decode cX6_moveOn 154 = .ok (.if_icmp .ne 16, 3) := by decide +kernel
theorem dX6_moveOn_157 : decode cX6_moveOn 157 = .ok (.aload_n 0, 1) := by decide +kernel
theorem dX6_moveOn_158 : decode cX6_moveOn 158 = .ok (.dup, 1) := by decide +kernel
theorem dX6_moveOn_159 : decode cX6_moveOn 159 = .ok (.getfield 19, 3) := by decide +kernel
theorem dX6_moveOn_162 : decode cX6_moveOn 162 = .ok (.iconst 1, 1) := by decide +kernel
theorem dX6_moveOn_163 : decode cX6_moveOn 163 = .ok (.iadd, 1) := by decide +kernel
theorem dX6_moveOn_164 : decode cX6_moveOn 164 = .ok (.putfield 19, 3) := by decide +kernel
theorem dX6_moveOn_167 : decode cX6_moveOn 167 = .ok (.goto (-48), 3) := by decide +kernel
theorem dX6_moveOn_60 : decode cX6_moveOn 60 = .ok (.aload_n 0, 1) := by decide +kernel
theorem dX6_moveOn_61 : decode cX6_moveOn 61 = .ok (.getfield 25, 3) := by decide +kernel
theorem dX6_moveOn_64 : decode cX6_moveOn 64 = .ok (.aload_n 0, 1) := by decide +kernel
theorem dX6_moveOn_65 : decode cX6_moveOn 65 = .ok (.getfield 15, 3) := by decide +kernel
theorem dX6_moveOn_68 : decode cX6_moveOn 68 = .ok (.if_icmp .lt 25, 3) := by decide +kernel
theorem dX6_moveOn_93 : decode cX6_moveOn 93 = .ok (.aload_n 0, 1) := by decide +kernel
theorem dX6_moveOn_94 : decode cX6_moveOn 94 = .ok (.aload_n 0, 1) := by decide +kernel
theorem dX6_moveOn_95 : decode cX6_moveOn 95 = .ok (.getfield 9, 3) := by decide +kernel
theorem dX6_moveOn_98 : decode cX6_moveOn 98 = .ok (.aload_n 0, 1) := by decide +kernel
theorem dX6_moveOn_99 : decode cX6_moveOn 99 = .ok (.getfield 25, 3) := by decide +kernel
theorem dX6_moveOn_102 : decode cX6_moveOn 102 = .ok (.baload, 1) := by decide +kernel
theorem dX6_moveOn_103 : decode cX6_moveOn 103 = .ok (.invokestatic 31, 3) := by decide +kernel
theorem dX6_moveOn_106 : decode cX6_moveOn 106 = .ok (.putfield 28, 3) := by decide +kernel
theorem dX6_moveOn_109 : decode cX6_moveOn 109 = .ok (.aload_n 0, 1) := by decide +kernel
theorem dX6_moveOn_110 : decode cX6_moveOn 110 = .ok (.aload_n 0, 1) := by decide +kernel
theorem dX6_moveOn_111 : decode cX6_moveOn 111 = .ok (.getfield 25, 3) := by decide +kernel
theorem dX6_moveOn_114 : decode cX6_moveOn 114 = .ok (.iconst 1, 1) := by decide +kernel
theorem dX6_moveOn_115 : decode cX6_moveOn 115 = .ok (.iadd, 1) := by decide +kernel
theorem dX6_moveOn_116 : decode cX6_moveOn 116 = .ok (.putfield 19, 3) := by decide +kernel
theorem dX6_moveOn_71 : decode cX6_moveOn 71 = .ok (.aload_n 0, 1) := by decide +kernel
theorem dX6_moveOn_72 : decode cX6_moveOn 72 = .ok (.iconst 0, 1) := by decide +kernel
theorem dX6_moveOn_73 : decode cX6_moveOn 73 = .ok (.putfield 28, 3) := by decide +kernel
theorem dX6_moveOn_76 : decode cX6_moveOn 76 = .ok (.aload_n 0, 1) := by decide +kernel
theorem dX6_moveOn_77 : decode cX6_moveOn 77 = .ok (.aload_n 0, 1) := by decide +kernel
theorem dX6_moveOn_78 : decode cX6_moveOn 78 = .ok (.getfield 15, 3) := by decide +kernel
theorem dX6_moveOn_81 : decode cX6_moveOn 81 = .ok (.putfield 25, 3) := by decide +kernel
theorem dX6_moveOn_84 : decode cX6_moveOn 84 = .ok (.aload_n 0, 1) := by decide +kernel
theorem dX6_moveOn_85 : decode cX6_moveOn 85 = .ok (.aload_n 0, 1) := by decide +kernel
theorem dX6_moveOn_86 : decode cX6_moveOn 86 = .ok (.getfield 15, 3) := by decide +kernel
theorem dX6_moveOn_89 : decode cX6_moveOn 89 = .ok (.putfield 19, 3) := by decide +kernel
theorem dX6_moveOn_92 : decode cX6_moveOn 92 = .ok (.return_, 1) := by decide +kernel
theorem dX6_moveOn_47 : decode cX6_moveOn 47 = .ok (.aload_n 0, 1) := by decide +kernel
theorem dX6_moveOn_48 : decode cX6_moveOn 48 = .ok (.dup, 1) := by decide +kernel
theorem dX6_moveOn_49 : decode cX6_moveOn 49 = .ok (.getfield 25, 3) := by decide +kernel
theorem dX6_moveOn_52 : decode cX6_moveOn 52 = .ok (.iconst 1, 1) := by decide +kernel
theorem dX6_moveOn_53 : decode cX6_moveOn 53 = .ok (.iadd, 1) := by decide +kernel
theorem dX6_moveOn_54 : decode cX6_moveOn 54 = .ok (.putfield 25, 3) := by decide +kernel
theorem dX6_moveOn_57 : decode cX6_moveOn 57 = .ok (.goto (-49), 3) := by decide +kernel
theorem dX6_moveOn_8 : decode cX6_moveOn 8 = .ok (.aload_n 0, 1) := by decide +kernel
theorem dX6_moveOn_9 : decode cX6_moveOn 9 = .ok (.getfield 25, 3) := by decide +kernel
theorem dX6_moveOn_12 : decode cX6_moveOn 12 = .ok (.aload_n 0, 1) := by decide +kernel
theorem dX6_moveOn_13 : decode cX6_moveOn 13 = .ok (.getfield 15, 3) := by decide +kernel
theorem dX6_moveOn_16 : decode cX6_moveOn 16 = .ok (.if_icmp .ge 44, 3) := by decide +kernel
theorem dX6_moveOn_19 : decode cX6_moveOn 19 = .ok (.aload_n 0, 1) := by decide +kernel
theorem dX6_moveOn_20 : decode cX6_moveOn 20 = .ok (.getfield 9, 3) := by decide +kernel
theorem dX6_moveOn_23 : decode cX6_moveOn 23 = .ok (.aload_n 0, 1) := by decide +kernel
theorem dX6_moveOn_24 : decode cX6_moveOn 24 = .ok (.getfield 25, 3) := by decide +kernel
theorem dX6_moveOn_27 : decode cX6_moveOn 27 = .ok (.baload, 1) := by decide +kernel
theorem dX6_moveOn_28 : decode cX6_moveOn 28 = .ok (.bipush 32, 2) := by decide +kernel
theorem dX6_moveOn_30 : decode cX6_moveOn 30 = .ok (.if_icmp .eq 17, 3) := by decide +kernel
theorem dX6_moveOn_33 : decode cX6_moveOn 33 = .ok (.aload_n 0, 1) := by decide +kernel
theorem dX6_moveOn_34 : decode cX6_moveOn 34 = .ok (.getfield 9, 3) := by decide +kernel
theorem dX6_moveOn_37 : decode cX6_moveOn 37 = .ok (.aload_n 0, 1) := by decide +kernel
theorem dX6_moveOn_38 : decode cX6_moveOn 38 = .ok (.getfield 25, 3) := by decide +kernel
theorem dX6_moveOn_41 : decode cX6_moveOn 41 = .ok (.baload, 1) := by decide +kernel
theorem dX6_moveOn_42 : decode cX6_moveOn 42 = .ok (.bipush 10, 2) := by decide +kernel
theorem dX6_moveOn_44 : decode cX6_moveOn 44 = .ok (.if_icmp .ne 16, 3) := by decide +kernel
theorem dX6_moveOn_0 : decode cX6_moveOn 0 = .ok (.aload_n 0, 1) := by decide +kernel
theorem dX6_moveOn_1 : decode cX6_moveOn 1 = .ok (.aload_n 0, 1) := by decide +kernel
theorem dX6_moveOn_2 : decode cX6_moveOn 2 = .ok (.getfield 19, 3) := by decide +kernel
theorem dX6_moveOn_5 : decode cX6_moveOn 5 = .ok (.putfield 25, 3) := by decide +kernel
set_option maxHeartbeats 4000000 in
set_option maxRecDepth 100000 in
theorem k_X6_moveOn (l : Launch) (D : va_G) (K : Nat → ClassId) (t : Nat) (t_q : Nat → Nat) (t_x0 t_x2 t_x3 t_x4 : Int) (t_1_c : Nat → Int) (hi_t : bX6 t_x0 t_x2 t_x3 t_x4) (hc_t_1 : ∀ j : Nat, (-128) ≤ t_1_c j ∧ t_1_c j ≤ 127) : fn_CV (S := (Nat → Int) × (Nat → Nat → Int)) l D K yX6_moveOn (fn_ws yX6_moveOn cX6_moveOn 1 none) ({ frames := 8, cells := 0, slots := 0, locals := 200 } : Room) [.ref t] [(t, .inr (6, oX6 t_q t_x0 t_x2 t_x3 t_x4)), ((t_q 1), .inl (K 1, 1400, .inl (fun j => iI (t_1_c j))))] (fun u => (0 ≤ (u.1 0) ∧ (u.1 0) ≤ 4 ∧ 0 ≤ (u.1 1) ∧ (u.1 1) ≤ 1400 ∧ 0 ≤ (u.1 2) ∧ (u.1 2) ≤ 1400) ∧ True) (fun u => [(t, .inr (6, oX6 t_q t_x0 (u.1 0) (u.1 1) (u.1 2))), ((t_q 1), .inl (K 1, 1400, .inl (fun j => iI (t_1_c j))))]) 0 0 := by
  refine g_inV (cc := cX6_moveOn) (maxL := 1) (ret := none) (by decide) rfl (Nat.le_of_ble_eq_true rfl) ?_
  intro p e s m below meth c A ls ag Q B hA hP hD hS hl hQ
  obtain ⟨hx, hb, hr, hml, hts, hown, hlocks, hin, hK⟩ := B
  have hown : s.vm.findClass RX6 = some m.cls := hown
  have hts := fun w h => hts w (List.mem_cons_of_mem _ h)
  have J119 : ∀ (n : Nat) (f119_t_2 : Int) (f119_t_3 : Int) (f119_t_4 : Int) (H : Heap) (locs : List Loc) (ls : Array Slot), (1400 - f119_t_4).toNat < n → (1 ≤ t_x0 ∧ t_x0 ≤ 1400 ∧ 1 ≤ f119_t_2 ∧ f119_t_2 ≤ 4 ∧ 0 ≤ f119_t_3 ∧ f119_t_3 ≤ 1399 ∧ 1 ≤ f119_t_4 ∧ f119_t_4 ≤ 1400) → va_P D vwCl [(t, .inr (6, oX6 t_q t_x0 f119_t_2 f119_t_3 f119_t_4)), ((t_q 1), .inl (K 1, 1400, .inl (fun j => iI (t_1_c j))))] H → va_D A [(t, .inr (6, oX6 t_q t_x0 f119_t_2 f119_t_3 f119_t_4)), ((t_q 1), .inl (K 1, 1400, .inl (fun j => iI (t_1_c j))))] → va_S A s.heap H locs → lv_has ls 1 [(0, .ref t)] → W p l e ({ frames := 8, cells := 0, slots := 0, locals := 200 } : Room) s m ag below meth c H locs 0 0 Q (F0 m 119 ls []) := by
    intro n
    induction n with
    | zero =>
      intro f119_t_2 f119_t_3 f119_t_4 H locs ls hm119 hf119 hP hD hS hl
      exact absurd hm119 (Nat.not_lt_zero _)
    | succ n ih119 =>
      intro f119_t_2 f119_t_3 f119_t_4 H locs ls hm119 hf119 hP hD hS hl
      refine lv_aload_n hx hb dX6_moveOn_119 rfl (lv_at hl 0 rfl) ?_
      refine va_get (D := D) (own := RX6) (ci := 6) (v := .int (iI f119_t_4)) (C := RX6) (T := TX6) (N := 5) hx hb hts inb_X6 hown hK.1 hP 0 rfl rfl 4 (by decide) (hts _ wd_49) (fun _ h9 => h9) rfl dX6_moveOn_120 ?_
      refine lv_aload_n hx hb dX6_moveOn_123 rfl (lv_at hl 0 rfl) ?_
      refine va_get (D := D) (own := RX6) (ci := 6) (v := .int (iI t_x0)) (C := RX6) (T := TX6) (N := 5) hx hb hts inb_X6 hown hK.1 hP 0 rfl rfl 0 (by decide) (hts _ wd_42) (fun _ h9 => h9) rfl dX6_moveOn_124 ?_
      have y124_1 : 0 ≤ t_x0 ∧ t_x0 ≤ 1400 := hi_t.1
      refine g_icmp_ge (tgt := 170) hx hb (by omega) (by omega) dX6_moveOn_127 (by decide) (fun c127 => ?_) (fun c127 => ?_)
      · rw [hQ]; exact fn_vret hx hb hr hlocks hP hD hS ((fun k => ([f119_t_2, f119_t_3, f119_t_4] : List Int).getD k 0), (fun _ _ => 0)) ⟨(by show 0 ≤ f119_t_2 ∧ f119_t_2 ≤ 4 ∧ 0 ≤ f119_t_3 ∧ f119_t_3 ≤ 1400 ∧ 0 ≤ f119_t_4 ∧ f119_t_4 ≤ 1400; omega), trivial⟩ [0, 1] (by decide) rfl dX6_moveOn_170
      · refine lv_aload_n hx hb dX6_moveOn_130 rfl (lv_at hl 0 rfl) ?_
        refine va_get (D := D) (own := RX6) (ci := 6) (v := .int (iI f119_t_2)) (C := RX6) (T := TX6) (N := 5) hx hb hts inb_X6 hown hK.1 hP 0 rfl rfl 2 (by decide) (hts _ wd_46) (fun _ h9 => h9) rfl dX6_moveOn_131 ?_
        refine lv_iconst (v := iI 3) hx hb dX6_moveOn_134 rfl ?_
        refine g_icmp_eq (tgt := 170) hx hb (by omega) (by omega) dX6_moveOn_135 (by decide) (fun c135 => ?_) (fun c135 => ?_)
        · rw [hQ]; exact fn_vret hx hb hr hlocks hP hD hS ((fun k => ([f119_t_2, f119_t_3, f119_t_4] : List Int).getD k 0), (fun _ _ => 0)) ⟨(by show 0 ≤ f119_t_2 ∧ f119_t_2 ≤ 4 ∧ 0 ≤ f119_t_3 ∧ f119_t_3 ≤ 1400 ∧ 0 ≤ f119_t_4 ∧ f119_t_4 ≤ 1400; omega), trivial⟩ [0, 1] (by decide) rfl dX6_moveOn_170
        · refine lv_aload_n hx hb dX6_moveOn_138 rfl (lv_at hl 0 rfl) ?_
          refine va_get (D := D) (own := RX6) (ci := 6) (v := .ref (t_q 1)) (C := RX6) (T := TX6) (N := 5) hx hb hts inb_X6 hown hK.1 hP 0 rfl rfl 1 (by decide) (hts _ wd_44) (fun _ h9 => h9) rfl dX6_moveOn_139 ?_
          refine lv_aload_n hx hb dX6_moveOn_142 rfl (lv_at hl 0 rfl) ?_
          refine va_get (D := D) (own := RX6) (ci := 6) (v := .int (iI f119_t_4)) (C := RX6) (T := TX6) (N := 5) hx hb hts inb_X6 hown hK.1 hP 0 rfl rfl 4 (by decide) (hts _ wd_49) (fun _ h9 => h9) rfl dX6_moveOn_143 ?_
          refine g_bald hx hb hK.1 hP 1 1 rfl rfl (by omega) (by omega) (by decide) dX6_moveOn_146 ?_
          have y146 : (-128) ≤ (t_1_c f119_t_4.toNat) ∧ (t_1_c f119_t_4.toNat) ≤ 127 := hc_t_1 f119_t_4.toNat
          refine fn_goi (wc := []) (wr := [(t, .inr (6, oX6 t_q t_x0 f119_t_2 f119_t_3 f119_t_4)), ((t_q 1), .inl (K 1, 1400, .inl (fun j => iI (t_1_c j))))]) hK hP hD hS hA [] [0, 1] rfl rfl (by decide) (fun hp => va_runS (As := [.int (iI (t_1_c f119_t_4.toNat))]) (rest := []) ⟨hx, hb, hml, hown, hts⟩ (k_X6_kindOf (l := l) (D := D) (K := K) (p1 := (t_1_c f119_t_4.toNat)) (hp1 := (by omega)) _) (va_cwS 1 hts (fn_ginS (fn_gin wd_496) wd_494 wd_495 wd_3) rfl rfl rfl (by decide +kernel) ⟨Nat.le_of_ble_eq_true rfl, Nat.le_of_ble_eq_true rfl⟩) ⟨fn_blind, hp⟩ rfl rfl hl.1 rfl (lv_room (Nat.le_of_ble_eq_true rfl)) dX6_moveOn_147 ⟨Nat.le_of_ble_eq_true rfl, Nat.le_of_ble_eq_true rfl⟩) (fun r147 u147 H locs hwu147 hP hD hS => ?_)
          obtain ⟨u147a, u147b⟩ := u147
          obtain ⟨kr147, rfl, hkr147, -⟩ := hwu147
          have hP : va_P D vwCl [(t, .inr (6, oX6 t_q t_x0 f119_t_2 f119_t_3 f119_t_4)), ((t_q 1), .inl (K 1, 1400, .inl (fun j => iI (t_1_c j))))] H := hP
          have hD : va_D A [(t, .inr (6, oX6 t_q t_x0 f119_t_2 f119_t_3 f119_t_4)), ((t_q 1), .inl (K 1, 1400, .inl (fun j => iI (t_1_c j))))] := hD
          refine lv_aload_n hx hb dX6_moveOn_150 rfl (lv_at hl 0 rfl) ?_
          refine va_get (D := D) (own := RX6) (ci := 6) (v := .int (iI f119_t_2)) (C := RX6) (T := TX6) (N := 5) hx hb hts inb_X6 hown hK.1 hP 0 rfl rfl 2 (by decide) (hts _ wd_46) (fun _ h9 => h9) rfl dX6_moveOn_151 ?_
          refine g_icmp_ne (tgt := 170) hx hb (by omega) (by omega) dX6_moveOn_154 (by decide) (fun c154 => ?_) (fun c154 => ?_)
          · rw [hQ]; exact fn_vret hx hb hr hlocks hP hD hS ((fun k => ([f119_t_2, f119_t_3, f119_t_4] : List Int).getD k 0), (fun _ _ => 0)) ⟨(by show 0 ≤ f119_t_2 ∧ f119_t_2 ≤ 4 ∧ 0 ≤ f119_t_3 ∧ f119_t_3 ≤ 1400 ∧ 0 ≤ f119_t_4 ∧ f119_t_4 ≤ 1400; omega), trivial⟩ [0, 1] (by decide) rfl dX6_moveOn_170
          · refine lv_aload_n hx hb dX6_moveOn_157 rfl (lv_at hl 0 rfl) ?_
            refine fn_at 158 rfl ?_
            refine lv_dup hx hb dX6_moveOn_158 rfl ?_
            refine va_get (D := D) (own := RX6) (ci := 6) (v := .int (iI f119_t_4)) (C := RX6) (T := TX6) (N := 5) hx hb hts inb_X6 hown hK.1 hP 0 rfl rfl 4 (by decide) (hts _ wd_49) (fun _ h9 => h9) rfl dX6_moveOn_159 ?_
            refine lv_iconst (v := iI 1) hx hb dX6_moveOn_162 rfl ?_
            refine g_iadd hx hb dX6_moveOn_163 ?_
            refine va_put (D := D) (own := RX6) (ci := 6) (v := .int (iI (f119_t_4 + 1))) (ty := .int) (C := RX6) (T := TX6) (N := 5) hx hb hts inb_X6 tyX6 tyX6_ok nmX6 hown hK.1 hP hD hS 0 rfl rfl 4 (by decide) (hts _ wd_49) (fun _ h9 => h9) rfl (by decide +kernel) rfl rfl (Nat.le_of_ble_eq_true rfl) dX6_moveOn_164 (fun H locs hP hD hS => ?_)
            have hP : va_P D vwCl [(t, .inr (6, oX6 t_q t_x0 f119_t_2 f119_t_3 (f119_t_4 + 1))), ((t_q 1), .inl (K 1, 1400, .inl (fun j => iI (t_1_c j))))] H := hP
            have hD : va_D A [(t, .inr (6, oX6 t_q t_x0 f119_t_2 f119_t_3 (f119_t_4 + 1))), ((t_q 1), .inl (K 1, 1400, .inl (fun j => iI (t_1_c j))))] := hD
            refine lv_goto (tgt := 119) hx hb dX6_moveOn_167 (by decide) ?_
            exact ih119 f119_t_2 f119_t_3 (f119_t_4 + 1) _ _ ls (by omega) (by omega) (hP.sub [0, 1] rfl) (hD.sub [0, 1] (by decide) rfl) hS (lv_sub hl [0] rfl)
  have J60 : ∀ (f60_t_3 : Int) (H : Heap) (locs : List Loc) (ls : Array Slot), (0 ≤ f60_t_3 ∧ f60_t_3 ≤ 1400) → va_P D vwCl [(t, .inr (6, oX6 t_q t_x0 t_x2 f60_t_3 t_x4)), ((t_q 1), .inl (K 1, 1400, .inl (fun j => iI (t_1_c j))))] H → va_D A [(t, .inr (6, oX6 t_q t_x0 t_x2 f60_t_3 t_x4)), ((t_q 1), .inl (K 1, 1400, .inl (fun j => iI (t_1_c j))))] → va_S A s.heap H locs → lv_has ls 1 [(0, .ref t)] → W p l e ({ frames := 8, cells := 0, slots := 0, locals := 200 } : Room) s m ag below meth c H locs 0 0 Q (F0 m 60 ls []) := by
    intro f60_t_3 H locs ls hf60 hP hD hS hl
    refine lv_aload_n hx hb dX6_moveOn_60 rfl (lv_at hl 0 rfl) ?_
    refine va_get (D := D) (own := RX6) (ci := 6) (v := .int (iI f60_t_3)) (C := RX6) (T := TX6) (N := 5) hx hb hts inb_X6 hown hK.1 hP 0 rfl rfl 3 (by decide) (hts _ wd_48) (fun _ h9 => h9) rfl dX6_moveOn_61 ?_
    refine lv_aload_n hx hb dX6_moveOn_64 rfl (lv_at hl 0 rfl) ?_
    refine va_get (D := D) (own := RX6) (ci := 6) (v := .int (iI t_x0)) (C := RX6) (T := TX6) (N := 5) hx hb hts inb_X6 hown hK.1 hP 0 rfl rfl 0 (by decide) (hts _ wd_42) (fun _ h9 => h9) rfl dX6_moveOn_65 ?_
    have y65_1 : 0 ≤ t_x0 ∧ t_x0 ≤ 1400 := hi_t.1
    refine g_icmp_lt (tgt := 93) hx hb (by omega) (by omega) dX6_moveOn_68 (by decide) (fun c68 => ?_) (fun c68 => ?_)
    · refine lv_aload_n hx hb dX6_moveOn_93 rfl (lv_at hl 0 rfl) ?_
      refine lv_aload_n hx hb dX6_moveOn_94 rfl (lv_at hl 0 rfl) ?_
      refine va_get (D := D) (own := RX6) (ci := 6) (v := .ref (t_q 1)) (C := RX6) (T := TX6) (N := 5) hx hb hts inb_X6 hown hK.1 hP 0 rfl rfl 1 (by decide) (hts _ wd_44) (fun _ h9 => h9) rfl dX6_moveOn_95 ?_
      refine lv_aload_n hx hb dX6_moveOn_98 rfl (lv_at hl 0 rfl) ?_
      refine va_get (D := D) (own := RX6) (ci := 6) (v := .int (iI f60_t_3)) (C := RX6) (T := TX6) (N := 5) hx hb hts inb_X6 hown hK.1 hP 0 rfl rfl 3 (by decide) (hts _ wd_48) (fun _ h9 => h9) rfl dX6_moveOn_99 ?_
      refine g_bald hx hb hK.1 hP 1 1 rfl rfl (by omega) (by omega) (by decide) dX6_moveOn_102 ?_
      have y102 : (-128) ≤ (t_1_c f60_t_3.toNat) ∧ (t_1_c f60_t_3.toNat) ≤ 127 := hc_t_1 f60_t_3.toNat
      refine fn_goi (wc := []) (wr := [(t, .inr (6, oX6 t_q t_x0 t_x2 f60_t_3 t_x4)), ((t_q 1), .inl (K 1, 1400, .inl (fun j => iI (t_1_c j))))]) hK hP hD hS hA [] [0, 1] rfl rfl (by decide) (fun hp => va_runS (As := [.int (iI (t_1_c f60_t_3.toNat))]) (rest := [.ref t]) ⟨hx, hb, hml, hown, hts⟩ (k_X6_kindOf (l := l) (D := D) (K := K) (p1 := (t_1_c f60_t_3.toNat)) (hp1 := (by omega)) _) (va_cwS 1 hts (fn_ginS (fn_gin wd_496) wd_494 wd_495 wd_3) rfl rfl rfl (by decide +kernel) ⟨Nat.le_of_ble_eq_true rfl, Nat.le_of_ble_eq_true rfl⟩) ⟨fn_blind, hp⟩ rfl rfl hl.1 rfl (lv_room (Nat.le_of_ble_eq_true rfl)) dX6_moveOn_103 ⟨Nat.le_of_ble_eq_true rfl, Nat.le_of_ble_eq_true rfl⟩) (fun r103 u103 H locs hwu103 hP hD hS => ?_)
      obtain ⟨u103a, u103b⟩ := u103
      obtain ⟨kr103, rfl, hkr103, -⟩ := hwu103
      have hP : va_P D vwCl [(t, .inr (6, oX6 t_q t_x0 t_x2 f60_t_3 t_x4)), ((t_q 1), .inl (K 1, 1400, .inl (fun j => iI (t_1_c j))))] H := hP
      have hD : va_D A [(t, .inr (6, oX6 t_q t_x0 t_x2 f60_t_3 t_x4)), ((t_q 1), .inl (K 1, 1400, .inl (fun j => iI (t_1_c j))))] := hD
      refine va_put (D := D) (own := RX6) (ci := 6) (v := .int (iI kr103)) (ty := .int) (C := RX6) (T := TX6) (N := 5) hx hb hts inb_X6 tyX6 tyX6_ok nmX6 hown hK.1 hP hD hS 0 rfl rfl 2 (by decide) (hts _ wd_46) (fun _ h9 => h9) rfl (by decide +kernel) rfl rfl (Nat.le_of_ble_eq_true rfl) dX6_moveOn_106 (fun H locs hP hD hS => ?_)
      have hP : va_P D vwCl [(t, .inr (6, oX6 t_q t_x0 kr103 f60_t_3 t_x4)), ((t_q 1), .inl (K 1, 1400, .inl (fun j => iI (t_1_c j))))] H := hP
      have hD : va_D A [(t, .inr (6, oX6 t_q t_x0 kr103 f60_t_3 t_x4)), ((t_q 1), .inl (K 1, 1400, .inl (fun j => iI (t_1_c j))))] := hD
      refine lv_aload_n hx hb dX6_moveOn_109 rfl (lv_at hl 0 rfl) ?_
      refine lv_aload_n hx hb dX6_moveOn_110 rfl (lv_at hl 0 rfl) ?_
      refine va_get (D := D) (own := RX6) (ci := 6) (v := .int (iI f60_t_3)) (C := RX6) (T := TX6) (N := 5) hx hb hts inb_X6 hown hK.1 hP 0 rfl rfl 3 (by decide) (hts _ wd_48) (fun _ h9 => h9) rfl dX6_moveOn_111 ?_
      refine lv_iconst (v := iI 1) hx hb dX6_moveOn_114 rfl ?_
      refine g_iadd hx hb dX6_moveOn_115 ?_
      refine va_put (D := D) (own := RX6) (ci := 6) (v := .int (iI (f60_t_3 + 1))) (ty := .int) (C := RX6) (T := TX6) (N := 5) hx hb hts inb_X6 tyX6 tyX6_ok nmX6 hown hK.1 hP hD hS 0 rfl rfl 4 (by decide) (hts _ wd_49) (fun _ h9 => h9) rfl (by decide +kernel) rfl rfl (Nat.le_of_ble_eq_true rfl) dX6_moveOn_116 (fun H locs hP hD hS => ?_)
      have hP : va_P D vwCl [(t, .inr (6, oX6 t_q t_x0 kr103 f60_t_3 (f60_t_3 + 1))), ((t_q 1), .inl (K 1, 1400, .inl (fun j => iI (t_1_c j))))] H := hP
      have hD : va_D A [(t, .inr (6, oX6 t_q t_x0 kr103 f60_t_3 (f60_t_3 + 1))), ((t_q 1), .inl (K 1, 1400, .inl (fun j => iI (t_1_c j))))] := hD
      exact J119 _ kr103 f60_t_3 (f60_t_3 + 1) _ _ ls (Nat.lt_succ_self _) (by omega) (hP.sub [0, 1] rfl) (hD.sub [0, 1] (by decide) rfl) hS (lv_sub hl [0] rfl)
    · refine lv_aload_n hx hb dX6_moveOn_71 rfl (lv_at hl 0 rfl) ?_
      refine lv_iconst (v := iI 0) hx hb dX6_moveOn_72 rfl ?_
      refine va_put (D := D) (own := RX6) (ci := 6) (v := .int (iI 0)) (ty := .int) (C := RX6) (T := TX6) (N := 5) hx hb hts inb_X6 tyX6 tyX6_ok nmX6 hown hK.1 hP hD hS 0 rfl rfl 2 (by decide) (hts _ wd_46) (fun _ h9 => h9) rfl (by decide +kernel) rfl rfl (Nat.le_of_ble_eq_true rfl) dX6_moveOn_73 (fun H locs hP hD hS => ?_)
      have hP : va_P D vwCl [(t, .inr (6, oX6 t_q t_x0 0 f60_t_3 t_x4)), ((t_q 1), .inl (K 1, 1400, .inl (fun j => iI (t_1_c j))))] H := hP
      have hD : va_D A [(t, .inr (6, oX6 t_q t_x0 0 f60_t_3 t_x4)), ((t_q 1), .inl (K 1, 1400, .inl (fun j => iI (t_1_c j))))] := hD
      refine lv_aload_n hx hb dX6_moveOn_76 rfl (lv_at hl 0 rfl) ?_
      refine lv_aload_n hx hb dX6_moveOn_77 rfl (lv_at hl 0 rfl) ?_
      refine va_get (D := D) (own := RX6) (ci := 6) (v := .int (iI t_x0)) (C := RX6) (T := TX6) (N := 5) hx hb hts inb_X6 hown hK.1 hP 0 rfl rfl 0 (by decide) (hts _ wd_42) (fun _ h9 => h9) rfl dX6_moveOn_78 ?_
      refine va_put (D := D) (own := RX6) (ci := 6) (v := .int (iI t_x0)) (ty := .int) (C := RX6) (T := TX6) (N := 5) hx hb hts inb_X6 tyX6 tyX6_ok nmX6 hown hK.1 hP hD hS 0 rfl rfl 3 (by decide) (hts _ wd_48) (fun _ h9 => h9) rfl (by decide +kernel) rfl rfl (Nat.le_of_ble_eq_true rfl) dX6_moveOn_81 (fun H locs hP hD hS => ?_)
      have hP : va_P D vwCl [(t, .inr (6, oX6 t_q t_x0 0 t_x0 t_x4)), ((t_q 1), .inl (K 1, 1400, .inl (fun j => iI (t_1_c j))))] H := hP
      have hD : va_D A [(t, .inr (6, oX6 t_q t_x0 0 t_x0 t_x4)), ((t_q 1), .inl (K 1, 1400, .inl (fun j => iI (t_1_c j))))] := hD
      refine lv_aload_n hx hb dX6_moveOn_84 rfl (lv_at hl 0 rfl) ?_
      refine lv_aload_n hx hb dX6_moveOn_85 rfl (lv_at hl 0 rfl) ?_
      refine va_get (D := D) (own := RX6) (ci := 6) (v := .int (iI t_x0)) (C := RX6) (T := TX6) (N := 5) hx hb hts inb_X6 hown hK.1 hP 0 rfl rfl 0 (by decide) (hts _ wd_42) (fun _ h9 => h9) rfl dX6_moveOn_86 ?_
      refine va_put (D := D) (own := RX6) (ci := 6) (v := .int (iI t_x0)) (ty := .int) (C := RX6) (T := TX6) (N := 5) hx hb hts inb_X6 tyX6 tyX6_ok nmX6 hown hK.1 hP hD hS 0 rfl rfl 4 (by decide) (hts _ wd_49) (fun _ h9 => h9) rfl (by decide +kernel) rfl rfl (Nat.le_of_ble_eq_true rfl) dX6_moveOn_89 (fun H locs hP hD hS => ?_)
      have hP : va_P D vwCl [(t, .inr (6, oX6 t_q t_x0 0 t_x0 t_x0)), ((t_q 1), .inl (K 1, 1400, .inl (fun j => iI (t_1_c j))))] H := hP
      have hD : va_D A [(t, .inr (6, oX6 t_q t_x0 0 t_x0 t_x0)), ((t_q 1), .inl (K 1, 1400, .inl (fun j => iI (t_1_c j))))] := hD
      rw [hQ]; exact fn_vret hx hb hr hlocks hP hD hS ((fun k => ([0, t_x0, t_x0] : List Int).getD k 0), (fun _ _ => 0)) ⟨(by show 0 ≤ 0 ∧ 0 ≤ 4 ∧ 0 ≤ t_x0 ∧ t_x0 ≤ 1400 ∧ 0 ≤ t_x0 ∧ t_x0 ≤ 1400; omega), trivial⟩ [0, 1] (by decide) rfl dX6_moveOn_92
  have J8 : ∀ (n : Nat) (f8_t_3 : Int) (H : Heap) (locs : List Loc) (ls : Array Slot), (1400 - f8_t_3).toNat < n → (0 ≤ f8_t_3 ∧ f8_t_3 ≤ 1400) → va_P D vwCl [(t, .inr (6, oX6 t_q t_x0 t_x2 f8_t_3 t_x4)), ((t_q 1), .inl (K 1, 1400, .inl (fun j => iI (t_1_c j))))] H → va_D A [(t, .inr (6, oX6 t_q t_x0 t_x2 f8_t_3 t_x4)), ((t_q 1), .inl (K 1, 1400, .inl (fun j => iI (t_1_c j))))] → va_S A s.heap H locs → lv_has ls 1 [(0, .ref t)] → W p l e ({ frames := 8, cells := 0, slots := 0, locals := 200 } : Room) s m ag below meth c H locs 0 0 Q (F0 m 8 ls []) := by
    intro n
    induction n with
    | zero =>
      intro f8_t_3 H locs ls hm8 hf8 hP hD hS hl
      exact absurd hm8 (Nat.not_lt_zero _)
    | succ n ih8 =>
      intro f8_t_3 H locs ls hm8 hf8 hP hD hS hl
      have J47 : ∀  (H : Heap) (locs : List Loc) (ls : Array Slot), (1 ≤ t_x0 ∧ t_x0 ≤ 1400 ∧ 0 ≤ f8_t_3 ∧ f8_t_3 ≤ 1399) → va_P D vwCl [(t, .inr (6, oX6 t_q t_x0 t_x2 f8_t_3 t_x4)), ((t_q 1), .inl (K 1, 1400, .inl (fun j => iI (t_1_c j))))] H → va_D A [(t, .inr (6, oX6 t_q t_x0 t_x2 f8_t_3 t_x4)), ((t_q 1), .inl (K 1, 1400, .inl (fun j => iI (t_1_c j))))] → va_S A s.heap H locs → lv_has ls 1 [(0, .ref t)] → W p l e ({ frames := 8, cells := 0, slots := 0, locals := 200 } : Room) s m ag below meth c H locs 0 0 Q (F0 m 47 ls []) := by
        intro  H locs ls hf47 hP hD hS hl
        refine lv_aload_n hx hb dX6_moveOn_47 rfl (lv_at hl 0 rfl) ?_
        refine lv_dup hx hb dX6_moveOn_48 rfl ?_
        refine va_get (D := D) (own := RX6) (ci := 6) (v := .int (iI f8_t_3)) (C := RX6) (T := TX6) (N := 5) hx hb hts inb_X6 hown hK.1 hP 0 rfl rfl 3 (by decide) (hts _ wd_48) (fun _ h9 => h9) rfl dX6_moveOn_49 ?_
        refine lv_iconst (v := iI 1) hx hb dX6_moveOn_52 rfl ?_
        refine g_iadd hx hb dX6_moveOn_53 ?_
        refine va_put (D := D) (own := RX6) (ci := 6) (v := .int (iI (f8_t_3 + 1))) (ty := .int) (C := RX6) (T := TX6) (N := 5) hx hb hts inb_X6 tyX6 tyX6_ok nmX6 hown hK.1 hP hD hS 0 rfl rfl 3 (by decide) (hts _ wd_48) (fun _ h9 => h9) rfl (by decide +kernel) rfl rfl (Nat.le_of_ble_eq_true rfl) dX6_moveOn_54 (fun H locs hP hD hS => ?_)
        have hP : va_P D vwCl [(t, .inr (6, oX6 t_q t_x0 t_x2 (f8_t_3 + 1) t_x4)), ((t_q 1), .inl (K 1, 1400, .inl (fun j => iI (t_1_c j))))] H := hP
        have hD : va_D A [(t, .inr (6, oX6 t_q t_x0 t_x2 (f8_t_3 + 1) t_x4)), ((t_q 1), .inl (K 1, 1400, .inl (fun j => iI (t_1_c j))))] := hD
        refine lv_goto (tgt := 8) hx hb dX6_moveOn_57 (by decide) ?_
        exact ih8 (f8_t_3 + 1) _ _ ls (by omega) (by omega) (hP.sub [0, 1] rfl) (hD.sub [0, 1] (by decide) rfl) hS (lv_sub hl [0] rfl)
      refine lv_aload_n hx hb dX6_moveOn_8 rfl (lv_at hl 0 rfl) ?_
      refine va_get (D := D) (own := RX6) (ci := 6) (v := .int (iI f8_t_3)) (C := RX6) (T := TX6) (N := 5) hx hb hts inb_X6 hown hK.1 hP 0 rfl rfl 3 (by decide) (hts _ wd_48) (fun _ h9 => h9) rfl dX6_moveOn_9 ?_
      refine lv_aload_n hx hb dX6_moveOn_12 rfl (lv_at hl 0 rfl) ?_
      refine va_get (D := D) (own := RX6) (ci := 6) (v := .int (iI t_x0)) (C := RX6) (T := TX6) (N := 5) hx hb hts inb_X6 hown hK.1 hP 0 rfl rfl 0 (by decide) (hts _ wd_42) (fun _ h9 => h9) rfl dX6_moveOn_13 ?_
      have y13_1 : 0 ≤ t_x0 ∧ t_x0 ≤ 1400 := hi_t.1
      refine g_icmp_ge (tgt := 60) hx hb (by omega) (by omega) dX6_moveOn_16 (by decide) (fun c16 => ?_) (fun c16 => ?_)
      · exact J60 f8_t_3 _ _ ls (by omega) (hP.sub [0, 1] rfl) (hD.sub [0, 1] (by decide) rfl) hS (lv_sub hl [0] rfl)
      · refine lv_aload_n hx hb dX6_moveOn_19 rfl (lv_at hl 0 rfl) ?_
        refine va_get (D := D) (own := RX6) (ci := 6) (v := .ref (t_q 1)) (C := RX6) (T := TX6) (N := 5) hx hb hts inb_X6 hown hK.1 hP 0 rfl rfl 1 (by decide) (hts _ wd_44) (fun _ h9 => h9) rfl dX6_moveOn_20 ?_
        refine lv_aload_n hx hb dX6_moveOn_23 rfl (lv_at hl 0 rfl) ?_
        refine va_get (D := D) (own := RX6) (ci := 6) (v := .int (iI f8_t_3)) (C := RX6) (T := TX6) (N := 5) hx hb hts inb_X6 hown hK.1 hP 0 rfl rfl 3 (by decide) (hts _ wd_48) (fun _ h9 => h9) rfl dX6_moveOn_24 ?_
        refine g_bald hx hb hK.1 hP 1 1 rfl rfl (by omega) (by omega) (by decide) dX6_moveOn_27 ?_
        have y27 : (-128) ≤ (t_1_c f8_t_3.toNat) ∧ (t_1_c f8_t_3.toNat) ≤ 127 := hc_t_1 f8_t_3.toNat
        refine lv_bipush (v := iI 32) hx hb dX6_moveOn_28 (by decide) ?_
        refine g_icmp_eq (tgt := 47) hx hb (by omega) (by omega) dX6_moveOn_30 (by decide) (fun c30 => ?_) (fun c30 => ?_)
        · exact J47  _ _ ls (by omega) (hP.sub [0, 1] rfl) (hD.sub [0, 1] (by decide) rfl) hS (lv_sub hl [0] rfl)
        · refine lv_aload_n hx hb dX6_moveOn_33 rfl (lv_at hl 0 rfl) ?_
          refine va_get (D := D) (own := RX6) (ci := 6) (v := .ref (t_q 1)) (C := RX6) (T := TX6) (N := 5) hx hb hts inb_X6 hown hK.1 hP 0 rfl rfl 1 (by decide) (hts _ wd_44) (fun _ h9 => h9) rfl dX6_moveOn_34 ?_
          refine lv_aload_n hx hb dX6_moveOn_37 rfl (lv_at hl 0 rfl) ?_
          refine va_get (D := D) (own := RX6) (ci := 6) (v := .int (iI f8_t_3)) (C := RX6) (T := TX6) (N := 5) hx hb hts inb_X6 hown hK.1 hP 0 rfl rfl 3 (by decide) (hts _ wd_48) (fun _ h9 => h9) rfl dX6_moveOn_38 ?_
          refine g_bald hx hb hK.1 hP 1 1 rfl rfl (by omega) (by omega) (by decide) dX6_moveOn_41 ?_
          refine lv_bipush (v := iI 10) hx hb dX6_moveOn_42 (by decide) ?_
          refine g_icmp_ne (tgt := 60) hx hb (by omega) (by omega) dX6_moveOn_44 (by decide) (fun c44 => ?_) (fun c44 => ?_)
          · exact J60 f8_t_3 _ _ ls (by omega) (hP.sub [0, 1] rfl) (hD.sub [0, 1] (by decide) rfl) hS (lv_sub hl [0] rfl)
          · exact J47  _ _ ls (by omega) (hP.sub [0, 1] rfl) (hD.sub [0, 1] (by decide) rfl) hS (lv_sub hl [0] rfl)
  have hl : lv_has ls 1 [(0, .ref t)] := hl
  refine lv_aload_n hx hb dX6_moveOn_0 rfl (lv_at hl 0 rfl) ?_
  refine lv_aload_n hx hb dX6_moveOn_1 rfl (lv_at hl 0 rfl) ?_
  refine va_get (D := D) (own := RX6) (ci := 6) (v := .int (iI t_x4)) (C := RX6) (T := TX6) (N := 5) hx hb hts inb_X6 hown hK.1 hP 0 rfl rfl 4 (by decide) (hts _ wd_49) (fun _ h9 => h9) rfl dX6_moveOn_2 ?_
  have y2_1 : 0 ≤ t_x4 ∧ t_x4 ≤ 1400 := hi_t.2.2.2
  refine va_put (D := D) (own := RX6) (ci := 6) (v := .int (iI t_x4)) (ty := .int) (C := RX6) (T := TX6) (N := 5) hx hb hts inb_X6 tyX6 tyX6_ok nmX6 hown hK.1 hP hD hS 0 rfl rfl 3 (by decide) (hts _ wd_48) (fun _ h9 => h9) rfl (by decide +kernel) rfl rfl (Nat.le_of_ble_eq_true rfl) dX6_moveOn_5 (fun H locs hP hD hS => ?_)
  have hP : va_P D vwCl [(t, .inr (6, oX6 t_q t_x0 t_x2 t_x4 t_x4)), ((t_q 1), .inl (K 1, 1400, .inl (fun j => iI (t_1_c j))))] H := hP
  have hD : va_D A [(t, .inr (6, oX6 t_q t_x0 t_x2 t_x4 t_x4)), ((t_q 1), .inl (K 1, 1400, .inl (fun j => iI (t_1_c j))))] := hD
  exact J8 _ t_x4 _ _ ls (Nat.lt_succ_self _) (by omega) (hP.sub [0, 1] rfl) (hD.sub [0, 1] (by decide) rfl) hS (lv_sub hl [0] rfl)
theorem wd_576 : Cond.constant "FootNotes$Tape" 45 (1000000 : Int32) ∈ fn_big := fn_tb (fn_l3 (List.mem_of_getElem? (i := 96) (by decide +kernel))) (by decide +kernel)
theorem wd_577 : Cond.methodLink "FootNotes$Tape" 46 ⟨"java/lang/Math", "min", "(II)I"⟩ ∈ fn_big := fn_tb (fn_l3 (List.mem_of_getElem? (i := 97) (by decide +kernel))) (by decide +kernel)
theorem wd_578 : Cond.static ⟨"java/lang/Math", "min", "(II)I"⟩ ∈ fn_big := fn_tb (fn_l3 (List.mem_of_getElem? (i := 98) (by decide +kernel))) (by decide +kernel)
theorem wd_18 : Cond.initialized "java/lang/Math" ∈ fn_big := fn_tb (fn_l1 (List.mem_of_getElem? (i := 18) (by decide +kernel))) (by decide +kernel)
theorem wd_579 : Cond.code ⟨"java/lang/Math", "min", "(II)I"⟩ prog_16_method_69_code 2 (Option.some Jvm.ClassFile.FieldType.int) ∈ fn_big := fn_tb (fn_l3 (List.mem_of_getElem? (i := 99) (by decide +kernel))) (by decide +kernel)
theorem dX6_valueOfDigits_7 : decode cX6_valueOfDigits 7 = .ok (.iload_n 2, 1) := by decide +kernel
theorem dX6_valueOfDigits_8 : decode cX6_valueOfDigits 8 = .ok (.aload_n 0, 1) := by decide +kernel
theorem dX6_valueOfDigits_9 : decode cX6_valueOfDigits 9 = .ok (.getfield 19, 3) := by decide +kernel
theorem dX6_valueOfDigits_12 : decode cX6_valueOfDigits 12 = .ok (.if_icmp .ge 29, 3) := by decide +kernel
theorem dX6_valueOfDigits_41 : decode cX6_valueOfDigits 41 = .ok (.iload_n 1, 1) := by decide +kernel
theorem dX6_valueOfDigits_42 : decode cX6_valueOfDigits 42 = .ok (.ireturn, 1) := by decide +kernel
theorem dX6_valueOfDigits_15 : decode cX6_valueOfDigits 15 = .ok (.ldc 45, 2) := by decide +kernel
theorem dX6_valueOfDigits_17 : decode cX6_valueOfDigits 17 = .ok (.iload_n 1, 1) := by decide +kernel
theorem dX6_valueOfDigits_18 : decode cX6_valueOfDigits 18 = .ok (.bipush 10, 2) := by decide +kernel
theorem dX6_valueOfDigits_20 : decode cX6_valueOfDigits 20 = .ok (.imul, 1) := by decide +kernel
theorem dX6_valueOfDigits_21 : decode cX6_valueOfDigits 21 = .ok (.aload_n 0, 1) := by decide +kernel
theorem dX6_valueOfDigits_22 : decode cX6_valueOfDigits 22 = .ok (.getfield 9, 3) := by decide +kernel
theorem dX6_valueOfDigits_25 : decode cX6_valueOfDigits 25 = .ok (.iload_n 2, 1) := by decide +kernel
theorem dX6_valueOfDigits_26 : decode cX6_valueOfDigits 26 = .ok (.baload, 1) := by decide +kernel
theorem dX6_valueOfDigits_27 : decode cX6_valueOfDigits 27 = .ok (.iadd, 1) := by decide +kernel
theorem dX6_valueOfDigits_28 : decode cX6_valueOfDigits 28 = .ok (.bipush 48, 2) := by decide +kernel
theorem dX6_valueOfDigits_30 : decode cX6_valueOfDigits 30 = .ok (.isub, 1) := by decide +kernel
theorem dX6_valueOfDigits_31 : decode cX6_valueOfDigits 31 = .ok (.invokestatic 46, 3) := by decide +kernel
theorem dX6_valueOfDigits_34 : decode cX6_valueOfDigits 34 = .ok (.istore_n 1, 1) := by decide +kernel
theorem dX6_valueOfDigits_35 : decode cX6_valueOfDigits 35 = .ok (.iinc 2 1, 3) := by decide +kernel
theorem dX6_valueOfDigits_38 : decode cX6_valueOfDigits 38 = .ok (.goto (-31), 3) := by decide +kernel
theorem dX6_valueOfDigits_0 : decode cX6_valueOfDigits 0 = .ok (.iconst 0, 1) := by decide +kernel
theorem dX6_valueOfDigits_1 : decode cX6_valueOfDigits 1 = .ok (.istore_n 1, 1) := by decide +kernel
theorem dX6_valueOfDigits_2 : decode cX6_valueOfDigits 2 = .ok (.aload_n 0, 1) := by decide +kernel
theorem dX6_valueOfDigits_3 : decode cX6_valueOfDigits 3 = .ok (.getfield 25, 3) := by decide +kernel
theorem dX6_valueOfDigits_6 : decode cX6_valueOfDigits 6 = .ok (.istore_n 2, 1) := by decide +kernel
set_option maxHeartbeats 4000000 in
set_option maxRecDepth 100000 in
theorem k_X6_valueOfDigits (l : Launch) (D : va_G) (K : Nat → ClassId) (t : Nat) (t_q : Nat → Nat) (t_x0 t_x2 t_x3 t_x4 : Int) (t_1_c : Nat → Int) (hi_t : bX6 t_x0 t_x2 t_x3 t_x4) (hc_t_1 : ∀ j : Nat, (-128) ≤ t_1_c j ∧ t_1_c j ≤ 127) : fn_CI (S := (Nat → Int) × (Nat → Nat → Int)) l D K yX6_valueOfDigits (fn_ws yX6_valueOfDigits cX6_valueOfDigits 3 (some .int)) ({ frames := 8, cells := 0, slots := 0, locals := 200 } : Room) [.ref t] [(t, .inr (6, oX6 t_q t_x0 t_x2 t_x3 t_x4)), ((t_q 1), .inl (K 1, 1400, .inl (fun j => iI (t_1_c j))))] (fun r u => ∃ k : Int, r = iI k ∧ ((-2147483648) ≤ k ∧ k ≤ 1000000) ∧ True) (fun u => [(t, .inr (6, oX6 t_q t_x0 t_x2 t_x3 t_x4)), ((t_q 1), .inl (K 1, 1400, .inl (fun j => iI (t_1_c j))))]) 0 0 := by
  refine g_inI (cc := cX6_valueOfDigits) (maxL := 3) (ret := (some .int)) (by decide) rfl (Nat.le_of_ble_eq_true rfl) ?_
  intro p e s m below meth c A ls ag Q B hA hP hD hS hl hQ
  obtain ⟨hx, hb, hr, hml, hts, hown, hlocks, hin, hK⟩ := B
  have hown : s.vm.findClass RX6 = some m.cls := hown
  have hts := fun w h => hts w (List.mem_cons_of_mem _ h)
  have J7 : ∀ (n : Nat) (x7_1 : Int) (x7_2 : Int) (H : Heap) (locs : List Loc) (ls : Array Slot), (1400 - x7_2).toNat < n → ((-2147483648) ≤ x7_1 ∧ x7_1 ≤ 1000000 ∧ 0 ≤ x7_2 ∧ x7_2 ≤ 1400) → va_P D vwCl [(t, .inr (6, oX6 t_q t_x0 t_x2 t_x3 t_x4)), ((t_q 1), .inl (K 1, 1400, .inl (fun j => iI (t_1_c j))))] H → va_D A [(t, .inr (6, oX6 t_q t_x0 t_x2 t_x3 t_x4)), ((t_q 1), .inl (K 1, 1400, .inl (fun j => iI (t_1_c j))))] → va_S A s.heap H locs → lv_has ls 3 [(0, .ref t), (1, .int (iI x7_1)), (2, .int (iI x7_2))] → W p l e ({ frames := 8, cells := 0, slots := 0, locals := 200 } : Room) s m ag below meth c H locs 0 0 Q (F0 m 7 ls []) := by
    intro n
    induction n with
    | zero =>
      intro x7_1 x7_2 H locs ls hm7 hf7 hP hD hS hl
      exact absurd hm7 (Nat.not_lt_zero _)
    | succ n ih7 =>
      intro x7_1 x7_2 H locs ls hm7 hf7 hP hD hS hl
      refine lv_iload_n hx hb dX6_valueOfDigits_7 rfl (lv_at hl 2 rfl) ?_
      refine lv_aload_n hx hb dX6_valueOfDigits_8 rfl (lv_at hl 0 rfl) ?_
      refine va_get (D := D) (own := RX6) (ci := 6) (v := .int (iI t_x4)) (C := RX6) (T := TX6) (N := 5) hx hb hts inb_X6 hown hK.1 hP 0 rfl rfl 4 (by decide) (hts _ wd_49) (fun _ h9 => h9) rfl dX6_valueOfDigits_9 ?_
      have y9_1 : 0 ≤ t_x4 ∧ t_x4 ≤ 1400 := hi_t.2.2.2
      refine g_icmp_ge (tgt := 41) hx hb (by omega) (by omega) dX6_valueOfDigits_12 (by decide) (fun c12 => ?_) (fun c12 => ?_)
      · refine lv_iload_n hx hb dX6_valueOfDigits_41 rfl (lv_at hl 1 rfl) ?_
        rw [hQ]; exact fn_iret hx hb hr hlocks rfl hP hD hS ((fun _ => 0), (fun _ _ => 0)) ⟨x7_1, rfl, by omega, trivial⟩ [0, 1] (by decide) rfl dX6_valueOfDigits_42
      · refine lv_ldc (own := RX6) (v := 1000000) hx hb hown (hts _ wd_576) dX6_valueOfDigits_15 ?_
        refine fn_top (iI 1000000) (by decide) ?_
        refine lv_iload_n hx hb dX6_valueOfDigits_17 rfl (lv_at hl 1 rfl) ?_
        refine lv_bipush (v := iI 10) hx hb dX6_valueOfDigits_18 (by decide) ?_
        refine g_imul hx hb dX6_valueOfDigits_20 ?_
        refine g_any (fun w20 hw20 ew20 => ?_)
        refine lv_aload_n hx hb dX6_valueOfDigits_21 rfl (lv_at hl 0 rfl) ?_
        refine va_get (D := D) (own := RX6) (ci := 6) (v := .ref (t_q 1)) (C := RX6) (T := TX6) (N := 5) hx hb hts inb_X6 hown hK.1 hP 0 rfl rfl 1 (by decide) (hts _ wd_44) (fun _ h9 => h9) rfl dX6_valueOfDigits_22 ?_
        refine lv_iload_n hx hb dX6_valueOfDigits_25 rfl (lv_at hl 2 rfl) ?_
        refine g_bald hx hb hK.1 hP 1 1 rfl rfl (by omega) (by omega) (by decide) dX6_valueOfDigits_26 ?_
        have y26 : (-128) ≤ (t_1_c x7_2.toNat) ∧ (t_1_c x7_2.toNat) ≤ 127 := hc_t_1 x7_2.toNat
        refine g_iadd hx hb dX6_valueOfDigits_27 ?_
        refine g_any (fun w27 hw27 ew27 => ?_)
        refine lv_bipush (v := iI 48) hx hb dX6_valueOfDigits_28 (by decide) ?_
        refine g_isub hx hb dX6_valueOfDigits_30 ?_
        refine g_any (fun w30 hw30 ew30 => ?_)
        refine g_mmin (own := RX6) hx hb (hml.trans hl.1.symm) hown (hts _ wd_577) (hts _ wd_578) (hts _ wd_18) (hts _ wd_579) (by omega) (by omega) (Nat.le_of_ble_eq_true rfl) (Nat.le_of_ble_eq_true rfl) (Nat.le_of_ble_eq_true rfl) (Nat.le_of_ble_eq_true rfl) dX6_valueOfDigits_31 (fun w31 hw31 => ?_)
        refine lv_istore_n (lv' := [(1, .int (iI w31)), (0, .ref t), (2, .int (iI x7_2))]) hx hb dX6_valueOfDigits_34 rfl hl (by decide) rfl (fun ls hl => ?_)
        refine lv_iinc (v := iI (x7_2 + 1)) (lv' := [(2, .int (iI (x7_2 + 1))), (1, .int (iI w31)), (0, .ref t)]) hx hb dX6_valueOfDigits_35 hl (k := 2) rfl (iI_add _ _) (by decide) rfl (fun ls hl => ?_)
        refine lv_goto (tgt := 7) hx hb dX6_valueOfDigits_38 (by decide) ?_
        exact ih7 w31 (x7_2 + 1) _ _ ls (by omega) (by omega) (hP.sub [0, 1] rfl) (hD.sub [0, 1] (by decide) rfl) hS (lv_sub hl [2, 1, 0] rfl)
  have hl : lv_has ls 3 [(0, .ref t)] := hl
  refine lv_iconst (v := iI 0) hx hb dX6_valueOfDigits_0 rfl ?_
  refine lv_istore_n (lv' := [(1, .int (iI 0)), (0, .ref t)]) hx hb dX6_valueOfDigits_1 rfl hl (by decide) rfl (fun ls hl => ?_)
  refine lv_aload_n hx hb dX6_valueOfDigits_2 rfl (lv_at hl 1 rfl) ?_
  refine va_get (D := D) (own := RX6) (ci := 6) (v := .int (iI t_x3)) (C := RX6) (T := TX6) (N := 5) hx hb hts inb_X6 hown hK.1 hP 0 rfl rfl 3 (by decide) (hts _ wd_48) (fun _ h9 => h9) rfl dX6_valueOfDigits_3 ?_
  have y3_1 : 0 ≤ t_x3 ∧ t_x3 ≤ 1400 := hi_t.2.2.1
  refine lv_istore_n (lv' := [(2, .int (iI t_x3)), (1, .int (iI 0)), (0, .ref t)]) hx hb dX6_valueOfDigits_6 rfl hl (by decide) rfl (fun ls hl => ?_)
  exact J7 _ 0 t_x3 _ _ ls (Nat.lt_succ_self _) (by omega) (hP.sub [0, 1] rfl) (hD.sub [0, 1] (by decide) rfl) hS (lv_sub hl [2, 1, 0] rfl)
theorem wd_159 : Cond.fieldLink "FootNotes$Reader" 12 "FootNotes$Reader" "tape" "LFootNotes$Tape;" ∈ fn_big := fn_tb (fn_l1 (List.mem_of_getElem? (i := 159) (by decide +kernel))) (by decide +kernel)
theorem wd_566 : Cond.code ⟨"FootNotes$Reader", "blame", "(II)V"⟩ prog_5_method_11_code 3 (Option.none : Option Jvm.ClassFile.FieldType) ∈ fn_big := fn_tb (fn_l3 (List.mem_of_getElem? (i := 86) (by decide +kernel))) (by decide +kernel)
theorem wd_2 : Cond.initialized "FootNotes$Reader" ∈ fn_big := fn_tb (fn_l1 (List.mem_of_getElem? (i := 2) (by decide +kernel))) (by decide +kernel)
theorem wd_563 : Cond.methodLink "FootNotes$Reader" 90 ⟨"FootNotes$Reader", "blame", "(II)V"⟩ ∈ fn_big := fn_tb (fn_l3 (List.mem_of_getElem? (i := 83) (by decide +kernel))) (by decide +kernel)
theorem wd_565 : Cond.instanceMethod ⟨"FootNotes$Reader", "blame", "(II)V"⟩ ∈ fn_big := fn_tb (fn_l3 (List.mem_of_getElem? (i := 85) (by decide +kernel))) (by decide +kernel)
theorem wp_9 : Cond.selects "FootNotes$Reader" ⟨"FootNotes$Reader", "blame", "(II)V"⟩ ⟨"FootNotes$Reader", "blame", "(II)V"⟩ ∈ fn_big := fn_sel (q := (⟨"FootNotes$Reader", "blame", "(II)V"⟩, 4)) 9 (by decide +kernel) (by decide +kernel)
theorem wd_575 : Cond.code ⟨"FootNotes$Tape", "valueOfDigits", "()I"⟩ prog_8_method_7_code 3 (Option.some Jvm.ClassFile.FieldType.int) ∈ fn_big := fn_tb (fn_l3 (List.mem_of_getElem? (i := 95) (by decide +kernel))) (by decide +kernel)
theorem wd_574 : Cond.instanceMethod ⟨"FootNotes$Tape", "valueOfDigits", "()I"⟩ ∈ fn_big := fn_tb (fn_l3 (List.mem_of_getElem? (i := 94) (by decide +kernel))) (by decide +kernel)
theorem wp_11 : Cond.selects "FootNotes$Tape" ⟨"FootNotes$Tape", "valueOfDigits", "()I"⟩ ⟨"FootNotes$Tape", "valueOfDigits", "()I"⟩ ∈ fn_big := fn_sel (q := (⟨"FootNotes$Tape", "valueOfDigits", "()I"⟩, 5)) 11 (by decide +kernel) (by decide +kernel)
theorem wd_493 : Cond.code ⟨"FootNotes$Tape", "moveOn", "()V"⟩ prog_8_method_4_code 1 (Option.none : Option Jvm.ClassFile.FieldType) ∈ fn_big := fn_tb (fn_l3 (List.mem_of_getElem? (i := 13) (by decide +kernel))) (by decide +kernel)
theorem wd_492 : Cond.instanceMethod ⟨"FootNotes$Tape", "moveOn", "()V"⟩ ∈ fn_big := fn_tb (fn_l3 (List.mem_of_getElem? (i := 12) (by decide +kernel))) (by decide +kernel)
theorem wp_4 : Cond.selects "FootNotes$Tape" ⟨"FootNotes$Tape", "moveOn", "()V"⟩ ⟨"FootNotes$Tape", "moveOn", "()V"⟩ ∈ fn_big := fn_sel (q := (⟨"FootNotes$Tape", "moveOn", "()V"⟩, 5)) 4 (by decide +kernel) (by decide +kernel)
theorem dX3_takeNumber_43 : decode cX3_takeNumber 43 = .ok (.aload_n 0, 1) := by decide +kernel
theorem dX3_takeNumber_44 : decode cX3_takeNumber 44 = .ok (.iconst 2, 1) := by decide +kernel
theorem dX3_takeNumber_45 : decode cX3_takeNumber 45 = .ok (.aload_n 0, 1) := by decide +kernel
theorem dX3_takeNumber_46 : decode cX3_takeNumber 46 = .ok (.getfield 12, 3) := by decide +kernel
theorem dX3_takeNumber_49 : decode cX3_takeNumber 49 = .ok (.getfield 87, 3) := by decide +kernel
theorem dX3_takeNumber_52 : decode cX3_takeNumber 52 = .ok (.invokevirtual 90, 3) := by decide +kernel
theorem dX3_takeNumber_55 : decode cX3_takeNumber 55 = .ok (.iload_n 1, 1) := by decide +kernel
theorem dX3_takeNumber_56 : decode cX3_takeNumber 56 = .ok (.ireturn, 1) := by decide +kernel
theorem dX3_takeNumber_0 : decode cX3_takeNumber 0 = .ok (.aload_n 0, 1) := by decide +kernel
theorem dX3_takeNumber_1 : decode cX3_takeNumber 1 = .ok (.getfield 12, 3) := by decide +kernel
theorem dX3_takeNumber_4 : decode cX3_takeNumber 4 = .ok (.getfield 38, 3) := by decide +kernel
theorem dX3_takeNumber_7 : decode cX3_takeNumber 7 = .ok (.iconst 2, 1) := by decide +kernel
theorem dX3_takeNumber_8 : decode cX3_takeNumber 8 = .ok (.if_icmp .eq 17, 3) := by decide +kernel
theorem dX3_takeNumber_25 : decode cX3_takeNumber 25 = .ok (.aload_n 0, 1) := by decide +kernel
theorem dX3_takeNumber_26 : decode cX3_takeNumber 26 = .ok (.getfield 12, 3) := by decide +kernel
theorem dX3_takeNumber_29 : decode cX3_takeNumber 29 = .ok (.invokevirtual 130, 3) := by decide +kernel
theorem dX3_takeNumber_32 : decode cX3_takeNumber 32 = .ok (.istore_n 3, 1) := by decide +kernel
theorem dX3_takeNumber_33 : decode cX3_takeNumber 33 = .ok (.iload_n 3, 1) := by decide +kernel
theorem dX3_takeNumber_34 : decode cX3_takeNumber 34 = .ok (.iload_n 1, 1) := by decide +kernel
theorem dX3_takeNumber_35 : decode cX3_takeNumber 35 = .ok (.if_icmp .lt 8, 3) := by decide +kernel
theorem dX3_takeNumber_38 : decode cX3_takeNumber 38 = .ok (.iload_n 3, 1) := by decide +kernel
theorem dX3_takeNumber_39 : decode cX3_takeNumber 39 = .ok (.iload_n 2, 1) := by decide +kernel
theorem dX3_takeNumber_40 : decode cX3_takeNumber 40 = .ok (.if_icmp .le 17, 3) := by decide +kernel
theorem dX3_takeNumber_57 : decode cX3_takeNumber 57 = .ok (.aload_n 0, 1) := by decide +kernel
theorem dX3_takeNumber_58 : decode cX3_takeNumber 58 = .ok (.getfield 12, 3) := by decide +kernel
theorem dX3_takeNumber_61 : decode cX3_takeNumber 61 = .ok (.invokevirtual 127, 3) := by decide +kernel
theorem dX3_takeNumber_64 : decode cX3_takeNumber 64 = .ok (.iload_n 3, 1) := by decide +kernel
theorem dX3_takeNumber_65 : decode cX3_takeNumber 65 = .ok (.ireturn, 1) := by decide +kernel
theorem dX3_takeNumber_11 : decode cX3_takeNumber 11 = .ok (.aload_n 0, 1) := by decide +kernel
theorem dX3_takeNumber_12 : decode cX3_takeNumber 12 = .ok (.iconst 1, 1) := by decide +kernel
theorem dX3_takeNumber_13 : decode cX3_takeNumber 13 = .ok (.aload_n 0, 1) := by decide +kernel
theorem dX3_takeNumber_14 : decode cX3_takeNumber 14 = .ok (.getfield 12, 3) := by decide +kernel
theorem dX3_takeNumber_17 : decode cX3_takeNumber 17 = .ok (.getfield 87, 3) := by decide +kernel
theorem dX3_takeNumber_20 : decode cX3_takeNumber 20 = .ok (.invokevirtual 90, 3) := by decide +kernel
theorem dX3_takeNumber_23 : decode cX3_takeNumber 23 = .ok (.iload_n 1, 1) := by decide +kernel
theorem dX3_takeNumber_24 : decode cX3_takeNumber 24 = .ok (.ireturn, 1) := by decide +kernel
set_option maxHeartbeats 4000000 in
set_option maxRecDepth 100000 in
theorem k_X3_takeNumber (l : Launch) (D : va_G) (K : Nat → ClassId) (t : Nat) (t_q t_0_q : Nat → Nat) (p1 p2 t_x2 t_x3 t_0_x0 t_0_x2 t_0_x3 t_0_x4 : Int) (t_0_1_c : Nat → Int) (hp1 : (-2147483648) ≤ p1 ∧ p1 ≤ 2147483647) (hp2 : (-2147483648) ≤ p2 ∧ p2 ≤ 2147483647) (hi_t : bX3 t_x2 t_x3) (hi_t_0 : bX6 t_0_x0 t_0_x2 t_0_x3 t_0_x4) (hc_t_0_1 : ∀ j : Nat, (-128) ≤ t_0_1_c j ∧ t_0_1_c j ≤ 127) : fn_CI (S := (Nat → Int) × (Nat → Nat → Int)) l D K yX3_takeNumber (fn_ws yX3_takeNumber cX3_takeNumber 4 (some .int)) ({ frames := 12, cells := 0, slots := 0, locals := 300 } : Room) [.ref t, .int (iI p1), .int (iI p2)] [(t, .inr (3, oX3 t_q t_x2 t_x3)), ((t_q 0), .inr (6, oX6 t_0_q t_0_x0 t_0_x2 t_0_x3 t_0_x4)), ((t_0_q 1), .inl (K 1, 1400, .inl (fun j => iI (t_0_1_c j))))] (fun r u => ∃ k : Int, r = iI k ∧ ((-2147483648) ≤ k ∧ k ≤ 2147483647) ∧ (0 ≤ (u.1 0) ∧ (u.1 0) ≤ 3 ∧ (-2147483648) ≤ (u.1 1) ∧ (u.1 1) ≤ 2147483647 ∧ 0 ≤ (u.1 2) ∧ (u.1 2) ≤ 4 ∧ 0 ≤ (u.1 3) ∧ (u.1 3) ≤ 1400 ∧ 0 ≤ (u.1 4) ∧ (u.1 4) ≤ 1400 ∧ (k = p1 ∨ (p1 ≤ k ∧ k ≤ p2))) ∧ True) (fun u => [(t, .inr (3, oX3 t_q (u.1 0) (u.1 1))), ((t_q 0), .inr (6, oX6 t_0_q t_0_x0 (u.1 2) (u.1 3) (u.1 4))), ((t_0_q 1), .inl (K 1, 1400, .inl (fun j => iI (t_0_1_c j))))]) 0 0 := by
  refine g_inI (cc := cX3_takeNumber) (maxL := 4) (ret := (some .int)) (by decide) rfl (Nat.le_of_ble_eq_true rfl) ?_
  intro p e s m below meth c A ls ag Q B hA hP hD hS hl hQ
  obtain ⟨hx, hb, hr, hml, hts, hown, hlocks, hin, hK⟩ := B
  have hown : s.vm.findClass RX3 = some m.cls := hown
  have hts := fun w h => hts w (List.mem_cons_of_mem _ h)
  have J43 : ∀ (x43_3 : Int) (H : Heap) (locs : List Loc) (ls : Array Slot), ((-2147483648) ≤ x43_3 ∧ x43_3 ≤ 1000000 ∧ 2 ≤ t_0_x2 ∧ t_0_x2 ≤ 2) → va_P D vwCl [(t, .inr (3, oX3 t_q t_x2 t_x3)), ((t_q 0), .inr (6, oX6 t_0_q t_0_x0 t_0_x2 t_0_x3 t_0_x4)), ((t_0_q 1), .inl (K 1, 1400, .inl (fun j => iI (t_0_1_c j))))] H → va_D A [(t, .inr (3, oX3 t_q t_x2 t_x3)), ((t_q 0), .inr (6, oX6 t_0_q t_0_x0 t_0_x2 t_0_x3 t_0_x4)), ((t_0_q 1), .inl (K 1, 1400, .inl (fun j => iI (t_0_1_c j))))] → va_S A s.heap H locs → lv_has ls 4 [(0, .ref t), (1, .int (iI p1)), (2, .int (iI p2)), (3, .int (iI x43_3))] → W p l e ({ frames := 12, cells := 0, slots := 0, locals := 300 } : Room) s m ag below meth c H locs 0 0 Q (F0 m 43 ls []) := by
    intro x43_3 H locs ls hf43 hP hD hS hl
    refine lv_aload_n hx hb dX3_takeNumber_43 rfl (lv_at hl 0 rfl) ?_
    refine lv_iconst (v := iI 2) hx hb dX3_takeNumber_44 rfl ?_
    refine lv_aload_n hx hb dX3_takeNumber_45 rfl (lv_at hl 0 rfl) ?_
    refine va_get (D := D) (own := RX3) (ci := 3) (v := .ref (t_q 0)) (C := RX3) (T := TX3) (N := 4) hx hb hts inb_X3 hown hK.1 hP 0 rfl rfl 0 (by decide) (hts _ wd_159) (fun _ h9 => h9) rfl dX3_takeNumber_46 ?_
    refine va_getN (D := D) (own := RX3) (ci := 6) (v := .int (iI t_0_x3)) (C := RX6) (T := TX6) (N := 5) hx hb hts inb_X6 hown hK.1 hP 1 rfl rfl 3 (by decide) (hK.nf 4 rfl) (fun _ h9 => h9) rfl dX3_takeNumber_49 ?_
    have y49_1 : 0 ≤ t_0_x3 ∧ t_0_x3 ≤ 1400 := hi_t_0.2.2.1
    refine fn_gov (wc := [(t, .inr (3, oX3 t_q t_x2 t_x3))]) (wr := [((t_q 0), .inr (6, oX6 t_0_q t_0_x0 t_0_x2 t_0_x3 t_0_x4)), ((t_0_q 1), .inl (K 1, 1400, .inl (fun j => iI (t_0_1_c j))))]) hK hP hD hS hA [0] [1, 2] rfl rfl (by decide) (fun hp => va_runV (C := RX3) (As := [.int (iI 2), .int (iI t_0_x3)]) (rest := []) ⟨hx, hb, hml, hown, hts⟩ (k_X3_blame (l := l) (D := D) (K := K) (t := t) (p1 := 2) (p2 := t_0_x3) (t_q := t_q) (t_x2 := t_x2) (t_x3 := t_x3) (hp1 := (by omega)) (hp2 := (by omega)) (hi_t := hi_t) _) (cwV 2 hts (fn_ginV (fn_gin wd_566) wd_563 wd_565 wp_9 wd_2) rfl rfl rfl (by decide +kernel) ⟨Nat.le_of_ble_eq_true rfl, Nat.le_of_ble_eq_true rfl⟩) ⟨fn_blind, va_recv hK.1 hP (ci := 3) (q0 := 0) rfl rfl, hp⟩ rfl rfl hl.1 rfl (lv_room (Nat.le_of_ble_eq_true rfl)) dX3_takeNumber_52 ⟨Nat.le_of_ble_eq_true rfl, Nat.le_of_ble_eq_true rfl⟩) (fun u52 H locs hwu52 hP hD hS => ?_)
    obtain ⟨u52a, u52b⟩ := u52
    obtain ⟨hqu520, -⟩ := hwu52
    have hqu52 : 0 ≤ (u52a 0) ∧ (u52a 0) ≤ 3 ∧ (-2147483648) ≤ (u52a 1) ∧ (u52a 1) ≤ 2147483647 := hqu520
    clear hqu520
    have hP : va_P D vwCl [((t_q 0), .inr (6, oX6 t_0_q t_0_x0 t_0_x2 t_0_x3 t_0_x4)), ((t_0_q 1), .inl (K 1, 1400, .inl (fun j => iI (t_0_1_c j)))), (t, .inr (3, oX3 t_q (u52a 0) (u52a 1)))] H := hP
    have hD : va_D A [((t_q 0), .inr (6, oX6 t_0_q t_0_x0 t_0_x2 t_0_x3 t_0_x4)), ((t_0_q 1), .inl (K 1, 1400, .inl (fun j => iI (t_0_1_c j)))), (t, .inr (3, oX3 t_q (u52a 0) (u52a 1)))] := hD
    refine lv_iload_n hx hb dX3_takeNumber_55 rfl (lv_at hl 1 rfl) ?_
    have y56_2 : 0 ≤ t_0_x2 ∧ t_0_x2 ≤ 4 := hi_t_0.2.1
    have y56_3 : 0 ≤ t_0_x4 ∧ t_0_x4 ≤ 1400 := hi_t_0.2.2.2
    rw [hQ]; exact fn_iret hx hb hr hlocks rfl hP hD hS ((fun k => ([(u52a 0), (u52a 1), t_0_x2, t_0_x3, t_0_x4] : List Int).getD k 0), (fun _ _ => 0)) ⟨p1, rfl, by omega, (by show 0 ≤ (u52a 0) ∧ (u52a 0) ≤ 3 ∧ (-2147483648) ≤ (u52a 1) ∧ (u52a 1) ≤ 2147483647 ∧ 0 ≤ t_0_x2 ∧ t_0_x2 ≤ 4 ∧ 0 ≤ t_0_x3 ∧ t_0_x3 ≤ 1400 ∧ 0 ≤ t_0_x4 ∧ t_0_x4 ≤ 1400 ∧ (p1 = p1 ∨ (p1 ≤ p1 ∧ p1 ≤ p2)); omega), trivial⟩ [2, 0, 1] (by decide) rfl dX3_takeNumber_56
  have hl : lv_has ls 4 [(0, .ref t), (1, .int (iI p1)), (2, .int (iI p2))] := hl
  refine lv_aload_n hx hb dX3_takeNumber_0 rfl (lv_at hl 0 rfl) ?_
  refine va_get (D := D) (own := RX3) (ci := 3) (v := .ref (t_q 0)) (C := RX3) (T := TX3) (N := 4) hx hb hts inb_X3 hown hK.1 hP 0 rfl rfl 0 (by decide) (hts _ wd_159) (fun _ h9 => h9) rfl dX3_takeNumber_1 ?_
  refine va_getN (D := D) (own := RX3) (ci := 6) (v := .int (iI t_0_x2)) (C := RX6) (T := TX6) (N := 5) hx hb hts inb_X6 hown hK.1 hP 1 rfl rfl 2 (by decide) (hK.nf 3 rfl) (fun _ h9 => h9) rfl dX3_takeNumber_4 ?_
  have y4_1 : 0 ≤ t_0_x2 ∧ t_0_x2 ≤ 4 := hi_t_0.2.1
  refine lv_iconst (v := iI 2) hx hb dX3_takeNumber_7 rfl ?_
  refine g_icmp_eq (tgt := 25) hx hb (by omega) (by omega) dX3_takeNumber_8 (by decide) (fun c8 => ?_) (fun c8 => ?_)
  · refine lv_aload_n hx hb dX3_takeNumber_25 rfl (lv_at hl 0 rfl) ?_
    refine va_get (D := D) (own := RX3) (ci := 3) (v := .ref (t_q 0)) (C := RX3) (T := TX3) (N := 4) hx hb hts inb_X3 hown hK.1 hP 0 rfl rfl 0 (by decide) (hts _ wd_159) (fun _ h9 => h9) rfl dX3_takeNumber_26 ?_
    refine fn_goi (wc := [((t_q 0), .inr (6, oX6 t_0_q t_0_x0 t_0_x2 t_0_x3 t_0_x4)), ((t_0_q 1), .inl (K 1, 1400, .inl (fun j => iI (t_0_1_c j))))]) (wr := [(t, .inr (3, oX3 t_q t_x2 t_x3))]) hK hP hD hS hA [1, 2] [0] rfl rfl (by decide) (fun hp => va_runVN (C := RX6) (As := []) (rest := []) ⟨hx, hb, hml, hown, hts⟩ (k_X6_valueOfDigits (l := l) (D := D) (K := K) (t := (t_q 0)) (t_q := t_0_q) (t_x0 := t_0_x0) (t_x2 := t_0_x2) (t_x3 := t_0_x3) (t_x4 := t_0_x4) (t_1_c := t_0_1_c) (hi_t := hi_t_0) (hc_t_1 := hc_t_0_1) _) ⟨va_cnB (own := RX3) 0 hts (fn_gin wd_575) rfl rfl rfl (hK.nw 99 rfl) (hts _ wd_3) (by decide +kernel) ⟨Nat.le_of_ble_eq_true rfl, Nat.le_of_ble_eq_true rfl⟩, hts _ wd_574, hts _ wp_11⟩ ⟨fn_blind, va_recv hK.1 hP (ci := 6) (q0 := 1) rfl rfl, hp⟩ rfl rfl hl.1 rfl (lv_room (Nat.le_of_ble_eq_true rfl)) dX3_takeNumber_29 ⟨Nat.le_of_ble_eq_true rfl, Nat.le_of_ble_eq_true rfl⟩) (fun r29 u29 H locs hwu29 hP hD hS => ?_)
    obtain ⟨u29a, u29b⟩ := u29
    obtain ⟨kr29, rfl, hkr29, -⟩ := hwu29
    have hP : va_P D vwCl [(t, .inr (3, oX3 t_q t_x2 t_x3)), ((t_q 0), .inr (6, oX6 t_0_q t_0_x0 t_0_x2 t_0_x3 t_0_x4)), ((t_0_q 1), .inl (K 1, 1400, .inl (fun j => iI (t_0_1_c j))))] H := hP
    have hD : va_D A [(t, .inr (3, oX3 t_q t_x2 t_x3)), ((t_q 0), .inr (6, oX6 t_0_q t_0_x0 t_0_x2 t_0_x3 t_0_x4)), ((t_0_q 1), .inl (K 1, 1400, .inl (fun j => iI (t_0_1_c j))))] := hD
    refine lv_istore_n (lv' := [(3, .int (iI kr29)), (0, .ref t), (1, .int (iI p1)), (2, .int (iI p2))]) hx hb dX3_takeNumber_32 rfl hl (by decide) rfl (fun ls hl => ?_)
    refine lv_iload_n hx hb dX3_takeNumber_33 rfl (lv_at hl 0 rfl) ?_
    refine lv_iload_n hx hb dX3_takeNumber_34 rfl (lv_at hl 2 rfl) ?_
    refine g_icmp_lt (tgt := 43) hx hb (by omega) (by omega) dX3_takeNumber_35 (by decide) (fun c35 => ?_) (fun c35 => ?_)
    · exact J43 kr29 _ _ ls (by omega) (hP.sub [0, 1, 2] rfl) (hD.sub [0, 1, 2] (by decide) rfl) hS (lv_sub hl [1, 2, 3, 0] rfl)
    · refine lv_iload_n hx hb dX3_takeNumber_38 rfl (lv_at hl 0 rfl) ?_
      refine lv_iload_n hx hb dX3_takeNumber_39 rfl (lv_at hl 3 rfl) ?_
      refine g_icmp_le (tgt := 57) hx hb (by omega) (by omega) dX3_takeNumber_40 (by decide) (fun c40 => ?_) (fun c40 => ?_)
      · refine lv_aload_n hx hb dX3_takeNumber_57 rfl (lv_at hl 1 rfl) ?_
        refine va_get (D := D) (own := RX3) (ci := 3) (v := .ref (t_q 0)) (C := RX3) (T := TX3) (N := 4) hx hb hts inb_X3 hown hK.1 hP 0 rfl rfl 0 (by decide) (hts _ wd_159) (fun _ h9 => h9) rfl dX3_takeNumber_58 ?_
        refine fn_gov (wc := [((t_q 0), .inr (6, oX6 t_0_q t_0_x0 t_0_x2 t_0_x3 t_0_x4)), ((t_0_q 1), .inl (K 1, 1400, .inl (fun j => iI (t_0_1_c j))))]) (wr := [(t, .inr (3, oX3 t_q t_x2 t_x3))]) hK hP hD hS hA [1, 2] [0] rfl rfl (by decide) (fun hp => va_runVN (C := RX6) (As := []) (rest := []) ⟨hx, hb, hml, hown, hts⟩ (k_X6_moveOn (l := l) (D := D) (K := K) (t := (t_q 0)) (t_q := t_0_q) (t_x0 := t_0_x0) (t_x2 := t_0_x2) (t_x3 := t_0_x3) (t_x4 := t_0_x4) (t_1_c := t_0_1_c) (hi_t := hi_t_0) (hc_t_1 := hc_t_0_1) _) ⟨va_cnB (own := RX3) 0 hts (fn_gin wd_493) rfl rfl rfl (hK.nw 98 rfl) (hts _ wd_3) (by decide +kernel) ⟨Nat.le_of_ble_eq_true rfl, Nat.le_of_ble_eq_true rfl⟩, hts _ wd_492, hts _ wp_4⟩ ⟨fn_blind, va_recv hK.1 hP (ci := 6) (q0 := 1) rfl rfl, hp⟩ rfl rfl hl.1 rfl (lv_room (Nat.le_of_ble_eq_true rfl)) dX3_takeNumber_61 ⟨Nat.le_of_ble_eq_true rfl, Nat.le_of_ble_eq_true rfl⟩) (fun u61 H locs hwu61 hP hD hS => ?_)
        obtain ⟨u61a, u61b⟩ := u61
        obtain ⟨hqu610, -⟩ := hwu61
        have hqu61 : 0 ≤ (u61a 0) ∧ (u61a 0) ≤ 4 ∧ 0 ≤ (u61a 1) ∧ (u61a 1) ≤ 1400 ∧ 0 ≤ (u61a 2) ∧ (u61a 2) ≤ 1400 := hqu610
        clear hqu610
        have hP : va_P D vwCl [(t, .inr (3, oX3 t_q t_x2 t_x3)), ((t_q 0), .inr (6, oX6 t_0_q t_0_x0 (u61a 0) (u61a 1) (u61a 2))), ((t_0_q 1), .inl (K 1, 1400, .inl (fun j => iI (t_0_1_c j))))] H := hP
        have hD : va_D A [(t, .inr (3, oX3 t_q t_x2 t_x3)), ((t_q 0), .inr (6, oX6 t_0_q t_0_x0 (u61a 0) (u61a 1) (u61a 2))), ((t_0_q 1), .inl (K 1, 1400, .inl (fun j => iI (t_0_1_c j))))] := hD
        refine lv_iload_n hx hb dX3_takeNumber_64 rfl (lv_at hl 0 rfl) ?_
        refine fn_at 65 rfl ?_
        have y65_2 : 0 ≤ t_x2 ∧ t_x2 ≤ 3 := hi_t.1
        have y65_3 : (-2147483648) ≤ t_x3 ∧ t_x3 ≤ 2147483647 := hi_t.2
        rw [hQ]; exact fn_iret hx hb hr hlocks rfl hP hD hS ((fun k => ([t_x2, t_x3, (u61a 0), (u61a 1), (u61a 2)] : List Int).getD k 0), (fun _ _ => 0)) ⟨kr29, rfl, by omega, (by show 0 ≤ t_x2 ∧ t_x2 ≤ 3 ∧ (-2147483648) ≤ t_x3 ∧ t_x3 ≤ 2147483647 ∧ 0 ≤ (u61a 0) ∧ (u61a 0) ≤ 4 ∧ 0 ≤ (u61a 1) ∧ (u61a 1) ≤ 1400 ∧ 0 ≤ (u61a 2) ∧ (u61a 2) ≤ 1400 ∧ (kr29 = p1 ∨ (p1 ≤ kr29 ∧ kr29 ≤ p2)); omega), trivial⟩ [0, 1, 2] (by decide) rfl dX3_takeNumber_65
      · exact J43 kr29 _ _ ls (by omega) (hP.sub [0, 1, 2] rfl) (hD.sub [0, 1, 2] (by decide) rfl) hS (lv_sub hl [1, 2, 3, 0] rfl)
  · refine lv_aload_n hx hb dX3_takeNumber_11 rfl (lv_at hl 0 rfl) ?_
    refine lv_iconst (v := iI 1) hx hb dX3_takeNumber_12 rfl ?_
    refine lv_aload_n hx hb dX3_takeNumber_13 rfl (lv_at hl 0 rfl) ?_
    refine va_get (D := D) (own := RX3) (ci := 3) (v := .ref (t_q 0)) (C := RX3) (T := TX3) (N := 4) hx hb hts inb_X3 hown hK.1 hP 0 rfl rfl 0 (by decide) (hts _ wd_159) (fun _ h9 => h9) rfl dX3_takeNumber_14 ?_
    refine va_getN (D := D) (own := RX3) (ci := 6) (v := .int (iI t_0_x3)) (C := RX6) (T := TX6) (N := 5) hx hb hts inb_X6 hown hK.1 hP 1 rfl rfl 3 (by decide) (hK.nf 4 rfl) (fun _ h9 => h9) rfl dX3_takeNumber_17 ?_
    have y17_2 : 0 ≤ t_0_x3 ∧ t_0_x3 ≤ 1400 := hi_t_0.2.2.1
    refine fn_gov (wc := [(t, .inr (3, oX3 t_q t_x2 t_x3))]) (wr := [((t_q 0), .inr (6, oX6 t_0_q t_0_x0 t_0_x2 t_0_x3 t_0_x4)), ((t_0_q 1), .inl (K 1, 1400, .inl (fun j => iI (t_0_1_c j))))]) hK hP hD hS hA [0] [1, 2] rfl rfl (by decide) (fun hp => va_runV (C := RX3) (As := [.int (iI 1), .int (iI t_0_x3)]) (rest := []) ⟨hx, hb, hml, hown, hts⟩ (k_X3_blame (l := l) (D := D) (K := K) (t := t) (p1 := 1) (p2 := t_0_x3) (t_q := t_q) (t_x2 := t_x2) (t_x3 := t_x3) (hp1 := (by omega)) (hp2 := (by omega)) (hi_t := hi_t) _) (cwV 2 hts (fn_ginV (fn_gin wd_566) wd_563 wd_565 wp_9 wd_2) rfl rfl rfl (by decide +kernel) ⟨Nat.le_of_ble_eq_true rfl, Nat.le_of_ble_eq_true rfl⟩) ⟨fn_blind, va_recv hK.1 hP (ci := 3) (q0 := 0) rfl rfl, hp⟩ rfl rfl hl.1 rfl (lv_room (Nat.le_of_ble_eq_true rfl)) dX3_takeNumber_20 ⟨Nat.le_of_ble_eq_true rfl, Nat.le_of_ble_eq_true rfl⟩) (fun u20 H locs hwu20 hP hD hS => ?_)
    obtain ⟨u20a, u20b⟩ := u20
    obtain ⟨hqu200, -⟩ := hwu20
    have hqu20 : 0 ≤ (u20a 0) ∧ (u20a 0) ≤ 3 ∧ (-2147483648) ≤ (u20a 1) ∧ (u20a 1) ≤ 2147483647 := hqu200
    clear hqu200
    have hP : va_P D vwCl [((t_q 0), .inr (6, oX6 t_0_q t_0_x0 t_0_x2 t_0_x3 t_0_x4)), ((t_0_q 1), .inl (K 1, 1400, .inl (fun j => iI (t_0_1_c j)))), (t, .inr (3, oX3 t_q (u20a 0) (u20a 1)))] H := hP
    have hD : va_D A [((t_q 0), .inr (6, oX6 t_0_q t_0_x0 t_0_x2 t_0_x3 t_0_x4)), ((t_0_q 1), .inl (K 1, 1400, .inl (fun j => iI (t_0_1_c j)))), (t, .inr (3, oX3 t_q (u20a 0) (u20a 1)))] := hD
    refine lv_iload_n hx hb dX3_takeNumber_23 rfl (lv_at hl 1 rfl) ?_
    have y24_3 : 0 ≤ t_0_x4 ∧ t_0_x4 ≤ 1400 := hi_t_0.2.2.2
    rw [hQ]; exact fn_iret hx hb hr hlocks rfl hP hD hS ((fun k => ([(u20a 0), (u20a 1), t_0_x2, t_0_x3, t_0_x4] : List Int).getD k 0), (fun _ _ => 0)) ⟨p1, rfl, by omega, (by show 0 ≤ (u20a 0) ∧ (u20a 0) ≤ 3 ∧ (-2147483648) ≤ (u20a 1) ∧ (u20a 1) ≤ 2147483647 ∧ 0 ≤ t_0_x2 ∧ t_0_x2 ≤ 4 ∧ 0 ≤ t_0_x3 ∧ t_0_x3 ≤ 1400 ∧ 0 ≤ t_0_x4 ∧ t_0_x4 ≤ 1400 ∧ (p1 = p1 ∨ (p1 ≤ p1 ∧ p1 ≤ p2)); omega), trivial⟩ [2, 0, 1] (by decide) rfl dX3_takeNumber_24
theorem wd_522 : Cond.fieldLink "java/lang/String" 38 "java/lang/String" "COMPACT_STRINGS" "Z" ∈ fn_big := fn_tb (fn_l3 (List.mem_of_getElem? (i := 42) (by decide +kernel))) (by decide +kernel)
theorem wd_1955 : Cond.fieldLink "java/lang/String" 15 "java/lang/String" "coder" "B" ∈ fn_big := fn_tb (fn_l9 (List.mem_of_getElem? (i := 35) (by decide +kernel))) (by decide +kernel)
theorem dJ0_isLatin1_aae02_0 : decode cJ0_isLatin1_aae02 0 = .ok (.getstatic 38, 3) := by decide +kernel
theorem dJ0_isLatin1_aae02_3 : decode cJ0_isLatin1_aae02 3 = .ok (.ifCond .eq 14, 3) := by decide +kernel
theorem dJ0_isLatin1_aae02_6 : decode cJ0_isLatin1_aae02 6 = .ok (.aload_n 0, 1) := by decide +kernel
theorem dJ0_isLatin1_aae02_7 : decode cJ0_isLatin1_aae02 7 = .ok (.getfield 15, 3) := by decide +kernel
theorem dJ0_isLatin1_aae02_10 : decode cJ0_isLatin1_aae02 10 = .ok (.ifCond .ne 7, 3) := by decide +kernel
theorem dJ0_isLatin1_aae02_13 : decode cJ0_isLatin1_aae02 13 = .ok (.iconst 1, 1) := by decide +kernel
theorem dJ0_isLatin1_aae02_14 : decode cJ0_isLatin1_aae02 14 = .ok (.goto 4, 3) := by decide +kernel
theorem dJ0_isLatin1_aae02_18 : decode cJ0_isLatin1_aae02 18 = .ok (.ireturn, 1) := by decide +kernel
set_option maxHeartbeats 4000000 in
set_option maxRecDepth 100000 in
theorem k_J0_isLatin1_aae02 (l : Launch) (D : va_G) (K : Nat → ClassId) (adK adV : Nat → Nat) (s0 : Nat) (hs0 : s0 < 11) : fn_CIO adK adV (S := (Nat → Int) × (Nat → Nat → Int)) l D K yJ0_isLatin1_aae02 (fn_ws yJ0_isLatin1_aae02 cJ0_isLatin1_aae02 1 (some .boolean)) ({ frames := 4, cells := 0, slots := 0, locals := 100 } : Room) [.ref (adK s0)] [] (fun r u => ∃ k : Int, r = iI k ∧ (1 ≤ k ∧ k ≤ 1) ∧ True) (fun u => []) 0 0 := by
  refine g_inIO (cc := cJ0_isLatin1_aae02) (maxL := 1) (ret := (some .boolean)) (by decide) rfl (Nat.le_of_ble_eq_true rfl) ?_
  intro p e s m below meth c A ls ag Q B hO hA hP hD hS hl hQ
  obtain ⟨hx, hb, hr, hml, hts, hown, hlocks, hin, hK⟩ := B
  have hown : s.vm.findClass RJ0 = some m.cls := hown
  have hts := fun w h => hts w (List.mem_cons_of_mem _ h)
  have hl : lv_has ls 1 [(0, .ref (adK s0))] := hl
  refine va_gets (own := RJ0) hx hb hO.2.1 hS hown (hts _ wd_522) (fun _ h9 => h9) dJ0_isLatin1_aae02_0 ?_
  refine fn_top (iI 1) (by decide) ?_
  refine g_if_eq (tgt := 17) hx hb (by omega) dJ0_isLatin1_aae02_3 (by decide) (fun c3 => ?_) (fun c3 => ?_)
  · exfalso; omega
  · refine lv_aload_n hx hb dJ0_isLatin1_aae02_6 rfl (lv_at hl 0 rfl) ?_
    refine vk_getf (own := RJ0) hx hb (hO.1.1 s0 hs0).2.1 hS hown (hts _ wd_1955) (fun _ h9 => h9) dJ0_isLatin1_aae02_7 ?_
    refine fn_top (iI 0) (by decide) ?_
    refine g_if_ne (tgt := 17) hx hb (by omega) dJ0_isLatin1_aae02_10 (by decide) (fun c10 => ?_) (fun c10 => ?_)
    · exfalso; omega
    · refine lv_iconst (v := iI 1) hx hb dJ0_isLatin1_aae02_13 rfl ?_
      refine lv_goto (tgt := 18) hx hb dJ0_isLatin1_aae02_14 (by decide) ?_
      rw [hQ]; exact fn_iret hx hb hr hlocks (iI_nz (by omega)) hP hD hS ((fun _ => 0), (fun _ _ => 0)) ⟨1, rfl, by omega, trivial⟩ [] (by decide) rfl dJ0_isLatin1_aae02_18
theorem dJ3_checkIndex_8e157_0 : decode cJ3_checkIndex_8e157 0 = .ok (.iload_n 0, 1) := by decide +kernel
theorem dJ3_checkIndex_8e157_1 : decode cJ3_checkIndex_8e157 1 = .ok (.ifCond .lt 8, 3) := by decide +kernel
theorem dJ3_checkIndex_8e157_4 : decode cJ3_checkIndex_8e157 4 = .ok (.iload_n 0, 1) := by decide +kernel
theorem dJ3_checkIndex_8e157_5 : decode cJ3_checkIndex_8e157 5 = .ok (.iload_n 1, 1) := by decide +kernel
theorem dJ3_checkIndex_8e157_6 : decode cJ3_checkIndex_8e157 6 = .ok (.if_icmp .lt 10, 3) := by decide +kernel
theorem dJ3_checkIndex_8e157_16 : decode cJ3_checkIndex_8e157 16 = .ok (.iload_n 0, 1) := by decide +kernel
theorem dJ3_checkIndex_8e157_17 : decode cJ3_checkIndex_8e157 17 = .ok (.ireturn, 1) := by decide +kernel
set_option maxHeartbeats 4000000 in
set_option maxRecDepth 100000 in
theorem k_J3_checkIndex_8e157_n (l : Launch) (D : va_G) (K : Nat → ClassId) (p1 p2 : Int) (hp1 : (-2147483648) ≤ p1 ∧ p1 ≤ 2147483647) (hp2 : (-2147483648) ≤ p2 ∧ p2 ≤ 2147483647) (ck : 0 ≤ p1 ∧ p1 < p2) : fn_CI (S := (Nat → Int) × (Nat → Nat → Int)) l D K yJ3_checkIndex_8e157 (fn_ws yJ3_checkIndex_8e157 cJ3_checkIndex_8e157 3 (some .int)) ({ frames := 8, cells := 0, slots := 0, locals := 200 } : Room) [.int (iI p1), .int (iI p2), .null] [] (fun r u => ∃ k : Int, r = iI k ∧ (0 ≤ k ∧ k ≤ 2147483646) ∧ True) (fun u => []) 0 0 := by
  refine g_inI (cc := cJ3_checkIndex_8e157) (maxL := 3) (ret := (some .int)) (by decide) rfl (Nat.le_of_ble_eq_true rfl) ?_
  intro p e s m below meth c A ls ag Q B hA hP hD hS hl hQ
  obtain ⟨hx, hb, hr, hml, hts, hown, hlocks, hin, hK⟩ := B
  have hown : s.vm.findClass RJ3 = some m.cls := hown
  have hts := fun w h => hts w (List.mem_cons_of_mem _ h)
  have hl : lv_has ls 3 [(0, .int (iI p1)), (1, .int (iI p2)), (2, .null)] := hl
  refine lv_iload_n hx hb dJ3_checkIndex_8e157_0 rfl (lv_at hl 0 rfl) ?_
  refine g_if_lt (tgt := 9) hx hb (by omega) dJ3_checkIndex_8e157_1 (by decide) (fun c1 => ?_) (fun c1 => ?_)
  · exfalso; omega
  · refine lv_iload_n hx hb dJ3_checkIndex_8e157_4 rfl (lv_at hl 0 rfl) ?_
    refine lv_iload_n hx hb dJ3_checkIndex_8e157_5 rfl (lv_at hl 1 rfl) ?_
    refine g_icmp_lt (tgt := 16) hx hb (by omega) (by omega) dJ3_checkIndex_8e157_6 (by decide) (fun c6 => ?_) (fun c6 => ?_)
    · refine lv_iload_n hx hb dJ3_checkIndex_8e157_16 rfl (lv_at hl 0 rfl) ?_
      rw [hQ]; exact fn_iret hx hb hr hlocks rfl hP hD hS ((fun _ => 0), (fun _ _ => 0)) ⟨p1, rfl, by omega, trivial⟩ [] (by decide) rfl dJ3_checkIndex_8e157_17
    · exfalso; omega
set_option maxHeartbeats 4000000 in
set_option maxRecDepth 100000 in
theorem k_J3_checkIndex_8e157_r (l : Launch) (D : va_G) (K : Nat → ClassId) (a3 : Nat) (p1 p2 : Int) (hp1 : (-2147483648) ≤ p1 ∧ p1 ≤ 2147483647) (hp2 : (-2147483648) ≤ p2 ∧ p2 ≤ 2147483647) (ck : 0 ≤ p1 ∧ p1 < p2) : fn_CI (S := (Nat → Int) × (Nat → Nat → Int)) l D K yJ3_checkIndex_8e157 (fn_ws yJ3_checkIndex_8e157 cJ3_checkIndex_8e157 3 (some .int)) ({ frames := 8, cells := 0, slots := 0, locals := 200 } : Room) [.int (iI p1), .int (iI p2), .ref a3] [] (fun r u => ∃ k : Int, r = iI k ∧ (0 ≤ k ∧ k ≤ 2147483646) ∧ True) (fun u => []) 0 0 := by
  refine g_inI (cc := cJ3_checkIndex_8e157) (maxL := 3) (ret := (some .int)) (by decide) rfl (Nat.le_of_ble_eq_true rfl) ?_
  intro p e s m below meth c A ls ag Q B hA hP hD hS hl hQ
  obtain ⟨hx, hb, hr, hml, hts, hown, hlocks, hin, hK⟩ := B
  have hown : s.vm.findClass RJ3 = some m.cls := hown
  have hts := fun w h => hts w (List.mem_cons_of_mem _ h)
  have hl : lv_has ls 3 [(0, .int (iI p1)), (1, .int (iI p2)), (2, .ref a3)] := hl
  refine lv_iload_n hx hb dJ3_checkIndex_8e157_0 rfl (lv_at hl 0 rfl) ?_
  refine g_if_lt (tgt := 9) hx hb (by omega) dJ3_checkIndex_8e157_1 (by decide) (fun c1 => ?_) (fun c1 => ?_)
  · exfalso; omega
  · refine lv_iload_n hx hb dJ3_checkIndex_8e157_4 rfl (lv_at hl 0 rfl) ?_
    refine lv_iload_n hx hb dJ3_checkIndex_8e157_5 rfl (lv_at hl 1 rfl) ?_
    refine g_icmp_lt (tgt := 16) hx hb (by omega) (by omega) dJ3_checkIndex_8e157_6 (by decide) (fun c6 => ?_) (fun c6 => ?_)
    · refine lv_iload_n hx hb dJ3_checkIndex_8e157_16 rfl (lv_at hl 0 rfl) ?_
      rw [hQ]; exact fn_iret hx hb hr hlocks rfl hP hD hS ((fun _ => 0), (fun _ _ => 0)) ⟨p1, rfl, by omega, trivial⟩ [] (by decide) rfl dJ3_checkIndex_8e157_17
    · exfalso; omega
theorem wd_538 : Cond.fieldLink "java/lang/String" 1053 "jdk/internal/util/Preconditions" "SIOOBE_FORMATTER" "Ljava/util/function/BiFunction;" ∈ fn_big := fn_tb (fn_l3 (List.mem_of_getElem? (i := 58) (by decide +kernel))) (by decide +kernel)
theorem wd_542 : Cond.code ⟨"jdk/internal/util/Preconditions", "checkIndex", "(IILjava/util/function/BiFunction;)I"⟩ prog_22_method_11_code 3 (Option.some Jvm.ClassFile.FieldType.int) ∈ fn_big := fn_tb (fn_l3 (List.mem_of_getElem? (i := 62) (by decide +kernel))) (by decide +kernel)
theorem wd_16 : Cond.initialized "jdk/internal/util/Preconditions" ∈ fn_big := fn_tb (fn_l1 (List.mem_of_getElem? (i := 16) (by decide +kernel))) (by decide +kernel)
theorem wd_540 : Cond.methodLink "java/lang/String" 1059 ⟨"jdk/internal/util/Preconditions", "checkIndex", "(IILjava/util/function/BiFunction;)I"⟩ ∈ fn_big := fn_tb (fn_l3 (List.mem_of_getElem? (i := 60) (by decide +kernel))) (by decide +kernel)
theorem wd_541 : Cond.static ⟨"jdk/internal/util/Preconditions", "checkIndex", "(IILjava/util/function/BiFunction;)I"⟩ ∈ fn_big := fn_tb (fn_l3 (List.mem_of_getElem? (i := 61) (by decide +kernel))) (by decide +kernel)
theorem dJ0_checkIndex_df160_0 : decode cJ0_checkIndex_df160 0 = .ok (.iload_n 0, 1) := by decide +kernel
theorem dJ0_checkIndex_df160_1 : decode cJ0_checkIndex_df160 1 = .ok (.iload_n 1, 1) := by decide +kernel
theorem dJ0_checkIndex_df160_2 : decode cJ0_checkIndex_df160 2 = .ok (.getstatic 1053, 3) := by decide +kernel
theorem dJ0_checkIndex_df160_5 : decode cJ0_checkIndex_df160 5 = .ok (.invokestatic 1059, 3) := by decide +kernel
theorem dJ0_checkIndex_df160_8 : decode cJ0_checkIndex_df160 8 = .ok (.pop, 1) := by decide +kernel
theorem dJ0_checkIndex_df160_9 : decode cJ0_checkIndex_df160 9 = .ok (.return_, 1) := by decide +kernel
set_option maxHeartbeats 4000000 in
set_option maxRecDepth 100000 in
theorem k_J0_checkIndex_df160 (l : Launch) (D : va_G) (K : Nat → ClassId) (adK adV : Nat → Nat) (p1 p2 : Int) (hp1 : (-2147483648) ≤ p1 ∧ p1 ≤ 2147483647) (hp2 : (-2147483648) ≤ p2 ∧ p2 ≤ 2147483647) (ck : 0 ≤ p1 ∧ p1 < p2) : fn_CVO adK adV (S := (Nat → Int) × (Nat → Nat → Int)) l D K yJ0_checkIndex_df160 (fn_ws yJ0_checkIndex_df160 cJ0_checkIndex_df160 2 none) ({ frames := 12, cells := 0, slots := 0, locals := 300 } : Room) [.int (iI p1), .int (iI p2)] [] (fun u => True) (fun u => []) 0 0 := by
  refine g_inVO (cc := cJ0_checkIndex_df160) (maxL := 2) (ret := none) (by decide) rfl (Nat.le_of_ble_eq_true rfl) ?_
  intro p e s m below meth c A ls ag Q B hO hA hP hD hS hl hQ
  obtain ⟨hx, hb, hr, hml, hts, hown, hlocks, hin, hK⟩ := B
  have hown : s.vm.findClass RJ0 = some m.cls := hown
  have hts := fun w h => hts w (List.mem_cons_of_mem _ h)
  have hl : lv_has ls 2 [(0, .int (iI p1)), (1, .int (iI p2))] := hl
  refine lv_iload_n hx hb dJ0_checkIndex_df160_0 rfl (lv_at hl 0 rfl) ?_
  refine lv_iload_n hx hb dJ0_checkIndex_df160_1 rfl (lv_at hl 1 rfl) ?_
  rcases hO.2.2.1 with hz | ⟨tq, hz⟩
  · refine va_gets (own := RJ0) hx hb hz hS hown (hts _ wd_538) (fun _ h9 => h9) dJ0_checkIndex_df160_2 ?_
    refine fn_goi (wc := []) (wr := []) hK hP hD hS hA [] [] rfl rfl (by decide) (fun hp => va_runS (As := [.int (iI p1), .int (iI p2), .null]) (rest := []) ⟨hx, hb, hml, hown, hts⟩ (k_J3_checkIndex_8e157_n (l := l) (D := D) (K := K) (p1 := p1) (p2 := p2) (hp1 := (by omega)) (hp2 := (by omega)) (ck := (show 0 ≤ p1 ∧ p1 < p2 from by omega)) _) (va_cwS 3 hts (fn_ginS (fn_gin wd_542) wd_540 wd_541 wd_16) rfl rfl rfl (by decide +kernel) ⟨Nat.le_of_ble_eq_true rfl, Nat.le_of_ble_eq_true rfl⟩) ⟨fn_blind, hp⟩ rfl rfl hl.1 rfl (lv_room (Nat.le_of_ble_eq_true rfl)) dJ0_checkIndex_df160_5 ⟨Nat.le_of_ble_eq_true rfl, Nat.le_of_ble_eq_true rfl⟩) (fun r5 u5 H locs hwu5 hP hD hS => ?_)
    obtain ⟨u5a, u5b⟩ := u5
    obtain ⟨kr5, rfl, hkr5, -⟩ := hwu5
    have hP : va_P D vwCl [] H := hP
    have hD : va_D A [] := hD
    refine lv_pop hx hb dJ0_checkIndex_df160_8 rfl ?_
    rw [hQ]; exact fn_vret hx hb hr hlocks hP hD hS ((fun _ => 0), (fun _ _ => 0)) trivial [] (by decide) rfl dJ0_checkIndex_df160_9
  · refine va_gets (own := RJ0) hx hb hz hS hown (hts _ wd_538) (fun _ h9 => h9) dJ0_checkIndex_df160_2 ?_
    refine fn_goi (wc := []) (wr := []) hK hP hD hS hA [] [] rfl rfl (by decide) (fun hp => va_runS (As := [.int (iI p1), .int (iI p2), .ref tq]) (rest := []) ⟨hx, hb, hml, hown, hts⟩ (k_J3_checkIndex_8e157_r (l := l) (D := D) (K := K) (p1 := p1) (p2 := p2) (a3 := tq) (hp1 := (by omega)) (hp2 := (by omega)) (ck := (show 0 ≤ p1 ∧ p1 < p2 from by omega)) _) (va_cwS 3 hts (fn_ginS (fn_gin wd_542) wd_540 wd_541 wd_16) rfl rfl rfl (by decide +kernel) ⟨Nat.le_of_ble_eq_true rfl, Nat.le_of_ble_eq_true rfl⟩) ⟨fn_blind, hp⟩ rfl rfl hl.1 rfl (lv_room (Nat.le_of_ble_eq_true rfl)) dJ0_checkIndex_df160_5 ⟨Nat.le_of_ble_eq_true rfl, Nat.le_of_ble_eq_true rfl⟩) (fun r5 u5 H locs hwu5 hP hD hS => ?_)
    obtain ⟨u5a, u5b⟩ := u5
    obtain ⟨kr5, rfl, hkr5, -⟩ := hwu5
    have hP : va_P D vwCl [] H := hP
    have hD : va_D A [] := hD
    refine lv_pop hx hb dJ0_checkIndex_df160_8 rfl ?_
    rw [hQ]; exact fn_vret hx hb hr hlocks hP hD hS ((fun _ => 0), (fun _ _ => 0)) trivial [] (by decide) rfl dJ0_checkIndex_df160_9
theorem wd_537 : Cond.code ⟨"java/lang/String", "checkIndex", "(II)V"⟩ prog_17_method_155_code 2 (Option.none : Option Jvm.ClassFile.FieldType) ∈ fn_big := fn_tb (fn_l3 (List.mem_of_getElem? (i := 57) (by decide +kernel))) (by decide +kernel)
theorem wd_14 : Cond.initialized "java/lang/String" ∈ fn_big := fn_tb (fn_l1 (List.mem_of_getElem? (i := 14) (by decide +kernel))) (by decide +kernel)
theorem wd_535 : Cond.methodLink "java/lang/StringLatin1" 9 ⟨"java/lang/String", "checkIndex", "(II)V"⟩ ∈ fn_big := fn_tb (fn_l3 (List.mem_of_getElem? (i := 55) (by decide +kernel))) (by decide +kernel)
theorem wd_536 : Cond.static ⟨"java/lang/String", "checkIndex", "(II)V"⟩ ∈ fn_big := fn_tb (fn_l3 (List.mem_of_getElem? (i := 56) (by decide +kernel))) (by decide +kernel)
theorem dJ1_charAt_3b067_0 : decode cJ1_charAt_3b067 0 = .ok (.iload_n 1, 1) := by decide +kernel
theorem dJ1_charAt_3b067_1 : decode cJ1_charAt_3b067 1 = .ok (.aload_n 0, 1) := by decide +kernel
theorem dJ1_charAt_3b067_2 : decode cJ1_charAt_3b067 2 = .ok (.arraylength, 1) := by decide +kernel
theorem dJ1_charAt_3b067_3 : decode cJ1_charAt_3b067 3 = .ok (.invokestatic 9, 3) := by decide +kernel
theorem dJ1_charAt_3b067_6 : decode cJ1_charAt_3b067 6 = .ok (.aload_n 0, 1) := by decide +kernel
theorem dJ1_charAt_3b067_7 : decode cJ1_charAt_3b067 7 = .ok (.iload_n 1, 1) := by decide +kernel
theorem dJ1_charAt_3b067_8 : decode cJ1_charAt_3b067 8 = .ok (.baload, 1) := by decide +kernel
theorem dJ1_charAt_3b067_9 : decode cJ1_charAt_3b067 9 = .ok (.sipush 255, 3) := by decide +kernel
theorem dJ1_charAt_3b067_12 : decode cJ1_charAt_3b067 12 = .ok (.iand, 1) := by decide +kernel
theorem dJ1_charAt_3b067_13 : decode cJ1_charAt_3b067 13 = .ok (.i2c, 1) := by decide +kernel
theorem dJ1_charAt_3b067_14 : decode cJ1_charAt_3b067 14 = .ok (.ireturn, 1) := by decide +kernel
set_option maxHeartbeats 4000000 in
set_option maxRecDepth 100000 in
theorem k_J1_charAt_3b067 (l : Launch) (D : va_G) (K : Nat → ClassId) (adK adV : Nat → Nat) (s1 : Nat) (p2 : Int) (hs1 : s1 < 11) (hp2 : (-2147483648) ≤ p2 ∧ p2 ≤ 2147483647) (ck : 0 ≤ p2 ∧ p2 < ((fn_len.getD s1 0 : Nat) : Int)) : fn_CIO adK adV (S := (Nat → Int) × (Nat → Nat → Int)) l D K yJ1_charAt_3b067 (fn_ws yJ1_charAt_3b067 cJ1_charAt_3b067 2 (some .char)) ({ frames := 16, cells := 0, slots := 0, locals := 400 } : Room) [.ref (adV s1), .int (iI p2)] [] (fun r u => ∃ k : Int, r = iI k ∧ (0 ≤ k ∧ k ≤ 65535) ∧ True) (fun u => []) 0 0 := by
  refine g_inIO (cc := cJ1_charAt_3b067) (maxL := 2) (ret := (some .char)) (by decide) rfl (Nat.le_of_ble_eq_true rfl) ?_
  intro p e s m below meth c A ls ag Q B hO hA hP hD hS hl hQ
  obtain ⟨hx, hb, hr, hml, hts, hown, hlocks, hin, hK⟩ := B
  have hown : s.vm.findClass RJ1 = some m.cls := hown
  have hts := fun w h => hts w (List.mem_cons_of_mem _ h)
  have hl : lv_has ls 2 [(0, .ref (adV s1)), (1, .int (iI p2))] := hl
  refine lv_iload_n hx hb dJ1_charAt_3b067_0 rfl (lv_at hl 1 rfl) ?_
  refine lv_aload_n hx hb dJ1_charAt_3b067_1 rfl (lv_at hl 0 rfl) ?_
  have y2 := fn_len_lt s1
  refine va_tlen (v := iI ((fn_len.getD s1 0 : Nat) : Int)) hx hb (hO.1.1 s1 hs1).2.2.2 hS (iI_nat (by omega)) dJ1_charAt_3b067_2 ?_
  refine fn_govO (wc := []) (wr := []) hO hK hP hD hS hA [] [] rfl rfl (by decide) (fun hp => va_runS (As := [.int (iI p2), .int (iI ((fn_len.getD s1 0 : Nat) : Int))]) (rest := []) ⟨hx, hb, hml, hown, hts⟩ (k_J0_checkIndex_df160 (l := l) (D := D) (K := K) (adK := adK) (adV := adV) (p1 := p2) (p2 := ((fn_len.getD s1 0 : Nat) : Int)) (hp1 := (by omega)) (hp2 := (by omega)) (ck := (show 0 ≤ p2 ∧ p2 < ((fn_len.getD s1 0 : Nat) : Int) from by omega)) _) (va_cwS 2 hts (fn_ginS (fn_gin wd_537) wd_535 wd_536 wd_14) rfl rfl rfl (by decide +kernel) ⟨Nat.le_of_ble_eq_true rfl, Nat.le_of_ble_eq_true rfl⟩) ⟨fn_blindO, hp⟩ rfl rfl hl.1 rfl (lv_room (Nat.le_of_ble_eq_true rfl)) dJ1_charAt_3b067_3 ⟨Nat.le_of_ble_eq_true rfl, Nat.le_of_ble_eq_true rfl⟩) (fun u3 H locs hwu3 hP hD hS => ?_)
  obtain ⟨u3a, u3b⟩ := u3
  clear hwu3
  have hP : va_P D vwCl [] H := hP
  have hD : va_D A [] := hD
  refine lv_aload_n hx hb dJ1_charAt_3b067_6 rfl (lv_at hl 0 rfl) ?_
  refine lv_iload_n hx hb dJ1_charAt_3b067_7 rfl (lv_at hl 1 rfl) ?_
  refine va_tb hx hb (hO.1.1 s1 hs1).2.2.2 hS (iI_in (by omega) (by omega) (by have := fn_len_lt s1; omega)) rfl dJ1_charAt_3b067_8 ?_
  refine g_any (fun w8 hw8 ew8 => ?_)
  refine lv_sipush (v := iI 255) hx hb dJ1_charAt_3b067_9 (by decide) ?_
  refine lv_iand hx hb dJ1_charAt_3b067_12 ?_
  obtain ⟨w12, ew12, hw12⟩ := iI_and w8 255 (by omega)
  refine fn_top (iI w12) ew12 ?_
  refine lv_i2c hx hb dJ1_charAt_3b067_13 rfl ?_
  obtain ⟨w13, ew13, hw13⟩ := iI_i2c w12
  refine fn_top (iI w13) ew13 ?_
  rw [hQ]; exact fn_iret hx hb hr hlocks (iI_nc (by omega)) hP hD hS ((fun _ => 0), (fun _ _ => 0)) ⟨w13, rfl, by omega, trivial⟩ [] (by decide) rfl dJ1_charAt_3b067_14
theorem wd_1954 : Cond.fieldLink "java/lang/String" 9 "java/lang/String" "value" "[B" ∈ fn_big := fn_tb (fn_l9 (List.mem_of_getElem? (i := 34) (by decide +kernel))) (by decide +kernel)
theorem wd_531 : Cond.code ⟨"java/lang/String", "isLatin1", "()Z"⟩ prog_17_method_154_code 1 (Option.some Jvm.ClassFile.FieldType.boolean) ∈ fn_big := fn_tb (fn_l3 (List.mem_of_getElem? (i := 51) (by decide +kernel))) (by decide +kernel)
theorem wd_528 : Cond.methodLink "java/lang/String" 492 ⟨"java/lang/String", "isLatin1", "()Z"⟩ ∈ fn_big := fn_tb (fn_l3 (List.mem_of_getElem? (i := 48) (by decide +kernel))) (by decide +kernel)
theorem wd_529 : Cond.instanceMethod ⟨"java/lang/String", "isLatin1", "()Z"⟩ ∈ fn_big := fn_tb (fn_l3 (List.mem_of_getElem? (i := 49) (by decide +kernel))) (by decide +kernel)
theorem wd_530 : Cond.selects "java/lang/String" ⟨"java/lang/String", "isLatin1", "()Z"⟩ ⟨"java/lang/String", "isLatin1", "()Z"⟩ ∈ fn_big := fn_tb (fn_l3 (List.mem_of_getElem? (i := 50) (by decide +kernel))) (by decide +kernel)
theorem wd_534 : Cond.code ⟨"java/lang/StringLatin1", "charAt", "([BI)C"⟩ prog_18_method_2_code 2 (Option.some Jvm.ClassFile.FieldType.char) ∈ fn_big := fn_tb (fn_l3 (List.mem_of_getElem? (i := 54) (by decide +kernel))) (by decide +kernel)
theorem wd_15 : Cond.initialized "java/lang/StringLatin1" ∈ fn_big := fn_tb (fn_l1 (List.mem_of_getElem? (i := 15) (by decide +kernel))) (by decide +kernel)
theorem wd_532 : Cond.methodLink "java/lang/String" 495 ⟨"java/lang/StringLatin1", "charAt", "([BI)C"⟩ ∈ fn_big := fn_tb (fn_l3 (List.mem_of_getElem? (i := 52) (by decide +kernel))) (by decide +kernel)
theorem wd_533 : Cond.static ⟨"java/lang/StringLatin1", "charAt", "([BI)C"⟩ ∈ fn_big := fn_tb (fn_l3 (List.mem_of_getElem? (i := 53) (by decide +kernel))) (by decide +kernel)
theorem dJ0_charAt_5068e_0 : decode cJ0_charAt_5068e 0 = .ok (.aload_n 0, 1) := by decide +kernel
theorem dJ0_charAt_5068e_1 : decode cJ0_charAt_5068e 1 = .ok (.invokevirtual 492, 3) := by decide +kernel
theorem dJ0_charAt_5068e_4 : decode cJ0_charAt_5068e 4 = .ok (.ifCond .eq 12, 3) := by decide +kernel
theorem dJ0_charAt_5068e_7 : decode cJ0_charAt_5068e 7 = .ok (.aload_n 0, 1) := by decide +kernel
theorem dJ0_charAt_5068e_8 : decode cJ0_charAt_5068e 8 = .ok (.getfield 9, 3) := by decide +kernel
theorem dJ0_charAt_5068e_11 : decode cJ0_charAt_5068e 11 = .ok (.iload_n 1, 1) := by decide +kernel
theorem dJ0_charAt_5068e_12 : decode cJ0_charAt_5068e 12 = .ok (.invokestatic 495, 3) := by decide +kernel
theorem dJ0_charAt_5068e_15 : decode cJ0_charAt_5068e 15 = .ok (.ireturn, 1) := by decide +kernel
set_option maxHeartbeats 4000000 in
set_option maxRecDepth 100000 in
theorem k_J0_charAt_5068e (l : Launch) (D : va_G) (K : Nat → ClassId) (adK adV : Nat → Nat) (s0 : Nat) (p1 : Int) (hs0 : s0 < 11) (hp1 : (-2147483648) ≤ p1 ∧ p1 ≤ 2147483647) (ck : 0 ≤ p1 ∧ p1 < ((fn_len.getD s0 0 : Nat) : Int)) : fn_CIO adK adV (S := (Nat → Int) × (Nat → Nat → Int)) l D K yJ0_charAt_5068e (fn_ws yJ0_charAt_5068e cJ0_charAt_5068e 2 (some .char)) ({ frames := 20, cells := 0, slots := 0, locals := 500 } : Room) [.ref (adK s0), .int (iI p1)] [] (fun r u => ∃ k : Int, r = iI k ∧ (0 ≤ k ∧ k ≤ 65535) ∧ True) (fun u => []) 0 0 := by
  refine g_inIO (cc := cJ0_charAt_5068e) (maxL := 2) (ret := (some .char)) (by decide) rfl (Nat.le_of_ble_eq_true rfl) ?_
  intro p e s m below meth c A ls ag Q B hO hA hP hD hS hl hQ
  obtain ⟨hx, hb, hr, hml, hts, hown, hlocks, hin, hK⟩ := B
  have hown : s.vm.findClass RJ0 = some m.cls := hown
  have hts := fun w h => hts w (List.mem_cons_of_mem _ h)
  have hl : lv_has ls 2 [(0, .ref (adK s0)), (1, .int (iI p1))] := hl
  refine lv_aload_n hx hb dJ0_charAt_5068e_0 rfl (lv_at hl 0 rfl) ?_
  refine fn_goiO (wc := []) (wr := []) hO hK hP hD hS hA [] [] rfl rfl (by decide) (fun hp => va_runV (C := RJ0) (As := []) (rest := []) ⟨hx, hb, hml, hown, hts⟩ (k_J0_isLatin1_aae02 (l := l) (D := D) (K := K) (adK := adK) (adV := adV) (s0 := s0) (hs0 := hs0) _) (cwV 0 hts (fn_ginV (fn_gin wd_531) wd_528 wd_529 wd_530 wd_14) rfl rfl rfl (by decide +kernel) ⟨Nat.le_of_ble_eq_true rfl, Nat.le_of_ble_eq_true rfl⟩) ⟨fn_blindO, vk_recv hO.1 hs0 hS, hp⟩ rfl rfl hl.1 rfl (lv_room (Nat.le_of_ble_eq_true rfl)) dJ0_charAt_5068e_1 ⟨Nat.le_of_ble_eq_true rfl, Nat.le_of_ble_eq_true rfl⟩) (fun r1 u1 H locs hwu1 hP hD hS => ?_)
  obtain ⟨u1a, u1b⟩ := u1
  obtain ⟨kr1, rfl, hkr1, -⟩ := hwu1
  have hP : va_P D vwCl [] H := hP
  have hD : va_D A [] := hD
  obtain rfl : kr1 = 1 := by omega
  refine g_if_eq (tgt := 16) hx hb (by omega) dJ0_charAt_5068e_4 (by decide) (fun c4 => ?_) (fun c4 => ?_)
  · exfalso; omega
  · refine lv_aload_n hx hb dJ0_charAt_5068e_7 rfl (lv_at hl 0 rfl) ?_
    refine vk_getf (own := RJ0) hx hb (hO.1.1 s0 hs0).2.2.1 hS hown (hts _ wd_1954) (fun _ h9 => h9) dJ0_charAt_5068e_8 ?_
    refine lv_iload_n hx hb dJ0_charAt_5068e_11 rfl (lv_at hl 1 rfl) ?_
    refine fn_goiO (wc := []) (wr := []) hO hK hP hD hS hA [] [] rfl rfl (by decide) (fun hp => va_runS (As := [.ref (adV s0), .int (iI p1)]) (rest := []) ⟨hx, hb, hml, hown, hts⟩ (k_J1_charAt_3b067 (l := l) (D := D) (K := K) (adK := adK) (adV := adV) (s1 := s0) (p2 := p1) (hs1 := hs0) (hp2 := (by omega)) (ck := (show 0 ≤ p1 ∧ p1 < ((fn_len.getD s0 0 : Nat) : Int) from by omega)) _) (va_cwS 2 hts (fn_ginS (fn_gin wd_534) wd_532 wd_533 wd_15) rfl rfl rfl (by decide +kernel) ⟨Nat.le_of_ble_eq_true rfl, Nat.le_of_ble_eq_true rfl⟩) ⟨fn_blindO, hp⟩ rfl rfl hl.1 rfl (lv_room (Nat.le_of_ble_eq_true rfl)) dJ0_charAt_5068e_12 ⟨Nat.le_of_ble_eq_true rfl, Nat.le_of_ble_eq_true rfl⟩) (fun r12 u12 H locs hwu12 hP hD hS => ?_)
    obtain ⟨u12a, u12b⟩ := u12
    obtain ⟨kr12, rfl, hkr12, -⟩ := hwu12
    have hP : va_P D vwCl [] H := hP
    have hD : va_D A [] := hD
    rw [hQ]; exact fn_iret hx hb hr hlocks (iI_nc (by omega)) hP hD hS ((fun _ => 0), (fun _ _ => 0)) ⟨kr12, rfl, by omega, trivial⟩ [] (by decide) rfl dJ0_charAt_5068e_15
theorem dJ0_coder_7d493_0 : decode cJ0_coder_7d493 0 = .ok (.getstatic 38, 3) := by decide +kernel
theorem dJ0_coder_7d493_3 : decode cJ0_coder_7d493 3 = .ok (.ifCond .eq 10, 3) := by decide +kernel
theorem dJ0_coder_7d493_6 : decode cJ0_coder_7d493 6 = .ok (.aload_n 0, 1) := by decide +kernel
theorem dJ0_coder_7d493_7 : decode cJ0_coder_7d493 7 = .ok (.getfield 15, 3) := by decide +kernel
theorem dJ0_coder_7d493_10 : decode cJ0_coder_7d493 10 = .ok (.goto 4, 3) := by decide +kernel
theorem dJ0_coder_7d493_14 : decode cJ0_coder_7d493 14 = .ok (.ireturn, 1) := by decide +kernel
set_option maxHeartbeats 4000000 in
set_option maxRecDepth 100000 in
theorem k_J0_coder_7d493 (l : Launch) (D : va_G) (K : Nat → ClassId) (adK adV : Nat → Nat) (s0 : Nat) (hs0 : s0 < 11) : fn_CIO adK adV (S := (Nat → Int) × (Nat → Nat → Int)) l D K yJ0_coder_7d493 (fn_ws yJ0_coder_7d493 cJ0_coder_7d493 1 (some .byte)) ({ frames := 4, cells := 0, slots := 0, locals := 100 } : Room) [.ref (adK s0)] [] (fun r u => ∃ k : Int, r = iI k ∧ (0 ≤ k ∧ k ≤ 0) ∧ True) (fun u => []) 0 0 := by
  refine g_inIO (cc := cJ0_coder_7d493) (maxL := 1) (ret := (some .byte)) (by decide) rfl (Nat.le_of_ble_eq_true rfl) ?_
  intro p e s m below meth c A ls ag Q B hO hA hP hD hS hl hQ
  obtain ⟨hx, hb, hr, hml, hts, hown, hlocks, hin, hK⟩ := B
  have hown : s.vm.findClass RJ0 = some m.cls := hown
  have hts := fun w h => hts w (List.mem_cons_of_mem _ h)
  have hl : lv_has ls 1 [(0, .ref (adK s0))] := hl
  refine va_gets (own := RJ0) hx hb hO.2.1 hS hown (hts _ wd_522) (fun _ h9 => h9) dJ0_coder_7d493_0 ?_
  refine fn_top (iI 1) (by decide) ?_
  refine g_if_eq (tgt := 13) hx hb (by omega) dJ0_coder_7d493_3 (by decide) (fun c3 => ?_) (fun c3 => ?_)
  · exfalso; omega
  · refine lv_aload_n hx hb dJ0_coder_7d493_6 rfl (lv_at hl 0 rfl) ?_
    refine vk_getf (own := RJ0) hx hb (hO.1.1 s0 hs0).2.1 hS hown (hts _ wd_1955) (fun _ h9 => h9) dJ0_coder_7d493_7 ?_
    refine fn_top (iI 0) (by decide) ?_
    refine lv_goto (tgt := 14) hx hb dJ0_coder_7d493_10 (by decide) ?_
    rw [hQ]; exact fn_iret hx hb hr hlocks (by decide) hP hD hS ((fun _ => 0), (fun _ _ => 0)) ⟨0, rfl, by omega, trivial⟩ [] (by decide) rfl dJ0_coder_7d493_14
theorem wd_521 : Cond.code ⟨"java/lang/String", "coder", "()B"⟩ prog_17_method_152_code 1 (Option.some Jvm.ClassFile.FieldType.byte) ∈ fn_big := fn_tb (fn_l3 (List.mem_of_getElem? (i := 41) (by decide +kernel))) (by decide +kernel)
theorem wd_518 : Cond.methodLink "java/lang/String" 335 ⟨"java/lang/String", "coder", "()B"⟩ ∈ fn_big := fn_tb (fn_l3 (List.mem_of_getElem? (i := 38) (by decide +kernel))) (by decide +kernel)
theorem wd_519 : Cond.instanceMethod ⟨"java/lang/String", "coder", "()B"⟩ ∈ fn_big := fn_tb (fn_l3 (List.mem_of_getElem? (i := 39) (by decide +kernel))) (by decide +kernel)
theorem wd_520 : Cond.selects "java/lang/String" ⟨"java/lang/String", "coder", "()B"⟩ ⟨"java/lang/String", "coder", "()B"⟩ ∈ fn_big := fn_tb (fn_l3 (List.mem_of_getElem? (i := 40) (by decide +kernel))) (by decide +kernel)
theorem dJ0_length_8abf5_0 : decode cJ0_length_8abf5 0 = .ok (.aload_n 0, 1) := by decide +kernel
theorem dJ0_length_8abf5_1 : decode cJ0_length_8abf5 1 = .ok (.getfield 9, 3) := by decide +kernel
theorem dJ0_length_8abf5_4 : decode cJ0_length_8abf5 4 = .ok (.arraylength, 1) := by decide +kernel
theorem dJ0_length_8abf5_5 : decode cJ0_length_8abf5 5 = .ok (.aload_n 0, 1) := by decide +kernel
theorem dJ0_length_8abf5_6 : decode cJ0_length_8abf5 6 = .ok (.invokevirtual 335, 3) := by decide +kernel
theorem dJ0_length_8abf5_9 : decode cJ0_length_8abf5 9 = .ok (.ishr, 1) := by decide +kernel
theorem dJ0_length_8abf5_10 : decode cJ0_length_8abf5 10 = .ok (.ireturn, 1) := by decide +kernel
set_option maxHeartbeats 4000000 in
set_option maxRecDepth 100000 in
theorem k_J0_length_8abf5 (l : Launch) (D : va_G) (K : Nat → ClassId) (adK adV : Nat → Nat) (s0 : Nat) (hs0 : s0 < 11) : fn_CIO adK adV (S := (Nat → Int) × (Nat → Nat → Int)) l D K yJ0_length_8abf5 (fn_ws yJ0_length_8abf5 cJ0_length_8abf5 1 (some .int)) ({ frames := 8, cells := 0, slots := 0, locals := 200 } : Room) [.ref (adK s0)] [] (fun r u => ∃ k : Int, r = iI k ∧ (0 ≤ k ∧ k ≤ 6) ∧ ((k = ((fn_len.getD s0 0 : Nat) : Int))) ∧ True) (fun u => []) 0 0 := by
  refine g_inIO (cc := cJ0_length_8abf5) (maxL := 1) (ret := (some .int)) (by decide) rfl (Nat.le_of_ble_eq_true rfl) ?_
  intro p e s m below meth c A ls ag Q B hO hA hP hD hS hl hQ
  obtain ⟨hx, hb, hr, hml, hts, hown, hlocks, hin, hK⟩ := B
  have hown : s.vm.findClass RJ0 = some m.cls := hown
  have hts := fun w h => hts w (List.mem_cons_of_mem _ h)
  have hl : lv_has ls 1 [(0, .ref (adK s0))] := hl
  refine lv_aload_n hx hb dJ0_length_8abf5_0 rfl (lv_at hl 0 rfl) ?_
  refine vk_getf (own := RJ0) hx hb (hO.1.1 s0 hs0).2.2.1 hS hown (hts _ wd_1954) (fun _ h9 => h9) dJ0_length_8abf5_1 ?_
  have y4 := fn_len_lt s0
  refine va_tlen (v := iI ((fn_len.getD s0 0 : Nat) : Int)) hx hb (hO.1.1 s0 hs0).2.2.2 hS (iI_nat (by omega)) dJ0_length_8abf5_4 ?_
  refine lv_aload_n hx hb dJ0_length_8abf5_5 rfl (lv_at hl 0 rfl) ?_
  refine fn_goiO (wc := []) (wr := []) hO hK hP hD hS hA [] [] rfl rfl (by decide) (fun hp => va_runV (C := RJ0) (As := []) (rest := [.int (iI ((fn_len.getD s0 0 : Nat) : Int))]) ⟨hx, hb, hml, hown, hts⟩ (k_J0_coder_7d493 (l := l) (D := D) (K := K) (adK := adK) (adV := adV) (s0 := s0) (hs0 := hs0) _) (cwV 0 hts (fn_ginV (fn_gin wd_521) wd_518 wd_519 wd_520 wd_14) rfl rfl rfl (by decide +kernel) ⟨Nat.le_of_ble_eq_true rfl, Nat.le_of_ble_eq_true rfl⟩) ⟨fn_blindO, vk_recv hO.1 hs0 hS, hp⟩ rfl rfl hl.1 rfl (lv_room (Nat.le_of_ble_eq_true rfl)) dJ0_length_8abf5_6 ⟨Nat.le_of_ble_eq_true rfl, Nat.le_of_ble_eq_true rfl⟩) (fun r6 u6 H locs hwu6 hP hD hS => ?_)
  obtain ⟨u6a, u6b⟩ := u6
  obtain ⟨kr6, rfl, hkr6, -⟩ := hwu6
  have hP : va_P D vwCl [] H := hP
  have hD : va_D A [] := hD
  obtain rfl : kr6 = 0 := by omega
  refine lv_ishr hx hb dJ0_length_8abf5_9 ?_
  refine fn_top (iI ((fn_len.getD s0 0 : Nat) : Int)) (iI_shr0 _) ?_
  rw [hQ]; exact fn_iret hx hb hr hlocks rfl hP hD hS ((fun _ => 0), (fun _ _ => 0)) ⟨((fn_len.getD s0 0 : Nat) : Int), rfl, by omega, (by show (((fn_len.getD s0 0 : Nat) : Int) = ((fn_len.getD s0 0 : Nat) : Int)); omega), trivial⟩ [] (by decide) rfl dJ0_length_8abf5_10
