theorem dX10_wayLength_80 : decode cX10_wayLength 80 = .ok (.iinc 3 1, 3) := by decide +kernel
theorem dX10_wayLength_83 : decode cX10_wayLength 83 = .ok (.goto (-60), 3) := by decide +kernel
theorem dX10_wayLength_73 : decode cX10_wayLength 73 = .ok (.aload_n 0, 1) := by decide +kernel
theorem dX10_wayLength_74 : decode cX10_wayLength 74 = .ok (.getfield 21, 3) := by decide +kernel
theorem dX10_wayLength_77 : decode cX10_wayLength 77 = .ok (.iload_n 3, 1) := by decide +kernel
theorem dX10_wayLength_78 : decode cX10_wayLength 78 = .ok (.iaload, 1) := by decide +kernel
theorem dX10_wayLength_79 : decode cX10_wayLength 79 = .ok (.istore_n 2, 1) := by decide +kernel
theorem dX10_wayLength_52 : decode cX10_wayLength 52 = .ok (.istore 4, 2) := by decide +kernel
theorem dX10_wayLength_54 : decode cX10_wayLength 54 = .ok (.iload 4, 2) := by decide +kernel
theorem dX10_wayLength_56 : decode cX10_wayLength 56 = .ok (.ifCond .eq 24, 3) := by decide +kernel
theorem dX10_wayLength_59 : decode cX10_wayLength 59 = .ok (.iload_n 2, 1) := by decide +kernel
theorem dX10_wayLength_60 : decode cX10_wayLength 60 = .ok (.ifCond .lt 13, 3) := by decide +kernel
theorem dX10_wayLength_63 : decode cX10_wayLength 63 = .ok (.aload_n 0, 1) := by decide +kernel
theorem dX10_wayLength_64 : decode cX10_wayLength 64 = .ok (.getfield 21, 3) := by decide +kernel
theorem dX10_wayLength_67 : decode cX10_wayLength 67 = .ok (.iload_n 3, 1) := by decide +kernel
theorem dX10_wayLength_68 : decode cX10_wayLength 68 = .ok (.iaload, 1) := by decide +kernel
theorem dX10_wayLength_69 : decode cX10_wayLength 69 = .ok (.iload_n 2, 1) := by decide +kernel
theorem dX10_wayLength_70 : decode cX10_wayLength 70 = .ok (.if_icmp .ge 10, 3) := by decide +kernel
theorem dX10_wayLength_23 : decode cX10_wayLength 23 = .ok (.iload_n 3, 1) := by decide +kernel
theorem dX10_wayLength_24 : decode cX10_wayLength 24 = .ok (.aload_n 0, 1) := by decide +kernel
theorem dX10_wayLength_25 : decode cX10_wayLength 25 = .ok (.getfield 30, 3) := by decide +kernel
theorem dX10_wayLength_28 : decode cX10_wayLength 28 = .ok (.if_icmp .ge 58, 3) := by decide +kernel
theorem dX10_wayLength_86 : decode cX10_wayLength 86 = .ok (.iload_n 2, 1) := by decide +kernel
theorem dX10_wayLength_87 : decode cX10_wayLength 87 = .ok (.ireturn, 1) := by decide +kernel
theorem dX10_wayLength_31 : decode cX10_wayLength 31 = .ok (.aload_n 0, 1) := by decide +kernel
theorem dX10_wayLength_32 : decode cX10_wayLength 32 = .ok (.getfield 59, 3) := by decide +kernel
theorem dX10_wayLength_35 : decode cX10_wayLength 35 = .ok (.aload_n 0, 1) := by decide +kernel
theorem dX10_wayLength_36 : decode cX10_wayLength 36 = .ok (.getfield 71, 3) := by decide +kernel
theorem dX10_wayLength_39 : decode cX10_wayLength 39 = .ok (.iand, 1) := by decide +kernel
theorem dX10_wayLength_40 : decode cX10_wayLength 40 = .ok (.iconst 1, 1) := by decide +kernel
theorem dX10_wayLength_41 : decode cX10_wayLength 41 = .ok (.iload_n 3, 1) := by decide +kernel
theorem dX10_wayLength_42 : decode cX10_wayLength 42 = .ok (.ishl, 1) := by decide +kernel
theorem dX10_wayLength_43 : decode cX10_wayLength 43 = .ok (.iand, 1) := by decide +kernel
theorem dX10_wayLength_44 : decode cX10_wayLength 44 = .ok (.ifCond .eq 7, 3) := by decide +kernel
theorem dX10_wayLength_51 : decode cX10_wayLength 51 = .ok (.iconst 0, 1) := by decide +kernel
theorem dX10_wayLength_47 : decode cX10_wayLength 47 = .ok (.iconst 1, 1) := by decide +kernel
theorem dX10_wayLength_48 : decode cX10_wayLength 48 = .ok (.goto 4, 3) := by decide +kernel
theorem dX10_wayLength_0 : decode cX10_wayLength 0 = .ok (.aload_n 0, 1) := by decide +kernel
theorem dX10_wayLength_1 : decode cX10_wayLength 1 = .ok (.getfield 59, 3) := by decide +kernel
theorem dX10_wayLength_4 : decode cX10_wayLength 4 = .ok (.iload_n 1, 1) := by decide +kernel
theorem dX10_wayLength_5 : decode cX10_wayLength 5 = .ok (.ishr, 1) := by decide +kernel
theorem dX10_wayLength_6 : decode cX10_wayLength 6 = .ok (.iconst 1, 1) := by decide +kernel
theorem dX10_wayLength_7 : decode cX10_wayLength 7 = .ok (.iand, 1) := by decide +kernel
theorem dX10_wayLength_8 : decode cX10_wayLength 8 = .ok (.iconst 1, 1) := by decide +kernel
theorem dX10_wayLength_9 : decode cX10_wayLength 9 = .ok (.if_icmp .ne 5, 3) := by decide +kernel
theorem dX10_wayLength_14 : decode cX10_wayLength 14 = .ok (.aload_n 0, 1) := by decide +kernel
theorem dX10_wayLength_15 : decode cX10_wayLength 15 = .ok (.iload_n 1, 1) := by decide +kernel
theorem dX10_wayLength_16 : decode cX10_wayLength 16 = .ok (.invokevirtual 74, 3) := by decide +kernel
theorem dX10_wayLength_19 : decode cX10_wayLength 19 = .ok (.iconst (-1), 1) := by decide +kernel
theorem dX10_wayLength_20 : decode cX10_wayLength 20 = .ok (.istore_n 2, 1) := by decide +kernel
theorem dX10_wayLength_21 : decode cX10_wayLength 21 = .ok (.iconst 0, 1) := by decide +kernel
theorem dX10_wayLength_22 : decode cX10_wayLength 22 = .ok (.istore_n 3, 1) := by decide +kernel
theorem dX10_wayLength_12 : decode cX10_wayLength 12 = .ok (.iconst 0, 1) := by decide +kernel
theorem dX10_wayLength_13 : decode cX10_wayLength 13 = .ok (.ireturn, 1) := by decide +kernel
set_option maxHeartbeats 4000000 in
set_option maxRecDepth 100000 in
theorem k_X10_wayLength (l : Launch) (D : va_G) (K : Nat → ClassId) (t : Nat) (t_q : Nat → Nat) (p1 t_x0 t_x1 t_x6 : Int) (t_5_c : Nat → Int) (t_4_c : Nat → Int) (hp1 : 0 ≤ p1 ∧ p1 ≤ 11) (hi_t : bX10 t_x0 t_x1 t_x6) (hc_t_5 : ∀ j : Nat, (-1) ≤ t_5_c j ∧ t_5_c j ≤ 12) (hc_t_4 : ∀ j : Nat, 0 ≤ t_4_c j ∧ t_4_c j ≤ 4095) : fn_CI (S := (Nat → Int) × (Nat → Nat → Int)) l D K yX10_wayLength (fn_ws yX10_wayLength cX10_wayLength 5 (some .int)) ({ frames := 12, cells := 0, slots := 0, locals := 300 } : Room) [.ref t, .int (iI p1)] [(t, .inr (10, oX10 t_q t_x0 t_x1 t_x6)), ((t_q 5), .inl (K 0, 12, .inl (fun j => iI (t_5_c j)))), ((t_q 4), .inl (K 0, 12, .inl (fun j => iI (t_4_c j))))] (fun r u => ∃ k : Int, r = iI k ∧ ((-1) ≤ k ∧ k ≤ 12) ∧ (0 ≤ (u.1 0) ∧ (u.1 0) ≤ 4095) ∧ (∀ j : Nat, (-1) ≤ (u.2 0) j ∧ (u.2 0) j ≤ 12) ∧ True) (fun u => [(t, .inr (10, oX10 t_q t_x0 t_x1 (u.1 0))), ((t_q 5), .inl (K 0, 12, .inl (fun j => iI ((u.2 0) j)))), ((t_q 4), .inl (K 0, 12, .inl (fun j => iI (t_4_c j))))]) 0 0 := by
  refine g_inI (cc := cX10_wayLength) (maxL := 5) (ret := (some .int)) (by decide) rfl (Nat.le_of_ble_eq_true rfl) ?_
  intro p e s m below meth c A ls ag Q B hA hP hD hS hl hQ
  obtain ⟨hx, hb, hr, hml, hts, hown, hlocks, hin, hK⟩ := B
  have hown : s.vm.findClass RX10 = some m.cls := hown
  have hts := fun w h => hts w (List.mem_cons_of_mem _ h)
  have J23 : ∀ (n : Nat) (x23_2 : Int) (x23_3 : Int) (f23_t_6 : Int) (c23_t_5 : Nat → Int) (H : Heap) (locs : List Loc) (ls : Array Slot), (12 - x23_3).toNat < n → ((-1) ≤ x23_2 ∧ x23_2 ≤ 12 ∧ 0 ≤ x23_3 ∧ x23_3 ≤ 12 ∧ 0 ≤ f23_t_6 ∧ f23_t_6 ≤ 4095) → (∀ j : Nat, (-1) ≤ c23_t_5 j ∧ c23_t_5 j ≤ 12) → va_P D vwCl [(t, .inr (10, oX10 t_q t_x0 t_x1 f23_t_6)), ((t_q 5), .inl (K 0, 12, .inl (fun j => iI (c23_t_5 j)))), ((t_q 4), .inl (K 0, 12, .inl (fun j => iI (t_4_c j))))] H → va_D A [(t, .inr (10, oX10 t_q t_x0 t_x1 f23_t_6)), ((t_q 5), .inl (K 0, 12, .inl (fun j => iI (c23_t_5 j)))), ((t_q 4), .inl (K 0, 12, .inl (fun j => iI (t_4_c j))))] → va_S A s.heap H locs → lv_has ls 5 [(0, .ref t), (1, .int (iI p1)), (2, .int (iI x23_2)), (3, .int (iI x23_3))] → W p l e ({ frames := 12, cells := 0, slots := 0, locals := 300 } : Room) s m ag below meth c H locs 0 0 Q (F0 m 23 ls []) := by
    intro n
    induction n with
    | zero =>
      intro x23_2 x23_3 f23_t_6 c23_t_5 H locs ls hm23 hf23 hc23_t_5 hP hD hS hl
      exact absurd hm23 (Nat.not_lt_zero _)
    | succ n ih23 =>
      intro x23_2 x23_3 f23_t_6 c23_t_5 H locs ls hm23 hf23 hc23_t_5 hP hD hS hl
      have J80 : ∀ (x80_2 : Int) (x80_4 : Int) (H : Heap) (locs : List Loc) (ls : Array Slot), ((-1) ≤ x80_2 ∧ x80_2 ≤ 12 ∧ 0 ≤ x23_3 ∧ x23_3 ≤ 11 ∧ 0 ≤ x80_4 ∧ x80_4 ≤ 1 ∧ 1 ≤ t_x0 ∧ t_x0 ≤ 12) → va_P D vwCl [(t, .inr (10, oX10 t_q t_x0 t_x1 f23_t_6)), ((t_q 5), .inl (K 0, 12, .inl (fun j => iI (c23_t_5 j)))), ((t_q 4), .inl (K 0, 12, .inl (fun j => iI (t_4_c j))))] H → va_D A [(t, .inr (10, oX10 t_q t_x0 t_x1 f23_t_6)), ((t_q 5), .inl (K 0, 12, .inl (fun j => iI (c23_t_5 j)))), ((t_q 4), .inl (K 0, 12, .inl (fun j => iI (t_4_c j))))] → va_S A s.heap H locs → lv_has ls 5 [(0, .ref t), (1, .int (iI p1)), (2, .int (iI x80_2)), (3, .int (iI x23_3)), (4, .int (iI x80_4))] → W p l e ({ frames := 12, cells := 0, slots := 0, locals := 300 } : Room) s m ag below meth c H locs 0 0 Q (F0 m 80 ls []) := by
        intro x80_2 x80_4 H locs ls hf80 hP hD hS hl
        refine lv_iinc (v := iI (x23_3 + 1)) (lv' := [(3, .int (iI (x23_3 + 1))), (0, .ref t), (1, .int (iI p1)), (2, .int (iI x80_2)), (4, .int (iI x80_4))]) hx hb dX10_wayLength_80 hl (k := 3) rfl (iI_add _ _) (by decide) rfl (fun ls hl => ?_)
        refine lv_goto (tgt := 23) hx hb dX10_wayLength_83 (by decide) ?_
        exact ih23 x80_2 (x23_3 + 1) f23_t_6 c23_t_5 _ _ ls (by omega) (by omega) hc23_t_5 (hP.sub [0, 1, 2] rfl) (hD.sub [0, 1, 2] (by decide) rfl) hS (lv_sub hl [1, 2, 3, 0] rfl)
      have J73 : ∀ (x73_4 : Int) (H : Heap) (locs : List Loc) (ls : Array Slot), (0 ≤ x23_3 ∧ x23_3 ≤ 11 ∧ 1 ≤ x73_4 ∧ x73_4 ≤ 1 ∧ 1 ≤ t_x0 ∧ t_x0 ≤ 12) → va_P D vwCl [(t, .inr (10, oX10 t_q t_x0 t_x1 f23_t_6)), ((t_q 5), .inl (K 0, 12, .inl (fun j => iI (c23_t_5 j)))), ((t_q 4), .inl (K 0, 12, .inl (fun j => iI (t_4_c j))))] H → va_D A [(t, .inr (10, oX10 t_q t_x0 t_x1 f23_t_6)), ((t_q 5), .inl (K 0, 12, .inl (fun j => iI (c23_t_5 j)))), ((t_q 4), .inl (K 0, 12, .inl (fun j => iI (t_4_c j))))] → va_S A s.heap H locs → lv_has ls 5 [(0, .ref t), (1, .int (iI p1)), (2, .int (iI x23_2)), (3, .int (iI x23_3)), (4, .int (iI x73_4))] → W p l e ({ frames := 12, cells := 0, slots := 0, locals := 300 } : Room) s m ag below meth c H locs 0 0 Q (F0 m 73 ls []) := by
        intro x73_4 H locs ls hf73 hP hD hS hl
        refine lv_aload_n hx hb dX10_wayLength_73 rfl (lv_at hl 0 rfl) ?_
        refine va_get (D := D) (own := RX10) (ci := 10) (v := .ref (t_q 5)) (C := RX10) (T := TX10) (N := 7) hx hb hts inb_X10 hown hK.1 hP 0 rfl rfl 5 (by decide) (hts _ wd_238) (fun _ h9 => h9) rfl dX10_wayLength_74 ?_
        refine lv_iload_n hx hb dX10_wayLength_77 rfl (lv_at hl 3 rfl) ?_
        refine g_iald hx hb hK.1 hP 1 0 rfl rfl (by omega) (by omega) (by decide) dX10_wayLength_78 ?_
        have y78 : (-1) ≤ (c23_t_5 x23_3.toNat) ∧ (c23_t_5 x23_3.toNat) ≤ 12 := hc23_t_5 x23_3.toNat
        refine lv_istore_n (lv' := [(2, .int (iI (c23_t_5 x23_3.toNat))), (0, .ref t), (1, .int (iI p1)), (3, .int (iI x23_3)), (4, .int (iI x73_4))]) hx hb dX10_wayLength_79 rfl hl (by decide) rfl (fun ls hl => ?_)
        exact J80 (c23_t_5 x23_3.toNat) x73_4 _ _ ls (by omega) (hP.sub [0, 1, 2] rfl) (hD.sub [0, 1, 2] (by decide) rfl) hS (lv_sub hl [1, 2, 0, 3, 4] rfl)
      have J52 : ∀ (z52_0 : Int) (H : Heap) (locs : List Loc) (ls : Array Slot), (0 ≤ x23_3 ∧ x23_3 ≤ 11 ∧ 0 ≤ z52_0 ∧ z52_0 ≤ 1 ∧ 1 ≤ t_x0 ∧ t_x0 ≤ 12) → va_P D vwCl [(t, .inr (10, oX10 t_q t_x0 t_x1 f23_t_6)), ((t_q 5), .inl (K 0, 12, .inl (fun j => iI (c23_t_5 j)))), ((t_q 4), .inl (K 0, 12, .inl (fun j => iI (t_4_c j))))] H → va_D A [(t, .inr (10, oX10 t_q t_x0 t_x1 f23_t_6)), ((t_q 5), .inl (K 0, 12, .inl (fun j => iI (c23_t_5 j)))), ((t_q 4), .inl (K 0, 12, .inl (fun j => iI (t_4_c j))))] → va_S A s.heap H locs → lv_has ls 5 [(0, .ref t), (1, .int (iI p1)), (2, .int (iI x23_2)), (3, .int (iI x23_3))] → W p l e ({ frames := 12, cells := 0, slots := 0, locals := 300 } : Room) s m ag below meth c H locs 0 0 Q (F0 m 52 ls [.int (iI z52_0)]) := by
        intro z52_0 H locs ls hf52 hP hD hS hl
        refine lv_istore (lv' := [(4, .int (iI z52_0)), (0, .ref t), (1, .int (iI p1)), (2, .int (iI x23_2)), (3, .int (iI x23_3))]) hx hb dX10_wayLength_52 hl (by decide) rfl (fun ls hl => ?_)
        refine lv_iload hx hb dX10_wayLength_54 (lv_at hl 0 rfl) ?_
        refine g_if_eq (tgt := 80) hx hb (by omega) dX10_wayLength_56 (by decide) (fun c56 => ?_) (fun c56 => ?_)
        · exact J80 x23_2 z52_0 _ _ ls (by omega) (hP.sub [0, 1, 2] rfl) (hD.sub [0, 1, 2] (by decide) rfl) hS (lv_sub hl [1, 2, 3, 4, 0] rfl)
        · refine lv_iload_n hx hb dX10_wayLength_59 rfl (lv_at hl 3 rfl) ?_
          refine g_if_lt (tgt := 73) hx hb (by omega) dX10_wayLength_60 (by decide) (fun c60 => ?_) (fun c60 => ?_)
          · exact J73 z52_0 _ _ ls (by omega) (hP.sub [0, 1, 2] rfl) (hD.sub [0, 1, 2] (by decide) rfl) hS (lv_sub hl [1, 2, 3, 4, 0] rfl)
          · refine lv_aload_n hx hb dX10_wayLength_63 rfl (lv_at hl 1 rfl) ?_
            refine va_get (D := D) (own := RX10) (ci := 10) (v := .ref (t_q 5)) (C := RX10) (T := TX10) (N := 7) hx hb hts inb_X10 hown hK.1 hP 0 rfl rfl 5 (by decide) (hts _ wd_238) (fun _ h9 => h9) rfl dX10_wayLength_64 ?_
            refine lv_iload_n hx hb dX10_wayLength_67 rfl (lv_at hl 4 rfl) ?_
            refine g_iald hx hb hK.1 hP 1 0 rfl rfl (by omega) (by omega) (by decide) dX10_wayLength_68 ?_
            have y68 : (-1) ≤ (c23_t_5 x23_3.toNat) ∧ (c23_t_5 x23_3.toNat) ≤ 12 := hc23_t_5 x23_3.toNat
            refine lv_iload_n hx hb dX10_wayLength_69 rfl (lv_at hl 3 rfl) ?_
            refine g_icmp_ge (tgt := 80) hx hb (by omega) (by omega) dX10_wayLength_70 (by decide) (fun c70 => ?_) (fun c70 => ?_)
            · exact J80 x23_2 z52_0 _ _ ls (by omega) (hP.sub [0, 1, 2] rfl) (hD.sub [0, 1, 2] (by decide) rfl) hS (lv_sub hl [1, 2, 3, 4, 0] rfl)
            · exact J73 z52_0 _ _ ls (by omega) (hP.sub [0, 1, 2] rfl) (hD.sub [0, 1, 2] (by decide) rfl) hS (lv_sub hl [1, 2, 3, 4, 0] rfl)
      refine lv_iload_n hx hb dX10_wayLength_23 rfl (lv_at hl 3 rfl) ?_
      refine lv_aload_n hx hb dX10_wayLength_24 rfl (lv_at hl 0 rfl) ?_
      refine va_get (D := D) (own := RX10) (ci := 10) (v := .int (iI t_x0)) (C := RX10) (T := TX10) (N := 7) hx hb hts inb_X10 hown hK.1 hP 0 rfl rfl 0 (by decide) (hts _ wd_225) (fun _ h9 => h9) rfl dX10_wayLength_25 ?_
      have y25_1 : 0 ≤ t_x0 ∧ t_x0 ≤ 12 := hi_t.1
      refine g_icmp_ge (tgt := 86) hx hb (by omega) (by omega) dX10_wayLength_28 (by decide) (fun c28 => ?_) (fun c28 => ?_)
      · refine lv_iload_n hx hb dX10_wayLength_86 rfl (lv_at hl 2 rfl) ?_
        rw [hQ]; exact fn_iret hx hb hr hlocks rfl hP hD hS ((fun k => ([f23_t_6] : List Int).getD k 0), (fun k => ([c23_t_5] : List (Nat → Int)).getD k (fun _ => 0))) ⟨x23_2, rfl, by omega, (by show 0 ≤ f23_t_6 ∧ f23_t_6 ≤ 4095; omega), (hc23_t_5), trivial⟩ [0, 1, 2] (by decide) rfl dX10_wayLength_87
      · refine lv_aload_n hx hb dX10_wayLength_31 rfl (lv_at hl 0 rfl) ?_
        refine va_get (D := D) (own := RX10) (ci := 10) (v := .int (iI t_x1)) (C := RX10) (T := TX10) (N := 7) hx hb hts inb_X10 hown hK.1 hP 0 rfl rfl 1 (by decide) (hts _ wd_227) (fun _ h9 => h9) rfl dX10_wayLength_32 ?_
        have y32_2 : 0 ≤ t_x1 ∧ t_x1 ≤ 4095 := hi_t.2.1
        refine lv_aload_n hx hb dX10_wayLength_35 rfl (lv_at hl 0 rfl) ?_
        refine va_get (D := D) (own := RX10) (ci := 10) (v := .int (iI f23_t_6)) (C := RX10) (T := TX10) (N := 7) hx hb hts inb_X10 hown hK.1 hP 0 rfl rfl 6 (by decide) (hts _ wd_240) (fun _ h9 => h9) rfl dX10_wayLength_36 ?_
        refine lv_iand hx hb dX10_wayLength_39 ?_
        obtain ⟨w39, ew39, hw39⟩ := iI_and t_x1 f23_t_6 (by omega)
        refine fn_top (iI w39) ew39 ?_
        refine lv_iconst (v := iI 1) hx hb dX10_wayLength_40 rfl ?_
        refine lv_iload_n hx hb dX10_wayLength_41 rfl (lv_at hl 3 rfl) ?_
        refine lv_ishl hx hb dX10_wayLength_42 ?_
        obtain ⟨w42, ew42, hw42⟩ := iI_shl1 11 x23_3 (by omega) (by omega) (by decide)
        refine fn_top (iI w42) ew42 ?_
        refine lv_iand hx hb dX10_wayLength_43 ?_
        obtain ⟨w43, ew43, hw43⟩ := iI_and w39 w42 (by omega)
        refine fn_top (iI w43) ew43 ?_
        refine g_if_eq (tgt := 51) hx hb (by omega) dX10_wayLength_44 (by decide) (fun c44 => ?_) (fun c44 => ?_)
        · refine lv_iconst (v := iI 0) hx hb dX10_wayLength_51 rfl ?_
          exact J52 0 _ _ ls (by omega) (hP.sub [0, 1, 2] rfl) (hD.sub [0, 1, 2] (by decide) rfl) hS (lv_sub hl [0, 1, 2, 3] rfl)
        · refine lv_iconst (v := iI 1) hx hb dX10_wayLength_47 rfl ?_
          refine lv_goto (tgt := 52) hx hb dX10_wayLength_48 (by decide) ?_
          exact J52 1 _ _ ls (by omega) (hP.sub [0, 1, 2] rfl) (hD.sub [0, 1, 2] (by decide) rfl) hS (lv_sub hl [0, 1, 2, 3] rfl)
  have hl : lv_has ls 5 [(0, .ref t), (1, .int (iI p1))] := hl
  refine lv_aload_n hx hb dX10_wayLength_0 rfl (lv_at hl 0 rfl) ?_
  refine va_get (D := D) (own := RX10) (ci := 10) (v := .int (iI t_x1)) (C := RX10) (T := TX10) (N := 7) hx hb hts inb_X10 hown hK.1 hP 0 rfl rfl 1 (by decide) (hts _ wd_227) (fun _ h9 => h9) rfl dX10_wayLength_1 ?_
  have y1_1 : 0 ≤ t_x1 ∧ t_x1 ≤ 4095 := hi_t.2.1
  refine lv_iload_n hx hb dX10_wayLength_4 rfl (lv_at hl 1 rfl) ?_
  refine lv_ishr hx hb dX10_wayLength_5 ?_
  obtain ⟨w5, ew5, hw5⟩ := iI_shr t_x1 p1 (by omega) (by omega)
  refine fn_top (iI w5) ew5 ?_
  refine lv_iconst (v := iI 1) hx hb dX10_wayLength_6 rfl ?_
  refine lv_iand hx hb dX10_wayLength_7 ?_
  obtain ⟨w7, ew7, hw7⟩ := iI_and1 w5 (by omega)
  refine fn_top (iI w7) ew7 ?_
  refine lv_iconst (v := iI 1) hx hb dX10_wayLength_8 rfl ?_
  refine g_icmp_ne (tgt := 14) hx hb (by omega) (by omega) dX10_wayLength_9 (by decide) (fun c9 => ?_) (fun c9 => ?_)
  · refine lv_aload_n hx hb dX10_wayLength_14 rfl (lv_at hl 0 rfl) ?_
    refine lv_iload_n hx hb dX10_wayLength_15 rfl (lv_at hl 1 rfl) ?_
    refine fn_gov (wc := [(t, .inr (10, oX10 t_q t_x0 t_x1 t_x6)), ((t_q 5), .inl (K 0, 12, .inl (fun j => iI (t_5_c j)))), ((t_q 4), .inl (K 0, 12, .inl (fun j => iI (t_4_c j))))]) (wr := []) hK hP hD hS hA [0, 1, 2] [] rfl rfl (by decide) (fun hp => va_runV (C := RX10) (As := [.int (iI p1)]) (rest := []) ⟨hx, hb, hml, hown, hts⟩ (k_X10_walkFrom (l := l) (D := D) (K := K) (t := t) (p1 := p1) (t_q := t_q) (t_x0 := t_x0) (t_x1 := t_x1) (t_x6 := t_x6) (t_5_c := t_5_c) (t_4_c := t_4_c) (hp1 := (by omega)) (hi_t := hi_t) (hc_t_5 := hc_t_5) (hc_t_4 := hc_t_4) _) (cwV 1 hts (fn_ginV (fn_gin wd_767) wd_764 wd_766 wp_38 wd_6) rfl rfl rfl (by decide +kernel) ⟨Nat.le_of_ble_eq_true rfl, Nat.le_of_ble_eq_true rfl⟩) ⟨fn_blind, va_recv hK.1 hP (ci := 10) (q0 := 0) rfl rfl, hp⟩ rfl rfl hl.1 rfl (lv_room (Nat.le_of_ble_eq_true rfl)) dX10_wayLength_16 ⟨Nat.le_of_ble_eq_true rfl, Nat.le_of_ble_eq_true rfl⟩) (fun u16 H locs hwu16 hP hD hS => ?_)
    obtain ⟨u16a, u16b⟩ := u16
    obtain ⟨hqu160, hu16_00, -⟩ := hwu16
    have hqu16 : 0 ≤ (u16a 0) ∧ (u16a 0) ≤ 4095 := hqu160
    have hu16_0 : ∀ j : Nat, (-1) ≤ (u16b 0) j ∧ (u16b 0) j ≤ 12 := hu16_00
    clear hqu160 hu16_00
    have hP : va_P D vwCl [(t, .inr (10, oX10 t_q t_x0 t_x1 (u16a 0))), ((t_q 5), .inl (K 0, 12, .inl (fun j => iI ((u16b 0) j)))), ((t_q 4), .inl (K 0, 12, .inl (fun j => iI (t_4_c j))))] H := hP
    have hD : va_D A [(t, .inr (10, oX10 t_q t_x0 t_x1 (u16a 0))), ((t_q 5), .inl (K 0, 12, .inl (fun j => iI ((u16b 0) j)))), ((t_q 4), .inl (K 0, 12, .inl (fun j => iI (t_4_c j))))] := hD
    refine lv_iconst (v := iI (-1)) hx hb dX10_wayLength_19 rfl ?_
    refine lv_istore_n (lv' := [(2, .int (iI (-1))), (0, .ref t), (1, .int (iI p1))]) hx hb dX10_wayLength_20 rfl hl (by decide) rfl (fun ls hl => ?_)
    refine lv_iconst (v := iI 0) hx hb dX10_wayLength_21 rfl ?_
    refine lv_istore_n (lv' := [(3, .int (iI 0)), (2, .int (iI (-1))), (0, .ref t), (1, .int (iI p1))]) hx hb dX10_wayLength_22 rfl hl (by decide) rfl (fun ls hl => ?_)
    exact J23 _ (-1) 0 (u16a 0) (u16b 0) _ _ ls (Nat.lt_succ_self _) (by omega) hu16_0 (hP.sub [0, 1, 2] rfl) (hD.sub [0, 1, 2] (by decide) rfl) hS (lv_sub hl [2, 3, 1, 0] rfl)
  · refine lv_iconst (v := iI 0) hx hb dX10_wayLength_12 rfl ?_
    have y13_2 : 0 ≤ t_x6 ∧ t_x6 ≤ 4095 := hi_t.2.2
    rw [hQ]; exact fn_iret hx hb hr hlocks rfl hP hD hS ((fun k => ([t_x6] : List Int).getD k 0), (fun k => ([t_5_c] : List (Nat → Int)).getD k (fun _ => 0))) ⟨0, rfl, by omega, (by show 0 ≤ t_x6 ∧ t_x6 ≤ 4095; omega), (hc_t_5), trivial⟩ [0, 1, 2] (by decide) rfl dX10_wayLength_13
theorem wd_793 : Cond.code ⟨"FootNotes$Web", "wayLength", "(I)I"⟩ prog_12_method_9_code 5 (Option.some Jvm.ClassFile.FieldType.int) ∈ fn_big := fn_tb (fn_l4 (List.mem_of_getElem? (i := 73) (by decide +kernel))) (by decide +kernel)
theorem wd_802 : Cond.methodLink "FootNotes$Web" 83 ⟨"FootNotes$Web", "wayLength", "(I)I"⟩ ∈ fn_big := fn_tb (fn_l4 (List.mem_of_getElem? (i := 82) (by decide +kernel))) (by decide +kernel)
theorem wd_792 : Cond.instanceMethod ⟨"FootNotes$Web", "wayLength", "(I)I"⟩ ∈ fn_big := fn_tb (fn_l4 (List.mem_of_getElem? (i := 72) (by decide +kernel))) (by decide +kernel)
theorem wp_39 : Cond.selects "FootNotes$Web" ⟨"FootNotes$Web", "wayLength", "(I)I"⟩ ⟨"FootNotes$Web", "wayLength", "(I)I"⟩ ∈ fn_big := fn_sel (q := (⟨"FootNotes$Web", "wayLength", "(I)I"⟩, 7)) 39 (by decide +kernel) (by decide +kernel)
theorem dX10_nextOnWay_35 : decode cX10_nextOnWay 35 = .ok (.iinc 3 1, 3) := by decide +kernel
theorem dX10_nextOnWay_38 : decode cX10_nextOnWay 38 = .ok (.goto (-36), 3) := by decide +kernel
theorem dX10_nextOnWay_2 : decode cX10_nextOnWay 2 = .ok (.iload_n 3, 1) := by decide +kernel
theorem dX10_nextOnWay_3 : decode cX10_nextOnWay 3 = .ok (.aload_n 0, 1) := by decide +kernel
theorem dX10_nextOnWay_4 : decode cX10_nextOnWay 4 = .ok (.getfield 30, 3) := by decide +kernel
theorem dX10_nextOnWay_7 : decode cX10_nextOnWay 7 = .ok (.if_icmp .ge 34, 3) := by decide +kernel
theorem dX10_nextOnWay_41 : decode cX10_nextOnWay 41 = .ok (.iconst (-1), 1) := by decide +kernel
theorem dX10_nextOnWay_42 : decode cX10_nextOnWay 42 = .ok (.ireturn, 1) := by decide +kernel
theorem dX10_nextOnWay_10 : decode cX10_nextOnWay 10 = .ok (.aload_n 0, 1) := by decide +kernel
theorem dX10_nextOnWay_11 : decode cX10_nextOnWay 11 = .ok (.getfield 18, 3) := by decide +kernel
theorem dX10_nextOnWay_14 : decode cX10_nextOnWay 14 = .ok (.iload_n 1, 1) := by decide +kernel
theorem dX10_nextOnWay_15 : decode cX10_nextOnWay 15 = .ok (.iaload, 1) := by decide +kernel
theorem dX10_nextOnWay_16 : decode cX10_nextOnWay 16 = .ok (.iload_n 3, 1) := by decide +kernel
theorem dX10_nextOnWay_17 : decode cX10_nextOnWay 17 = .ok (.ishr, 1) := by decide +kernel
theorem dX10_nextOnWay_18 : decode cX10_nextOnWay 18 = .ok (.iconst 1, 1) := by decide +kernel
theorem dX10_nextOnWay_19 : decode cX10_nextOnWay 19 = .ok (.iand, 1) := by decide +kernel
theorem dX10_nextOnWay_20 : decode cX10_nextOnWay 20 = .ok (.iconst 1, 1) := by decide +kernel
theorem dX10_nextOnWay_21 : decode cX10_nextOnWay 21 = .ok (.if_icmp .ne 14, 3) := by decide +kernel
theorem dX10_nextOnWay_24 : decode cX10_nextOnWay 24 = .ok (.aload_n 0, 1) := by decide +kernel
theorem dX10_nextOnWay_25 : decode cX10_nextOnWay 25 = .ok (.iload_n 3, 1) := by decide +kernel
theorem dX10_nextOnWay_26 : decode cX10_nextOnWay 26 = .ok (.invokevirtual 83, 3) := by decide +kernel
theorem dX10_nextOnWay_29 : decode cX10_nextOnWay 29 = .ok (.iload_n 2, 1) := by decide +kernel
theorem dX10_nextOnWay_30 : decode cX10_nextOnWay 30 = .ok (.if_icmp .ne 5, 3) := by decide +kernel
theorem dX10_nextOnWay_33 : decode cX10_nextOnWay 33 = .ok (.iload_n 3, 1) := by decide +kernel
theorem dX10_nextOnWay_34 : decode cX10_nextOnWay 34 = .ok (.ireturn, 1) := by decide +kernel
theorem dX10_nextOnWay_0 : decode cX10_nextOnWay 0 = .ok (.iconst 0, 1) := by decide +kernel
theorem dX10_nextOnWay_1 : decode cX10_nextOnWay 1 = .ok (.istore_n 3, 1) := by decide +kernel
set_option maxHeartbeats 4000000 in
set_option maxRecDepth 100000 in
theorem k_X10_nextOnWay (l : Launch) (D : va_G) (K : Nat → ClassId) (t : Nat) (t_q : Nat → Nat) (p1 p2 t_x0 t_x1 t_x6 : Int) (t_4_c : Nat → Int) (t_5_c : Nat → Int) (hp1 : 0 ≤ p1 ∧ p1 ≤ 11) (hp2 : (-2147483648) ≤ p2 ∧ p2 ≤ 2147483647) (hi_t : bX10 t_x0 t_x1 t_x6) (hc_t_4 : ∀ j : Nat, 0 ≤ t_4_c j ∧ t_4_c j ≤ 4095) (hc_t_5 : ∀ j : Nat, (-1) ≤ t_5_c j ∧ t_5_c j ≤ 12) : fn_CI (S := (Nat → Int) × (Nat → Nat → Int)) l D K yX10_nextOnWay (fn_ws yX10_nextOnWay cX10_nextOnWay 4 (some .int)) ({ frames := 16, cells := 0, slots := 0, locals := 400 } : Room) [.ref t, .int (iI p1), .int (iI p2)] [(t, .inr (10, oX10 t_q t_x0 t_x1 t_x6)), ((t_q 4), .inl (K 0, 12, .inl (fun j => iI (t_4_c j)))), ((t_q 5), .inl (K 0, 12, .inl (fun j => iI (t_5_c j))))] (fun r u => ∃ k : Int, r = iI k ∧ ((-1) ≤ k ∧ k ≤ 11) ∧ (0 ≤ (u.1 0) ∧ (u.1 0) ≤ 4095) ∧ (∀ j : Nat, (-1) ≤ (u.2 0) j ∧ (u.2 0) j ≤ 12) ∧ True) (fun u => [(t, .inr (10, oX10 t_q t_x0 t_x1 (u.1 0))), ((t_q 4), .inl (K 0, 12, .inl (fun j => iI (t_4_c j)))), ((t_q 5), .inl (K 0, 12, .inl (fun j => iI ((u.2 0) j))))]) 0 0 := by
  refine g_inI (cc := cX10_nextOnWay) (maxL := 4) (ret := (some .int)) (by decide) rfl (Nat.le_of_ble_eq_true rfl) ?_
  intro p e s m below meth c A ls ag Q B hA hP hD hS hl hQ
  obtain ⟨hx, hb, hr, hml, hts, hown, hlocks, hin, hK⟩ := B
  have hown : s.vm.findClass RX10 = some m.cls := hown
  have hts := fun w h => hts w (List.mem_cons_of_mem _ h)
  have J2 : ∀ (n : Nat) (x2_3 : Int) (f2_t_6 : Int) (c2_t_5 : Nat → Int) (H : Heap) (locs : List Loc) (ls : Array Slot), (12 - x2_3).toNat < n → (0 ≤ x2_3 ∧ x2_3 ≤ 12 ∧ 0 ≤ f2_t_6 ∧ f2_t_6 ≤ 4095) → (∀ j : Nat, (-1) ≤ c2_t_5 j ∧ c2_t_5 j ≤ 12) → va_P D vwCl [(t, .inr (10, oX10 t_q t_x0 t_x1 f2_t_6)), ((t_q 4), .inl (K 0, 12, .inl (fun j => iI (t_4_c j)))), ((t_q 5), .inl (K 0, 12, .inl (fun j => iI (c2_t_5 j))))] H → va_D A [(t, .inr (10, oX10 t_q t_x0 t_x1 f2_t_6)), ((t_q 4), .inl (K 0, 12, .inl (fun j => iI (t_4_c j)))), ((t_q 5), .inl (K 0, 12, .inl (fun j => iI (c2_t_5 j))))] → va_S A s.heap H locs → lv_has ls 4 [(0, .ref t), (1, .int (iI p1)), (2, .int (iI p2)), (3, .int (iI x2_3))] → W p l e ({ frames := 16, cells := 0, slots := 0, locals := 400 } : Room) s m ag below meth c H locs 0 0 Q (F0 m 2 ls []) := by
    intro n
    induction n with
    | zero =>
      intro x2_3 f2_t_6 c2_t_5 H locs ls hm2 hf2 hc2_t_5 hP hD hS hl
      exact absurd hm2 (Nat.not_lt_zero _)
    | succ n ih2 =>
      intro x2_3 f2_t_6 c2_t_5 H locs ls hm2 hf2 hc2_t_5 hP hD hS hl
      have J35 : ∀ (f35_t_6 : Int) (c35_t_5 : Nat → Int) (H : Heap) (locs : List Loc) (ls : Array Slot), (0 ≤ x2_3 ∧ x2_3 ≤ 11 ∧ 1 ≤ t_x0 ∧ t_x0 ≤ 12 ∧ 0 ≤ f35_t_6 ∧ f35_t_6 ≤ 4095) → (∀ j : Nat, (-1) ≤ c35_t_5 j ∧ c35_t_5 j ≤ 12) → va_P D vwCl [(t, .inr (10, oX10 t_q t_x0 t_x1 f35_t_6)), ((t_q 4), .inl (K 0, 12, .inl (fun j => iI (t_4_c j)))), ((t_q 5), .inl (K 0, 12, .inl (fun j => iI (c35_t_5 j))))] H → va_D A [(t, .inr (10, oX10 t_q t_x0 t_x1 f35_t_6)), ((t_q 4), .inl (K 0, 12, .inl (fun j => iI (t_4_c j)))), ((t_q 5), .inl (K 0, 12, .inl (fun j => iI (c35_t_5 j))))] → va_S A s.heap H locs → lv_has ls 4 [(0, .ref t), (1, .int (iI p1)), (2, .int (iI p2)), (3, .int (iI x2_3))] → W p l e ({ frames := 16, cells := 0, slots := 0, locals := 400 } : Room) s m ag below meth c H locs 0 0 Q (F0 m 35 ls []) := by
        intro f35_t_6 c35_t_5 H locs ls hf35 hc35_t_5 hP hD hS hl
        refine lv_iinc (v := iI (x2_3 + 1)) (lv' := [(3, .int (iI (x2_3 + 1))), (0, .ref t), (1, .int (iI p1)), (2, .int (iI p2))]) hx hb dX10_nextOnWay_35 hl (k := 3) rfl (iI_add _ _) (by decide) rfl (fun ls hl => ?_)
        refine lv_goto (tgt := 2) hx hb dX10_nextOnWay_38 (by decide) ?_
        exact ih2 (x2_3 + 1) f35_t_6 c35_t_5 _ _ ls (by omega) (by omega) hc35_t_5 (hP.sub [0, 1, 2] rfl) (hD.sub [0, 1, 2] (by decide) rfl) hS (lv_sub hl [1, 2, 3, 0] rfl)
      refine lv_iload_n hx hb dX10_nextOnWay_2 rfl (lv_at hl 3 rfl) ?_
      refine lv_aload_n hx hb dX10_nextOnWay_3 rfl (lv_at hl 0 rfl) ?_
      refine va_get (D := D) (own := RX10) (ci := 10) (v := .int (iI t_x0)) (C := RX10) (T := TX10) (N := 7) hx hb hts inb_X10 hown hK.1 hP 0 rfl rfl 0 (by decide) (hts _ wd_225) (fun _ h9 => h9) rfl dX10_nextOnWay_4 ?_
      have y4_1 : 0 ≤ t_x0 ∧ t_x0 ≤ 12 := hi_t.1
      refine g_icmp_ge (tgt := 41) hx hb (by omega) (by omega) dX10_nextOnWay_7 (by decide) (fun c7 => ?_) (fun c7 => ?_)
      · refine lv_iconst (v := iI (-1)) hx hb dX10_nextOnWay_41 rfl ?_
        rw [hQ]; exact fn_iret hx hb hr hlocks rfl hP hD hS ((fun k => ([f2_t_6] : List Int).getD k 0), (fun k => ([c2_t_5] : List (Nat → Int)).getD k (fun _ => 0))) ⟨(-1), rfl, by omega, (by show 0 ≤ f2_t_6 ∧ f2_t_6 ≤ 4095; omega), (hc2_t_5), trivial⟩ [0, 1, 2] (by decide) rfl dX10_nextOnWay_42
      · refine lv_aload_n hx hb dX10_nextOnWay_10 rfl (lv_at hl 0 rfl) ?_
        refine va_get (D := D) (own := RX10) (ci := 10) (v := .ref (t_q 4)) (C := RX10) (T := TX10) (N := 7) hx hb hts inb_X10 hown hK.1 hP 0 rfl rfl 4 (by decide) (hts _ wd_236) (fun _ h9 => h9) rfl dX10_nextOnWay_11 ?_
        refine lv_iload_n hx hb dX10_nextOnWay_14 rfl (lv_at hl 1 rfl) ?_
        refine g_iald hx hb hK.1 hP 1 0 rfl rfl (by omega) (by omega) (by decide) dX10_nextOnWay_15 ?_
        have y15 : 0 ≤ (t_4_c p1.toNat) ∧ (t_4_c p1.toNat) ≤ 4095 := hc_t_4 p1.toNat
        refine lv_iload_n hx hb dX10_nextOnWay_16 rfl (lv_at hl 3 rfl) ?_
        refine lv_ishr hx hb dX10_nextOnWay_17 ?_
        obtain ⟨w17, ew17, hw17⟩ := iI_shr (t_4_c p1.toNat) x2_3 (by omega) (by omega)
        refine fn_top (iI w17) ew17 ?_
        refine lv_iconst (v := iI 1) hx hb dX10_nextOnWay_18 rfl ?_
        refine lv_iand hx hb dX10_nextOnWay_19 ?_
        obtain ⟨w19, ew19, hw19⟩ := iI_and1 w17 (by omega)
        refine fn_top (iI w19) ew19 ?_
        refine lv_iconst (v := iI 1) hx hb dX10_nextOnWay_20 rfl ?_
        refine g_icmp_ne (tgt := 35) hx hb (by omega) (by omega) dX10_nextOnWay_21 (by decide) (fun c21 => ?_) (fun c21 => ?_)
        · exact J35 f2_t_6 c2_t_5 _ _ ls (by omega) hc2_t_5 (hP.sub [0, 1, 2] rfl) (hD.sub [0, 1, 2] (by decide) rfl) hS (lv_sub hl [0, 1, 2, 3] rfl)
        · refine lv_aload_n hx hb dX10_nextOnWay_24 rfl (lv_at hl 0 rfl) ?_
          refine lv_iload_n hx hb dX10_nextOnWay_25 rfl (lv_at hl 3 rfl) ?_
          refine fn_goi (wc := [(t, .inr (10, oX10 t_q t_x0 t_x1 f2_t_6)), ((t_q 5), .inl (K 0, 12, .inl (fun j => iI (c2_t_5 j)))), ((t_q 4), .inl (K 0, 12, .inl (fun j => iI (t_4_c j))))]) (wr := []) hK hP hD hS hA [0, 2, 1] [] rfl rfl (by decide) (fun hp => va_runV (C := RX10) (As := [.int (iI x2_3)]) (rest := []) ⟨hx, hb, hml, hown, hts⟩ (k_X10_wayLength (l := l) (D := D) (K := K) (t := t) (p1 := x2_3) (t_q := t_q) (t_x0 := t_x0) (t_x1 := t_x1) (t_x6 := f2_t_6) (t_5_c := c2_t_5) (t_4_c := t_4_c) (hp1 := (by omega)) (hi_t := ⟨hi_t.1, hi_t.2.1, (by omega)⟩) (hc_t_5 := hc2_t_5) (hc_t_4 := hc_t_4) _) (cwV 1 hts (fn_ginV (fn_gin wd_793) wd_802 wd_792 wp_39 wd_6) rfl rfl rfl (by decide +kernel) ⟨Nat.le_of_ble_eq_true rfl, Nat.le_of_ble_eq_true rfl⟩) ⟨fn_blind, va_recv hK.1 hP (ci := 10) (q0 := 0) rfl rfl, hp⟩ rfl rfl hl.1 rfl (lv_room (Nat.le_of_ble_eq_true rfl)) dX10_nextOnWay_26 ⟨Nat.le_of_ble_eq_true rfl, Nat.le_of_ble_eq_true rfl⟩) (fun r26 u26 H locs hwu26 hP hD hS => ?_)
          obtain ⟨u26a, u26b⟩ := u26
          obtain ⟨kr26, rfl, hkr26, hqu260, hu26_00, -⟩ := hwu26
          have hqu26 : 0 ≤ (u26a 0) ∧ (u26a 0) ≤ 4095 := hqu260
          have hu26_0 : ∀ j : Nat, (-1) ≤ (u26b 0) j ∧ (u26b 0) j ≤ 12 := hu26_00
          clear hqu260 hu26_00
          have hP : va_P D vwCl [(t, .inr (10, oX10 t_q t_x0 t_x1 (u26a 0))), ((t_q 5), .inl (K 0, 12, .inl (fun j => iI ((u26b 0) j)))), ((t_q 4), .inl (K 0, 12, .inl (fun j => iI (t_4_c j))))] H := hP
          have hD : va_D A [(t, .inr (10, oX10 t_q t_x0 t_x1 (u26a 0))), ((t_q 5), .inl (K 0, 12, .inl (fun j => iI ((u26b 0) j)))), ((t_q 4), .inl (K 0, 12, .inl (fun j => iI (t_4_c j))))] := hD
          refine lv_iload_n hx hb dX10_nextOnWay_29 rfl (lv_at hl 2 rfl) ?_
          refine g_icmp_ne (tgt := 35) hx hb (by omega) (by omega) dX10_nextOnWay_30 (by decide) (fun c30 => ?_) (fun c30 => ?_)
          · exact J35 (u26a 0) (u26b 0) _ _ ls (by omega) hu26_0 (hP.sub [0, 2, 1] rfl) (hD.sub [0, 2, 1] (by decide) rfl) hS (lv_sub hl [0, 1, 2, 3] rfl)
          · refine fn_at 33 rfl ?_
            refine lv_iload_n hx hb dX10_nextOnWay_33 rfl (lv_at hl 3 rfl) ?_
            rw [hQ]; exact fn_iret hx hb hr hlocks rfl hP hD hS ((fun k => ([(u26a 0)] : List Int).getD k 0), (fun k => ([(u26b 0)] : List (Nat → Int)).getD k (fun _ => 0))) ⟨x2_3, rfl, by omega, (by show 0 ≤ (u26a 0) ∧ (u26a 0) ≤ 4095; omega), (hu26_0), trivial⟩ [0, 2, 1] (by decide) rfl dX10_nextOnWay_34
  have hl : lv_has ls 4 [(0, .ref t), (1, .int (iI p1)), (2, .int (iI p2))] := hl
  refine lv_iconst (v := iI 0) hx hb dX10_nextOnWay_0 rfl ?_
  refine lv_istore_n (lv' := [(3, .int (iI 0)), (0, .ref t), (1, .int (iI p1)), (2, .int (iI p2))]) hx hb dX10_nextOnWay_1 rfl hl (by decide) rfl (fun ls hl => ?_)
  have y2_1 : 0 ≤ t_x6 ∧ t_x6 ≤ 4095 := hi_t.2.2
  exact J2 _ 0 t_x6 t_5_c _ _ ls (Nat.lt_succ_self _) (by omega) hc_t_5 (hP.sub [0, 1, 2] rfl) (hD.sub [0, 1, 2] (by decide) rfl) hS (lv_sub hl [1, 2, 3, 0] rfl)
theorem dX10_groundedWithout_81 : decode cX10_groundedWithout 81 = .ok (.iinc 5 1, 3) := by decide +kernel
theorem dX10_groundedWithout_84 : decode cX10_groundedWithout 84 = .ok (.goto (-44), 3) := by decide +kernel
theorem dX10_groundedWithout_40 : decode cX10_groundedWithout 40 = .ok (.iload 5, 2) := by decide +kernel
theorem dX10_groundedWithout_42 : decode cX10_groundedWithout 42 = .ok (.aload_n 0, 1) := by decide +kernel
theorem dX10_groundedWithout_43 : decode cX10_groundedWithout 43 = .ok (.getfield 30, 3) := by decide +kernel
theorem dX10_groundedWithout_46 : decode cX10_groundedWithout 46 = .ok (.if_icmp .ge 41, 3) := by decide +kernel
theorem dX10_groundedWithout_87 : decode cX10_groundedWithout 87 = .ok (.iinc 4 1, 3) := by decide +kernel
theorem dX10_groundedWithout_90 : decode cX10_groundedWithout 90 = .ok (.goto (-68), 3) := by decide +kernel
theorem dX10_groundedWithout_49 : decode cX10_groundedWithout 49 = .ok (.aload_n 0, 1) := by decide +kernel
theorem dX10_groundedWithout_50 : decode cX10_groundedWithout 50 = .ok (.getfield 18, 3) := by decide +kernel
theorem dX10_groundedWithout_53 : decode cX10_groundedWithout 53 = .ok (.iload 5, 2) := by decide +kernel
theorem dX10_groundedWithout_55 : decode cX10_groundedWithout 55 = .ok (.iaload, 1) := by decide +kernel
theorem dX10_groundedWithout_56 : decode cX10_groundedWithout 56 = .ok (.iload_n 2, 1) := by decide +kernel
theorem dX10_groundedWithout_57 : decode cX10_groundedWithout 57 = .ok (.iand, 1) := by decide +kernel
theorem dX10_groundedWithout_58 : decode cX10_groundedWithout 58 = .ok (.ifCond .eq 23, 3) := by decide +kernel
theorem dX10_groundedWithout_61 : decode cX10_groundedWithout 61 = .ok (.iload_n 2, 1) := by decide +kernel
theorem dX10_groundedWithout_62 : decode cX10_groundedWithout 62 = .ok (.iload_n 1, 1) := by decide +kernel
theorem dX10_groundedWithout_63 : decode cX10_groundedWithout 63 = .ok (.ior, 1) := by decide +kernel
theorem dX10_groundedWithout_64 : decode cX10_groundedWithout 64 = .ok (.iload 5, 2) := by decide +kernel
theorem dX10_groundedWithout_66 : decode cX10_groundedWithout 66 = .ok (.ishr, 1) := by decide +kernel
theorem dX10_groundedWithout_67 : decode cX10_groundedWithout 67 = .ok (.iconst 1, 1) := by decide +kernel
theorem dX10_groundedWithout_68 : decode cX10_groundedWithout 68 = .ok (.iand, 1) := by decide +kernel
theorem dX10_groundedWithout_69 : decode cX10_groundedWithout 69 = .ok (.ifCond .ne 12, 3) := by decide +kernel
theorem dX10_groundedWithout_72 : decode cX10_groundedWithout 72 = .ok (.iload_n 2, 1) := by decide +kernel
theorem dX10_groundedWithout_73 : decode cX10_groundedWithout 73 = .ok (.iconst 1, 1) := by decide +kernel
theorem dX10_groundedWithout_74 : decode cX10_groundedWithout 74 = .ok (.iload 5, 2) := by decide +kernel
theorem dX10_groundedWithout_76 : decode cX10_groundedWithout 76 = .ok (.ishl, 1) := by decide +kernel
theorem dX10_groundedWithout_77 : decode cX10_groundedWithout 77 = .ok (.ior, 1) := by decide +kernel
theorem dX10_groundedWithout_78 : decode cX10_groundedWithout 78 = .ok (.istore_n 2, 1) := by decide +kernel
theorem dX10_groundedWithout_79 : decode cX10_groundedWithout 79 = .ok (.iconst 1, 1) := by decide +kernel
theorem dX10_groundedWithout_80 : decode cX10_groundedWithout 80 = .ok (.istore_n 3, 1) := by decide +kernel
theorem dX10_groundedWithout_22 : decode cX10_groundedWithout 22 = .ok (.iload 4, 2) := by decide +kernel
theorem dX10_groundedWithout_24 : decode cX10_groundedWithout 24 = .ok (.aload_n 0, 1) := by decide +kernel
theorem dX10_groundedWithout_25 : decode cX10_groundedWithout 25 = .ok (.getfield 30, 3) := by decide +kernel
theorem dX10_groundedWithout_28 : decode cX10_groundedWithout 28 = .ok (.if_icmp .ge 65, 3) := by decide +kernel
theorem dX10_groundedWithout_93 : decode cX10_groundedWithout 93 = .ok (.iload_n 2, 1) := by decide +kernel
theorem dX10_groundedWithout_94 : decode cX10_groundedWithout 94 = .ok (.ireturn, 1) := by decide +kernel
theorem dX10_groundedWithout_31 : decode cX10_groundedWithout 31 = .ok (.iload_n 3, 1) := by decide +kernel
theorem dX10_groundedWithout_32 : decode cX10_groundedWithout 32 = .ok (.ifCond .eq 61, 3) := by decide +kernel
theorem dX10_groundedWithout_35 : decode cX10_groundedWithout 35 = .ok (.iconst 0, 1) := by decide +kernel
theorem dX10_groundedWithout_36 : decode cX10_groundedWithout 36 = .ok (.istore_n 3, 1) := by decide +kernel
theorem dX10_groundedWithout_37 : decode cX10_groundedWithout 37 = .ok (.iconst 0, 1) := by decide +kernel
theorem dX10_groundedWithout_38 : decode cX10_groundedWithout 38 = .ok (.istore 5, 2) := by decide +kernel
theorem dX10_groundedWithout_18 : decode cX10_groundedWithout 18 = .ok (.istore_n 3, 1) := by decide +kernel
theorem dX10_groundedWithout_19 : decode cX10_groundedWithout 19 = .ok (.iconst 0, 1) := by decide +kernel
theorem dX10_groundedWithout_20 : decode cX10_groundedWithout 20 = .ok (.istore 4, 2) := by decide +kernel
theorem dX10_groundedWithout_0 : decode cX10_groundedWithout 0 = .ok (.aload_n 0, 1) := by decide +kernel
theorem dX10_groundedWithout_1 : decode cX10_groundedWithout 1 = .ok (.getfield 59, 3) := by decide +kernel
theorem dX10_groundedWithout_4 : decode cX10_groundedWithout 4 = .ok (.iload_n 1, 1) := by decide +kernel
theorem dX10_groundedWithout_5 : decode cX10_groundedWithout 5 = .ok (.iconst (-1), 1) := by decide +kernel
theorem dX10_groundedWithout_6 : decode cX10_groundedWithout 6 = .ok (.ixor, 1) := by decide +kernel
theorem dX10_groundedWithout_7 : decode cX10_groundedWithout 7 = .ok (.iand, 1) := by decide +kernel
theorem dX10_groundedWithout_8 : decode cX10_groundedWithout 8 = .ok (.istore_n 2, 1) := by decide +kernel
theorem dX10_groundedWithout_9 : decode cX10_groundedWithout 9 = .ok (.iload_n 2, 1) := by decide +kernel
theorem dX10_groundedWithout_10 : decode cX10_groundedWithout 10 = .ok (.ifCond .eq 7, 3) := by decide +kernel
theorem dX10_groundedWithout_17 : decode cX10_groundedWithout 17 = .ok (.iconst 0, 1) := by decide +kernel
theorem dX10_groundedWithout_13 : decode cX10_groundedWithout 13 = .ok (.iconst 1, 1) := by decide +kernel
theorem dX10_groundedWithout_14 : decode cX10_groundedWithout 14 = .ok (.goto 4, 3) := by decide +kernel
set_option maxHeartbeats 4000000 in
set_option maxRecDepth 100000 in
theorem k_X10_groundedWithout (l : Launch) (D : va_G) (K : Nat → ClassId) (t : Nat) (t_q : Nat → Nat) (p1 t_x0 t_x1 t_x6 : Int) (t_4_c : Nat → Int) (hp1 : (-2147483648) ≤ p1 ∧ p1 ≤ 2147483647) (hi_t : bX10 t_x0 t_x1 t_x6) (hc_t_4 : ∀ j : Nat, 0 ≤ t_4_c j ∧ t_4_c j ≤ 4095) : fn_CI (S := (Nat → Int) × (Nat → Nat → Int)) l D K yX10_groundedWithout (fn_ws yX10_groundedWithout cX10_groundedWithout 6 (some .int)) ({ frames := 4, cells := 0, slots := 0, locals := 100 } : Room) [.ref t, .int (iI p1)] [(t, .inr (10, oX10 t_q t_x0 t_x1 t_x6)), ((t_q 4), .inl (K 0, 12, .inl (fun j => iI (t_4_c j))))] (fun r u => ∃ k : Int, r = iI k ∧ (0 ≤ k ∧ k ≤ 4095) ∧ True) (fun u => [(t, .inr (10, oX10 t_q t_x0 t_x1 t_x6)), ((t_q 4), .inl (K 0, 12, .inl (fun j => iI (t_4_c j))))]) 0 0 := by
  refine g_inI (cc := cX10_groundedWithout) (maxL := 6) (ret := (some .int)) (by decide) rfl (Nat.le_of_ble_eq_true rfl) ?_
  intro p e s m below meth c A ls ag Q B hA hP hD hS hl hQ
  obtain ⟨hx, hb, hr, hml, hts, hown, hlocks, hin, hK⟩ := B
  have hown : s.vm.findClass RX10 = some m.cls := hown
  have hts := fun w h => hts w (List.mem_cons_of_mem _ h)
  have J22 : ∀ (n : Nat) (x22_2 : Int) (x22_3 : Int) (x22_4 : Int) (H : Heap) (locs : List Loc) (ls : Array Slot), (12 - x22_4).toNat < n → (0 ≤ x22_2 ∧ x22_2 ≤ 4095 ∧ 0 ≤ x22_3 ∧ x22_3 ≤ 1 ∧ 0 ≤ x22_4 ∧ x22_4 ≤ 12) → va_P D vwCl [(t, .inr (10, oX10 t_q t_x0 t_x1 t_x6)), ((t_q 4), .inl (K 0, 12, .inl (fun j => iI (t_4_c j))))] H → va_D A [(t, .inr (10, oX10 t_q t_x0 t_x1 t_x6)), ((t_q 4), .inl (K 0, 12, .inl (fun j => iI (t_4_c j))))] → va_S A s.heap H locs → lv_has ls 6 [(0, .ref t), (1, .int (iI p1)), (2, .int (iI x22_2)), (3, .int (iI x22_3)), (4, .int (iI x22_4))] → W p l e ({ frames := 4, cells := 0, slots := 0, locals := 100 } : Room) s m ag below meth c H locs 0 0 Q (F0 m 22 ls []) := by
    intro n
    induction n with
    | zero =>
      intro x22_2 x22_3 x22_4 H locs ls hm22 hf22 hP hD hS hl
      exact absurd hm22 (Nat.not_lt_zero _)
    | succ n ih22 =>
      intro x22_2 x22_3 x22_4 H locs ls hm22 hf22 hP hD hS hl
      have J40 : ∀ (n : Nat) (x40_2 : Int) (x40_3 : Int) (x40_5 : Int) (H : Heap) (locs : List Loc) (ls : Array Slot), (12 - x40_5).toNat < n → (0 ≤ x40_2 ∧ x40_2 ≤ 4095 ∧ 0 ≤ x40_3 ∧ x40_3 ≤ 1 ∧ 0 ≤ x22_4 ∧ x22_4 ≤ 11 ∧ 0 ≤ x40_5 ∧ x40_5 ≤ 12 ∧ 1 ≤ t_x0 ∧ t_x0 ≤ 12) → va_P D vwCl [(t, .inr (10, oX10 t_q t_x0 t_x1 t_x6)), ((t_q 4), .inl (K 0, 12, .inl (fun j => iI (t_4_c j))))] H → va_D A [(t, .inr (10, oX10 t_q t_x0 t_x1 t_x6)), ((t_q 4), .inl (K 0, 12, .inl (fun j => iI (t_4_c j))))] → va_S A s.heap H locs → lv_has ls 6 [(0, .ref t), (1, .int (iI p1)), (2, .int (iI x40_2)), (3, .int (iI x40_3)), (4, .int (iI x22_4)), (5, .int (iI x40_5))] → W p l e ({ frames := 4, cells := 0, slots := 0, locals := 100 } : Room) s m ag below meth c H locs 0 0 Q (F0 m 40 ls []) := by
        intro n
        induction n with
        | zero =>
          intro x40_2 x40_3 x40_5 H locs ls hm40 hf40 hP hD hS hl
          exact absurd hm40 (Nat.not_lt_zero _)
        | succ n ih40 =>
          intro x40_2 x40_3 x40_5 H locs ls hm40 hf40 hP hD hS hl
          have J81 : ∀ (x81_2 : Int) (x81_3 : Int) (H : Heap) (locs : List Loc) (ls : Array Slot), (0 ≤ x81_2 ∧ x81_2 ≤ 4095 ∧ 0 ≤ x81_3 ∧ x81_3 ≤ 1 ∧ 0 ≤ x22_4 ∧ x22_4 ≤ 11 ∧ 0 ≤ x40_5 ∧ x40_5 ≤ 11 ∧ 1 ≤ t_x0 ∧ t_x0 ≤ 12) → va_P D vwCl [(t, .inr (10, oX10 t_q t_x0 t_x1 t_x6)), ((t_q 4), .inl (K 0, 12, .inl (fun j => iI (t_4_c j))))] H → va_D A [(t, .inr (10, oX10 t_q t_x0 t_x1 t_x6)), ((t_q 4), .inl (K 0, 12, .inl (fun j => iI (t_4_c j))))] → va_S A s.heap H locs → lv_has ls 6 [(0, .ref t), (1, .int (iI p1)), (2, .int (iI x81_2)), (3, .int (iI x81_3)), (4, .int (iI x22_4)), (5, .int (iI x40_5))] → W p l e ({ frames := 4, cells := 0, slots := 0, locals := 100 } : Room) s m ag below meth c H locs 0 0 Q (F0 m 81 ls []) := by
            intro x81_2 x81_3 H locs ls hf81 hP hD hS hl
            refine lv_iinc (v := iI (x40_5 + 1)) (lv' := [(5, .int (iI (x40_5 + 1))), (0, .ref t), (1, .int (iI p1)), (2, .int (iI x81_2)), (3, .int (iI x81_3)), (4, .int (iI x22_4))]) hx hb dX10_groundedWithout_81 hl (k := 5) rfl (iI_add _ _) (by decide) rfl (fun ls hl => ?_)
            refine lv_goto (tgt := 40) hx hb dX10_groundedWithout_84 (by decide) ?_
            exact ih40 x81_2 x81_3 (x40_5 + 1) _ _ ls (by omega) (by omega) (hP.sub [0, 1] rfl) (hD.sub [0, 1] (by decide) rfl) hS (lv_sub hl [1, 2, 3, 4, 5, 0] rfl)
          refine lv_iload hx hb dX10_groundedWithout_40 (lv_at hl 5 rfl) ?_
          refine lv_aload_n hx hb dX10_groundedWithout_42 rfl (lv_at hl 0 rfl) ?_
          refine va_get (D := D) (own := RX10) (ci := 10) (v := .int (iI t_x0)) (C := RX10) (T := TX10) (N := 7) hx hb hts inb_X10 hown hK.1 hP 0 rfl rfl 0 (by decide) (hts _ wd_225) (fun _ h9 => h9) rfl dX10_groundedWithout_43 ?_
          have y43_1 : 0 ≤ t_x0 ∧ t_x0 ≤ 12 := hi_t.1
          refine g_icmp_ge (tgt := 87) hx hb (by omega) (by omega) dX10_groundedWithout_46 (by decide) (fun c46 => ?_) (fun c46 => ?_)
          · refine lv_iinc (v := iI (x22_4 + 1)) (lv' := [(4, .int (iI (x22_4 + 1))), (0, .ref t), (1, .int (iI p1)), (2, .int (iI x40_2)), (3, .int (iI x40_3)), (5, .int (iI x40_5))]) hx hb dX10_groundedWithout_87 hl (k := 4) rfl (iI_add _ _) (by decide) rfl (fun ls hl => ?_)
            refine lv_goto (tgt := 22) hx hb dX10_groundedWithout_90 (by decide) ?_
            exact ih22 x40_2 x40_3 (x22_4 + 1) _ _ ls (by omega) (by omega) (hP.sub [0, 1] rfl) (hD.sub [0, 1] (by decide) rfl) hS (lv_sub hl [1, 2, 3, 4, 0] rfl)
          · refine lv_aload_n hx hb dX10_groundedWithout_49 rfl (lv_at hl 0 rfl) ?_
            refine va_get (D := D) (own := RX10) (ci := 10) (v := .ref (t_q 4)) (C := RX10) (T := TX10) (N := 7) hx hb hts inb_X10 hown hK.1 hP 0 rfl rfl 4 (by decide) (hts _ wd_236) (fun _ h9 => h9) rfl dX10_groundedWithout_50 ?_
            refine lv_iload hx hb dX10_groundedWithout_53 (lv_at hl 5 rfl) ?_
            refine g_iald hx hb hK.1 hP 1 0 rfl rfl (by omega) (by omega) (by decide) dX10_groundedWithout_55 ?_
            have y55 : 0 ≤ (t_4_c x40_5.toNat) ∧ (t_4_c x40_5.toNat) ≤ 4095 := hc_t_4 x40_5.toNat
            refine lv_iload_n hx hb dX10_groundedWithout_56 rfl (lv_at hl 2 rfl) ?_
            refine lv_iand hx hb dX10_groundedWithout_57 ?_
            obtain ⟨w57, ew57, hw57⟩ := iI_and (t_4_c x40_5.toNat) x40_2 (by omega)
            refine fn_top (iI w57) ew57 ?_
            refine g_if_eq (tgt := 81) hx hb (by omega) dX10_groundedWithout_58 (by decide) (fun c58 => ?_) (fun c58 => ?_)
            · exact J81 x40_2 x40_3 _ _ ls (by omega) (hP.sub [0, 1] rfl) (hD.sub [0, 1] (by decide) rfl) hS (lv_sub hl [0, 1, 2, 3, 4, 5] rfl)
            · refine lv_iload_n hx hb dX10_groundedWithout_61 rfl (lv_at hl 2 rfl) ?_
              refine lv_iload_n hx hb dX10_groundedWithout_62 rfl (lv_at hl 1 rfl) ?_
              refine lv_ior hx hb dX10_groundedWithout_63 ?_
              refine g_any (fun w63 hw63 ew63 => ?_)
              refine lv_iload hx hb dX10_groundedWithout_64 (lv_at hl 5 rfl) ?_
              refine lv_ishr hx hb dX10_groundedWithout_66 ?_
              refine g_any (fun w66 hw66 ew66 => ?_)
              refine lv_iconst (v := iI 1) hx hb dX10_groundedWithout_67 rfl ?_
              refine lv_iand hx hb dX10_groundedWithout_68 ?_
              obtain ⟨w68, ew68, hw68⟩ := iI_and w66 1 (by omega)
              refine fn_top (iI w68) ew68 ?_
              refine g_if_ne (tgt := 81) hx hb (by omega) dX10_groundedWithout_69 (by decide) (fun c69 => ?_) (fun c69 => ?_)
              · exact J81 x40_2 x40_3 _ _ ls (by omega) (hP.sub [0, 1] rfl) (hD.sub [0, 1] (by decide) rfl) hS (lv_sub hl [0, 1, 2, 3, 4, 5] rfl)
              · refine fn_at 72 rfl ?_
                refine lv_iload_n hx hb dX10_groundedWithout_72 rfl (lv_at hl 2 rfl) ?_
                refine lv_iconst (v := iI 1) hx hb dX10_groundedWithout_73 rfl ?_
                refine lv_iload hx hb dX10_groundedWithout_74 (lv_at hl 5 rfl) ?_
                refine lv_ishl hx hb dX10_groundedWithout_76 ?_
                obtain ⟨w76, ew76, hw76⟩ := iI_shl1 11 x40_5 (by omega) (by omega) (by decide)
                refine fn_top (iI w76) ew76 ?_
                refine lv_ior hx hb dX10_groundedWithout_77 ?_
                obtain ⟨w77, ew77, hw77⟩ := iI_or 12 x40_2 w76 (by omega) (by omega) (by decide)
                refine fn_top (iI w77) ew77 ?_
                refine lv_istore_n (lv' := [(2, .int (iI w77)), (0, .ref t), (1, .int (iI p1)), (3, .int (iI x40_3)), (4, .int (iI x22_4)), (5, .int (iI x40_5))]) hx hb dX10_groundedWithout_78 rfl hl (by decide) rfl (fun ls hl => ?_)
                refine lv_iconst (v := iI 1) hx hb dX10_groundedWithout_79 rfl ?_
                refine lv_istore_n (lv' := [(3, .int (iI 1)), (2, .int (iI w77)), (0, .ref t), (1, .int (iI p1)), (4, .int (iI x22_4)), (5, .int (iI x40_5))]) hx hb dX10_groundedWithout_80 rfl hl (by decide) rfl (fun ls hl => ?_)
                exact J81 w77 1 _ _ ls (by omega) (hP.sub [0, 1] rfl) (hD.sub [0, 1] (by decide) rfl) hS (lv_sub hl [2, 3, 1, 0, 4, 5] rfl)
      refine lv_iload hx hb dX10_groundedWithout_22 (lv_at hl 4 rfl) ?_
      refine lv_aload_n hx hb dX10_groundedWithout_24 rfl (lv_at hl 0 rfl) ?_
      refine va_get (D := D) (own := RX10) (ci := 10) (v := .int (iI t_x0)) (C := RX10) (T := TX10) (N := 7) hx hb hts inb_X10 hown hK.1 hP 0 rfl rfl 0 (by decide) (hts _ wd_225) (fun _ h9 => h9) rfl dX10_groundedWithout_25 ?_
      have y25_1 : 0 ≤ t_x0 ∧ t_x0 ≤ 12 := hi_t.1
      refine g_icmp_ge (tgt := 93) hx hb (by omega) (by omega) dX10_groundedWithout_28 (by decide) (fun c28 => ?_) (fun c28 => ?_)
      · refine lv_iload_n hx hb dX10_groundedWithout_93 rfl (lv_at hl 2 rfl) ?_
        rw [hQ]; exact fn_iret hx hb hr hlocks rfl hP hD hS ((fun _ => 0), (fun _ _ => 0)) ⟨x22_2, rfl, by omega, trivial⟩ [0, 1] (by decide) rfl dX10_groundedWithout_94
      · refine lv_iload_n hx hb dX10_groundedWithout_31 rfl (lv_at hl 3 rfl) ?_
        refine g_if_eq (tgt := 93) hx hb (by omega) dX10_groundedWithout_32 (by decide) (fun c32 => ?_) (fun c32 => ?_)
        · refine lv_iload_n hx hb dX10_groundedWithout_93 rfl (lv_at hl 2 rfl) ?_
          rw [hQ]; exact fn_iret hx hb hr hlocks rfl hP hD hS ((fun _ => 0), (fun _ _ => 0)) ⟨x22_2, rfl, by omega, trivial⟩ [0, 1] (by decide) rfl dX10_groundedWithout_94
        · refine lv_iconst (v := iI 0) hx hb dX10_groundedWithout_35 rfl ?_
          refine lv_istore_n (lv' := [(3, .int (iI 0)), (0, .ref t), (1, .int (iI p1)), (2, .int (iI x22_2)), (4, .int (iI x22_4))]) hx hb dX10_groundedWithout_36 rfl hl (by decide) rfl (fun ls hl => ?_)
          refine lv_iconst (v := iI 0) hx hb dX10_groundedWithout_37 rfl ?_
          refine lv_istore (lv' := [(5, .int (iI 0)), (3, .int (iI 0)), (0, .ref t), (1, .int (iI p1)), (2, .int (iI x22_2)), (4, .int (iI x22_4))]) hx hb dX10_groundedWithout_38 hl (by decide) rfl (fun ls hl => ?_)
          exact J40 _ x22_2 0 0 _ _ ls (Nat.lt_succ_self _) (by omega) (hP.sub [0, 1] rfl) (hD.sub [0, 1] (by decide) rfl) hS (lv_sub hl [2, 3, 4, 1, 5, 0] rfl)
  have J18 : ∀ (x18_2 : Int) (z18_0 : Int) (H : Heap) (locs : List Loc) (ls : Array Slot), (0 ≤ x18_2 ∧ x18_2 ≤ 4095 ∧ 0 ≤ z18_0 ∧ z18_0 ≤ 1) → va_P D vwCl [(t, .inr (10, oX10 t_q t_x0 t_x1 t_x6)), ((t_q 4), .inl (K 0, 12, .inl (fun j => iI (t_4_c j))))] H → va_D A [(t, .inr (10, oX10 t_q t_x0 t_x1 t_x6)), ((t_q 4), .inl (K 0, 12, .inl (fun j => iI (t_4_c j))))] → va_S A s.heap H locs → lv_has ls 6 [(0, .ref t), (1, .int (iI p1)), (2, .int (iI x18_2))] → W p l e ({ frames := 4, cells := 0, slots := 0, locals := 100 } : Room) s m ag below meth c H locs 0 0 Q (F0 m 18 ls [.int (iI z18_0)]) := by
    intro x18_2 z18_0 H locs ls hf18 hP hD hS hl
    refine lv_istore_n (lv' := [(3, .int (iI z18_0)), (0, .ref t), (1, .int (iI p1)), (2, .int (iI x18_2))]) hx hb dX10_groundedWithout_18 rfl hl (by decide) rfl (fun ls hl => ?_)
    refine lv_iconst (v := iI 0) hx hb dX10_groundedWithout_19 rfl ?_
    refine lv_istore (lv' := [(4, .int (iI 0)), (3, .int (iI z18_0)), (0, .ref t), (1, .int (iI p1)), (2, .int (iI x18_2))]) hx hb dX10_groundedWithout_20 hl (by decide) rfl (fun ls hl => ?_)
    exact J22 _ x18_2 z18_0 0 _ _ ls (Nat.lt_succ_self _) (by omega) (hP.sub [0, 1] rfl) (hD.sub [0, 1] (by decide) rfl) hS (lv_sub hl [2, 3, 4, 1, 0] rfl)
  have hl : lv_has ls 6 [(0, .ref t), (1, .int (iI p1))] := hl
  refine lv_aload_n hx hb dX10_groundedWithout_0 rfl (lv_at hl 0 rfl) ?_
  refine va_get (D := D) (own := RX10) (ci := 10) (v := .int (iI t_x1)) (C := RX10) (T := TX10) (N := 7) hx hb hts inb_X10 hown hK.1 hP 0 rfl rfl 1 (by decide) (hts _ wd_227) (fun _ h9 => h9) rfl dX10_groundedWithout_1 ?_
  have y1_1 : 0 ≤ t_x1 ∧ t_x1 ≤ 4095 := hi_t.2.1
  refine lv_iload_n hx hb dX10_groundedWithout_4 rfl (lv_at hl 1 rfl) ?_
  refine lv_iconst (v := iI (-1)) hx hb dX10_groundedWithout_5 rfl ?_
  refine lv_ixor hx hb dX10_groundedWithout_6 ?_
  obtain ⟨w6, ew6, hw6⟩ := iI_not p1 (by omega)
  refine fn_top (iI w6) ew6 ?_
  refine lv_iand hx hb dX10_groundedWithout_7 ?_
  obtain ⟨w7, ew7, hw7⟩ := iI_and2 t_x1 w6 (by omega)
  refine fn_top (iI w7) ew7 ?_
  refine lv_istore_n (lv' := [(2, .int (iI w7)), (0, .ref t), (1, .int (iI p1))]) hx hb dX10_groundedWithout_8 rfl hl (by decide) rfl (fun ls hl => ?_)
  refine lv_iload_n hx hb dX10_groundedWithout_9 rfl (lv_at hl 0 rfl) ?_
  refine g_if_eq (tgt := 17) hx hb (by omega) dX10_groundedWithout_10 (by decide) (fun c10 => ?_) (fun c10 => ?_)
  · refine lv_iconst (v := iI 0) hx hb dX10_groundedWithout_17 rfl ?_
    exact J18 w7 0 _ _ ls (by omega) (hP.sub [0, 1] rfl) (hD.sub [0, 1] (by decide) rfl) hS (lv_sub hl [1, 2, 0] rfl)
  · refine lv_iconst (v := iI 1) hx hb dX10_groundedWithout_13 rfl ?_
    refine lv_goto (tgt := 18) hx hb dX10_groundedWithout_14 (by decide) ?_
    exact J18 w7 1 _ _ ls (by omega) (hP.sub [0, 1] rfl) (hD.sub [0, 1] (by decide) rfl) hS (lv_sub hl [1, 2, 0] rfl)
theorem wd_825 : Cond.code ⟨"FootNotes$Web", "groundedWithout", "(I)I"⟩ prog_12_method_11_code 6 (Option.some Jvm.ClassFile.FieldType.int) ∈ fn_big := fn_tb (fn_l4 (List.mem_of_getElem? (i := 105) (by decide +kernel))) (by decide +kernel)
theorem wd_838 : Cond.methodLink "FootNotes$Web" 87 ⟨"FootNotes$Web", "groundedWithout", "(I)I"⟩ ∈ fn_big := fn_tb (fn_l4 (List.mem_of_getElem? (i := 118) (by decide +kernel))) (by decide +kernel)
theorem wd_824 : Cond.instanceMethod ⟨"FootNotes$Web", "groundedWithout", "(I)I"⟩ ∈ fn_big := fn_tb (fn_l4 (List.mem_of_getElem? (i := 104) (by decide +kernel))) (by decide +kernel)
theorem wp_42 : Cond.selects "FootNotes$Web" ⟨"FootNotes$Web", "groundedWithout", "(I)I"⟩ ⟨"FootNotes$Web", "groundedWithout", "(I)I"⟩ ∈ fn_big := fn_sel (q := (⟨"FootNotes$Web", "groundedWithout", "(I)I"⟩, 7)) 42 (by decide +kernel) (by decide +kernel)
theorem wd_839 : Cond.methodLink "FootNotes$Web" 90 ⟨"java/lang/Integer", "bitCount", "(I)I"⟩ ∈ fn_big := fn_tb (fn_l4 (List.mem_of_getElem? (i := 119) (by decide +kernel))) (by decide +kernel)
theorem dX10_lossBy_0 : decode cX10_lossBy 0 = .ok (.iconst 1, 1) := by decide +kernel
theorem dX10_lossBy_1 : decode cX10_lossBy 1 = .ok (.iload_n 1, 1) := by decide +kernel
theorem dX10_lossBy_2 : decode cX10_lossBy 2 = .ok (.ishl, 1) := by decide +kernel
theorem dX10_lossBy_3 : decode cX10_lossBy 3 = .ok (.istore_n 2, 1) := by decide +kernel
theorem dX10_lossBy_4 : decode cX10_lossBy 4 = .ok (.aload_n 0, 1) := by decide +kernel
theorem dX10_lossBy_5 : decode cX10_lossBy 5 = .ok (.iconst 0, 1) := by decide +kernel
theorem dX10_lossBy_6 : decode cX10_lossBy 6 = .ok (.invokevirtual 87, 3) := by decide +kernel
theorem dX10_lossBy_9 : decode cX10_lossBy 9 = .ok (.aload_n 0, 1) := by decide +kernel
theorem dX10_lossBy_10 : decode cX10_lossBy 10 = .ok (.iload_n 2, 1) := by decide +kernel
theorem dX10_lossBy_11 : decode cX10_lossBy 11 = .ok (.invokevirtual 87, 3) := by decide +kernel
theorem dX10_lossBy_14 : decode cX10_lossBy 14 = .ok (.iconst (-1), 1) := by decide +kernel
theorem dX10_lossBy_15 : decode cX10_lossBy 15 = .ok (.ixor, 1) := by decide +kernel
theorem dX10_lossBy_16 : decode cX10_lossBy 16 = .ok (.iand, 1) := by decide +kernel
theorem dX10_lossBy_17 : decode cX10_lossBy 17 = .ok (.iload_n 2, 1) := by decide +kernel
theorem dX10_lossBy_18 : decode cX10_lossBy 18 = .ok (.iconst (-1), 1) := by decide +kernel
theorem dX10_lossBy_19 : decode cX10_lossBy 19 = .ok (.ixor, 1) := by decide +kernel
theorem dX10_lossBy_20 : decode cX10_lossBy 20 = .ok (.iand, 1) := by decide +kernel
theorem dX10_lossBy_21 : decode cX10_lossBy 21 = .ok (.invokestatic 90, 3) := by decide +kernel
theorem dX10_lossBy_24 : decode cX10_lossBy 24 = .ok (.ireturn, 1) := by decide +kernel
set_option maxHeartbeats 4000000 in
set_option maxRecDepth 100000 in
theorem k_X10_lossBy (l : Launch) (D : va_G) (K : Nat → ClassId) (t : Nat) (t_q : Nat → Nat) (p1 t_x0 t_x1 t_x6 : Int) (t_4_c : Nat → Int) (hp1 : 0 ≤ p1 ∧ p1 ≤ 11) (hi_t : bX10 t_x0 t_x1 t_x6) (hc_t_4 : ∀ j : Nat, 0 ≤ t_4_c j ∧ t_4_c j ≤ 4095) : fn_CI (S := (Nat → Int) × (Nat → Nat → Int)) l D K yX10_lossBy (fn_ws yX10_lossBy cX10_lossBy 3 (some .int)) ({ frames := 8, cells := 0, slots := 0, locals := 200 } : Room) [.ref t, .int (iI p1)] [(t, .inr (10, oX10 t_q t_x0 t_x1 t_x6)), ((t_q 4), .inl (K 0, 12, .inl (fun j => iI (t_4_c j))))] (fun r u => ∃ k : Int, r = iI k ∧ (0 ≤ k ∧ k ≤ 63) ∧ True) (fun u => [(t, .inr (10, oX10 t_q t_x0 t_x1 t_x6)), ((t_q 4), .inl (K 0, 12, .inl (fun j => iI (t_4_c j))))]) 0 0 := by
  refine g_inI (cc := cX10_lossBy) (maxL := 3) (ret := (some .int)) (by decide) rfl (Nat.le_of_ble_eq_true rfl) ?_
  intro p e s m below meth c A ls ag Q B hA hP hD hS hl hQ
  obtain ⟨hx, hb, hr, hml, hts, hown, hlocks, hin, hK⟩ := B
  have hown : s.vm.findClass RX10 = some m.cls := hown
  have hts := fun w h => hts w (List.mem_cons_of_mem _ h)
  have hl : lv_has ls 3 [(0, .ref t), (1, .int (iI p1))] := hl
  refine lv_iconst (v := iI 1) hx hb dX10_lossBy_0 rfl ?_
  refine lv_iload_n hx hb dX10_lossBy_1 rfl (lv_at hl 1 rfl) ?_
  refine lv_ishl hx hb dX10_lossBy_2 ?_
  obtain ⟨w2, ew2, hw2⟩ := iI_shl1 11 p1 (by omega) (by omega) (by decide)
  refine fn_top (iI w2) ew2 ?_
  refine lv_istore_n (lv' := [(2, .int (iI w2)), (0, .ref t), (1, .int (iI p1))]) hx hb dX10_lossBy_3 rfl hl (by decide) rfl (fun ls hl => ?_)
  refine lv_aload_n hx hb dX10_lossBy_4 rfl (lv_at hl 1 rfl) ?_
  refine lv_iconst (v := iI 0) hx hb dX10_lossBy_5 rfl ?_
  refine fn_goi (wc := [(t, .inr (10, oX10 t_q t_x0 t_x1 t_x6)), ((t_q 4), .inl (K 0, 12, .inl (fun j => iI (t_4_c j))))]) (wr := []) hK hP hD hS hA [0, 1] [] rfl rfl (by decide) (fun hp => va_runV (C := RX10) (As := [.int (iI 0)]) (rest := []) ⟨hx, hb, hml, hown, hts⟩ (k_X10_groundedWithout (l := l) (D := D) (K := K) (t := t) (p1 := 0) (t_q := t_q) (t_x0 := t_x0) (t_x1 := t_x1) (t_x6 := t_x6) (t_4_c := t_4_c) (hp1 := (by omega)) (hi_t := hi_t) (hc_t_4 := hc_t_4) _) (cwV 1 hts (fn_ginV (fn_gin wd_825) wd_838 wd_824 wp_42 wd_6) rfl rfl rfl (by decide +kernel) ⟨Nat.le_of_ble_eq_true rfl, Nat.le_of_ble_eq_true rfl⟩) ⟨fn_blind, va_recv hK.1 hP (ci := 10) (q0 := 0) rfl rfl, hp⟩ rfl rfl hl.1 rfl (lv_room (Nat.le_of_ble_eq_true rfl)) dX10_lossBy_6 ⟨Nat.le_of_ble_eq_true rfl, Nat.le_of_ble_eq_true rfl⟩) (fun r6 u6 H locs hwu6 hP hD hS => ?_)
  obtain ⟨u6a, u6b⟩ := u6
  obtain ⟨kr6, rfl, hkr6, -⟩ := hwu6
  have hP : va_P D vwCl [(t, .inr (10, oX10 t_q t_x0 t_x1 t_x6)), ((t_q 4), .inl (K 0, 12, .inl (fun j => iI (t_4_c j))))] H := hP
  have hD : va_D A [(t, .inr (10, oX10 t_q t_x0 t_x1 t_x6)), ((t_q 4), .inl (K 0, 12, .inl (fun j => iI (t_4_c j))))] := hD
  refine lv_aload_n hx hb dX10_lossBy_9 rfl (lv_at hl 1 rfl) ?_
  refine lv_iload_n hx hb dX10_lossBy_10 rfl (lv_at hl 0 rfl) ?_
  refine fn_goi (wc := [(t, .inr (10, oX10 t_q t_x0 t_x1 t_x6)), ((t_q 4), .inl (K 0, 12, .inl (fun j => iI (t_4_c j))))]) (wr := []) hK hP hD hS hA [0, 1] [] rfl rfl (by decide) (fun hp => va_runV (C := RX10) (As := [.int (iI w2)]) (rest := [.int (iI kr6)]) ⟨hx, hb, hml, hown, hts⟩ (k_X10_groundedWithout (l := l) (D := D) (K := K) (t := t) (p1 := w2) (t_q := t_q) (t_x0 := t_x0) (t_x1 := t_x1) (t_x6 := t_x6) (t_4_c := t_4_c) (hp1 := (by omega)) (hi_t := hi_t) (hc_t_4 := hc_t_4) _) (cwV 1 hts (fn_ginV (fn_gin wd_825) wd_838 wd_824 wp_42 wd_6) rfl rfl rfl (by decide +kernel) ⟨Nat.le_of_ble_eq_true rfl, Nat.le_of_ble_eq_true rfl⟩) ⟨fn_blind, va_recv hK.1 hP (ci := 10) (q0 := 0) rfl rfl, hp⟩ rfl rfl hl.1 rfl (lv_room (Nat.le_of_ble_eq_true rfl)) dX10_lossBy_11 ⟨Nat.le_of_ble_eq_true rfl, Nat.le_of_ble_eq_true rfl⟩) (fun r11 u11 H locs hwu11 hP hD hS => ?_)
  obtain ⟨u11a, u11b⟩ := u11
  obtain ⟨kr11, rfl, hkr11, -⟩ := hwu11
  have hP : va_P D vwCl [(t, .inr (10, oX10 t_q t_x0 t_x1 t_x6)), ((t_q 4), .inl (K 0, 12, .inl (fun j => iI (t_4_c j))))] H := hP
  have hD : va_D A [(t, .inr (10, oX10 t_q t_x0 t_x1 t_x6)), ((t_q 4), .inl (K 0, 12, .inl (fun j => iI (t_4_c j))))] := hD
  refine lv_iconst (v := iI (-1)) hx hb dX10_lossBy_14 rfl ?_
  refine lv_ixor hx hb dX10_lossBy_15 ?_
  obtain ⟨w15, ew15, hw15⟩ := iI_not kr11 (by omega)
  refine fn_top (iI w15) ew15 ?_
  refine lv_iand hx hb dX10_lossBy_16 ?_
  obtain ⟨w16, ew16, hw16⟩ := iI_and2 kr6 w15 (by omega)
  refine fn_top (iI w16) ew16 ?_
  refine lv_iload_n hx hb dX10_lossBy_17 rfl (lv_at hl 0 rfl) ?_
  refine lv_iconst (v := iI (-1)) hx hb dX10_lossBy_18 rfl ?_
  refine lv_ixor hx hb dX10_lossBy_19 ?_
  obtain ⟨w19, ew19, hw19⟩ := iI_not w2 (by omega)
  refine fn_top (iI w19) ew19 ?_
  refine lv_iand hx hb dX10_lossBy_20 ?_
  obtain ⟨w20, ew20, hw20⟩ := iI_and2 w16 w19 (by omega)
  refine fn_top (iI w20) ew20 ?_
  refine fn_goi (wc := []) (wr := [(t, .inr (10, oX10 t_q t_x0 t_x1 t_x6)), ((t_q 4), .inl (K 0, 12, .inl (fun j => iI (t_4_c j))))]) hK hP hD hS hA [] [0, 1] rfl rfl (by decide) (fun hp => va_runS (As := [.int (iI w20)]) (rest := []) ⟨hx, hb, hml, hown, hts⟩ (k_J6_bitCount_0f7a4 (l := l) (D := D) (K := K) (p1 := w20) (hp1 := (by omega)) _) (va_cwS 1 hts (fn_ginS (fn_gin wd_841) wd_839 wd_840 wd_21) rfl rfl rfl (by decide +kernel) ⟨Nat.le_of_ble_eq_true rfl, Nat.le_of_ble_eq_true rfl⟩) ⟨fn_blind, hp⟩ rfl rfl hl.1 rfl (lv_room (Nat.le_of_ble_eq_true rfl)) dX10_lossBy_21 ⟨Nat.le_of_ble_eq_true rfl, Nat.le_of_ble_eq_true rfl⟩) (fun r21 u21 H locs hwu21 hP hD hS => ?_)
  obtain ⟨u21a, u21b⟩ := u21
  obtain ⟨kr21, rfl, hkr21, -⟩ := hwu21
  have hP : va_P D vwCl [(t, .inr (10, oX10 t_q t_x0 t_x1 t_x6)), ((t_q 4), .inl (K 0, 12, .inl (fun j => iI (t_4_c j))))] H := hP
  have hD : va_D A [(t, .inr (10, oX10 t_q t_x0 t_x1 t_x6)), ((t_q 4), .inl (K 0, 12, .inl (fun j => iI (t_4_c j))))] := hD
  rw [hQ]; exact fn_iret hx hb hr hlocks rfl hP hD hS ((fun _ => 0), (fun _ _ => 0)) ⟨kr21, rfl, by omega, trivial⟩ [0, 1] (by decide) rfl dX10_lossBy_24
theorem wd_861 : Cond.methodLink "FootNotes$Web" 95 ⟨"java/lang/Math", "min", "(II)I"⟩ ∈ fn_big := fn_tb (fn_l4 (List.mem_of_getElem? (i := 141) (by decide +kernel))) (by decide +kernel)
theorem dX10_leastCut_95 : decode cX10_leastCut 95 = .ok (.iinc 6 1, 3) := by decide +kernel
theorem dX10_leastCut_98 : decode cX10_leastCut 98 = .ok (.goto (-59), 3) := by decide +kernel
theorem dX10_leastCut_39 : decode cX10_leastCut 39 = .ok (.iload 6, 2) := by decide +kernel
theorem dX10_leastCut_41 : decode cX10_leastCut 41 = .ok (.iconst 1, 1) := by decide +kernel
theorem dX10_leastCut_42 : decode cX10_leastCut 42 = .ok (.aload_n 0, 1) := by decide +kernel
theorem dX10_leastCut_43 : decode cX10_leastCut 43 = .ok (.getfield 30, 3) := by decide +kernel
theorem dX10_leastCut_46 : decode cX10_leastCut 46 = .ok (.ishl, 1) := by decide +kernel
theorem dX10_leastCut_47 : decode cX10_leastCut 47 = .ok (.if_icmp .ge 54, 3) := by decide +kernel
theorem dX10_leastCut_101 : decode cX10_leastCut 101 = .ok (.iload 4, 2) := by decide +kernel
theorem dX10_leastCut_103 : decode cX10_leastCut 103 = .ok (.ireturn, 1) := by decide +kernel
theorem dX10_leastCut_50 : decode cX10_leastCut 50 = .ok (.iload 5, 2) := by decide +kernel
theorem dX10_leastCut_52 : decode cX10_leastCut 52 = .ok (.ifCond .le 49, 3) := by decide +kernel
theorem dX10_leastCut_55 : decode cX10_leastCut 55 = .ok (.iload 6, 2) := by decide +kernel
theorem dX10_leastCut_57 : decode cX10_leastCut 57 = .ok (.invokestatic 90, 3) := by decide +kernel
theorem dX10_leastCut_60 : decode cX10_leastCut 60 = .ok (.istore 7, 2) := by decide +kernel
theorem dX10_leastCut_62 : decode cX10_leastCut 62 = .ok (.iload 7, 2) := by decide +kernel
theorem dX10_leastCut_64 : decode cX10_leastCut 64 = .ok (.iload 5, 2) := by decide +kernel
theorem dX10_leastCut_66 : decode cX10_leastCut 66 = .ok (.if_icmp .ge 29, 3) := by decide +kernel
theorem dX10_leastCut_69 : decode cX10_leastCut 69 = .ok (.iload 6, 2) := by decide +kernel
theorem dX10_leastCut_71 : decode cX10_leastCut 71 = .ok (.iload_n 2, 1) := by decide +kernel
theorem dX10_leastCut_72 : decode cX10_leastCut 72 = .ok (.iand, 1) := by decide +kernel
theorem dX10_leastCut_73 : decode cX10_leastCut 73 = .ok (.ifCond .ne 22, 3) := by decide +kernel
theorem dX10_leastCut_76 : decode cX10_leastCut 76 = .ok (.aload_n 0, 1) := by decide +kernel
theorem dX10_leastCut_77 : decode cX10_leastCut 77 = .ok (.iload 6, 2) := by decide +kernel
theorem dX10_leastCut_79 : decode cX10_leastCut 79 = .ok (.invokevirtual 87, 3) := by decide +kernel
theorem dX10_leastCut_82 : decode cX10_leastCut 82 = .ok (.iload_n 2, 1) := by decide +kernel
theorem dX10_leastCut_83 : decode cX10_leastCut 83 = .ok (.iand, 1) := by decide +kernel
theorem dX10_leastCut_84 : decode cX10_leastCut 84 = .ok (.ifCond .ne 11, 3) := by decide +kernel
theorem dX10_leastCut_87 : decode cX10_leastCut 87 = .ok (.iload 6, 2) := by decide +kernel
theorem dX10_leastCut_89 : decode cX10_leastCut 89 = .ok (.istore 4, 2) := by decide +kernel
theorem dX10_leastCut_91 : decode cX10_leastCut 91 = .ok (.iload 7, 2) := by decide +kernel
theorem dX10_leastCut_93 : decode cX10_leastCut 93 = .ok (.istore 5, 2) := by decide +kernel
theorem dX10_leastCut_0 : decode cX10_leastCut 0 = .ok (.iconst 1, 1) := by decide +kernel
theorem dX10_leastCut_1 : decode cX10_leastCut 1 = .ok (.iload_n 1, 1) := by decide +kernel
theorem dX10_leastCut_2 : decode cX10_leastCut 2 = .ok (.ishl, 1) := by decide +kernel
theorem dX10_leastCut_3 : decode cX10_leastCut 3 = .ok (.istore_n 2, 1) := by decide +kernel
theorem dX10_leastCut_4 : decode cX10_leastCut 4 = .ok (.aload_n 0, 1) := by decide +kernel
theorem dX10_leastCut_5 : decode cX10_leastCut 5 = .ok (.getfield 59, 3) := by decide +kernel
theorem dX10_leastCut_8 : decode cX10_leastCut 8 = .ok (.invokestatic 90, 3) := by decide +kernel
theorem dX10_leastCut_11 : decode cX10_leastCut 11 = .ok (.aload_n 0, 1) := by decide +kernel
theorem dX10_leastCut_12 : decode cX10_leastCut 12 = .ok (.getfield 18, 3) := by decide +kernel
theorem dX10_leastCut_15 : decode cX10_leastCut 15 = .ok (.iload_n 1, 1) := by decide +kernel
theorem dX10_leastCut_16 : decode cX10_leastCut 16 = .ok (.iaload, 1) := by decide +kernel
theorem dX10_leastCut_17 : decode cX10_leastCut 17 = .ok (.iload_n 2, 1) := by decide +kernel
theorem dX10_leastCut_18 : decode cX10_leastCut 18 = .ok (.iconst (-1), 1) := by decide +kernel
theorem dX10_leastCut_19 : decode cX10_leastCut 19 = .ok (.ixor, 1) := by decide +kernel
theorem dX10_leastCut_20 : decode cX10_leastCut 20 = .ok (.iand, 1) := by decide +kernel
theorem dX10_leastCut_21 : decode cX10_leastCut 21 = .ok (.invokestatic 90, 3) := by decide +kernel
theorem dX10_leastCut_24 : decode cX10_leastCut 24 = .ok (.invokestatic 95, 3) := by decide +kernel
theorem dX10_leastCut_27 : decode cX10_leastCut 27 = .ok (.istore_n 3, 1) := by decide +kernel
theorem dX10_leastCut_28 : decode cX10_leastCut 28 = .ok (.iconst 0, 1) := by decide +kernel
theorem dX10_leastCut_29 : decode cX10_leastCut 29 = .ok (.istore 4, 2) := by decide +kernel
theorem dX10_leastCut_31 : decode cX10_leastCut 31 = .ok (.iload_n 3, 1) := by decide +kernel
theorem dX10_leastCut_32 : decode cX10_leastCut 32 = .ok (.iconst 1, 1) := by decide +kernel
theorem dX10_leastCut_33 : decode cX10_leastCut 33 = .ok (.iadd, 1) := by decide +kernel
theorem dX10_leastCut_34 : decode cX10_leastCut 34 = .ok (.istore 5, 2) := by decide +kernel
theorem dX10_leastCut_36 : decode cX10_leastCut 36 = .ok (.iconst 0, 1) := by decide +kernel
theorem dX10_leastCut_37 : decode cX10_leastCut 37 = .ok (.istore 6, 2) := by decide +kernel
set_option maxHeartbeats 4000000 in
set_option maxRecDepth 100000 in
theorem k_X10_leastCut (l : Launch) (D : va_G) (K : Nat → ClassId) (t : Nat) (t_q : Nat → Nat) (p1 t_x0 t_x1 t_x6 : Int) (t_4_c : Nat → Int) (hp1 : 0 ≤ p1 ∧ p1 ≤ 11) (hi_t : bX10 t_x0 t_x1 t_x6) (hc_t_4 : ∀ j : Nat, 0 ≤ t_4_c j ∧ t_4_c j ≤ 4095) : fn_CI (S := (Nat → Int) × (Nat → Nat → Int)) l D K yX10_leastCut (fn_ws yX10_leastCut cX10_leastCut 8 (some .int)) ({ frames := 8, cells := 0, slots := 0, locals := 200 } : Room) [.ref t, .int (iI p1)] [(t, .inr (10, oX10 t_q t_x0 t_x1 t_x6)), ((t_q 4), .inl (K 0, 12, .inl (fun j => iI (t_4_c j))))] (fun r u => ∃ k : Int, r = iI k ∧ (0 ≤ k ∧ k ≤ 4095) ∧ True) (fun u => [(t, .inr (10, oX10 t_q t_x0 t_x1 t_x6)), ((t_q 4), .inl (K 0, 12, .inl (fun j => iI (t_4_c j))))]) 0 0 := by
  refine g_inI (cc := cX10_leastCut) (maxL := 8) (ret := (some .int)) (by decide) rfl (Nat.le_of_ble_eq_true rfl) ?_
  intro p e s m below meth c A ls ag Q B hA hP hD hS hl hQ
  obtain ⟨hx, hb, hr, hml, hts, hown, hlocks, hin, hK⟩ := B
  have hown : s.vm.findClass RX10 = some m.cls := hown
  have hts := fun w h => hts w (List.mem_cons_of_mem _ h)
  have J39 : ∀ (n : Nat) (x39_2 : Int) (x39_3 : Int) (x39_4 : Int) (x39_5 : Int) (x39_6 : Int) (H : Heap) (locs : List Loc) (ls : Array Slot), (4096 - x39_6).toNat < n → (1 ≤ x39_2 ∧ x39_2 ≤ 2048 ∧ 0 ≤ x39_3 ∧ x39_3 ≤ 63 ∧ 0 ≤ x39_4 ∧ x39_4 ≤ 4095 ∧ 0 ≤ x39_5 ∧ x39_5 ≤ 64 ∧ 0 ≤ x39_6 ∧ x39_6 ≤ 4096) → va_P D vwCl [(t, .inr (10, oX10 t_q t_x0 t_x1 t_x6)), ((t_q 4), .inl (K 0, 12, .inl (fun j => iI (t_4_c j))))] H → va_D A [(t, .inr (10, oX10 t_q t_x0 t_x1 t_x6)), ((t_q 4), .inl (K 0, 12, .inl (fun j => iI (t_4_c j))))] → va_S A s.heap H locs → lv_has ls 8 [(0, .ref t), (1, .int (iI p1)), (2, .int (iI x39_2)), (3, .int (iI x39_3)), (4, .int (iI x39_4)), (5, .int (iI x39_5)), (6, .int (iI x39_6))] → W p l e ({ frames := 8, cells := 0, slots := 0, locals := 200 } : Room) s m ag below meth c H locs 0 0 Q (F0 m 39 ls []) := by
    intro n
    induction n with
    | zero =>
      intro x39_2 x39_3 x39_4 x39_5 x39_6 H locs ls hm39 hf39 hP hD hS hl
      exact absurd hm39 (Nat.not_lt_zero _)
    | succ n ih39 =>
      intro x39_2 x39_3 x39_4 x39_5 x39_6 H locs ls hm39 hf39 hP hD hS hl
      have J95 : ∀ (x95_4 : Int) (x95_5 : Int) (x95_7 : Int) (H : Heap) (locs : List Loc) (ls : Array Slot), (0 ≤ x95_4 ∧ x95_4 ≤ 4095 ∧ 0 ≤ x95_5 ∧ x95_5 ≤ 64 ∧ 0 ≤ x39_6 ∧ x39_6 ≤ 4095 ∧ 0 ≤ x95_7 ∧ x95_7 ≤ 63) → va_P D vwCl [(t, .inr (10, oX10 t_q t_x0 t_x1 t_x6)), ((t_q 4), .inl (K 0, 12, .inl (fun j => iI (t_4_c j))))] H → va_D A [(t, .inr (10, oX10 t_q t_x0 t_x1 t_x6)), ((t_q 4), .inl (K 0, 12, .inl (fun j => iI (t_4_c j))))] → va_S A s.heap H locs → lv_has ls 8 [(0, .ref t), (1, .int (iI p1)), (2, .int (iI x39_2)), (3, .int (iI x39_3)), (4, .int (iI x95_4)), (5, .int (iI x95_5)), (6, .int (iI x39_6)), (7, .int (iI x95_7))] → W p l e ({ frames := 8, cells := 0, slots := 0, locals := 200 } : Room) s m ag below meth c H locs 0 0 Q (F0 m 95 ls []) := by
        intro x95_4 x95_5 x95_7 H locs ls hf95 hP hD hS hl
        refine lv_iinc (v := iI (x39_6 + 1)) (lv' := [(6, .int (iI (x39_6 + 1))), (0, .ref t), (1, .int (iI p1)), (2, .int (iI x39_2)), (3, .int (iI x39_3)), (4, .int (iI x95_4)), (5, .int (iI x95_5)), (7, .int (iI x95_7))]) hx hb dX10_leastCut_95 hl (k := 6) rfl (iI_add _ _) (by decide) rfl (fun ls hl => ?_)
        refine lv_goto (tgt := 39) hx hb dX10_leastCut_98 (by decide) ?_
        exact ih39 x39_2 x39_3 x95_4 x95_5 (x39_6 + 1) _ _ ls (by omega) (by omega) (hP.sub [0, 1] rfl) (hD.sub [0, 1] (by decide) rfl) hS (lv_sub hl [1, 2, 3, 4, 5, 6, 0] rfl)
      refine lv_iload hx hb dX10_leastCut_39 (lv_at hl 6 rfl) ?_
      refine lv_iconst (v := iI 1) hx hb dX10_leastCut_41 rfl ?_
      refine lv_aload_n hx hb dX10_leastCut_42 rfl (lv_at hl 0 rfl) ?_
      refine va_get (D := D) (own := RX10) (ci := 10) (v := .int (iI t_x0)) (C := RX10) (T := TX10) (N := 7) hx hb hts inb_X10 hown hK.1 hP 0 rfl rfl 0 (by decide) (hts _ wd_225) (fun _ h9 => h9) rfl dX10_leastCut_43 ?_
      have y43_1 : 0 ≤ t_x0 ∧ t_x0 ≤ 12 := hi_t.1
      refine lv_ishl hx hb dX10_leastCut_46 ?_
      obtain ⟨w46, ew46, hw46⟩ := iI_shl1 12 t_x0 (by omega) (by omega) (by decide)
      refine fn_top (iI w46) ew46 ?_
      refine g_icmp_ge (tgt := 101) hx hb (by omega) (by omega) dX10_leastCut_47 (by decide) (fun c47 => ?_) (fun c47 => ?_)
      · refine lv_iload hx hb dX10_leastCut_101 (lv_at hl 4 rfl) ?_
        rw [hQ]; exact fn_iret hx hb hr hlocks rfl hP hD hS ((fun _ => 0), (fun _ _ => 0)) ⟨x39_4, rfl, by omega, trivial⟩ [0, 1] (by decide) rfl dX10_leastCut_103
      · refine lv_iload hx hb dX10_leastCut_50 (lv_at hl 5 rfl) ?_
        refine g_if_le (tgt := 101) hx hb (by omega) dX10_leastCut_52 (by decide) (fun c52 => ?_) (fun c52 => ?_)
        · refine lv_iload hx hb dX10_leastCut_101 (lv_at hl 4 rfl) ?_
          rw [hQ]; exact fn_iret hx hb hr hlocks rfl hP hD hS ((fun _ => 0), (fun _ _ => 0)) ⟨x39_4, rfl, by omega, trivial⟩ [0, 1] (by decide) rfl dX10_leastCut_103
        · refine lv_iload hx hb dX10_leastCut_55 (lv_at hl 6 rfl) ?_
          refine fn_goi (wc := []) (wr := [(t, .inr (10, oX10 t_q t_x0 t_x1 t_x6)), ((t_q 4), .inl (K 0, 12, .inl (fun j => iI (t_4_c j))))]) hK hP hD hS hA [] [0, 1] rfl rfl (by decide) (fun hp => va_runS (As := [.int (iI x39_6)]) (rest := []) ⟨hx, hb, hml, hown, hts⟩ (k_J6_bitCount_0f7a4 (l := l) (D := D) (K := K) (p1 := x39_6) (hp1 := (by omega)) _) (va_cwS 1 hts (fn_ginS (fn_gin wd_841) wd_839 wd_840 wd_21) rfl rfl rfl (by decide +kernel) ⟨Nat.le_of_ble_eq_true rfl, Nat.le_of_ble_eq_true rfl⟩) ⟨fn_blind, hp⟩ rfl rfl hl.1 rfl (lv_room (Nat.le_of_ble_eq_true rfl)) dX10_leastCut_57 ⟨Nat.le_of_ble_eq_true rfl, Nat.le_of_ble_eq_true rfl⟩) (fun r57 u57 H locs hwu57 hP hD hS => ?_)
          obtain ⟨u57a, u57b⟩ := u57
          obtain ⟨kr57, rfl, hkr57, -⟩ := hwu57
          have hP : va_P D vwCl [(t, .inr (10, oX10 t_q t_x0 t_x1 t_x6)), ((t_q 4), .inl (K 0, 12, .inl (fun j => iI (t_4_c j))))] H := hP
          have hD : va_D A [(t, .inr (10, oX10 t_q t_x0 t_x1 t_x6)), ((t_q 4), .inl (K 0, 12, .inl (fun j => iI (t_4_c j))))] := hD
          refine lv_istore (lv' := [(7, .int (iI kr57)), (0, .ref t), (1, .int (iI p1)), (2, .int (iI x39_2)), (3, .int (iI x39_3)), (4, .int (iI x39_4)), (5, .int (iI x39_5)), (6, .int (iI x39_6))]) hx hb dX10_leastCut_60 hl (by decide) rfl (fun ls hl => ?_)
          refine lv_iload hx hb dX10_leastCut_62 (lv_at hl 0 rfl) ?_
          refine lv_iload hx hb dX10_leastCut_64 (lv_at hl 6 rfl) ?_
          refine g_icmp_ge (tgt := 95) hx hb (by omega) (by omega) dX10_leastCut_66 (by decide) (fun c66 => ?_) (fun c66 => ?_)
          · exact J95 x39_4 x39_5 kr57 _ _ ls (by omega) (hP.sub [0, 1] rfl) (hD.sub [0, 1] (by decide) rfl) hS (lv_sub hl [1, 2, 3, 4, 5, 6, 7, 0] rfl)
          · refine lv_iload hx hb dX10_leastCut_69 (lv_at hl 7 rfl) ?_
            refine lv_iload_n hx hb dX10_leastCut_71 rfl (lv_at hl 3 rfl) ?_
            refine lv_iand hx hb dX10_leastCut_72 ?_
            obtain ⟨w72, ew72, hw72⟩ := iI_and x39_6 x39_2 (by omega)
            refine fn_top (iI w72) ew72 ?_
            refine g_if_ne (tgt := 95) hx hb (by omega) dX10_leastCut_73 (by decide) (fun c73 => ?_) (fun c73 => ?_)
            · exact J95 x39_4 x39_5 kr57 _ _ ls (by omega) (hP.sub [0, 1] rfl) (hD.sub [0, 1] (by decide) rfl) hS (lv_sub hl [1, 2, 3, 4, 5, 6, 7, 0] rfl)
            · refine lv_aload_n hx hb dX10_leastCut_76 rfl (lv_at hl 1 rfl) ?_
              refine fn_at 77 rfl ?_
              refine lv_iload hx hb dX10_leastCut_77 (lv_at hl 7 rfl) ?_
              refine fn_goi (wc := [(t, .inr (10, oX10 t_q t_x0 t_x1 t_x6)), ((t_q 4), .inl (K 0, 12, .inl (fun j => iI (t_4_c j))))]) (wr := []) hK hP hD hS hA [0, 1] [] rfl rfl (by decide) (fun hp => va_runV (C := RX10) (As := [.int (iI x39_6)]) (rest := []) ⟨hx, hb, hml, hown, hts⟩ (k_X10_groundedWithout (l := l) (D := D) (K := K) (t := t) (p1 := x39_6) (t_q := t_q) (t_x0 := t_x0) (t_x1 := t_x1) (t_x6 := t_x6) (t_4_c := t_4_c) (hp1 := (by omega)) (hi_t := hi_t) (hc_t_4 := hc_t_4) _) (cwV 1 hts (fn_ginV (fn_gin wd_825) wd_838 wd_824 wp_42 wd_6) rfl rfl rfl (by decide +kernel) ⟨Nat.le_of_ble_eq_true rfl, Nat.le_of_ble_eq_true rfl⟩) ⟨fn_blind, va_recv hK.1 hP (ci := 10) (q0 := 0) rfl rfl, hp⟩ rfl rfl hl.1 rfl (lv_room (Nat.le_of_ble_eq_true rfl)) dX10_leastCut_79 ⟨Nat.le_of_ble_eq_true rfl, Nat.le_of_ble_eq_true rfl⟩) (fun r79 u79 H locs hwu79 hP hD hS => ?_)
              obtain ⟨u79a, u79b⟩ := u79
              obtain ⟨kr79, rfl, hkr79, -⟩ := hwu79
              have hP : va_P D vwCl [(t, .inr (10, oX10 t_q t_x0 t_x1 t_x6)), ((t_q 4), .inl (K 0, 12, .inl (fun j => iI (t_4_c j))))] H := hP
              have hD : va_D A [(t, .inr (10, oX10 t_q t_x0 t_x1 t_x6)), ((t_q 4), .inl (K 0, 12, .inl (fun j => iI (t_4_c j))))] := hD
              refine lv_iload_n hx hb dX10_leastCut_82 rfl (lv_at hl 3 rfl) ?_
              refine lv_iand hx hb dX10_leastCut_83 ?_
              obtain ⟨w83, ew83, hw83⟩ := iI_and kr79 x39_2 (by omega)
              refine fn_top (iI w83) ew83 ?_
              refine g_if_ne (tgt := 95) hx hb (by omega) dX10_leastCut_84 (by decide) (fun c84 => ?_) (fun c84 => ?_)
              · exact J95 x39_4 x39_5 kr57 _ _ ls (by omega) (hP.sub [0, 1] rfl) (hD.sub [0, 1] (by decide) rfl) hS (lv_sub hl [1, 2, 3, 4, 5, 6, 7, 0] rfl)
              · refine lv_iload hx hb dX10_leastCut_87 (lv_at hl 7 rfl) ?_
                refine lv_istore (lv' := [(4, .int (iI x39_6)), (7, .int (iI kr57)), (0, .ref t), (1, .int (iI p1)), (2, .int (iI x39_2)), (3, .int (iI x39_3)), (5, .int (iI x39_5)), (6, .int (iI x39_6))]) hx hb dX10_leastCut_89 hl (by decide) rfl (fun ls hl => ?_)
                refine lv_iload hx hb dX10_leastCut_91 (lv_at hl 1 rfl) ?_
                refine lv_istore (lv' := [(5, .int (iI kr57)), (4, .int (iI x39_6)), (7, .int (iI kr57)), (0, .ref t), (1, .int (iI p1)), (2, .int (iI x39_2)), (3, .int (iI x39_3)), (6, .int (iI x39_6))]) hx hb dX10_leastCut_93 hl (by decide) rfl (fun ls hl => ?_)
                exact J95 x39_6 kr57 kr57 _ _ ls (by omega) (hP.sub [0, 1] rfl) (hD.sub [0, 1] (by decide) rfl) hS (lv_sub hl [3, 4, 5, 6, 1, 0, 7, 2] rfl)
  have hl : lv_has ls 8 [(0, .ref t), (1, .int (iI p1))] := hl
  refine lv_iconst (v := iI 1) hx hb dX10_leastCut_0 rfl ?_
  refine lv_iload_n hx hb dX10_leastCut_1 rfl (lv_at hl 1 rfl) ?_
  refine lv_ishl hx hb dX10_leastCut_2 ?_
  obtain ⟨w2, ew2, hw2⟩ := iI_shl1 11 p1 (by omega) (by omega) (by decide)
  refine fn_top (iI w2) ew2 ?_
  refine lv_istore_n (lv' := [(2, .int (iI w2)), (0, .ref t), (1, .int (iI p1))]) hx hb dX10_leastCut_3 rfl hl (by decide) rfl (fun ls hl => ?_)
  refine lv_aload_n hx hb dX10_leastCut_4 rfl (lv_at hl 1 rfl) ?_
  refine va_get (D := D) (own := RX10) (ci := 10) (v := .int (iI t_x1)) (C := RX10) (T := TX10) (N := 7) hx hb hts inb_X10 hown hK.1 hP 0 rfl rfl 1 (by decide) (hts _ wd_227) (fun _ h9 => h9) rfl dX10_leastCut_5 ?_
  have y5_1 : 0 ≤ t_x1 ∧ t_x1 ≤ 4095 := hi_t.2.1
  refine fn_goi (wc := []) (wr := [(t, .inr (10, oX10 t_q t_x0 t_x1 t_x6)), ((t_q 4), .inl (K 0, 12, .inl (fun j => iI (t_4_c j))))]) hK hP hD hS hA [] [0, 1] rfl rfl (by decide) (fun hp => va_runS (As := [.int (iI t_x1)]) (rest := []) ⟨hx, hb, hml, hown, hts⟩ (k_J6_bitCount_0f7a4 (l := l) (D := D) (K := K) (p1 := t_x1) (hp1 := (by omega)) _) (va_cwS 1 hts (fn_ginS (fn_gin wd_841) wd_839 wd_840 wd_21) rfl rfl rfl (by decide +kernel) ⟨Nat.le_of_ble_eq_true rfl, Nat.le_of_ble_eq_true rfl⟩) ⟨fn_blind, hp⟩ rfl rfl hl.1 rfl (lv_room (Nat.le_of_ble_eq_true rfl)) dX10_leastCut_8 ⟨Nat.le_of_ble_eq_true rfl, Nat.le_of_ble_eq_true rfl⟩) (fun r8 u8 H locs hwu8 hP hD hS => ?_)
  obtain ⟨u8a, u8b⟩ := u8
  obtain ⟨kr8, rfl, hkr8, -⟩ := hwu8
  have hP : va_P D vwCl [(t, .inr (10, oX10 t_q t_x0 t_x1 t_x6)), ((t_q 4), .inl (K 0, 12, .inl (fun j => iI (t_4_c j))))] H := hP
  have hD : va_D A [(t, .inr (10, oX10 t_q t_x0 t_x1 t_x6)), ((t_q 4), .inl (K 0, 12, .inl (fun j => iI (t_4_c j))))] := hD
  refine lv_aload_n hx hb dX10_leastCut_11 rfl (lv_at hl 1 rfl) ?_
  refine va_get (D := D) (own := RX10) (ci := 10) (v := .ref (t_q 4)) (C := RX10) (T := TX10) (N := 7) hx hb hts inb_X10 hown hK.1 hP 0 rfl rfl 4 (by decide) (hts _ wd_236) (fun _ h9 => h9) rfl dX10_leastCut_12 ?_
  refine lv_iload_n hx hb dX10_leastCut_15 rfl (lv_at hl 2 rfl) ?_
  refine g_iald hx hb hK.1 hP 1 0 rfl rfl (by omega) (by omega) (by decide) dX10_leastCut_16 ?_
  have y16 : 0 ≤ (t_4_c p1.toNat) ∧ (t_4_c p1.toNat) ≤ 4095 := hc_t_4 p1.toNat
  refine lv_iload_n hx hb dX10_leastCut_17 rfl (lv_at hl 0 rfl) ?_
  refine lv_iconst (v := iI (-1)) hx hb dX10_leastCut_18 rfl ?_
  refine lv_ixor hx hb dX10_leastCut_19 ?_
  obtain ⟨w19, ew19, hw19⟩ := iI_not w2 (by omega)
  refine fn_top (iI w19) ew19 ?_
  refine lv_iand hx hb dX10_leastCut_20 ?_
  obtain ⟨w20, ew20, hw20⟩ := iI_and2 (t_4_c p1.toNat) w19 (by omega)
  refine fn_top (iI w20) ew20 ?_
  refine fn_goi (wc := []) (wr := [(t, .inr (10, oX10 t_q t_x0 t_x1 t_x6)), ((t_q 4), .inl (K 0, 12, .inl (fun j => iI (t_4_c j))))]) hK hP hD hS hA [] [0, 1] rfl rfl (by decide) (fun hp => va_runS (As := [.int (iI w20)]) (rest := [.int (iI kr8)]) ⟨hx, hb, hml, hown, hts⟩ (k_J6_bitCount_0f7a4 (l := l) (D := D) (K := K) (p1 := w20) (hp1 := (by omega)) _) (va_cwS 1 hts (fn_ginS (fn_gin wd_841) wd_839 wd_840 wd_21) rfl rfl rfl (by decide +kernel) ⟨Nat.le_of_ble_eq_true rfl, Nat.le_of_ble_eq_true rfl⟩) ⟨fn_blind, hp⟩ rfl rfl hl.1 rfl (lv_room (Nat.le_of_ble_eq_true rfl)) dX10_leastCut_21 ⟨Nat.le_of_ble_eq_true rfl, Nat.le_of_ble_eq_true rfl⟩) (fun r21 u21 H locs hwu21 hP hD hS => ?_)
  obtain ⟨u21a, u21b⟩ := u21
  obtain ⟨kr21, rfl, hkr21, -⟩ := hwu21
  have hP : va_P D vwCl [(t, .inr (10, oX10 t_q t_x0 t_x1 t_x6)), ((t_q 4), .inl (K 0, 12, .inl (fun j => iI (t_4_c j))))] H := hP
  have hD : va_D A [(t, .inr (10, oX10 t_q t_x0 t_x1 t_x6)), ((t_q 4), .inl (K 0, 12, .inl (fun j => iI (t_4_c j))))] := hD
  refine g_mmin (own := RX10) hx hb (hml.trans hl.1.symm) hown (hts _ wd_861) (hts _ wd_578) (hts _ wd_18) (hts _ wd_579) (by omega) (by omega) (Nat.le_of_ble_eq_true rfl) (Nat.le_of_ble_eq_true rfl) (Nat.le_of_ble_eq_true rfl) (Nat.le_of_ble_eq_true rfl) dX10_leastCut_24 (fun w24 hw24 => ?_)
  refine lv_istore_n (lv' := [(3, .int (iI w24)), (2, .int (iI w2)), (0, .ref t), (1, .int (iI p1))]) hx hb dX10_leastCut_27 rfl hl (by decide) rfl (fun ls hl => ?_)
  refine lv_iconst (v := iI 0) hx hb dX10_leastCut_28 rfl ?_
  refine fn_at 29 rfl ?_
  refine lv_istore (lv' := [(4, .int (iI 0)), (3, .int (iI w24)), (2, .int (iI w2)), (0, .ref t), (1, .int (iI p1))]) hx hb dX10_leastCut_29 hl (by decide) rfl (fun ls hl => ?_)
  refine lv_iload_n hx hb dX10_leastCut_31 rfl (lv_at hl 1 rfl) ?_
  refine lv_iconst (v := iI 1) hx hb dX10_leastCut_32 rfl ?_
  refine g_iadd hx hb dX10_leastCut_33 ?_
  refine lv_istore (lv' := [(5, .int (iI (w24 + 1))), (4, .int (iI 0)), (3, .int (iI w24)), (2, .int (iI w2)), (0, .ref t), (1, .int (iI p1))]) hx hb dX10_leastCut_34 hl (by decide) rfl (fun ls hl => ?_)
  refine lv_iconst (v := iI 0) hx hb dX10_leastCut_36 rfl ?_
  refine lv_istore (lv' := [(6, .int (iI 0)), (5, .int (iI (w24 + 1))), (4, .int (iI 0)), (3, .int (iI w24)), (2, .int (iI w2)), (0, .ref t), (1, .int (iI p1))]) hx hb dX10_leastCut_37 hl (by decide) rfl (fun ls hl => ?_)
  exact J39 _ w2 w24 0 (w24 + 1) 0 _ _ ls (Nat.lt_succ_self _) (by omega) (hP.sub [0, 1] rfl) (hD.sub [0, 1] (by decide) rfl) hS (lv_sub hl [5, 6, 4, 3, 2, 1, 0] rfl)
theorem wd_422 : Cond.fieldLink "FootNotes" 10 "FootNotes" "reader" "LFootNotes$Reader;" ∈ fn_big := fn_tb (fn_l2 (List.mem_of_getElem? (i := 182) (by decide +kernel))) (by decide +kernel)
theorem wd_469 : Cond.code ⟨"FootNotes$Tape", "put", "(I)V"⟩ prog_8_method_2_code 3 (Option.none : Option Jvm.ClassFile.FieldType) ∈ fn_big := fn_tb (fn_l2 (List.mem_of_getElem? (i := 229) (by decide +kernel))) (by decide +kernel)
theorem wd_468 : Cond.instanceMethod ⟨"FootNotes$Tape", "put", "(I)V"⟩ ∈ fn_big := fn_tb (fn_l2 (List.mem_of_getElem? (i := 228) (by decide +kernel))) (by decide +kernel)
theorem wp_0 : Cond.selects "FootNotes$Tape" ⟨"FootNotes$Tape", "put", "(I)V"⟩ ⟨"FootNotes$Tape", "put", "(I)V"⟩ ∈ fn_big := fn_sel (q := (⟨"FootNotes$Tape", "put", "(I)V"⟩, 5)) 0 (by decide +kernel) (by decide +kernel)
theorem dX11_feed_0 : decode cX11_feed 0 = .ok (.aload_n 0, 1) := by decide +kernel
theorem dX11_feed_1 : decode cX11_feed 1 = .ok (.getfield 10, 3) := by decide +kernel
theorem dX11_feed_4 : decode cX11_feed 4 = .ok (.getfield 87, 3) := by decide +kernel
theorem dX11_feed_7 : decode cX11_feed 7 = .ok (.astore 6, 2) := by decide +kernel
theorem dX11_feed_9 : decode cX11_feed 9 = .ok (.aload 6, 2) := by decide +kernel
theorem dX11_feed_11 : decode cX11_feed 11 = .ok (.getfield 91, 3) := by decide +kernel
theorem dX11_feed_14 : decode cX11_feed 14 = .ok (.bipush 20, 2) := by decide +kernel
theorem dX11_feed_16 : decode cX11_feed 16 = .ok (.iadd, 1) := by decide +kernel
theorem dX11_feed_17 : decode cX11_feed 17 = .ok (.sipush 1400, 3) := by decide +kernel
theorem dX11_feed_20 : decode cX11_feed 20 = .ok (.if_icmp .le 5, 3) := by decide +kernel
theorem dX11_feed_25 : decode cX11_feed 25 = .ok (.aload 6, 2) := by decide +kernel
theorem dX11_feed_27 : decode cX11_feed 27 = .ok (.iload_n 1, 1) := by decide +kernel
theorem dX11_feed_28 : decode cX11_feed 28 = .ok (.invokevirtual 97, 3) := by decide +kernel
theorem dX11_feed_31 : decode cX11_feed 31 = .ok (.aload 6, 2) := by decide +kernel
theorem dX11_feed_33 : decode cX11_feed 33 = .ok (.iload_n 2, 1) := by decide +kernel
theorem dX11_feed_34 : decode cX11_feed 34 = .ok (.invokevirtual 97, 3) := by decide +kernel
theorem dX11_feed_37 : decode cX11_feed 37 = .ok (.aload 6, 2) := by decide +kernel
theorem dX11_feed_39 : decode cX11_feed 39 = .ok (.iload_n 3, 1) := by decide +kernel
theorem dX11_feed_40 : decode cX11_feed 40 = .ok (.invokevirtual 97, 3) := by decide +kernel
theorem dX11_feed_43 : decode cX11_feed 43 = .ok (.aload 6, 2) := by decide +kernel
theorem dX11_feed_45 : decode cX11_feed 45 = .ok (.iload 4, 2) := by decide +kernel
theorem dX11_feed_47 : decode cX11_feed 47 = .ok (.invokevirtual 97, 3) := by decide +kernel
theorem dX11_feed_50 : decode cX11_feed 50 = .ok (.aload 6, 2) := by decide +kernel
theorem dX11_feed_52 : decode cX11_feed 52 = .ok (.iload 5, 2) := by decide +kernel
theorem dX11_feed_54 : decode cX11_feed 54 = .ok (.invokevirtual 97, 3) := by decide +kernel
theorem dX11_feed_57 : decode cX11_feed 57 = .ok (.aload 6, 2) := by decide +kernel
theorem dX11_feed_59 : decode cX11_feed 59 = .ok (.getfield 91, 3) := by decide +kernel
theorem dX11_feed_62 : decode cX11_feed 62 = .ok (.ireturn, 1) := by decide +kernel
theorem dX11_feed_23 : decode cX11_feed 23 = .ok (.iconst (-1), 1) := by decide +kernel
theorem dX11_feed_24 : decode cX11_feed 24 = .ok (.ireturn, 1) := by decide +kernel
set_option maxHeartbeats 4000000 in
set_option maxRecDepth 100000 in
theorem k_X11_feed (l : Launch) (D : va_G) (K : Nat → ClassId) (t : Nat) (t_q t_0_q t_0_0_q : Nat → Nat) (p1 p2 p3 p4 p5 t_0_x2 t_0_x3 t_0_0_x0 t_0_0_x2 t_0_0_x3 t_0_0_x4 : Int) (t_0_0_1_c : Nat → Int) (hp1 : (-2147483648) ≤ p1 ∧ p1 ≤ 2147483647) (hp2 : (-2147483648) ≤ p2 ∧ p2 ≤ 2147483647) (hp3 : (-2147483648) ≤ p3 ∧ p3 ≤ 2147483647) (hp4 : (-2147483648) ≤ p4 ∧ p4 ≤ 2147483647) (hp5 : (-2147483648) ≤ p5 ∧ p5 ≤ 2147483647) (hi_t_0 : bX3 t_0_x2 t_0_x3) (hi_t_0_0 : bX6 t_0_0_x0 t_0_0_x2 t_0_0_x3 t_0_0_x4) (hc_t_0_0_1 : ∀ j : Nat, (-128) ≤ t_0_0_1_c j ∧ t_0_0_1_c j ≤ 127) : fn_CI (S := (Nat → Int) × (Nat → Nat → Int)) l D K yX11_feed (fn_ws yX11_feed cX11_feed 7 (some .int)) ({ frames := 8, cells := 0, slots := 0, locals := 200 } : Room) [.ref t, .int (iI p1), .int (iI p2), .int (iI p3), .int (iI p4), .int (iI p5)] [(t, .inr (11, oX11 t_q)), ((t_q 0), .inr (3, oX3 t_0_q t_0_x2 t_0_x3)), ((t_0_q 0), .inr (6, oX6 t_0_0_q t_0_0_x0 t_0_0_x2 t_0_0_x3 t_0_0_x4)), ((t_0_0_q 1), .inl (K 1, 1400, .inl (fun j => iI (t_0_0_1_c j))))] (fun r u => ∃ k : Int, r = iI k ∧ ((-1) ≤ k ∧ k ≤ 1400) ∧ (0 ≤ (u.1 0) ∧ (u.1 0) ≤ 1400) ∧ (∀ j : Nat, (-128) ≤ (u.2 0) j ∧ (u.2 0) j ≤ 127) ∧ True) (fun u => [(t, .inr (11, oX11 t_q)), ((t_q 0), .inr (3, oX3 t_0_q t_0_x2 t_0_x3)), ((t_0_q 0), .inr (6, oX6 t_0_0_q (u.1 0) t_0_0_x2 t_0_0_x3 t_0_0_x4)), ((t_0_0_q 1), .inl (K 1, 1400, .inl (fun j => iI ((u.2 0) j))))]) 0 0 := by
  refine g_inI (cc := cX11_feed) (maxL := 7) (ret := (some .int)) (by decide) rfl (Nat.le_of_ble_eq_true rfl) ?_
  intro p e s m below meth c A ls ag Q B hA hP hD hS hl hQ
  obtain ⟨hx, hb, hr, hml, hts, hown, hlocks, hin, hK⟩ := B
  have hown : s.vm.findClass RX11 = some m.cls := hown
  have hts := fun w h => hts w (List.mem_cons_of_mem _ h)
  have hl : lv_has ls 7 [(0, .ref t), (1, .int (iI p1)), (2, .int (iI p2)), (3, .int (iI p3)), (4, .int (iI p4)), (5, .int (iI p5))] := hl
  refine lv_aload_n hx hb dX11_feed_0 rfl (lv_at hl 0 rfl) ?_
  refine va_get (D := D) (own := RX11) (ci := 11) (v := .ref (t_q 0)) (C := RX11) (T := TX11) (N := 13) hx hb hts inb_X11 hown hK.1 hP 0 rfl rfl 0 (by decide) (hts _ wd_422) (fun _ h9 => h9) rfl dX11_feed_1 ?_
  refine va_getN (D := D) (own := RX11) (ci := 3) (v := .ref (t_0_q 0)) (C := RX3) (T := TX3) (N := 4) hx hb hts inb_X3 hown hK.1 hP 1 rfl rfl 0 (by decide) (hK.nf 50 rfl) (fun _ h9 => h9) rfl dX11_feed_4 ?_
  refine lv_astore (lv' := [(6, .ref (t_0_q 0)), (0, .ref t), (1, .int (iI p1)), (2, .int (iI p2)), (3, .int (iI p3)), (4, .int (iI p4)), (5, .int (iI p5))]) hx hb dX11_feed_7 hl (by decide) rfl (fun ls hl => ?_)
  refine lv_aload hx hb dX11_feed_9 (lv_at hl 0 rfl) ?_
  refine va_getN (D := D) (own := RX11) (ci := 6) (v := .int (iI t_0_0_x0)) (C := RX6) (T := TX6) (N := 5) hx hb hts inb_X6 hown hK.1 hP 2 rfl rfl 0 (by decide) (hK.nf 2 rfl) (fun _ h9 => h9) rfl dX11_feed_11 ?_
  have y11_1 : 0 ≤ t_0_0_x0 ∧ t_0_0_x0 ≤ 1400 := hi_t_0_0.1
  refine lv_bipush (v := iI 20) hx hb dX11_feed_14 (by decide) ?_
  refine g_iadd hx hb dX11_feed_16 ?_
  refine lv_sipush (v := iI 1400) hx hb dX11_feed_17 (by decide) ?_
  refine g_icmp_le (tgt := 25) hx hb (by omega) (by omega) dX11_feed_20 (by decide) (fun c20 => ?_) (fun c20 => ?_)
  · refine lv_aload hx hb dX11_feed_25 (lv_at hl 0 rfl) ?_
    refine lv_iload_n hx hb dX11_feed_27 rfl (lv_at hl 2 rfl) ?_
    refine fn_gov (wc := [((t_0_q 0), .inr (6, oX6 t_0_0_q t_0_0_x0 t_0_0_x2 t_0_0_x3 t_0_0_x4)), ((t_0_0_q 1), .inl (K 1, 1400, .inl (fun j => iI (t_0_0_1_c j))))]) (wr := [(t, .inr (11, oX11 t_q)), ((t_q 0), .inr (3, oX3 t_0_q t_0_x2 t_0_x3))]) hK hP hD hS hA [2, 3] [0, 1] rfl rfl (by decide) (fun hp => va_runVN (C := RX6) (As := [.int (iI p1)]) (rest := []) ⟨hx, hb, hml, hown, hts⟩ (k_X6_put (l := l) (D := D) (K := K) (t := (t_0_q 0)) (p1 := p1) (t_q := t_0_0_q) (t_x0 := t_0_0_x0) (t_x2 := t_0_0_x2) (t_x3 := t_0_0_x3) (t_x4 := t_0_0_x4) (t_1_c := t_0_0_1_c) (hp1 := (by omega)) (hi_t := hi_t_0_0) (hc_t_1 := hc_t_0_0_1) _) ⟨va_cnB (own := RX11) 1 hts (fn_gin wd_469) rfl rfl rfl (hK.nw 93 rfl) (hts _ wd_3) (by decide +kernel) ⟨Nat.le_of_ble_eq_true rfl, Nat.le_of_ble_eq_true rfl⟩, hts _ wd_468, hts _ wp_0⟩ ⟨fn_blind, va_recv hK.1 hP (ci := 6) (q0 := 2) rfl rfl, hp⟩ rfl rfl hl.1 rfl (lv_room (Nat.le_of_ble_eq_true rfl)) dX11_feed_28 ⟨Nat.le_of_ble_eq_true rfl, Nat.le_of_ble_eq_true rfl⟩) (fun u28 H locs hwu28 hP hD hS => ?_)
    obtain ⟨u28a, u28b⟩ := u28
    obtain ⟨hqu280, hu28_00, -⟩ := hwu28
    have hqu28 : 0 ≤ (u28a 0) ∧ (u28a 0) ≤ 1400 := hqu280
    have hu28_0 : ∀ j : Nat, (-128) ≤ (u28b 0) j ∧ (u28b 0) j ≤ 127 := hu28_00
    clear hqu280 hu28_00
    have hP : va_P D vwCl [(t, .inr (11, oX11 t_q)), ((t_q 0), .inr (3, oX3 t_0_q t_0_x2 t_0_x3)), ((t_0_q 0), .inr (6, oX6 t_0_0_q (u28a 0) t_0_0_x2 t_0_0_x3 t_0_0_x4)), ((t_0_0_q 1), .inl (K 1, 1400, .inl (fun j => iI ((u28b 0) j))))] H := hP
    have hD : va_D A [(t, .inr (11, oX11 t_q)), ((t_q 0), .inr (3, oX3 t_0_q t_0_x2 t_0_x3)), ((t_0_q 0), .inr (6, oX6 t_0_0_q (u28a 0) t_0_0_x2 t_0_0_x3 t_0_0_x4)), ((t_0_0_q 1), .inl (K 1, 1400, .inl (fun j => iI ((u28b 0) j))))] := hD
    refine lv_aload hx hb dX11_feed_31 (lv_at hl 0 rfl) ?_
    refine lv_iload_n hx hb dX11_feed_33 rfl (lv_at hl 3 rfl) ?_
    refine fn_gov (wc := [((t_0_q 0), .inr (6, oX6 t_0_0_q (u28a 0) t_0_0_x2 t_0_0_x3 t_0_0_x4)), ((t_0_0_q 1), .inl (K 1, 1400, .inl (fun j => iI ((u28b 0) j))))]) (wr := [(t, .inr (11, oX11 t_q)), ((t_q 0), .inr (3, oX3 t_0_q t_0_x2 t_0_x3))]) hK hP hD hS hA [2, 3] [0, 1] rfl rfl (by decide) (fun hp => va_runVN (C := RX6) (As := [.int (iI p2)]) (rest := []) ⟨hx, hb, hml, hown, hts⟩ (k_X6_put (l := l) (D := D) (K := K) (t := (t_0_q 0)) (p1 := p2) (t_q := t_0_0_q) (t_x0 := (u28a 0)) (t_x2 := t_0_0_x2) (t_x3 := t_0_0_x3) (t_x4 := t_0_0_x4) (t_1_c := (u28b 0)) (hp1 := (by omega)) (hi_t := ⟨(by omega), hi_t_0_0.2.1, hi_t_0_0.2.2.1, hi_t_0_0.2.2.2⟩) (hc_t_1 := hu28_0) _) ⟨va_cnB (own := RX11) 1 hts (fn_gin wd_469) rfl rfl rfl (hK.nw 93 rfl) (hts _ wd_3) (by decide +kernel) ⟨Nat.le_of_ble_eq_true rfl, Nat.le_of_ble_eq_true rfl⟩, hts _ wd_468, hts _ wp_0⟩ ⟨fn_blind, va_recv hK.1 hP (ci := 6) (q0 := 2) rfl rfl, hp⟩ rfl rfl hl.1 rfl (lv_room (Nat.le_of_ble_eq_true rfl)) dX11_feed_34 ⟨Nat.le_of_ble_eq_true rfl, Nat.le_of_ble_eq_true rfl⟩) (fun u34 H locs hwu34 hP hD hS => ?_)
    obtain ⟨u34a, u34b⟩ := u34
    obtain ⟨hqu340, hu34_00, -⟩ := hwu34
    have hqu34 : 0 ≤ (u34a 0) ∧ (u34a 0) ≤ 1400 := hqu340
    have hu34_0 : ∀ j : Nat, (-128) ≤ (u34b 0) j ∧ (u34b 0) j ≤ 127 := hu34_00
    clear hqu340 hu34_00
    have hP : va_P D vwCl [(t, .inr (11, oX11 t_q)), ((t_q 0), .inr (3, oX3 t_0_q t_0_x2 t_0_x3)), ((t_0_q 0), .inr (6, oX6 t_0_0_q (u34a 0) t_0_0_x2 t_0_0_x3 t_0_0_x4)), ((t_0_0_q 1), .inl (K 1, 1400, .inl (fun j => iI ((u34b 0) j))))] H := hP
    have hD : va_D A [(t, .inr (11, oX11 t_q)), ((t_q 0), .inr (3, oX3 t_0_q t_0_x2 t_0_x3)), ((t_0_q 0), .inr (6, oX6 t_0_0_q (u34a 0) t_0_0_x2 t_0_0_x3 t_0_0_x4)), ((t_0_0_q 1), .inl (K 1, 1400, .inl (fun j => iI ((u34b 0) j))))] := hD
    refine lv_aload hx hb dX11_feed_37 (lv_at hl 0 rfl) ?_
    refine lv_iload_n hx hb dX11_feed_39 rfl (lv_at hl 4 rfl) ?_
    refine fn_gov (wc := [((t_0_q 0), .inr (6, oX6 t_0_0_q (u34a 0) t_0_0_x2 t_0_0_x3 t_0_0_x4)), ((t_0_0_q 1), .inl (K 1, 1400, .inl (fun j => iI ((u34b 0) j))))]) (wr := [(t, .inr (11, oX11 t_q)), ((t_q 0), .inr (3, oX3 t_0_q t_0_x2 t_0_x3))]) hK hP hD hS hA [2, 3] [0, 1] rfl rfl (by decide) (fun hp => va_runVN (C := RX6) (As := [.int (iI p3)]) (rest := []) ⟨hx, hb, hml, hown, hts⟩ (k_X6_put (l := l) (D := D) (K := K) (t := (t_0_q 0)) (p1 := p3) (t_q := t_0_0_q) (t_x0 := (u34a 0)) (t_x2 := t_0_0_x2) (t_x3 := t_0_0_x3) (t_x4 := t_0_0_x4) (t_1_c := (u34b 0)) (hp1 := (by omega)) (hi_t := ⟨(by omega), hi_t_0_0.2.1, hi_t_0_0.2.2.1, hi_t_0_0.2.2.2⟩) (hc_t_1 := hu34_0) _) ⟨va_cnB (own := RX11) 1 hts (fn_gin wd_469) rfl rfl rfl (hK.nw 93 rfl) (hts _ wd_3) (by decide +kernel) ⟨Nat.le_of_ble_eq_true rfl, Nat.le_of_ble_eq_true rfl⟩, hts _ wd_468, hts _ wp_0⟩ ⟨fn_blind, va_recv hK.1 hP (ci := 6) (q0 := 2) rfl rfl, hp⟩ rfl rfl hl.1 rfl (lv_room (Nat.le_of_ble_eq_true rfl)) dX11_feed_40 ⟨Nat.le_of_ble_eq_true rfl, Nat.le_of_ble_eq_true rfl⟩) (fun u40 H locs hwu40 hP hD hS => ?_)
    obtain ⟨u40a, u40b⟩ := u40
    obtain ⟨hqu400, hu40_00, -⟩ := hwu40
    have hqu40 : 0 ≤ (u40a 0) ∧ (u40a 0) ≤ 1400 := hqu400
    have hu40_0 : ∀ j : Nat, (-128) ≤ (u40b 0) j ∧ (u40b 0) j ≤ 127 := hu40_00
    clear hqu400 hu40_00
    have hP : va_P D vwCl [(t, .inr (11, oX11 t_q)), ((t_q 0), .inr (3, oX3 t_0_q t_0_x2 t_0_x3)), ((t_0_q 0), .inr (6, oX6 t_0_0_q (u40a 0) t_0_0_x2 t_0_0_x3 t_0_0_x4)), ((t_0_0_q 1), .inl (K 1, 1400, .inl (fun j => iI ((u40b 0) j))))] H := hP
    have hD : va_D A [(t, .inr (11, oX11 t_q)), ((t_q 0), .inr (3, oX3 t_0_q t_0_x2 t_0_x3)), ((t_0_q 0), .inr (6, oX6 t_0_0_q (u40a 0) t_0_0_x2 t_0_0_x3 t_0_0_x4)), ((t_0_0_q 1), .inl (K 1, 1400, .inl (fun j => iI ((u40b 0) j))))] := hD
    refine fn_at 43 rfl ?_
    refine lv_aload hx hb dX11_feed_43 (lv_at hl 0 rfl) ?_
    refine lv_iload hx hb dX11_feed_45 (lv_at hl 5 rfl) ?_
    refine fn_gov (wc := [((t_0_q 0), .inr (6, oX6 t_0_0_q (u40a 0) t_0_0_x2 t_0_0_x3 t_0_0_x4)), ((t_0_0_q 1), .inl (K 1, 1400, .inl (fun j => iI ((u40b 0) j))))]) (wr := [(t, .inr (11, oX11 t_q)), ((t_q 0), .inr (3, oX3 t_0_q t_0_x2 t_0_x3))]) hK hP hD hS hA [2, 3] [0, 1] rfl rfl (by decide) (fun hp => va_runVN (C := RX6) (As := [.int (iI p4)]) (rest := []) ⟨hx, hb, hml, hown, hts⟩ (k_X6_put (l := l) (D := D) (K := K) (t := (t_0_q 0)) (p1 := p4) (t_q := t_0_0_q) (t_x0 := (u40a 0)) (t_x2 := t_0_0_x2) (t_x3 := t_0_0_x3) (t_x4 := t_0_0_x4) (t_1_c := (u40b 0)) (hp1 := (by omega)) (hi_t := ⟨(by omega), hi_t_0_0.2.1, hi_t_0_0.2.2.1, hi_t_0_0.2.2.2⟩) (hc_t_1 := hu40_0) _) ⟨va_cnB (own := RX11) 1 hts (fn_gin wd_469) rfl rfl rfl (hK.nw 93 rfl) (hts _ wd_3) (by decide +kernel) ⟨Nat.le_of_ble_eq_true rfl, Nat.le_of_ble_eq_true rfl⟩, hts _ wd_468, hts _ wp_0⟩ ⟨fn_blind, va_recv hK.1 hP (ci := 6) (q0 := 2) rfl rfl, hp⟩ rfl rfl hl.1 rfl (lv_room (Nat.le_of_ble_eq_true rfl)) dX11_feed_47 ⟨Nat.le_of_ble_eq_true rfl, Nat.le_of_ble_eq_true rfl⟩) (fun u47 H locs hwu47 hP hD hS => ?_)
    obtain ⟨u47a, u47b⟩ := u47
    obtain ⟨hqu470, hu47_00, -⟩ := hwu47
    have hqu47 : 0 ≤ (u47a 0) ∧ (u47a 0) ≤ 1400 := hqu470
    have hu47_0 : ∀ j : Nat, (-128) ≤ (u47b 0) j ∧ (u47b 0) j ≤ 127 := hu47_00
    clear hqu470 hu47_00
    have hP : va_P D vwCl [(t, .inr (11, oX11 t_q)), ((t_q 0), .inr (3, oX3 t_0_q t_0_x2 t_0_x3)), ((t_0_q 0), .inr (6, oX6 t_0_0_q (u47a 0) t_0_0_x2 t_0_0_x3 t_0_0_x4)), ((t_0_0_q 1), .inl (K 1, 1400, .inl (fun j => iI ((u47b 0) j))))] H := hP
    have hD : va_D A [(t, .inr (11, oX11 t_q)), ((t_q 0), .inr (3, oX3 t_0_q t_0_x2 t_0_x3)), ((t_0_q 0), .inr (6, oX6 t_0_0_q (u47a 0) t_0_0_x2 t_0_0_x3 t_0_0_x4)), ((t_0_0_q 1), .inl (K 1, 1400, .inl (fun j => iI ((u47b 0) j))))] := hD
    refine lv_aload hx hb dX11_feed_50 (lv_at hl 0 rfl) ?_
    refine lv_iload hx hb dX11_feed_52 (lv_at hl 6 rfl) ?_
    refine fn_gov (wc := [((t_0_q 0), .inr (6, oX6 t_0_0_q (u47a 0) t_0_0_x2 t_0_0_x3 t_0_0_x4)), ((t_0_0_q 1), .inl (K 1, 1400, .inl (fun j => iI ((u47b 0) j))))]) (wr := [(t, .inr (11, oX11 t_q)), ((t_q 0), .inr (3, oX3 t_0_q t_0_x2 t_0_x3))]) hK hP hD hS hA [2, 3] [0, 1] rfl rfl (by decide) (fun hp => va_runVN (C := RX6) (As := [.int (iI p5)]) (rest := []) ⟨hx, hb, hml, hown, hts⟩ (k_X6_put (l := l) (D := D) (K := K) (t := (t_0_q 0)) (p1 := p5) (t_q := t_0_0_q) (t_x0 := (u47a 0)) (t_x2 := t_0_0_x2) (t_x3 := t_0_0_x3) (t_x4 := t_0_0_x4) (t_1_c := (u47b 0)) (hp1 := (by omega)) (hi_t := ⟨(by omega), hi_t_0_0.2.1, hi_t_0_0.2.2.1, hi_t_0_0.2.2.2⟩) (hc_t_1 := hu47_0) _) ⟨va_cnB (own := RX11) 1 hts (fn_gin wd_469) rfl rfl rfl (hK.nw 93 rfl) (hts _ wd_3) (by decide +kernel) ⟨Nat.le_of_ble_eq_true rfl, Nat.le_of_ble_eq_true rfl⟩, hts _ wd_468, hts _ wp_0⟩ ⟨fn_blind, va_recv hK.1 hP (ci := 6) (q0 := 2) rfl rfl, hp⟩ rfl rfl hl.1 rfl (lv_room (Nat.le_of_ble_eq_true rfl)) dX11_feed_54 ⟨Nat.le_of_ble_eq_true rfl, Nat.le_of_ble_eq_true rfl⟩) (fun u54 H locs hwu54 hP hD hS => ?_)
    obtain ⟨u54a, u54b⟩ := u54
    obtain ⟨hqu540, hu54_00, -⟩ := hwu54
    have hqu54 : 0 ≤ (u54a 0) ∧ (u54a 0) ≤ 1400 := hqu540
    have hu54_0 : ∀ j : Nat, (-128) ≤ (u54b 0) j ∧ (u54b 0) j ≤ 127 := hu54_00
    clear hqu540 hu54_00
    have hP : va_P D vwCl [(t, .inr (11, oX11 t_q)), ((t_q 0), .inr (3, oX3 t_0_q t_0_x2 t_0_x3)), ((t_0_q 0), .inr (6, oX6 t_0_0_q (u54a 0) t_0_0_x2 t_0_0_x3 t_0_0_x4)), ((t_0_0_q 1), .inl (K 1, 1400, .inl (fun j => iI ((u54b 0) j))))] H := hP
    have hD : va_D A [(t, .inr (11, oX11 t_q)), ((t_q 0), .inr (3, oX3 t_0_q t_0_x2 t_0_x3)), ((t_0_q 0), .inr (6, oX6 t_0_0_q (u54a 0) t_0_0_x2 t_0_0_x3 t_0_0_x4)), ((t_0_0_q 1), .inl (K 1, 1400, .inl (fun j => iI ((u54b 0) j))))] := hD
    refine lv_aload hx hb dX11_feed_57 (lv_at hl 0 rfl) ?_
    refine va_getN (D := D) (own := RX11) (ci := 6) (v := .int (iI (u54a 0))) (C := RX6) (T := TX6) (N := 5) hx hb hts inb_X6 hown hK.1 hP 2 rfl rfl 0 (by decide) (hK.nf 2 rfl) (fun _ h9 => h9) rfl dX11_feed_59 ?_
    rw [hQ]; exact fn_iret hx hb hr hlocks rfl hP hD hS ((fun k => ([(u54a 0)] : List Int).getD k 0), (fun k => ([(u54b 0)] : List (Nat → Int)).getD k (fun _ => 0))) ⟨(u54a 0), rfl, by omega, (by show 0 ≤ (u54a 0) ∧ (u54a 0) ≤ 1400; omega), (hu54_0), trivial⟩ [0, 1, 2, 3] (by decide) rfl dX11_feed_62
  · refine lv_iconst (v := iI (-1)) hx hb dX11_feed_23 rfl ?_
    rw [hQ]; exact fn_iret hx hb hr hlocks rfl hP hD hS ((fun k => ([t_0_0_x0] : List Int).getD k 0), (fun k => ([t_0_0_1_c] : List (Nat → Int)).getD k (fun _ => 0))) ⟨(-1), rfl, by omega, (by show 0 ≤ t_0_0_x0 ∧ t_0_0_x0 ≤ 1400; omega), (hc_t_0_0_1), trivial⟩ [0, 1, 2, 3] (by decide) rfl dX11_feed_24
theorem dX11_end_0 : decode cX11_end 0 = .ok (.iload_n 1, 1) := by decide +kernel
theorem dX11_end_1 : decode cX11_end 1 = .ok (.ifCond .lt 17, 3) := by decide +kernel
theorem dX11_end_18 : decode cX11_end 18 = .ok (.iconst (-1), 1) := by decide +kernel
theorem dX11_end_19 : decode cX11_end 19 = .ok (.ireturn, 1) := by decide +kernel
theorem dX11_end_4 : decode cX11_end 4 = .ok (.iload_n 1, 1) := by decide +kernel
theorem dX11_end_5 : decode cX11_end 5 = .ok (.aload_n 0, 1) := by decide +kernel
theorem dX11_end_6 : decode cX11_end 6 = .ok (.getfield 10, 3) := by decide +kernel
theorem dX11_end_9 : decode cX11_end 9 = .ok (.getfield 87, 3) := by decide +kernel
theorem dX11_end_12 : decode cX11_end 12 = .ok (.getfield 91, 3) := by decide +kernel
theorem dX11_end_15 : decode cX11_end 15 = .ok (.if_icmp .le 5, 3) := by decide +kernel
theorem dX11_end_20 : decode cX11_end 20 = .ok (.aload_n 0, 1) := by decide +kernel
theorem dX11_end_21 : decode cX11_end 21 = .ok (.getfield 10, 3) := by decide +kernel
theorem dX11_end_24 : decode cX11_end 24 = .ok (.getfield 87, 3) := by decide +kernel
theorem dX11_end_27 : decode cX11_end 27 = .ok (.iload_n 1, 1) := by decide +kernel
theorem dX11_end_28 : decode cX11_end 28 = .ok (.putfield 91, 3) := by decide +kernel
theorem dX11_end_31 : decode cX11_end 31 = .ok (.iload_n 1, 1) := by decide +kernel
theorem dX11_end_32 : decode cX11_end 32 = .ok (.ireturn, 1) := by decide +kernel
set_option maxHeartbeats 4000000 in
set_option maxRecDepth 100000 in
theorem k_X11_end (l : Launch) (D : va_G) (K : Nat → ClassId) (t : Nat) (t_q t_0_q t_0_0_q : Nat → Nat) (p1 t_0_x2 t_0_x3 t_0_0_x0 t_0_0_x2 t_0_0_x3 t_0_0_x4 : Int) (hp1 : (-2147483648) ≤ p1 ∧ p1 ≤ 2147483647) (hi_t_0 : bX3 t_0_x2 t_0_x3) (hi_t_0_0 : bX6 t_0_0_x0 t_0_0_x2 t_0_0_x3 t_0_0_x4) : fn_CI (S := (Nat → Int) × (Nat → Nat → Int)) l D K yX11_end (fn_ws yX11_end cX11_end 2 (some .int)) ({ frames := 4, cells := 0, slots := 0, locals := 100 } : Room) [.ref t, .int (iI p1)] [(t, .inr (11, oX11 t_q)), ((t_q 0), .inr (3, oX3 t_0_q t_0_x2 t_0_x3)), ((t_0_q 0), .inr (6, oX6 t_0_0_q t_0_0_x0 t_0_0_x2 t_0_0_x3 t_0_0_x4))] (fun r u => ∃ k : Int, r = iI k ∧ ((-1) ≤ k ∧ k ≤ 1400) ∧ (0 ≤ (u.1 0) ∧ (u.1 0) ≤ 1400) ∧ True) (fun u => [(t, .inr (11, oX11 t_q)), ((t_q 0), .inr (3, oX3 t_0_q t_0_x2 t_0_x3)), ((t_0_q 0), .inr (6, oX6 t_0_0_q (u.1 0) t_0_0_x2 t_0_0_x3 t_0_0_x4))]) 0 0 := by
  refine g_inI (cc := cX11_end) (maxL := 2) (ret := (some .int)) (by decide) rfl (Nat.le_of_ble_eq_true rfl) ?_
  intro p e s m below meth c A ls ag Q B hA hP hD hS hl hQ
  obtain ⟨hx, hb, hr, hml, hts, hown, hlocks, hin, hK⟩ := B
  have hown : s.vm.findClass RX11 = some m.cls := hown
  have hts := fun w h => hts w (List.mem_cons_of_mem _ h)
  have hl : lv_has ls 2 [(0, .ref t), (1, .int (iI p1))] := hl
  refine lv_iload_n hx hb dX11_end_0 rfl (lv_at hl 1 rfl) ?_
  refine g_if_lt (tgt := 18) hx hb (by omega) dX11_end_1 (by decide) (fun c1 => ?_) (fun c1 => ?_)
  · refine lv_iconst (v := iI (-1)) hx hb dX11_end_18 rfl ?_
    have y19_1 : 0 ≤ t_0_0_x0 ∧ t_0_0_x0 ≤ 1400 := hi_t_0_0.1
    rw [hQ]; exact fn_iret hx hb hr hlocks rfl hP hD hS ((fun k => ([t_0_0_x0] : List Int).getD k 0), (fun _ _ => 0)) ⟨(-1), rfl, by omega, (by show 0 ≤ t_0_0_x0 ∧ t_0_0_x0 ≤ 1400; omega), trivial⟩ [0, 1, 2] (by decide) rfl dX11_end_19
  · refine lv_iload_n hx hb dX11_end_4 rfl (lv_at hl 1 rfl) ?_
    refine lv_aload_n hx hb dX11_end_5 rfl (lv_at hl 0 rfl) ?_
    refine va_get (D := D) (own := RX11) (ci := 11) (v := .ref (t_q 0)) (C := RX11) (T := TX11) (N := 13) hx hb hts inb_X11 hown hK.1 hP 0 rfl rfl 0 (by decide) (hts _ wd_422) (fun _ h9 => h9) rfl dX11_end_6 ?_
    refine va_getN (D := D) (own := RX11) (ci := 3) (v := .ref (t_0_q 0)) (C := RX3) (T := TX3) (N := 4) hx hb hts inb_X3 hown hK.1 hP 1 rfl rfl 0 (by decide) (hK.nf 50 rfl) (fun _ h9 => h9) rfl dX11_end_9 ?_
    refine va_getN (D := D) (own := RX11) (ci := 6) (v := .int (iI t_0_0_x0)) (C := RX6) (T := TX6) (N := 5) hx hb hts inb_X6 hown hK.1 hP 2 rfl rfl 0 (by decide) (hK.nf 2 rfl) (fun _ h9 => h9) rfl dX11_end_12 ?_
    have y12_1 : 0 ≤ t_0_0_x0 ∧ t_0_0_x0 ≤ 1400 := hi_t_0_0.1
    refine g_icmp_le (tgt := 20) hx hb (by omega) (by omega) dX11_end_15 (by decide) (fun c15 => ?_) (fun c15 => ?_)
    · refine lv_aload_n hx hb dX11_end_20 rfl (lv_at hl 0 rfl) ?_
      refine va_get (D := D) (own := RX11) (ci := 11) (v := .ref (t_q 0)) (C := RX11) (T := TX11) (N := 13) hx hb hts inb_X11 hown hK.1 hP 0 rfl rfl 0 (by decide) (hts _ wd_422) (fun _ h9 => h9) rfl dX11_end_21 ?_
      refine va_getN (D := D) (own := RX11) (ci := 3) (v := .ref (t_0_q 0)) (C := RX3) (T := TX3) (N := 4) hx hb hts inb_X3 hown hK.1 hP 1 rfl rfl 0 (by decide) (hK.nf 50 rfl) (fun _ h9 => h9) rfl dX11_end_24 ?_
      refine lv_iload_n hx hb dX11_end_27 rfl (lv_at hl 1 rfl) ?_
      refine va_putN (D := D) (own := RX11) (ci := 6) (v := .int (iI p1)) (ty := .int) (C := RX6) (T := TX6) (N := 5) hx hb hts inb_X6 tyX6 tyX6_ok nmX6 hown hK.1 hP hD hS 2 rfl rfl 0 (by decide) (hK.nf 2 rfl) (fun _ h9 => h9) rfl (by decide +kernel) rfl rfl (Nat.le_of_ble_eq_true rfl) dX11_end_28 (fun H locs hP hD hS => ?_)
      have hP : va_P D vwCl [(t, .inr (11, oX11 t_q)), ((t_q 0), .inr (3, oX3 t_0_q t_0_x2 t_0_x3)), ((t_0_q 0), .inr (6, oX6 t_0_0_q p1 t_0_0_x2 t_0_0_x3 t_0_0_x4))] H := hP
      have hD : va_D A [(t, .inr (11, oX11 t_q)), ((t_q 0), .inr (3, oX3 t_0_q t_0_x2 t_0_x3)), ((t_0_q 0), .inr (6, oX6 t_0_0_q p1 t_0_0_x2 t_0_0_x3 t_0_0_x4))] := hD
      refine lv_iload_n hx hb dX11_end_31 rfl (lv_at hl 1 rfl) ?_
      rw [hQ]; exact fn_iret hx hb hr hlocks rfl hP hD hS ((fun k => ([p1] : List Int).getD k 0), (fun _ _ => 0)) ⟨p1, rfl, by omega, (by show 0 ≤ p1 ∧ p1 ≤ 1400; omega), trivial⟩ [0, 1, 2] (by decide) rfl dX11_end_32
    · refine lv_iconst (v := iI (-1)) hx hb dX11_end_18 rfl ?_
      rw [hQ]; exact fn_iret hx hb hr hlocks rfl hP hD hS ((fun k => ([t_0_0_x0] : List Int).getD k 0), (fun _ _ => 0)) ⟨(-1), rfl, by omega, (by show 0 ≤ t_0_0_x0 ∧ t_0_0_x0 ≤ 1400; omega), trivial⟩ [0, 1, 2] (by decide) rfl dX11_end_19
theorem wd_429 : Cond.fieldLink "FootNotes" 51 "FootNotes" "web" "LFootNotes$Web;" ∈ fn_big := fn_tb (fn_l2 (List.mem_of_getElem? (i := 189) (by decide +kernel))) (by decide +kernel)
theorem wd_423 : Cond.fieldLink "FootNotes" 19 "FootNotes" "text" "LFootNotes$Text;" ∈ fn_big := fn_tb (fn_l2 (List.mem_of_getElem? (i := 183) (by decide +kernel))) (by decide +kernel)
theorem wd_424 : Cond.fieldLink "FootNotes" 26 "FootNotes" "shelf" "LFootNotes$Shelf;" ∈ fn_big := fn_tb (fn_l2 (List.mem_of_getElem? (i := 184) (by decide +kernel))) (by decide +kernel)
theorem wd_639 : Cond.code ⟨"FootNotes$Web", "weave", "(LFootNotes$Text;LFootNotes$Shelf;I)V"⟩ prog_12_method_2_code 8 (Option.none : Option Jvm.ClassFile.FieldType) ∈ fn_big := fn_tb (fn_l3 (List.mem_of_getElem? (i := 159) (by decide +kernel))) (by decide +kernel)
theorem wd_638 : Cond.instanceMethod ⟨"FootNotes$Web", "weave", "(LFootNotes$Text;LFootNotes$Shelf;I)V"⟩ ∈ fn_big := fn_tb (fn_l3 (List.mem_of_getElem? (i := 158) (by decide +kernel))) (by decide +kernel)
theorem wp_22 : Cond.selects "FootNotes$Web" ⟨"FootNotes$Web", "weave", "(LFootNotes$Text;LFootNotes$Shelf;I)V"⟩ ⟨"FootNotes$Web", "weave", "(LFootNotes$Text;LFootNotes$Shelf;I)V"⟩ ∈ fn_big := fn_sel (q := (⟨"FootNotes$Web", "weave", "(LFootNotes$Text;LFootNotes$Shelf;I)V"⟩, 7)) 22 (by decide +kernel) (by decide +kernel)
theorem dX11_settle_0 : decode cX11_settle 0 = .ok (.aload_n 0, 1) := by decide +kernel
theorem dX11_settle_1 : decode cX11_settle 1 = .ok (.getfield 51, 3) := by decide +kernel
theorem dX11_settle_4 : decode cX11_settle 4 = .ok (.aload_n 0, 1) := by decide +kernel
theorem dX11_settle_5 : decode cX11_settle 5 = .ok (.getfield 19, 3) := by decide +kernel
theorem dX11_settle_8 : decode cX11_settle 8 = .ok (.aload_n 0, 1) := by decide +kernel
theorem dX11_settle_9 : decode cX11_settle 9 = .ok (.getfield 26, 3) := by decide +kernel
theorem dX11_settle_12 : decode cX11_settle 12 = .ok (.iconst 0, 1) := by decide +kernel
theorem dX11_settle_13 : decode cX11_settle 13 = .ok (.invokevirtual 126, 3) := by decide +kernel
theorem dX11_settle_16 : decode cX11_settle 16 = .ok (.return_, 1) := by decide +kernel
set_option maxHeartbeats 4000000 in
set_option maxRecDepth 100000 in
theorem k_X11_settle (l : Launch) (D : va_G) (K : Nat → ClassId) (t : Nat) (t_q t_7_q t_1_q t_2_q : Nat → Nat) (t_7_x0 t_7_x1 t_7_x6 t_1_x0 t_1_x1 t_1_x2 t_1_x3 t_1_x4 t_1_x5 t_1_x6 t_1_x7 t_1_x8 t_2_x0 : Int) (t_7_2_c : Nat → Int) (t_2_1_c : Nat → Int) (t_2_2_c : Nat → Int) (t_7_4_c : Nat → Int) (t_1_12_c : Nat → Int) (t_2_3_c : Nat → Int) (t_1_13_c : Nat → Int) (t_7_3_c : Nat → Int) (hi_t_7 : bX10 t_7_x0 t_7_x1 t_7_x6) (hi_t_1 : bX7 t_1_x0 t_1_x1 t_1_x2 t_1_x3 t_1_x4 t_1_x5 t_1_x6 t_1_x7 t_1_x8) (hc_t_7_2 : ∀ j : Nat, (-1) ≤ t_7_2_c j ∧ t_7_2_c j ≤ 149) (hi_t_2 : bX5 t_2_x0) (hc_t_2_1 : ∀ j : Nat, (-1000) ≤ t_2_1_c j ∧ t_2_1_c j ≤ 30) (hc_t_2_2 : ∀ j : Nat, (-4) ≤ t_2_2_c j ∧ t_2_2_c j ≤ 11) (hc_t_7_4 : ∀ j : Nat, 0 ≤ t_7_4_c j ∧ t_7_4_c j ≤ 4095) (hc_t_1_12 : ∀ j : Nat, 0 ≤ t_1_12_c j ∧ t_1_12_c j ≤ 11) (hc_t_2_3 : ∀ j : Nat, 0 ≤ t_2_3_c j ∧ t_2_3_c j ≤ 29) (hc_t_1_13 : ∀ j : Nat, 0 ≤ t_1_13_c j ∧ t_1_13_c j ≤ 4) (hc_t_7_3 : ∀ j : Nat, (-1) ≤ t_7_3_c j ∧ t_7_3_c j ≤ 11) : fn_CV (S := (Nat → Int) × (Nat → Nat → Int)) l D K yX11_settle (fn_ws yX11_settle cX11_settle 1 none) ({ frames := 16, cells := 0, slots := 0, locals := 400 } : Room) [.ref t] [(t, .inr (11, oX11 t_q)), ((t_q 7), .inr (10, oX10 t_7_q t_7_x0 t_7_x1 t_7_x6)), ((t_q 1), .inr (7, oX7 t_1_q t_1_x0 t_1_x1 t_1_x2 t_1_x3 t_1_x4 t_1_x5 t_1_x6 t_1_x7 t_1_x8)), ((t_7_q 2), .inl (K 0, 12, .inl (fun j => iI (t_7_2_c j)))), ((t_q 2), .inr (5, oX5 t_2_q t_2_x0)), ((t_2_q 1), .inl (K 0, 5, .inl (fun j => iI (t_2_1_c j)))), ((t_2_q 2), .inl (K 0, 150, .inl (fun j => iI (t_2_2_c j)))), ((t_7_q 4), .inl (K 0, 12, .inl (fun j => iI (t_7_4_c j)))), ((t_1_q 12), .inl (K 0, 24, .inl (fun j => iI (t_1_12_c j)))), ((t_2_q 3), .inl (K 0, 24, .inl (fun j => iI (t_2_3_c j)))), ((t_1_q 13), .inl (K 0, 24, .inl (fun j => iI (t_1_13_c j)))), ((t_7_q 3), .inl (K 0, 24, .inl (fun j => iI (t_7_3_c j))))] (fun u => (0 ≤ (u.1 0) ∧ (u.1 0) ≤ 12 ∧ 0 ≤ (u.1 1) ∧ (u.1 1) ≤ 4095) ∧ (∀ j : Nat, (-1) ≤ (u.2 0) j ∧ (u.2 0) j ≤ 149) ∧ (∀ j : Nat, (-1) ≤ (u.2 1) j ∧ (u.2 1) j ≤ 11) ∧ (∀ j : Nat, 0 ≤ (u.2 2) j ∧ (u.2 2) j ≤ 4095) ∧ True) (fun u => [(t, .inr (11, oX11 t_q)), ((t_q 7), .inr (10, oX10 t_7_q (u.1 0) (u.1 1) t_7_x6)), ((t_q 1), .inr (7, oX7 t_1_q t_1_x0 t_1_x1 t_1_x2 t_1_x3 t_1_x4 t_1_x5 t_1_x6 t_1_x7 t_1_x8)), ((t_7_q 2), .inl (K 0, 12, .inl (fun j => iI ((u.2 0) j)))), ((t_q 2), .inr (5, oX5 t_2_q t_2_x0)), ((t_2_q 1), .inl (K 0, 5, .inl (fun j => iI (t_2_1_c j)))), ((t_2_q 2), .inl (K 0, 150, .inl (fun j => iI (t_2_2_c j)))), ((t_7_q 4), .inl (K 0, 12, .inl (fun j => iI ((u.2 2) j)))), ((t_1_q 12), .inl (K 0, 24, .inl (fun j => iI (t_1_12_c j)))), ((t_2_q 3), .inl (K 0, 24, .inl (fun j => iI (t_2_3_c j)))), ((t_1_q 13), .inl (K 0, 24, .inl (fun j => iI (t_1_13_c j)))), ((t_7_q 3), .inl (K 0, 24, .inl (fun j => iI ((u.2 1) j))))]) 0 0 := by
  refine g_inV (cc := cX11_settle) (maxL := 1) (ret := none) (by decide) rfl (Nat.le_of_ble_eq_true rfl) ?_
  intro p e s m below meth c A ls ag Q B hA hP hD hS hl hQ
  obtain ⟨hx, hb, hr, hml, hts, hown, hlocks, hin, hK⟩ := B
  have hown : s.vm.findClass RX11 = some m.cls := hown
  have hts := fun w h => hts w (List.mem_cons_of_mem _ h)
  have hl : lv_has ls 1 [(0, .ref t)] := hl
  refine lv_aload_n hx hb dX11_settle_0 rfl (lv_at hl 0 rfl) ?_
  refine va_get (D := D) (own := RX11) (ci := 11) (v := .ref (t_q 7)) (C := RX11) (T := TX11) (N := 13) hx hb hts inb_X11 hown hK.1 hP 0 rfl rfl 7 (by decide) (hts _ wd_429) (fun _ h9 => h9) rfl dX11_settle_1 ?_
  refine lv_aload_n hx hb dX11_settle_4 rfl (lv_at hl 0 rfl) ?_
  refine va_get (D := D) (own := RX11) (ci := 11) (v := .ref (t_q 1)) (C := RX11) (T := TX11) (N := 13) hx hb hts inb_X11 hown hK.1 hP 0 rfl rfl 1 (by decide) (hts _ wd_423) (fun _ h9 => h9) rfl dX11_settle_5 ?_
  refine lv_aload_n hx hb dX11_settle_8 rfl (lv_at hl 0 rfl) ?_
  refine va_get (D := D) (own := RX11) (ci := 11) (v := .ref (t_q 2)) (C := RX11) (T := TX11) (N := 13) hx hb hts inb_X11 hown hK.1 hP 0 rfl rfl 2 (by decide) (hts _ wd_424) (fun _ h9 => h9) rfl dX11_settle_9 ?_
  refine lv_iconst (v := iI 0) hx hb dX11_settle_12 rfl ?_
  refine fn_gov (wc := [((t_q 1), .inr (7, oX7 t_1_q t_1_x0 t_1_x1 t_1_x2 t_1_x3 t_1_x4 t_1_x5 t_1_x6 t_1_x7 t_1_x8)), ((t_q 7), .inr (10, oX10 t_7_q t_7_x0 t_7_x1 t_7_x6)), ((t_7_q 2), .inl (K 0, 12, .inl (fun j => iI (t_7_2_c j)))), ((t_q 2), .inr (5, oX5 t_2_q t_2_x0)), ((t_2_q 1), .inl (K 0, 5, .inl (fun j => iI (t_2_1_c j)))), ((t_2_q 2), .inl (K 0, 150, .inl (fun j => iI (t_2_2_c j)))), ((t_7_q 4), .inl (K 0, 12, .inl (fun j => iI (t_7_4_c j)))), ((t_1_q 12), .inl (K 0, 24, .inl (fun j => iI (t_1_12_c j)))), ((t_2_q 3), .inl (K 0, 24, .inl (fun j => iI (t_2_3_c j)))), ((t_1_q 13), .inl (K 0, 24, .inl (fun j => iI (t_1_13_c j)))), ((t_7_q 3), .inl (K 0, 24, .inl (fun j => iI (t_7_3_c j))))]) (wr := [(t, .inr (11, oX11 t_q))]) hK hP hD hS hA [2, 1, 3, 4, 5, 6, 7, 8, 9, 10, 11] [0] rfl rfl (by decide) (fun hp => va_runVN (C := RX10) (As := [.ref (t_q 1), .ref (t_q 2), .int (iI 0)]) (rest := []) ⟨hx, hb, hml, hown, hts⟩ (k_X10_weave (l := l) (D := D) (K := K) (t := (t_q 7)) (a1 := (t_q 1)) (a2 := (t_q 2)) (p3 := 0) (a1_q := t_1_q) (a1_x0 := t_1_x0) (a1_x1 := t_1_x1) (a1_x2 := t_1_x2) (a1_x3 := t_1_x3) (a1_x4 := t_1_x4) (a1_x5 := t_1_x5) (a1_x6 := t_1_x6) (a1_x7 := t_1_x7) (a1_x8 := t_1_x8) (t_q := t_7_q) (t_x0 := t_7_x0) (t_x1 := t_7_x1) (t_x6 := t_7_x6) (t_2_c := t_7_2_c) (a2_q := t_2_q) (a2_x0 := t_2_x0) (a2_1_c := t_2_1_c) (a2_2_c := t_2_2_c) (t_4_c := t_7_4_c) (a1_12_c := t_1_12_c) (a2_3_c := t_2_3_c) (a1_13_c := t_1_13_c) (t_3_c := t_7_3_c) (hp3 := (by omega)) (hi_a1 := hi_t_1) (hi_t := hi_t_7) (hc_t_2 := hc_t_7_2) (hi_a2 := hi_t_2) (hc_a2_1 := hc_t_2_1) (hc_a2_2 := hc_t_2_2) (hc_t_4 := hc_t_7_4) (hc_a1_12 := hc_t_1_12) (hc_a2_3 := hc_t_2_3) (hc_a1_13 := hc_t_1_13) (hc_t_3 := hc_t_7_3) _) ⟨va_cnB (own := RX11) 3 hts (fn_gin wd_639) rfl rfl rfl (hK.nw 106 rfl) (hts _ wd_6) (by decide +kernel) ⟨Nat.le_of_ble_eq_true rfl, Nat.le_of_ble_eq_true rfl⟩, hts _ wd_638, hts _ wp_22⟩ ⟨fn_blind, va_recv hK.1 hP (ci := 10) (q0 := 1) rfl rfl, hp⟩ rfl rfl hl.1 rfl (lv_room (Nat.le_of_ble_eq_true rfl)) dX11_settle_13 ⟨Nat.le_of_ble_eq_true rfl, Nat.le_of_ble_eq_true rfl⟩) (fun u13 H locs hwu13 hP hD hS => ?_)
  obtain ⟨u13a, u13b⟩ := u13
  obtain ⟨hqu130, hu13_00, hu13_10, hu13_20, -⟩ := hwu13
  have hqu13 : 0 ≤ (u13a 0) ∧ (u13a 0) ≤ 12 ∧ 0 ≤ (u13a 1) ∧ (u13a 1) ≤ 4095 := hqu130
  have hu13_0 : ∀ j : Nat, (-1) ≤ (u13b 0) j ∧ (u13b 0) j ≤ 149 := hu13_00
  have hu13_1 : ∀ j : Nat, (-1) ≤ (u13b 1) j ∧ (u13b 1) j ≤ 11 := hu13_10
  have hu13_2 : ∀ j : Nat, 0 ≤ (u13b 2) j ∧ (u13b 2) j ≤ 4095 := hu13_20
  clear hqu130 hu13_00 hu13_10 hu13_20
  have hP : va_P D vwCl [(t, .inr (11, oX11 t_q)), ((t_q 1), .inr (7, oX7 t_1_q t_1_x0 t_1_x1 t_1_x2 t_1_x3 t_1_x4 t_1_x5 t_1_x6 t_1_x7 t_1_x8)), ((t_q 7), .inr (10, oX10 t_7_q (u13a 0) (u13a 1) t_7_x6)), ((t_7_q 2), .inl (K 0, 12, .inl (fun j => iI ((u13b 0) j)))), ((t_q 2), .inr (5, oX5 t_2_q t_2_x0)), ((t_2_q 1), .inl (K 0, 5, .inl (fun j => iI (t_2_1_c j)))), ((t_2_q 2), .inl (K 0, 150, .inl (fun j => iI (t_2_2_c j)))), ((t_7_q 4), .inl (K 0, 12, .inl (fun j => iI ((u13b 2) j)))), ((t_1_q 12), .inl (K 0, 24, .inl (fun j => iI (t_1_12_c j)))), ((t_2_q 3), .inl (K 0, 24, .inl (fun j => iI (t_2_3_c j)))), ((t_1_q 13), .inl (K 0, 24, .inl (fun j => iI (t_1_13_c j)))), ((t_7_q 3), .inl (K 0, 24, .inl (fun j => iI ((u13b 1) j))))] H := hP
  have hD : va_D A [(t, .inr (11, oX11 t_q)), ((t_q 1), .inr (7, oX7 t_1_q t_1_x0 t_1_x1 t_1_x2 t_1_x3 t_1_x4 t_1_x5 t_1_x6 t_1_x7 t_1_x8)), ((t_q 7), .inr (10, oX10 t_7_q (u13a 0) (u13a 1) t_7_x6)), ((t_7_q 2), .inl (K 0, 12, .inl (fun j => iI ((u13b 0) j)))), ((t_q 2), .inr (5, oX5 t_2_q t_2_x0)), ((t_2_q 1), .inl (K 0, 5, .inl (fun j => iI (t_2_1_c j)))), ((t_2_q 2), .inl (K 0, 150, .inl (fun j => iI (t_2_2_c j)))), ((t_7_q 4), .inl (K 0, 12, .inl (fun j => iI ((u13b 2) j)))), ((t_1_q 12), .inl (K 0, 24, .inl (fun j => iI (t_1_12_c j)))), ((t_2_q 3), .inl (K 0, 24, .inl (fun j => iI (t_2_3_c j)))), ((t_1_q 13), .inl (K 0, 24, .inl (fun j => iI (t_1_13_c j)))), ((t_7_q 3), .inl (K 0, 24, .inl (fun j => iI ((u13b 1) j))))] := hD
  rw [hQ]; exact fn_vret hx hb hr hlocks hP hD hS ((fun k => ([(u13a 0), (u13a 1)] : List Int).getD k 0), (fun k => ([(u13b 0), (u13b 1), (u13b 2)] : List (Nat → Int)).getD k (fun _ => 0))) ⟨(by show 0 ≤ (u13a 0) ∧ (u13a 0) ≤ 12 ∧ 0 ≤ (u13a 1) ∧ (u13a 1) ≤ 4095; omega), (hu13_0), (hu13_1), (hu13_2), trivial⟩ [0, 2, 1, 3, 4, 5, 6, 7, 8, 9, 10, 11] (by decide) rfl dX11_settle_16
theorem wd_481 : Cond.code ⟨"FootNotes$Reader", "readLines", "()V"⟩ prog_5_method_2_code 2 (Option.none : Option Jvm.ClassFile.FieldType) ∈ fn_big := fn_tb (fn_l3 (List.mem_of_getElem? (i := 1) (by decide +kernel))) (by decide +kernel)
theorem wd_480 : Cond.instanceMethod ⟨"FootNotes$Reader", "readLines", "()V"⟩ ∈ fn_big := fn_tb (fn_l3 (List.mem_of_getElem? (i := 0) (by decide +kernel))) (by decide +kernel)
theorem wp_1 : Cond.selects "FootNotes$Reader" ⟨"FootNotes$Reader", "readLines", "()V"⟩ ⟨"FootNotes$Reader", "readLines", "()V"⟩ ∈ fn_big := fn_sel (q := (⟨"FootNotes$Reader", "readLines", "()V"⟩, 4)) 1 (by decide +kernel) (by decide +kernel)
theorem wd_619 : Cond.code ⟨"FootNotes$Text", "copyFrom", "(LFootNotes$Text;)V"⟩ prog_9_method_3_code 2 (Option.none : Option Jvm.ClassFile.FieldType) ∈ fn_big := fn_tb (fn_l3 (List.mem_of_getElem? (i := 139) (by decide +kernel))) (by decide +kernel)
theorem wd_618 : Cond.instanceMethod ⟨"FootNotes$Text", "copyFrom", "(LFootNotes$Text;)V"⟩ ∈ fn_big := fn_tb (fn_l3 (List.mem_of_getElem? (i := 138) (by decide +kernel))) (by decide +kernel)
theorem wp_18 : Cond.selects "FootNotes$Text" ⟨"FootNotes$Text", "copyFrom", "(LFootNotes$Text;)V"⟩ ⟨"FootNotes$Text", "copyFrom", "(LFootNotes$Text;)V"⟩ ∈ fn_big := fn_sel (q := (⟨"FootNotes$Text", "copyFrom", "(LFootNotes$Text;)V"⟩, 15)) 18 (by decide +kernel) (by decide +kernel)
theorem wd_626 : Cond.code ⟨"FootNotes$Shelf", "lay", "(LFootNotes$Text;)V"⟩ prog_7_method_2_code 4 (Option.none : Option Jvm.ClassFile.FieldType) ∈ fn_big := fn_tb (fn_l3 (List.mem_of_getElem? (i := 146) (by decide +kernel))) (by decide +kernel)
theorem wd_625 : Cond.instanceMethod ⟨"FootNotes$Shelf", "lay", "(LFootNotes$Text;)V"⟩ ∈ fn_big := fn_tb (fn_l3 (List.mem_of_getElem? (i := 145) (by decide +kernel))) (by decide +kernel)
theorem wp_19 : Cond.selects "FootNotes$Shelf" ⟨"FootNotes$Shelf", "lay", "(LFootNotes$Text;)V"⟩ ⟨"FootNotes$Shelf", "lay", "(LFootNotes$Text;)V"⟩ ∈ fn_big := fn_sel (q := (⟨"FootNotes$Shelf", "lay", "(LFootNotes$Text;)V"⟩, 8)) 19 (by decide +kernel) (by decide +kernel)
theorem wd_635 : Cond.code ⟨"FootNotes", "settle", "()V"⟩ prog_1_method_6_code 1 (Option.none : Option Jvm.ClassFile.FieldType) ∈ fn_big := fn_tb (fn_l3 (List.mem_of_getElem? (i := 155) (by decide +kernel))) (by decide +kernel)
theorem wd_632 : Cond.methodLink "FootNotes" 117 ⟨"FootNotes", "settle", "()V"⟩ ∈ fn_big := fn_tb (fn_l3 (List.mem_of_getElem? (i := 152) (by decide +kernel))) (by decide +kernel)
theorem wd_634 : Cond.instanceMethod ⟨"FootNotes", "settle", "()V"⟩ ∈ fn_big := fn_tb (fn_l3 (List.mem_of_getElem? (i := 154) (by decide +kernel))) (by decide +kernel)
theorem wp_21 : Cond.selects "FootNotes" ⟨"FootNotes", "settle", "()V"⟩ ⟨"FootNotes", "settle", "()V"⟩ ∈ fn_big := fn_sel (q := (⟨"FootNotes", "settle", "()V"⟩, 13)) 21 (by decide +kernel) (by decide +kernel)
theorem dX11_town_0 : decode cX11_town 0 = .ok (.aload_n 0, 1) := by decide +kernel
theorem dX11_town_1 : decode cX11_town 1 = .ok (.getfield 10, 3) := by decide +kernel
theorem dX11_town_4 : decode cX11_town 4 = .ok (.invokevirtual 101, 3) := by decide +kernel
theorem dX11_town_7 : decode cX11_town 7 = .ok (.aload_n 0, 1) := by decide +kernel
theorem dX11_town_8 : decode cX11_town 8 = .ok (.getfield 10, 3) := by decide +kernel
theorem dX11_town_11 : decode cX11_town 11 = .ok (.getfield 104, 3) := by decide +kernel
theorem dX11_town_14 : decode cX11_town 14 = .ok (.ifCond .eq 6, 3) := by decide +kernel
theorem dX11_town_20 : decode cX11_town 20 = .ok (.aload_n 0, 1) := by decide +kernel
theorem dX11_town_21 : decode cX11_town 21 = .ok (.getfield 10, 3) := by decide +kernel
theorem dX11_town_24 : decode cX11_town 24 = .ok (.getfield 87, 3) := by decide +kernel
theorem dX11_town_27 : decode cX11_town 27 = .ok (.iconst 0, 1) := by decide +kernel
theorem dX11_town_28 : decode cX11_town 28 = .ok (.putfield 91, 3) := by decide +kernel
theorem dX11_town_31 : decode cX11_town 31 = .ok (.aload_n 0, 1) := by decide +kernel
theorem dX11_town_32 : decode cX11_town 32 = .ok (.getfield 19, 3) := by decide +kernel
theorem dX11_town_35 : decode cX11_town 35 = .ok (.aload_n 0, 1) := by decide +kernel
theorem dX11_town_36 : decode cX11_town 36 = .ok (.getfield 10, 3) := by decide +kernel
theorem dX11_town_39 : decode cX11_town 39 = .ok (.getfield 107, 3) := by decide +kernel
theorem dX11_town_42 : decode cX11_town 42 = .ok (.invokevirtual 110, 3) := by decide +kernel
theorem dX11_town_45 : decode cX11_town 45 = .ok (.aload_n 0, 1) := by decide +kernel
theorem dX11_town_46 : decode cX11_town 46 = .ok (.getfield 26, 3) := by decide +kernel
theorem dX11_town_49 : decode cX11_town 49 = .ok (.aload_n 0, 1) := by decide +kernel
theorem dX11_town_50 : decode cX11_town 50 = .ok (.getfield 19, 3) := by decide +kernel
theorem dX11_town_53 : decode cX11_town 53 = .ok (.invokevirtual 114, 3) := by decide +kernel
theorem dX11_town_56 : decode cX11_town 56 = .ok (.aload_n 0, 1) := by decide +kernel
theorem dX11_town_57 : decode cX11_town 57 = .ok (.invokevirtual 117, 3) := by decide +kernel
theorem dX11_town_60 : decode cX11_town 60 = .ok (.aload_n 0, 1) := by decide +kernel
theorem dX11_town_61 : decode cX11_town 61 = .ok (.getfield 19, 3) := by decide +kernel
theorem dX11_town_64 : decode cX11_town 64 = .ok (.getfield 120, 3) := by decide +kernel
theorem dX11_town_67 : decode cX11_town 67 = .ok (.ireturn, 1) := by decide +kernel
theorem dX11_town_17 : decode cX11_town 17 = .ok (.bipush (-4), 2) := by decide +kernel
theorem dX11_town_19 : decode cX11_town 19 = .ok (.ireturn, 1) := by decide +kernel
set_option maxHeartbeats 4000000 in
set_option maxRecDepth 100000 in
theorem k_X11_town (l : Launch) (D : va_G) (K : Nat → ClassId) (adK adV : Nat → Nat) (t : Nat) (t_q t_0_q t_0_1_q t_0_0_q t_1_q t_2_q t_7_q : Nat → Nat) (t_0_x2 t_0_x3 t_0_1_x0 t_0_1_x1 t_0_1_x2 t_0_1_x3 t_0_1_x4 t_0_1_x5 t_0_1_x6 t_0_1_x7 t_0_1_x8 t_0_0_x0 t_0_0_x2 t_0_0_x3 t_0_0_x4 t_1_x0 t_1_x1 t_1_x2 t_1_x3 t_1_x4 t_1_x5 t_1_x6 t_1_x7 t_1_x8 t_2_x0 t_7_x0 t_7_x1 t_7_x6 : Int) (t_0_0_1_c : Nat → Int) (t_0_1_12_c : Nat → Int) (t_0_1_13_c : Nat → Int) (t_0_1_14_c : Nat → Int) (t_0_1_9_c : Nat → Int) (t_0_1_10_c : Nat → Int) (t_0_1_11_c : Nat → Int) (t_1_9_c : Nat → Int) (t_1_10_c : Nat → Int) (t_1_11_c : Nat → Int) (t_1_12_c : Nat → Int) (t_1_13_c : Nat → Int) (t_1_14_c : Nat → Int) (t_2_3_c : Nat → Int) (t_2_1_c : Nat → Int) (t_2_2_c : Nat → Int) (t_7_2_c : Nat → Int) (t_7_4_c : Nat → Int) (t_7_3_c : Nat → Int) (hi_t_0 : bX3 t_0_x2 t_0_x3) (hi_t_0_1 : bX7 t_0_1_x0 t_0_1_x1 t_0_1_x2 t_0_1_x3 t_0_1_x4 t_0_1_x5 t_0_1_x6 t_0_1_x7 t_0_1_x8) (hi_t_0_0 : bX6 t_0_0_x0 t_0_0_x2 t_0_0_x3 t_0_0_x4) (hc_t_0_0_1 : ∀ j : Nat, (-128) ≤ t_0_0_1_c j ∧ t_0_0_1_c j ≤ 127) (hc_t_0_1_12 : ∀ j : Nat, 0 ≤ t_0_1_12_c j ∧ t_0_1_12_c j ≤ 11) (hc_t_0_1_13 : ∀ j : Nat, 0 ≤ t_0_1_13_c j ∧ t_0_1_13_c j ≤ 4) (hc_t_0_1_14 : ∀ j : Nat, 0 ≤ t_0_1_14_c j ∧ t_0_1_14_c j ≤ 29) (hc_t_0_1_9 : ∀ j : Nat, 0 ≤ t_0_1_9_c j ∧ t_0_1_9_c j ≤ 4) (hc_t_0_1_10 : ∀ j : Nat, 0 ≤ t_0_1_10_c j ∧ t_0_1_10_c j ≤ 12) (hc_t_0_1_11 : ∀ j : Nat, 0 ≤ t_0_1_11_c j ∧ t_0_1_11_c j ≤ 4) (hi_t_1 : bX7 t_1_x0 t_1_x1 t_1_x2 t_1_x3 t_1_x4 t_1_x5 t_1_x6 t_1_x7 t_1_x8) (hc_t_1_9 : ∀ j : Nat, 0 ≤ t_1_9_c j ∧ t_1_9_c j ≤ 4) (hc_t_1_10 : ∀ j : Nat, 0 ≤ t_1_10_c j ∧ t_1_10_c j ≤ 12) (hc_t_1_11 : ∀ j : Nat, 0 ≤ t_1_11_c j ∧ t_1_11_c j ≤ 4) (hc_t_1_12 : ∀ j : Nat, 0 ≤ t_1_12_c j ∧ t_1_12_c j ≤ 11) (hc_t_1_13 : ∀ j : Nat, 0 ≤ t_1_13_c j ∧ t_1_13_c j ≤ 4) (hc_t_1_14 : ∀ j : Nat, 0 ≤ t_1_14_c j ∧ t_1_14_c j ≤ 29) (hi_t_2 : bX5 t_2_x0) (hc_t_2_3 : ∀ j : Nat, 0 ≤ t_2_3_c j ∧ t_2_3_c j ≤ 29) (hc_t_2_1 : ∀ j : Nat, (-1000) ≤ t_2_1_c j ∧ t_2_1_c j ≤ 30) (hc_t_2_2 : ∀ j : Nat, (-4) ≤ t_2_2_c j ∧ t_2_2_c j ≤ 11) (hi_t_7 : bX10 t_7_x0 t_7_x1 t_7_x6) (hc_t_7_2 : ∀ j : Nat, (-1) ≤ t_7_2_c j ∧ t_7_2_c j ≤ 149) (hc_t_7_4 : ∀ j : Nat, 0 ≤ t_7_4_c j ∧ t_7_4_c j ≤ 4095) (hc_t_7_3 : ∀ j : Nat, (-1) ≤ t_7_3_c j ∧ t_7_3_c j ≤ 11) : fn_CIO adK adV (S := (Nat → Int) × (Nat → Nat → Int)) l D K yX11_town (fn_ws yX11_town cX11_town 1 (some .int)) ({ frames := 44, cells := 0, slots := 0, locals := 1100 } : Room) [.ref t] [(t, .inr (11, oX11 t_q)), ((t_q 0), .inr (3, oX3 t_0_q t_0_x2 t_0_x3)), ((t_0_q 1), .inr (7, oX7 t_0_1_q t_0_1_x0 t_0_1_x1 t_0_1_x2 t_0_1_x3 t_0_1_x4 t_0_1_x5 t_0_1_x6 t_0_1_x7 t_0_1_x8)), ((t_0_q 0), .inr (6, oX6 t_0_0_q t_0_0_x0 t_0_0_x2 t_0_0_x3 t_0_0_x4)), ((t_0_0_q 1), .inl (K 1, 1400, .inl (fun j => iI (t_0_0_1_c j)))), ((t_0_1_q 12), .inl (K 0, 24, .inl (fun j => iI (t_0_1_12_c j)))), ((t_0_1_q 13), .inl (K 0, 24, .inl (fun j => iI (t_0_1_13_c j)))), ((t_0_1_q 14), .inl (K 0, 24, .inl (fun j => iI (t_0_1_14_c j)))), ((t_0_1_q 9), .inl (K 0, 5, .inl (fun j => iI (t_0_1_9_c j)))), ((t_0_1_q 10), .inl (K 0, 6, .inl (fun j => iI (t_0_1_10_c j)))), ((t_0_1_q 11), .inl (K 0, 12, .inl (fun j => iI (t_0_1_11_c j)))), ((t_q 1), .inr (7, oX7 t_1_q t_1_x0 t_1_x1 t_1_x2 t_1_x3 t_1_x4 t_1_x5 t_1_x6 t_1_x7 t_1_x8)), ((t_1_q 9), .inl (K 0, 5, .inl (fun j => iI (t_1_9_c j)))), ((t_1_q 10), .inl (K 0, 6, .inl (fun j => iI (t_1_10_c j)))), ((t_1_q 11), .inl (K 0, 12, .inl (fun j => iI (t_1_11_c j)))), ((t_1_q 12), .inl (K 0, 24, .inl (fun j => iI (t_1_12_c j)))), ((t_1_q 13), .inl (K 0, 24, .inl (fun j => iI (t_1_13_c j)))), ((t_1_q 14), .inl (K 0, 24, .inl (fun j => iI (t_1_14_c j)))), ((t_q 2), .inr (5, oX5 t_2_q t_2_x0)), ((t_2_q 3), .inl (K 0, 24, .inl (fun j => iI (t_2_3_c j)))), ((t_2_q 1), .inl (K 0, 5, .inl (fun j => iI (t_2_1_c j)))), ((t_2_q 2), .inl (K 0, 150, .inl (fun j => iI (t_2_2_c j)))), ((t_q 7), .inr (10, oX10 t_7_q t_7_x0 t_7_x1 t_7_x6)), ((t_7_q 2), .inl (K 0, 12, .inl (fun j => iI (t_7_2_c j)))), ((t_7_q 4), .inl (K 0, 12, .inl (fun j => iI (t_7_4_c j)))), ((t_7_q 3), .inl (K 0, 24, .inl (fun j => iI (t_7_3_c j))))] (fun r u => ∃ k : Int, r = iI k ∧ ((-4) ≤ k ∧ k ≤ 1400) ∧ (0 ≤ (u.1 0) ∧ (u.1 0) ≤ 3 ∧ (-2147483648) ≤ (u.1 1) ∧ (u.1 1) ≤ 2147483647 ∧ 0 ≤ (u.1 2) ∧ (u.1 2) ≤ 1400 ∧ 0 ≤ (u.1 3) ∧ (u.1 3) ≤ 4 ∧ 0 ≤ (u.1 4) ∧ (u.1 4) ≤ 1400 ∧ 0 ≤ (u.1 5) ∧ (u.1 5) ≤ 1400 ∧ 0 ≤ (u.1 6) ∧ (u.1 6) ≤ 1400 ∧ 0 ≤ (u.1 7) ∧ (u.1 7) ≤ 20 ∧ 0 ≤ (u.1 8) ∧ (u.1 8) ≤ 100 ∧ 0 ≤ (u.1 9) ∧ (u.1 9) ≤ 5 ∧ 0 ≤ (u.1 10) ∧ (u.1 10) ≤ 12 ∧ 0 ≤ (u.1 11) ∧ (u.1 11) ≤ 24 ∧ 0 ≤ (u.1 12) ∧ (u.1 12) ≤ 4095 ∧ 0 ≤ (u.1 13) ∧ (u.1 13) ≤ 31 ∧ (-2147483648) ≤ (u.1 14) ∧ (u.1 14) ≤ 2147483647 ∧ 0 ≤ (u.1 15) ∧ (u.1 15) ≤ 1400 ∧ 0 ≤ (u.1 16) ∧ (u.1 16) ≤ 20 ∧ 0 ≤ (u.1 17) ∧ (u.1 17) ≤ 100 ∧ 0 ≤ (u.1 18) ∧ (u.1 18) ≤ 5 ∧ 0 ≤ (u.1 19) ∧ (u.1 19) ≤ 12 ∧ 0 ≤ (u.1 20) ∧ (u.1 20) ≤ 24 ∧ 0 ≤ (u.1 21) ∧ (u.1 21) ≤ 4095 ∧ 0 ≤ (u.1 22) ∧ (u.1 22) ≤ 31 ∧ (-2147483648) ≤ (u.1 23) ∧ (u.1 23) ≤ 2147483647 ∧ 0 ≤ (u.1 24) ∧ (u.1 24) ≤ 40 ∧ 0 ≤ (u.1 25) ∧ (u.1 25) ≤ 12 ∧ 0 ≤ (u.1 26) ∧ (u.1 26) ≤ 4095) ∧ (∀ j : Nat, -12 ≤ (u.2 12) j ∨ t_2_1_c j ≤ (u.2 12) j) ∧ (∀ j : Nat, 0 ≤ (u.2 0) j ∧ (u.2 0) j ≤ 12) ∧ (∀ j : Nat, 0 ≤ (u.2 1) j ∧ (u.2 1) j ≤ 4) ∧ (∀ j : Nat, 0 ≤ (u.2 2) j ∧ (u.2 2) j ≤ 11) ∧ (∀ j : Nat, 0 ≤ (u.2 3) j ∧ (u.2 3) j ≤ 4) ∧ (∀ j : Nat, 0 ≤ (u.2 4) j ∧ (u.2 4) j ≤ 29) ∧ (∀ j : Nat, 0 ≤ (u.2 5) j ∧ (u.2 5) j ≤ 4) ∧ (∀ j : Nat, 0 ≤ (u.2 6) j ∧ (u.2 6) j ≤ 12) ∧ (∀ j : Nat, 0 ≤ (u.2 7) j ∧ (u.2 7) j ≤ 4) ∧ (∀ j : Nat, 0 ≤ (u.2 8) j ∧ (u.2 8) j ≤ 11) ∧ (∀ j : Nat, 0 ≤ (u.2 9) j ∧ (u.2 9) j ≤ 4) ∧ (∀ j : Nat, 0 ≤ (u.2 10) j ∧ (u.2 10) j ≤ 29) ∧ (∀ j : Nat, 0 ≤ (u.2 11) j ∧ (u.2 11) j ≤ 4) ∧ (∀ j : Nat, (-1000) ≤ (u.2 12) j ∧ (u.2 12) j ≤ 30) ∧ (∀ j : Nat, (-4) ≤ (u.2 13) j ∧ (u.2 13) j ≤ 11) ∧ (∀ j : Nat, 0 ≤ (u.2 14) j ∧ (u.2 14) j ≤ 29) ∧ (∀ j : Nat, (-1) ≤ (u.2 15) j ∧ (u.2 15) j ≤ 149) ∧ (∀ j : Nat, (-1) ≤ (u.2 16) j ∧ (u.2 16) j ≤ 11) ∧ (∀ j : Nat, 0 ≤ (u.2 17) j ∧ (u.2 17) j ≤ 4095) ∧ True) (fun u => [(t, .inr (11, oX11 t_q)), ((t_q 0), .inr (3, oX3 t_0_q (u.1 0) (u.1 1))), ((t_0_q 1), .inr (7, oX7 t_0_1_q (u.1 6) (u.1 7) (u.1 8) (u.1 9) (u.1 10) (u.1 11) (u.1 12) (u.1 13) (u.1 14))), ((t_0_q 0), .inr (6, oX6 t_0_0_q (u.1 2) (u.1 3) (u.1 4) (u.1 5))), ((t_0_0_q 1), .inl (K 1, 1400, .inl (fun j => iI (t_0_0_1_c j)))), ((t_0_1_q 12), .inl (K 0, 24, .inl (fun j => iI ((u.2 2) j)))), ((t_0_1_q 13), .inl (K 0, 24, .inl (fun j => iI ((u.2 3) j)))), ((t_0_1_q 14), .inl (K 0, 24, .inl (fun j => iI ((u.2 4) j)))), ((t_0_1_q 9), .inl (K 0, 5, .inl (fun j => iI ((u.2 5) j)))), ((t_0_1_q 10), .inl (K 0, 6, .inl (fun j => iI ((u.2 0) j)))), ((t_0_1_q 11), .inl (K 0, 12, .inl (fun j => iI ((u.2 1) j)))), ((t_q 1), .inr (7, oX7 t_1_q (u.1 15) (u.1 16) (u.1 17) (u.1 18) (u.1 19) (u.1 20) (u.1 21) (u.1 22) (u.1 23))), ((t_1_q 9), .inl (K 0, 5, .inl (fun j => iI ((u.2 11) j)))), ((t_1_q 10), .inl (K 0, 6, .inl (fun j => iI ((u.2 6) j)))), ((t_1_q 11), .inl (K 0, 12, .inl (fun j => iI ((u.2 7) j)))), ((t_1_q 12), .inl (K 0, 24, .inl (fun j => iI ((u.2 8) j)))), ((t_1_q 13), .inl (K 0, 24, .inl (fun j => iI ((u.2 9) j)))), ((t_1_q 14), .inl (K 0, 24, .inl (fun j => iI ((u.2 10) j)))), ((t_q 2), .inr (5, oX5 t_2_q (u.1 24))), ((t_2_q 3), .inl (K 0, 24, .inl (fun j => iI ((u.2 14) j)))), ((t_2_q 1), .inl (K 0, 5, .inl (fun j => iI ((u.2 12) j)))), ((t_2_q 2), .inl (K 0, 150, .inl (fun j => iI ((u.2 13) j)))), ((t_q 7), .inr (10, oX10 t_7_q (u.1 25) (u.1 26) t_7_x6)), ((t_7_q 2), .inl (K 0, 12, .inl (fun j => iI ((u.2 15) j)))), ((t_7_q 4), .inl (K 0, 12, .inl (fun j => iI ((u.2 17) j)))), ((t_7_q 3), .inl (K 0, 24, .inl (fun j => iI ((u.2 16) j))))]) 0 0 := by
  refine g_inIO (cc := cX11_town) (maxL := 1) (ret := (some .int)) (by decide) rfl (Nat.le_of_ble_eq_true rfl) ?_
  intro p e s m below meth c A ls ag Q B hO hA hP hD hS hl hQ
  obtain ⟨hx, hb, hr, hml, hts, hown, hlocks, hin, hK⟩ := B
  have hown : s.vm.findClass RX11 = some m.cls := hown
  have hts := fun w h => hts w (List.mem_cons_of_mem _ h)
  have hl : lv_has ls 1 [(0, .ref t)] := hl
  refine lv_aload_n hx hb dX11_town_0 rfl (lv_at hl 0 rfl) ?_
  refine va_get (D := D) (own := RX11) (ci := 11) (v := .ref (t_q 0)) (C := RX11) (T := TX11) (N := 13) hx hb hts inb_X11 hown hK.1 hP 0 rfl rfl 0 (by decide) (hts _ wd_422) (fun _ h9 => h9) rfl dX11_town_1 ?_
  refine fn_govO (wc := [((t_q 0), .inr (3, oX3 t_0_q t_0_x2 t_0_x3)), ((t_0_q 1), .inr (7, oX7 t_0_1_q t_0_1_x0 t_0_1_x1 t_0_1_x2 t_0_1_x3 t_0_1_x4 t_0_1_x5 t_0_1_x6 t_0_1_x7 t_0_1_x8)), ((t_0_q 0), .inr (6, oX6 t_0_0_q t_0_0_x0 t_0_0_x2 t_0_0_x3 t_0_0_x4)), ((t_0_0_q 1), .inl (K 1, 1400, .inl (fun j => iI (t_0_0_1_c j)))), ((t_0_1_q 12), .inl (K 0, 24, .inl (fun j => iI (t_0_1_12_c j)))), ((t_0_1_q 13), .inl (K 0, 24, .inl (fun j => iI (t_0_1_13_c j)))), ((t_0_1_q 14), .inl (K 0, 24, .inl (fun j => iI (t_0_1_14_c j)))), ((t_0_1_q 9), .inl (K 0, 5, .inl (fun j => iI (t_0_1_9_c j)))), ((t_0_1_q 10), .inl (K 0, 6, .inl (fun j => iI (t_0_1_10_c j)))), ((t_0_1_q 11), .inl (K 0, 12, .inl (fun j => iI (t_0_1_11_c j))))]) (wr := [(t, .inr (11, oX11 t_q)), ((t_q 1), .inr (7, oX7 t_1_q t_1_x0 t_1_x1 t_1_x2 t_1_x3 t_1_x4 t_1_x5 t_1_x6 t_1_x7 t_1_x8)), ((t_1_q 9), .inl (K 0, 5, .inl (fun j => iI (t_1_9_c j)))), ((t_1_q 10), .inl (K 0, 6, .inl (fun j => iI (t_1_10_c j)))), ((t_1_q 11), .inl (K 0, 12, .inl (fun j => iI (t_1_11_c j)))), ((t_1_q 12), .inl (K 0, 24, .inl (fun j => iI (t_1_12_c j)))), ((t_1_q 13), .inl (K 0, 24, .inl (fun j => iI (t_1_13_c j)))), ((t_1_q 14), .inl (K 0, 24, .inl (fun j => iI (t_1_14_c j)))), ((t_q 2), .inr (5, oX5 t_2_q t_2_x0)), ((t_2_q 3), .inl (K 0, 24, .inl (fun j => iI (t_2_3_c j)))), ((t_2_q 1), .inl (K 0, 5, .inl (fun j => iI (t_2_1_c j)))), ((t_2_q 2), .inl (K 0, 150, .inl (fun j => iI (t_2_2_c j)))), ((t_q 7), .inr (10, oX10 t_7_q t_7_x0 t_7_x1 t_7_x6)), ((t_7_q 2), .inl (K 0, 12, .inl (fun j => iI (t_7_2_c j)))), ((t_7_q 4), .inl (K 0, 12, .inl (fun j => iI (t_7_4_c j)))), ((t_7_q 3), .inl (K 0, 24, .inl (fun j => iI (t_7_3_c j))))]) hO hK hP hD hS hA [1, 2, 3, 4, 5, 6, 7, 8, 9, 10] [0, 11, 12, 13, 14, 15, 16, 17, 18, 19, 20, 21, 22, 23, 24, 25] rfl rfl (by decide) (fun hp => va_runVN (C := RX3) (As := []) (rest := []) ⟨hx, hb, hml, hown, hts⟩ (k_X3_readLines (l := l) (D := D) (K := K) (adK := adK) (adV := adV) (t := (t_q 0)) (t_q := t_0_q) (t_x2 := t_0_x2) (t_x3 := t_0_x3) (t_1_q := t_0_1_q) (t_1_x0 := t_0_1_x0) (t_1_x1 := t_0_1_x1) (t_1_x2 := t_0_1_x2) (t_1_x3 := t_0_1_x3) (t_1_x4 := t_0_1_x4) (t_1_x5 := t_0_1_x5) (t_1_x6 := t_0_1_x6) (t_1_x7 := t_0_1_x7) (t_1_x8 := t_0_1_x8) (t_0_q := t_0_0_q) (t_0_x0 := t_0_0_x0) (t_0_x2 := t_0_0_x2) (t_0_x3 := t_0_0_x3) (t_0_x4 := t_0_0_x4) (t_0_1_c := t_0_0_1_c) (t_1_12_c := t_0_1_12_c) (t_1_13_c := t_0_1_13_c) (t_1_14_c := t_0_1_14_c) (t_1_9_c := t_0_1_9_c) (t_1_10_c := t_0_1_10_c) (t_1_11_c := t_0_1_11_c) (hi_t := hi_t_0) (hi_t_1 := hi_t_0_1) (hi_t_0 := hi_t_0_0) (hc_t_0_1 := hc_t_0_0_1) (hc_t_1_12 := hc_t_0_1_12) (hc_t_1_13 := hc_t_0_1_13) (hc_t_1_14 := hc_t_0_1_14) (hc_t_1_9 := hc_t_0_1_9) (hc_t_1_10 := hc_t_0_1_10) (hc_t_1_11 := hc_t_0_1_11) _) ⟨va_cnB (own := RX11) 0 hts (fn_gin wd_481) rfl rfl rfl (hK.nw 94 rfl) (hts _ wd_2) (by decide +kernel) ⟨Nat.le_of_ble_eq_true rfl, Nat.le_of_ble_eq_true rfl⟩, hts _ wd_480, hts _ wp_1⟩ ⟨fn_blindO, va_recv hK.1 hP (ci := 3) (q0 := 1) rfl rfl, hp⟩ rfl rfl hl.1 rfl (lv_room (Nat.le_of_ble_eq_true rfl)) dX11_town_4 ⟨Nat.le_of_ble_eq_true rfl, Nat.le_of_ble_eq_true rfl⟩) (fun u4 H locs hwu4 hP hD hS => ?_)
  obtain ⟨u4a, u4b⟩ := u4
  obtain ⟨hqu40, hu4_00, hu4_10, hu4_20, hu4_30, hu4_40, hu4_50, -⟩ := hwu4
  have hqu4 : 0 ≤ (u4a 0) ∧ (u4a 0) ≤ 3 ∧ (-2147483648) ≤ (u4a 1) ∧ (u4a 1) ≤ 2147483647 ∧ 0 ≤ (u4a 2) ∧ (u4a 2) ≤ 4 ∧ 0 ≤ (u4a 3) ∧ (u4a 3) ≤ 1400 ∧ 0 ≤ (u4a 4) ∧ (u4a 4) ≤ 1400 ∧ 0 ≤ (u4a 5) ∧ (u4a 5) ≤ 1400 ∧ 0 ≤ (u4a 6) ∧ (u4a 6) ≤ 20 ∧ 0 ≤ (u4a 7) ∧ (u4a 7) ≤ 100 ∧ 0 ≤ (u4a 8) ∧ (u4a 8) ≤ 5 ∧ 0 ≤ (u4a 9) ∧ (u4a 9) ≤ 12 ∧ 0 ≤ (u4a 10) ∧ (u4a 10) ≤ 24 ∧ 0 ≤ (u4a 11) ∧ (u4a 11) ≤ 4095 ∧ 0 ≤ (u4a 12) ∧ (u4a 12) ≤ 31 ∧ (-2147483648) ≤ (u4a 13) ∧ (u4a 13) ≤ 2147483647 := hqu40
  have hu4_0 : ∀ j : Nat, 0 ≤ (u4b 0) j ∧ (u4b 0) j ≤ 12 := hu4_00
  have hu4_1 : ∀ j : Nat, 0 ≤ (u4b 1) j ∧ (u4b 1) j ≤ 4 := hu4_10
  have hu4_2 : ∀ j : Nat, 0 ≤ (u4b 2) j ∧ (u4b 2) j ≤ 11 := hu4_20
  have hu4_3 : ∀ j : Nat, 0 ≤ (u4b 3) j ∧ (u4b 3) j ≤ 4 := hu4_30
  have hu4_4 : ∀ j : Nat, 0 ≤ (u4b 4) j ∧ (u4b 4) j ≤ 29 := hu4_40
  have hu4_5 : ∀ j : Nat, 0 ≤ (u4b 5) j ∧ (u4b 5) j ≤ 4 := hu4_50
  clear hqu40 hu4_00 hu4_10 hu4_20 hu4_30 hu4_40 hu4_50
  have hP : va_P D vwCl [(t, .inr (11, oX11 t_q)), ((t_q 1), .inr (7, oX7 t_1_q t_1_x0 t_1_x1 t_1_x2 t_1_x3 t_1_x4 t_1_x5 t_1_x6 t_1_x7 t_1_x8)), ((t_1_q 9), .inl (K 0, 5, .inl (fun j => iI (t_1_9_c j)))), ((t_1_q 10), .inl (K 0, 6, .inl (fun j => iI (t_1_10_c j)))), ((t_1_q 11), .inl (K 0, 12, .inl (fun j => iI (t_1_11_c j)))), ((t_1_q 12), .inl (K 0, 24, .inl (fun j => iI (t_1_12_c j)))), ((t_1_q 13), .inl (K 0, 24, .inl (fun j => iI (t_1_13_c j)))), ((t_1_q 14), .inl (K 0, 24, .inl (fun j => iI (t_1_14_c j)))), ((t_q 2), .inr (5, oX5 t_2_q t_2_x0)), ((t_2_q 3), .inl (K 0, 24, .inl (fun j => iI (t_2_3_c j)))), ((t_2_q 1), .inl (K 0, 5, .inl (fun j => iI (t_2_1_c j)))), ((t_2_q 2), .inl (K 0, 150, .inl (fun j => iI (t_2_2_c j)))), ((t_q 7), .inr (10, oX10 t_7_q t_7_x0 t_7_x1 t_7_x6)), ((t_7_q 2), .inl (K 0, 12, .inl (fun j => iI (t_7_2_c j)))), ((t_7_q 4), .inl (K 0, 12, .inl (fun j => iI (t_7_4_c j)))), ((t_7_q 3), .inl (K 0, 24, .inl (fun j => iI (t_7_3_c j)))), ((t_q 0), .inr (3, oX3 t_0_q (u4a 0) (u4a 1))), ((t_0_q 1), .inr (7, oX7 t_0_1_q (u4a 5) (u4a 6) (u4a 7) (u4a 8) (u4a 9) (u4a 10) (u4a 11) (u4a 12) (u4a 13))), ((t_0_q 0), .inr (6, oX6 t_0_0_q t_0_0_x0 (u4a 2) (u4a 3) (u4a 4))), ((t_0_0_q 1), .inl (K 1, 1400, .inl (fun j => iI (t_0_0_1_c j)))), ((t_0_1_q 12), .inl (K 0, 24, .inl (fun j => iI ((u4b 2) j)))), ((t_0_1_q 13), .inl (K 0, 24, .inl (fun j => iI ((u4b 3) j)))), ((t_0_1_q 14), .inl (K 0, 24, .inl (fun j => iI ((u4b 4) j)))), ((t_0_1_q 9), .inl (K 0, 5, .inl (fun j => iI ((u4b 5) j)))), ((t_0_1_q 10), .inl (K 0, 6, .inl (fun j => iI ((u4b 0) j)))), ((t_0_1_q 11), .inl (K 0, 12, .inl (fun j => iI ((u4b 1) j))))] H := hP
  have hD : va_D A [(t, .inr (11, oX11 t_q)), ((t_q 1), .inr (7, oX7 t_1_q t_1_x0 t_1_x1 t_1_x2 t_1_x3 t_1_x4 t_1_x5 t_1_x6 t_1_x7 t_1_x8)), ((t_1_q 9), .inl (K 0, 5, .inl (fun j => iI (t_1_9_c j)))), ((t_1_q 10), .inl (K 0, 6, .inl (fun j => iI (t_1_10_c j)))), ((t_1_q 11), .inl (K 0, 12, .inl (fun j => iI (t_1_11_c j)))), ((t_1_q 12), .inl (K 0, 24, .inl (fun j => iI (t_1_12_c j)))), ((t_1_q 13), .inl (K 0, 24, .inl (fun j => iI (t_1_13_c j)))), ((t_1_q 14), .inl (K 0, 24, .inl (fun j => iI (t_1_14_c j)))), ((t_q 2), .inr (5, oX5 t_2_q t_2_x0)), ((t_2_q 3), .inl (K 0, 24, .inl (fun j => iI (t_2_3_c j)))), ((t_2_q 1), .inl (K 0, 5, .inl (fun j => iI (t_2_1_c j)))), ((t_2_q 2), .inl (K 0, 150, .inl (fun j => iI (t_2_2_c j)))), ((t_q 7), .inr (10, oX10 t_7_q t_7_x0 t_7_x1 t_7_x6)), ((t_7_q 2), .inl (K 0, 12, .inl (fun j => iI (t_7_2_c j)))), ((t_7_q 4), .inl (K 0, 12, .inl (fun j => iI (t_7_4_c j)))), ((t_7_q 3), .inl (K 0, 24, .inl (fun j => iI (t_7_3_c j)))), ((t_q 0), .inr (3, oX3 t_0_q (u4a 0) (u4a 1))), ((t_0_q 1), .inr (7, oX7 t_0_1_q (u4a 5) (u4a 6) (u4a 7) (u4a 8) (u4a 9) (u4a 10) (u4a 11) (u4a 12) (u4a 13))), ((t_0_q 0), .inr (6, oX6 t_0_0_q t_0_0_x0 (u4a 2) (u4a 3) (u4a 4))), ((t_0_0_q 1), .inl (K 1, 1400, .inl (fun j => iI (t_0_0_1_c j)))), ((t_0_1_q 12), .inl (K 0, 24, .inl (fun j => iI ((u4b 2) j)))), ((t_0_1_q 13), .inl (K 0, 24, .inl (fun j => iI ((u4b 3) j)))), ((t_0_1_q 14), .inl (K 0, 24, .inl (fun j => iI ((u4b 4) j)))), ((t_0_1_q 9), .inl (K 0, 5, .inl (fun j => iI ((u4b 5) j)))), ((t_0_1_q 10), .inl (K 0, 6, .inl (fun j => iI ((u4b 0) j)))), ((t_0_1_q 11), .inl (K 0, 12, .inl (fun j => iI ((u4b 1) j))))] := hD
  refine lv_aload_n hx hb dX11_town_7 rfl (lv_at hl 0 rfl) ?_
  refine va_get (D := D) (own := RX11) (ci := 11) (v := .ref (t_q 0)) (C := RX11) (T := TX11) (N := 13) hx hb hts inb_X11 hown hK.1 hP 0 rfl rfl 0 (by decide) (hts _ wd_422) (fun _ h9 => h9) rfl dX11_town_8 ?_
  refine va_getN (D := D) (own := RX11) (ci := 3) (v := .int (iI (u4a 0))) (C := RX3) (T := TX3) (N := 4) hx hb hts inb_X3 hown hK.1 hP 16 rfl rfl 2 (by decide) (hK.nf 52 rfl) (fun _ h9 => h9) rfl dX11_town_11 ?_
  refine g_if_eq (tgt := 20) hx hb (by omega) dX11_town_14 (by decide) (fun c14 => ?_) (fun c14 => ?_)
  · refine lv_aload_n hx hb dX11_town_20 rfl (lv_at hl 0 rfl) ?_
    refine va_get (D := D) (own := RX11) (ci := 11) (v := .ref (t_q 0)) (C := RX11) (T := TX11) (N := 13) hx hb hts inb_X11 hown hK.1 hP 0 rfl rfl 0 (by decide) (hts _ wd_422) (fun _ h9 => h9) rfl dX11_town_21 ?_
    refine va_getN (D := D) (own := RX11) (ci := 3) (v := .ref (t_0_q 0)) (C := RX3) (T := TX3) (N := 4) hx hb hts inb_X3 hown hK.1 hP 16 rfl rfl 0 (by decide) (hK.nf 50 rfl) (fun _ h9 => h9) rfl dX11_town_24 ?_
    refine lv_iconst (v := iI 0) hx hb dX11_town_27 rfl ?_
    refine va_putN (D := D) (own := RX11) (ci := 6) (v := .int (iI 0)) (ty := .int) (C := RX6) (T := TX6) (N := 5) hx hb hts inb_X6 tyX6 tyX6_ok nmX6 hown hK.1 hP hD hS 18 rfl rfl 0 (by decide) (hK.nf 2 rfl) (fun _ h9 => h9) rfl (by decide +kernel) rfl rfl (Nat.le_of_ble_eq_true rfl) dX11_town_28 (fun H locs hP hD hS => ?_)
    have hP : va_P D vwCl [(t, .inr (11, oX11 t_q)), ((t_q 1), .inr (7, oX7 t_1_q t_1_x0 t_1_x1 t_1_x2 t_1_x3 t_1_x4 t_1_x5 t_1_x6 t_1_x7 t_1_x8)), ((t_1_q 9), .inl (K 0, 5, .inl (fun j => iI (t_1_9_c j)))), ((t_1_q 10), .inl (K 0, 6, .inl (fun j => iI (t_1_10_c j)))), ((t_1_q 11), .inl (K 0, 12, .inl (fun j => iI (t_1_11_c j)))), ((t_1_q 12), .inl (K 0, 24, .inl (fun j => iI (t_1_12_c j)))), ((t_1_q 13), .inl (K 0, 24, .inl (fun j => iI (t_1_13_c j)))), ((t_1_q 14), .inl (K 0, 24, .inl (fun j => iI (t_1_14_c j)))), ((t_q 2), .inr (5, oX5 t_2_q t_2_x0)), ((t_2_q 3), .inl (K 0, 24, .inl (fun j => iI (t_2_3_c j)))), ((t_2_q 1), .inl (K 0, 5, .inl (fun j => iI (t_2_1_c j)))), ((t_2_q 2), .inl (K 0, 150, .inl (fun j => iI (t_2_2_c j)))), ((t_q 7), .inr (10, oX10 t_7_q t_7_x0 t_7_x1 t_7_x6)), ((t_7_q 2), .inl (K 0, 12, .inl (fun j => iI (t_7_2_c j)))), ((t_7_q 4), .inl (K 0, 12, .inl (fun j => iI (t_7_4_c j)))), ((t_7_q 3), .inl (K 0, 24, .inl (fun j => iI (t_7_3_c j)))), ((t_q 0), .inr (3, oX3 t_0_q (u4a 0) (u4a 1))), ((t_0_q 1), .inr (7, oX7 t_0_1_q (u4a 5) (u4a 6) (u4a 7) (u4a 8) (u4a 9) (u4a 10) (u4a 11) (u4a 12) (u4a 13))), ((t_0_q 0), .inr (6, oX6 t_0_0_q 0 (u4a 2) (u4a 3) (u4a 4))), ((t_0_0_q 1), .inl (K 1, 1400, .inl (fun j => iI (t_0_0_1_c j)))), ((t_0_1_q 12), .inl (K 0, 24, .inl (fun j => iI ((u4b 2) j)))), ((t_0_1_q 13), .inl (K 0, 24, .inl (fun j => iI ((u4b 3) j)))), ((t_0_1_q 14), .inl (K 0, 24, .inl (fun j => iI ((u4b 4) j)))), ((t_0_1_q 9), .inl (K 0, 5, .inl (fun j => iI ((u4b 5) j)))), ((t_0_1_q 10), .inl (K 0, 6, .inl (fun j => iI ((u4b 0) j)))), ((t_0_1_q 11), .inl (K 0, 12, .inl (fun j => iI ((u4b 1) j))))] H := hP
    have hD : va_D A [(t, .inr (11, oX11 t_q)), ((t_q 1), .inr (7, oX7 t_1_q t_1_x0 t_1_x1 t_1_x2 t_1_x3 t_1_x4 t_1_x5 t_1_x6 t_1_x7 t_1_x8)), ((t_1_q 9), .inl (K 0, 5, .inl (fun j => iI (t_1_9_c j)))), ((t_1_q 10), .inl (K 0, 6, .inl (fun j => iI (t_1_10_c j)))), ((t_1_q 11), .inl (K 0, 12, .inl (fun j => iI (t_1_11_c j)))), ((t_1_q 12), .inl (K 0, 24, .inl (fun j => iI (t_1_12_c j)))), ((t_1_q 13), .inl (K 0, 24, .inl (fun j => iI (t_1_13_c j)))), ((t_1_q 14), .inl (K 0, 24, .inl (fun j => iI (t_1_14_c j)))), ((t_q 2), .inr (5, oX5 t_2_q t_2_x0)), ((t_2_q 3), .inl (K 0, 24, .inl (fun j => iI (t_2_3_c j)))), ((t_2_q 1), .inl (K 0, 5, .inl (fun j => iI (t_2_1_c j)))), ((t_2_q 2), .inl (K 0, 150, .inl (fun j => iI (t_2_2_c j)))), ((t_q 7), .inr (10, oX10 t_7_q t_7_x0 t_7_x1 t_7_x6)), ((t_7_q 2), .inl (K 0, 12, .inl (fun j => iI (t_7_2_c j)))), ((t_7_q 4), .inl (K 0, 12, .inl (fun j => iI (t_7_4_c j)))), ((t_7_q 3), .inl (K 0, 24, .inl (fun j => iI (t_7_3_c j)))), ((t_q 0), .inr (3, oX3 t_0_q (u4a 0) (u4a 1))), ((t_0_q 1), .inr (7, oX7 t_0_1_q (u4a 5) (u4a 6) (u4a 7) (u4a 8) (u4a 9) (u4a 10) (u4a 11) (u4a 12) (u4a 13))), ((t_0_q 0), .inr (6, oX6 t_0_0_q 0 (u4a 2) (u4a 3) (u4a 4))), ((t_0_0_q 1), .inl (K 1, 1400, .inl (fun j => iI (t_0_0_1_c j)))), ((t_0_1_q 12), .inl (K 0, 24, .inl (fun j => iI ((u4b 2) j)))), ((t_0_1_q 13), .inl (K 0, 24, .inl (fun j => iI ((u4b 3) j)))), ((t_0_1_q 14), .inl (K 0, 24, .inl (fun j => iI ((u4b 4) j)))), ((t_0_1_q 9), .inl (K 0, 5, .inl (fun j => iI ((u4b 5) j)))), ((t_0_1_q 10), .inl (K 0, 6, .inl (fun j => iI ((u4b 0) j)))), ((t_0_1_q 11), .inl (K 0, 12, .inl (fun j => iI ((u4b 1) j))))] := hD
    refine lv_aload_n hx hb dX11_town_31 rfl (lv_at hl 0 rfl) ?_
    refine va_get (D := D) (own := RX11) (ci := 11) (v := .ref (t_q 1)) (C := RX11) (T := TX11) (N := 13) hx hb hts inb_X11 hown hK.1 hP 0 rfl rfl 1 (by decide) (hts _ wd_423) (fun _ h9 => h9) rfl dX11_town_32 ?_
    refine lv_aload_n hx hb dX11_town_35 rfl (lv_at hl 0 rfl) ?_
    refine va_get (D := D) (own := RX11) (ci := 11) (v := .ref (t_q 0)) (C := RX11) (T := TX11) (N := 13) hx hb hts inb_X11 hown hK.1 hP 0 rfl rfl 0 (by decide) (hts _ wd_422) (fun _ h9 => h9) rfl dX11_town_36 ?_
    refine va_getN (D := D) (own := RX11) (ci := 3) (v := .ref (t_0_q 1)) (C := RX3) (T := TX3) (N := 4) hx hb hts inb_X3 hown hK.1 hP 16 rfl rfl 1 (by decide) (hK.nf 51 rfl) (fun _ h9 => h9) rfl dX11_town_39 ?_
    refine fn_gov (wc := [((t_0_q 1), .inr (7, oX7 t_0_1_q (u4a 5) (u4a 6) (u4a 7) (u4a 8) (u4a 9) (u4a 10) (u4a 11) (u4a 12) (u4a 13))), ((t_q 1), .inr (7, oX7 t_1_q t_1_x0 t_1_x1 t_1_x2 t_1_x3 t_1_x4 t_1_x5 t_1_x6 t_1_x7 t_1_x8)), ((t_0_1_q 9), .inl (K 0, 5, .inl (fun j => iI ((u4b 5) j)))), ((t_1_q 9), .inl (K 0, 5, .inl (fun j => iI (t_1_9_c j)))), ((t_0_1_q 10), .inl (K 0, 6, .inl (fun j => iI ((u4b 0) j)))), ((t_1_q 10), .inl (K 0, 6, .inl (fun j => iI (t_1_10_c j)))), ((t_0_1_q 11), .inl (K 0, 12, .inl (fun j => iI ((u4b 1) j)))), ((t_1_q 11), .inl (K 0, 12, .inl (fun j => iI (t_1_11_c j)))), ((t_0_1_q 12), .inl (K 0, 24, .inl (fun j => iI ((u4b 2) j)))), ((t_1_q 12), .inl (K 0, 24, .inl (fun j => iI (t_1_12_c j)))), ((t_0_1_q 13), .inl (K 0, 24, .inl (fun j => iI ((u4b 3) j)))), ((t_1_q 13), .inl (K 0, 24, .inl (fun j => iI (t_1_13_c j)))), ((t_0_1_q 14), .inl (K 0, 24, .inl (fun j => iI ((u4b 4) j)))), ((t_1_q 14), .inl (K 0, 24, .inl (fun j => iI (t_1_14_c j))))]) (wr := [(t, .inr (11, oX11 t_q)), ((t_q 2), .inr (5, oX5 t_2_q t_2_x0)), ((t_2_q 3), .inl (K 0, 24, .inl (fun j => iI (t_2_3_c j)))), ((t_2_q 1), .inl (K 0, 5, .inl (fun j => iI (t_2_1_c j)))), ((t_2_q 2), .inl (K 0, 150, .inl (fun j => iI (t_2_2_c j)))), ((t_q 7), .inr (10, oX10 t_7_q t_7_x0 t_7_x1 t_7_x6)), ((t_7_q 2), .inl (K 0, 12, .inl (fun j => iI (t_7_2_c j)))), ((t_7_q 4), .inl (K 0, 12, .inl (fun j => iI (t_7_4_c j)))), ((t_7_q 3), .inl (K 0, 24, .inl (fun j => iI (t_7_3_c j)))), ((t_q 0), .inr (3, oX3 t_0_q (u4a 0) (u4a 1))), ((t_0_q 0), .inr (6, oX6 t_0_0_q 0 (u4a 2) (u4a 3) (u4a 4))), ((t_0_0_q 1), .inl (K 1, 1400, .inl (fun j => iI (t_0_0_1_c j))))]) hK hP hD hS hA [17, 1, 23, 2, 24, 3, 25, 4, 20, 5, 21, 6, 22, 7] [0, 8, 9, 10, 11, 12, 13, 14, 15, 16, 18, 19] rfl rfl (by decide) (fun hp => va_runVN (C := RX7) (As := [.ref (t_0_q 1)]) (rest := []) ⟨hx, hb, hml, hown, hts⟩ (k_X7_copyFrom (l := l) (D := D) (K := K) (t := (t_q 1)) (a1 := (t_0_q 1)) (a1_q := t_0_1_q) (a1_x0 := (u4a 5)) (a1_x1 := (u4a 6)) (a1_x2 := (u4a 7)) (a1_x3 := (u4a 8)) (a1_x4 := (u4a 9)) (a1_x5 := (u4a 10)) (a1_x6 := (u4a 11)) (a1_x7 := (u4a 12)) (a1_x8 := (u4a 13)) (t_q := t_1_q) (t_x0 := t_1_x0) (t_x1 := t_1_x1) (t_x2 := t_1_x2) (t_x3 := t_1_x3) (t_x4 := t_1_x4) (t_x5 := t_1_x5) (t_x6 := t_1_x6) (t_x7 := t_1_x7) (t_x8 := t_1_x8) (a1_9_c := (u4b 5)) (t_9_c := t_1_9_c) (a1_10_c := (u4b 0)) (t_10_c := t_1_10_c) (a1_11_c := (u4b 1)) (t_11_c := t_1_11_c) (a1_12_c := (u4b 2)) (t_12_c := t_1_12_c) (a1_13_c := (u4b 3)) (t_13_c := t_1_13_c) (a1_14_c := (u4b 4)) (t_14_c := t_1_14_c) (hi_a1 := ⟨(by omega), (by omega), (by omega), (by omega), (by omega), (by omega), (by omega), (by omega), (by omega)⟩) (hi_t := hi_t_1) (hc_a1_9 := hu4_5) (hc_t_9 := hc_t_1_9) (hc_a1_10 := hu4_0) (hc_t_10 := hc_t_1_10) (hc_a1_11 := hu4_1) (hc_t_11 := hc_t_1_11) (hc_a1_12 := hu4_2) (hc_t_12 := hc_t_1_12) (hc_a1_13 := hu4_3) (hc_t_13 := hc_t_1_13) (hc_a1_14 := hu4_4) (hc_t_14 := hc_t_1_14) _) ⟨va_cnB (own := RX11) 1 hts (fn_gin wd_619) rfl rfl rfl (hK.nw 103 rfl) (hts _ wd_4) (by decide +kernel) ⟨Nat.le_of_ble_eq_true rfl, Nat.le_of_ble_eq_true rfl⟩, hts _ wd_618, hts _ wp_18⟩ ⟨fn_blind, va_recv hK.1 hP (ci := 7) (q0 := 1) rfl rfl, hp⟩ rfl rfl hl.1 rfl (lv_room (Nat.le_of_ble_eq_true rfl)) dX11_town_42 ⟨Nat.le_of_ble_eq_true rfl, Nat.le_of_ble_eq_true rfl⟩) (fun u42 H locs hwu42 hP hD hS => ?_)
    obtain ⟨u42a, u42b⟩ := u42
    obtain ⟨hqu420, hu42_00, hu42_10, hu42_20, hu42_30, hu42_40, hu42_50, -⟩ := hwu42
    have hqu42 : 0 ≤ (u42a 0) ∧ (u42a 0) ≤ 1400 ∧ 0 ≤ (u42a 1) ∧ (u42a 1) ≤ 20 ∧ 0 ≤ (u42a 2) ∧ (u42a 2) ≤ 100 ∧ 0 ≤ (u42a 3) ∧ (u42a 3) ≤ 5 ∧ 0 ≤ (u42a 4) ∧ (u42a 4) ≤ 12 ∧ 0 ≤ (u42a 5) ∧ (u42a 5) ≤ 24 ∧ 0 ≤ (u42a 6) ∧ (u42a 6) ≤ 4095 ∧ 0 ≤ (u42a 7) ∧ (u42a 7) ≤ 31 ∧ (-2147483648) ≤ (u42a 8) ∧ (u42a 8) ≤ 2147483647 := hqu420
    have hu42_0 : ∀ j : Nat, 0 ≤ (u42b 0) j ∧ (u42b 0) j ≤ 12 := hu42_00
    have hu42_1 : ∀ j : Nat, 0 ≤ (u42b 1) j ∧ (u42b 1) j ≤ 4 := hu42_10
    have hu42_2 : ∀ j : Nat, 0 ≤ (u42b 2) j ∧ (u42b 2) j ≤ 11 := hu42_20
    have hu42_3 : ∀ j : Nat, 0 ≤ (u42b 3) j ∧ (u42b 3) j ≤ 4 := hu42_30
    have hu42_4 : ∀ j : Nat, 0 ≤ (u42b 4) j ∧ (u42b 4) j ≤ 29 := hu42_40
    have hu42_5 : ∀ j : Nat, 0 ≤ (u42b 5) j ∧ (u42b 5) j ≤ 4 := hu42_50
    clear hqu420 hu42_00 hu42_10 hu42_20 hu42_30 hu42_40 hu42_50
    have hP : va_P D vwCl [(t, .inr (11, oX11 t_q)), ((t_q 2), .inr (5, oX5 t_2_q t_2_x0)), ((t_2_q 3), .inl (K 0, 24, .inl (fun j => iI (t_2_3_c j)))), ((t_2_q 1), .inl (K 0, 5, .inl (fun j => iI (t_2_1_c j)))), ((t_2_q 2), .inl (K 0, 150, .inl (fun j => iI (t_2_2_c j)))), ((t_q 7), .inr (10, oX10 t_7_q t_7_x0 t_7_x1 t_7_x6)), ((t_7_q 2), .inl (K 0, 12, .inl (fun j => iI (t_7_2_c j)))), ((t_7_q 4), .inl (K 0, 12, .inl (fun j => iI (t_7_4_c j)))), ((t_7_q 3), .inl (K 0, 24, .inl (fun j => iI (t_7_3_c j)))), ((t_q 0), .inr (3, oX3 t_0_q (u4a 0) (u4a 1))), ((t_0_q 0), .inr (6, oX6 t_0_0_q 0 (u4a 2) (u4a 3) (u4a 4))), ((t_0_0_q 1), .inl (K 1, 1400, .inl (fun j => iI (t_0_0_1_c j)))), ((t_0_q 1), .inr (7, oX7 t_0_1_q (u4a 5) (u4a 6) (u4a 7) (u4a 8) (u4a 9) (u4a 10) (u4a 11) (u4a 12) (u4a 13))), ((t_q 1), .inr (7, oX7 t_1_q (u42a 0) (u42a 1) (u42a 2) (u42a 3) (u42a 4) (u42a 5) (u42a 6) (u42a 7) (u42a 8))), ((t_0_1_q 9), .inl (K 0, 5, .inl (fun j => iI ((u4b 5) j)))), ((t_1_q 9), .inl (K 0, 5, .inl (fun j => iI ((u42b 5) j)))), ((t_0_1_q 10), .inl (K 0, 6, .inl (fun j => iI ((u4b 0) j)))), ((t_1_q 10), .inl (K 0, 6, .inl (fun j => iI ((u42b 0) j)))), ((t_0_1_q 11), .inl (K 0, 12, .inl (fun j => iI ((u4b 1) j)))), ((t_1_q 11), .inl (K 0, 12, .inl (fun j => iI ((u42b 1) j)))), ((t_0_1_q 12), .inl (K 0, 24, .inl (fun j => iI ((u4b 2) j)))), ((t_1_q 12), .inl (K 0, 24, .inl (fun j => iI ((u42b 2) j)))), ((t_0_1_q 13), .inl (K 0, 24, .inl (fun j => iI ((u4b 3) j)))), ((t_1_q 13), .inl (K 0, 24, .inl (fun j => iI ((u42b 3) j)))), ((t_0_1_q 14), .inl (K 0, 24, .inl (fun j => iI ((u4b 4) j)))), ((t_1_q 14), .inl (K 0, 24, .inl (fun j => iI ((u42b 4) j))))] H := hP
    have hD : va_D A [(t, .inr (11, oX11 t_q)), ((t_q 2), .inr (5, oX5 t_2_q t_2_x0)), ((t_2_q 3), .inl (K 0, 24, .inl (fun j => iI (t_2_3_c j)))), ((t_2_q 1), .inl (K 0, 5, .inl (fun j => iI (t_2_1_c j)))), ((t_2_q 2), .inl (K 0, 150, .inl (fun j => iI (t_2_2_c j)))), ((t_q 7), .inr (10, oX10 t_7_q t_7_x0 t_7_x1 t_7_x6)), ((t_7_q 2), .inl (K 0, 12, .inl (fun j => iI (t_7_2_c j)))), ((t_7_q 4), .inl (K 0, 12, .inl (fun j => iI (t_7_4_c j)))), ((t_7_q 3), .inl (K 0, 24, .inl (fun j => iI (t_7_3_c j)))), ((t_q 0), .inr (3, oX3 t_0_q (u4a 0) (u4a 1))), ((t_0_q 0), .inr (6, oX6 t_0_0_q 0 (u4a 2) (u4a 3) (u4a 4))), ((t_0_0_q 1), .inl (K 1, 1400, .inl (fun j => iI (t_0_0_1_c j)))), ((t_0_q 1), .inr (7, oX7 t_0_1_q (u4a 5) (u4a 6) (u4a 7) (u4a 8) (u4a 9) (u4a 10) (u4a 11) (u4a 12) (u4a 13))), ((t_q 1), .inr (7, oX7 t_1_q (u42a 0) (u42a 1) (u42a 2) (u42a 3) (u42a 4) (u42a 5) (u42a 6) (u42a 7) (u42a 8))), ((t_0_1_q 9), .inl (K 0, 5, .inl (fun j => iI ((u4b 5) j)))), ((t_1_q 9), .inl (K 0, 5, .inl (fun j => iI ((u42b 5) j)))), ((t_0_1_q 10), .inl (K 0, 6, .inl (fun j => iI ((u4b 0) j)))), ((t_1_q 10), .inl (K 0, 6, .inl (fun j => iI ((u42b 0) j)))), ((t_0_1_q 11), .inl (K 0, 12, .inl (fun j => iI ((u4b 1) j)))), ((t_1_q 11), .inl (K 0, 12, .inl (fun j => iI ((u42b 1) j)))), ((t_0_1_q 12), .inl (K 0, 24, .inl (fun j => iI ((u4b 2) j)))), ((t_1_q 12), .inl (K 0, 24, .inl (fun j => iI ((u42b 2) j)))), ((t_0_1_q 13), .inl (K 0, 24, .inl (fun j => iI ((u4b 3) j)))), ((t_1_q 13), .inl (K 0, 24, .inl (fun j => iI ((u42b 3) j)))), ((t_0_1_q 14), .inl (K 0, 24, .inl (fun j => iI ((u4b 4) j)))), ((t_1_q 14), .inl (K 0, 24, .inl (fun j => iI ((u42b 4) j))))] := hD
    refine lv_aload_n hx hb dX11_town_45 rfl (lv_at hl 0 rfl) ?_
    refine fn_at 46 rfl ?_
    refine va_get (D := D) (own := RX11) (ci := 11) (v := .ref (t_q 2)) (C := RX11) (T := TX11) (N := 13) hx hb hts inb_X11 hown hK.1 hP 0 rfl rfl 2 (by decide) (hts _ wd_424) (fun _ h9 => h9) rfl dX11_town_46 ?_
    refine lv_aload_n hx hb dX11_town_49 rfl (lv_at hl 0 rfl) ?_
    refine va_get (D := D) (own := RX11) (ci := 11) (v := .ref (t_q 1)) (C := RX11) (T := TX11) (N := 13) hx hb hts inb_X11 hown hK.1 hP 0 rfl rfl 1 (by decide) (hts _ wd_423) (fun _ h9 => h9) rfl dX11_town_50 ?_
    refine fn_gov (wc := [((t_q 2), .inr (5, oX5 t_2_q t_2_x0)), ((t_q 1), .inr (7, oX7 t_1_q (u42a 0) (u42a 1) (u42a 2) (u42a 3) (u42a 4) (u42a 5) (u42a 6) (u42a 7) (u42a 8))), ((t_1_q 14), .inl (K 0, 24, .inl (fun j => iI ((u42b 4) j)))), ((t_2_q 3), .inl (K 0, 24, .inl (fun j => iI (t_2_3_c j)))), ((t_1_q 10), .inl (K 0, 6, .inl (fun j => iI ((u42b 0) j)))), ((t_2_q 1), .inl (K 0, 5, .inl (fun j => iI (t_2_1_c j)))), ((t_2_q 2), .inl (K 0, 150, .inl (fun j => iI (t_2_2_c j))))]) (wr := [(t, .inr (11, oX11 t_q)), ((t_q 7), .inr (10, oX10 t_7_q t_7_x0 t_7_x1 t_7_x6)), ((t_7_q 2), .inl (K 0, 12, .inl (fun j => iI (t_7_2_c j)))), ((t_7_q 4), .inl (K 0, 12, .inl (fun j => iI (t_7_4_c j)))), ((t_7_q 3), .inl (K 0, 24, .inl (fun j => iI (t_7_3_c j)))), ((t_q 0), .inr (3, oX3 t_0_q (u4a 0) (u4a 1))), ((t_0_q 0), .inr (6, oX6 t_0_0_q 0 (u4a 2) (u4a 3) (u4a 4))), ((t_0_0_q 1), .inl (K 1, 1400, .inl (fun j => iI (t_0_0_1_c j)))), ((t_0_q 1), .inr (7, oX7 t_0_1_q (u4a 5) (u4a 6) (u4a 7) (u4a 8) (u4a 9) (u4a 10) (u4a 11) (u4a 12) (u4a 13))), ((t_0_1_q 9), .inl (K 0, 5, .inl (fun j => iI ((u4b 5) j)))), ((t_1_q 9), .inl (K 0, 5, .inl (fun j => iI ((u42b 5) j)))), ((t_0_1_q 10), .inl (K 0, 6, .inl (fun j => iI ((u4b 0) j)))), ((t_0_1_q 11), .inl (K 0, 12, .inl (fun j => iI ((u4b 1) j)))), ((t_1_q 11), .inl (K 0, 12, .inl (fun j => iI ((u42b 1) j)))), ((t_0_1_q 12), .inl (K 0, 24, .inl (fun j => iI ((u4b 2) j)))), ((t_1_q 12), .inl (K 0, 24, .inl (fun j => iI ((u42b 2) j)))), ((t_0_1_q 13), .inl (K 0, 24, .inl (fun j => iI ((u4b 3) j)))), ((t_1_q 13), .inl (K 0, 24, .inl (fun j => iI ((u42b 3) j)))), ((t_0_1_q 14), .inl (K 0, 24, .inl (fun j => iI ((u4b 4) j))))]) hK hP hD hS hA [1, 13, 25, 2, 17, 3, 4] [0, 5, 6, 7, 8, 9, 10, 11, 12, 14, 15, 16, 18, 19, 20, 21, 22, 23, 24] rfl rfl (by decide) (fun hp => va_runVN (C := RX5) (As := [.ref (t_q 1)]) (rest := []) ⟨hx, hb, hml, hown, hts⟩ (k_X5_lay (l := l) (D := D) (K := K) (t := (t_q 2)) (a1 := (t_q 1)) (t_q := t_2_q) (t_x0 := t_2_x0) (a1_q := t_1_q) (a1_x0 := (u42a 0)) (a1_x1 := (u42a 1)) (a1_x2 := (u42a 2)) (a1_x3 := (u42a 3)) (a1_x4 := (u42a 4)) (a1_x5 := (u42a 5)) (a1_x6 := (u42a 6)) (a1_x7 := (u42a 7)) (a1_x8 := (u42a 8)) (a1_14_c := (u42b 4)) (t_3_c := t_2_3_c) (a1_10_c := (u42b 0)) (t_1_c := t_2_1_c) (t_2_c := t_2_2_c) (hi_t := hi_t_2) (hi_a1 := ⟨(by omega), (by omega), (by omega), (by omega), (by omega), (by omega), (by omega), (by omega), (by omega)⟩) (hc_a1_14 := hu42_4) (hc_t_3 := hc_t_2_3) (hc_a1_10 := hu42_0) (hc_t_1 := hc_t_2_1) (hc_t_2 := hc_t_2_2) _) ⟨va_cnB (own := RX11) 1 hts (fn_gin wd_626) rfl rfl rfl (hK.nw 104 rfl) (hts _ wd_5) (by decide +kernel) ⟨Nat.le_of_ble_eq_true rfl, Nat.le_of_ble_eq_true rfl⟩, hts _ wd_625, hts _ wp_19⟩ ⟨fn_blind, va_recv hK.1 hP (ci := 5) (q0 := 1) rfl rfl, hp⟩ rfl rfl hl.1 rfl (lv_room (Nat.le_of_ble_eq_true rfl)) dX11_town_53 ⟨Nat.le_of_ble_eq_true rfl, Nat.le_of_ble_eq_true rfl⟩) (fun u53 H locs hwu53 hP hD hS => ?_)
    obtain ⟨u53a, u53b⟩ := u53
    obtain ⟨hqu530, hqu53_lb0, hu53_00, hu53_10, hu53_20, -⟩ := hwu53
    have hqu53 : 0 ≤ (u53a 0) ∧ (u53a 0) ≤ 40 := hqu530
    have hqu53_lb : ∀ j : Nat, -12 ≤ (u53b 0) j ∨ t_2_1_c j ≤ (u53b 0) j := hqu53_lb0
    have hu53_0 : ∀ j : Nat, (-1000) ≤ (u53b 0) j ∧ (u53b 0) j ≤ 30 := hu53_00
    have hu53_1 : ∀ j : Nat, (-4) ≤ (u53b 1) j ∧ (u53b 1) j ≤ 11 := hu53_10
    have hu53_2 : ∀ j : Nat, 0 ≤ (u53b 2) j ∧ (u53b 2) j ≤ 29 := hu53_20
    clear hqu530 hqu53_lb0 hu53_00 hu53_10 hu53_20
    have hP : va_P D vwCl [(t, .inr (11, oX11 t_q)), ((t_q 7), .inr (10, oX10 t_7_q t_7_x0 t_7_x1 t_7_x6)), ((t_7_q 2), .inl (K 0, 12, .inl (fun j => iI (t_7_2_c j)))), ((t_7_q 4), .inl (K 0, 12, .inl (fun j => iI (t_7_4_c j)))), ((t_7_q 3), .inl (K 0, 24, .inl (fun j => iI (t_7_3_c j)))), ((t_q 0), .inr (3, oX3 t_0_q (u4a 0) (u4a 1))), ((t_0_q 0), .inr (6, oX6 t_0_0_q 0 (u4a 2) (u4a 3) (u4a 4))), ((t_0_0_q 1), .inl (K 1, 1400, .inl (fun j => iI (t_0_0_1_c j)))), ((t_0_q 1), .inr (7, oX7 t_0_1_q (u4a 5) (u4a 6) (u4a 7) (u4a 8) (u4a 9) (u4a 10) (u4a 11) (u4a 12) (u4a 13))), ((t_0_1_q 9), .inl (K 0, 5, .inl (fun j => iI ((u4b 5) j)))), ((t_1_q 9), .inl (K 0, 5, .inl (fun j => iI ((u42b 5) j)))), ((t_0_1_q 10), .inl (K 0, 6, .inl (fun j => iI ((u4b 0) j)))), ((t_0_1_q 11), .inl (K 0, 12, .inl (fun j => iI ((u4b 1) j)))), ((t_1_q 11), .inl (K 0, 12, .inl (fun j => iI ((u42b 1) j)))), ((t_0_1_q 12), .inl (K 0, 24, .inl (fun j => iI ((u4b 2) j)))), ((t_1_q 12), .inl (K 0, 24, .inl (fun j => iI ((u42b 2) j)))), ((t_0_1_q 13), .inl (K 0, 24, .inl (fun j => iI ((u4b 3) j)))), ((t_1_q 13), .inl (K 0, 24, .inl (fun j => iI ((u42b 3) j)))), ((t_0_1_q 14), .inl (K 0, 24, .inl (fun j => iI ((u4b 4) j)))), ((t_q 2), .inr (5, oX5 t_2_q (u53a 0))), ((t_q 1), .inr (7, oX7 t_1_q (u42a 0) (u42a 1) (u42a 2) (u42a 3) (u42a 4) (u42a 5) (u42a 6) (u42a 7) (u42a 8))), ((t_1_q 14), .inl (K 0, 24, .inl (fun j => iI ((u42b 4) j)))), ((t_2_q 3), .inl (K 0, 24, .inl (fun j => iI ((u53b 2) j)))), ((t_1_q 10), .inl (K 0, 6, .inl (fun j => iI ((u42b 0) j)))), ((t_2_q 1), .inl (K 0, 5, .inl (fun j => iI ((u53b 0) j)))), ((t_2_q 2), .inl (K 0, 150, .inl (fun j => iI ((u53b 1) j))))] H := hP
    have hD : va_D A [(t, .inr (11, oX11 t_q)), ((t_q 7), .inr (10, oX10 t_7_q t_7_x0 t_7_x1 t_7_x6)), ((t_7_q 2), .inl (K 0, 12, .inl (fun j => iI (t_7_2_c j)))), ((t_7_q 4), .inl (K 0, 12, .inl (fun j => iI (t_7_4_c j)))), ((t_7_q 3), .inl (K 0, 24, .inl (fun j => iI (t_7_3_c j)))), ((t_q 0), .inr (3, oX3 t_0_q (u4a 0) (u4a 1))), ((t_0_q 0), .inr (6, oX6 t_0_0_q 0 (u4a 2) (u4a 3) (u4a 4))), ((t_0_0_q 1), .inl (K 1, 1400, .inl (fun j => iI (t_0_0_1_c j)))), ((t_0_q 1), .inr (7, oX7 t_0_1_q (u4a 5) (u4a 6) (u4a 7) (u4a 8) (u4a 9) (u4a 10) (u4a 11) (u4a 12) (u4a 13))), ((t_0_1_q 9), .inl (K 0, 5, .inl (fun j => iI ((u4b 5) j)))), ((t_1_q 9), .inl (K 0, 5, .inl (fun j => iI ((u42b 5) j)))), ((t_0_1_q 10), .inl (K 0, 6, .inl (fun j => iI ((u4b 0) j)))), ((t_0_1_q 11), .inl (K 0, 12, .inl (fun j => iI ((u4b 1) j)))), ((t_1_q 11), .inl (K 0, 12, .inl (fun j => iI ((u42b 1) j)))), ((t_0_1_q 12), .inl (K 0, 24, .inl (fun j => iI ((u4b 2) j)))), ((t_1_q 12), .inl (K 0, 24, .inl (fun j => iI ((u42b 2) j)))), ((t_0_1_q 13), .inl (K 0, 24, .inl (fun j => iI ((u4b 3) j)))), ((t_1_q 13), .inl (K 0, 24, .inl (fun j => iI ((u42b 3) j)))), ((t_0_1_q 14), .inl (K 0, 24, .inl (fun j => iI ((u4b 4) j)))), ((t_q 2), .inr (5, oX5 t_2_q (u53a 0))), ((t_q 1), .inr (7, oX7 t_1_q (u42a 0) (u42a 1) (u42a 2) (u42a 3) (u42a 4) (u42a 5) (u42a 6) (u42a 7) (u42a 8))), ((t_1_q 14), .inl (K 0, 24, .inl (fun j => iI ((u42b 4) j)))), ((t_2_q 3), .inl (K 0, 24, .inl (fun j => iI ((u53b 2) j)))), ((t_1_q 10), .inl (K 0, 6, .inl (fun j => iI ((u42b 0) j)))), ((t_2_q 1), .inl (K 0, 5, .inl (fun j => iI ((u53b 0) j)))), ((t_2_q 2), .inl (K 0, 150, .inl (fun j => iI ((u53b 1) j))))] := hD
    refine lv_aload_n hx hb dX11_town_56 rfl (lv_at hl 0 rfl) ?_
    refine fn_gov (wc := [(t, .inr (11, oX11 t_q)), ((t_q 7), .inr (10, oX10 t_7_q t_7_x0 t_7_x1 t_7_x6)), ((t_q 1), .inr (7, oX7 t_1_q (u42a 0) (u42a 1) (u42a 2) (u42a 3) (u42a 4) (u42a 5) (u42a 6) (u42a 7) (u42a 8))), ((t_7_q 2), .inl (K 0, 12, .inl (fun j => iI (t_7_2_c j)))), ((t_q 2), .inr (5, oX5 t_2_q (u53a 0))), ((t_2_q 1), .inl (K 0, 5, .inl (fun j => iI ((u53b 0) j)))), ((t_2_q 2), .inl (K 0, 150, .inl (fun j => iI ((u53b 1) j)))), ((t_7_q 4), .inl (K 0, 12, .inl (fun j => iI (t_7_4_c j)))), ((t_1_q 12), .inl (K 0, 24, .inl (fun j => iI ((u42b 2) j)))), ((t_2_q 3), .inl (K 0, 24, .inl (fun j => iI ((u53b 2) j)))), ((t_1_q 13), .inl (K 0, 24, .inl (fun j => iI ((u42b 3) j)))), ((t_7_q 3), .inl (K 0, 24, .inl (fun j => iI (t_7_3_c j))))]) (wr := [((t_q 0), .inr (3, oX3 t_0_q (u4a 0) (u4a 1))), ((t_0_q 0), .inr (6, oX6 t_0_0_q 0 (u4a 2) (u4a 3) (u4a 4))), ((t_0_0_q 1), .inl (K 1, 1400, .inl (fun j => iI (t_0_0_1_c j)))), ((t_0_q 1), .inr (7, oX7 t_0_1_q (u4a 5) (u4a 6) (u4a 7) (u4a 8) (u4a 9) (u4a 10) (u4a 11) (u4a 12) (u4a 13))), ((t_0_1_q 9), .inl (K 0, 5, .inl (fun j => iI ((u4b 5) j)))), ((t_1_q 9), .inl (K 0, 5, .inl (fun j => iI ((u42b 5) j)))), ((t_0_1_q 10), .inl (K 0, 6, .inl (fun j => iI ((u4b 0) j)))), ((t_0_1_q 11), .inl (K 0, 12, .inl (fun j => iI ((u4b 1) j)))), ((t_1_q 11), .inl (K 0, 12, .inl (fun j => iI ((u42b 1) j)))), ((t_0_1_q 12), .inl (K 0, 24, .inl (fun j => iI ((u4b 2) j)))), ((t_0_1_q 13), .inl (K 0, 24, .inl (fun j => iI ((u4b 3) j)))), ((t_0_1_q 14), .inl (K 0, 24, .inl (fun j => iI ((u4b 4) j)))), ((t_1_q 14), .inl (K 0, 24, .inl (fun j => iI ((u42b 4) j)))), ((t_1_q 10), .inl (K 0, 6, .inl (fun j => iI ((u42b 0) j))))]) hK hP hD hS hA [0, 1, 20, 2, 19, 24, 25, 3, 15, 22, 17, 4] [5, 6, 7, 8, 9, 10, 11, 12, 13, 14, 16, 18, 21, 23] rfl rfl (by decide) (fun hp => va_runV (C := RX11) (As := []) (rest := []) ⟨hx, hb, hml, hown, hts⟩ (k_X11_settle (l := l) (D := D) (K := K) (t := t) (t_q := t_q) (t_7_q := t_7_q) (t_7_x0 := t_7_x0) (t_7_x1 := t_7_x1) (t_7_x6 := t_7_x6) (t_1_q := t_1_q) (t_1_x0 := (u42a 0)) (t_1_x1 := (u42a 1)) (t_1_x2 := (u42a 2)) (t_1_x3 := (u42a 3)) (t_1_x4 := (u42a 4)) (t_1_x5 := (u42a 5)) (t_1_x6 := (u42a 6)) (t_1_x7 := (u42a 7)) (t_1_x8 := (u42a 8)) (t_7_2_c := t_7_2_c) (t_2_q := t_2_q) (t_2_x0 := (u53a 0)) (t_2_1_c := (u53b 0)) (t_2_2_c := (u53b 1)) (t_7_4_c := t_7_4_c) (t_1_12_c := (u42b 2)) (t_2_3_c := (u53b 2)) (t_1_13_c := (u42b 3)) (t_7_3_c := t_7_3_c) (hi_t_7 := hi_t_7) (hi_t_1 := ⟨(by omega), (by omega), (by omega), (by omega), (by omega), (by omega), (by omega), (by omega), (by omega)⟩) (hc_t_7_2 := hc_t_7_2) (hi_t_2 := (show 0 ≤ (u53a 0) ∧ (u53a 0) ≤ 40 from by omega)) (hc_t_2_1 := hu53_0) (hc_t_2_2 := hu53_1) (hc_t_7_4 := hc_t_7_4) (hc_t_1_12 := hu42_2) (hc_t_2_3 := hu53_2) (hc_t_1_13 := hu42_3) (hc_t_7_3 := hc_t_7_3) _) (cwV 0 hts (fn_ginV (fn_gin wd_635) wd_632 wd_634 wp_21 wd_1) rfl rfl rfl (by decide +kernel) ⟨Nat.le_of_ble_eq_true rfl, Nat.le_of_ble_eq_true rfl⟩) ⟨fn_blind, va_recv hK.1 hP (ci := 11) (q0 := 0) rfl rfl, hp⟩ rfl rfl hl.1 rfl (lv_room (Nat.le_of_ble_eq_true rfl)) dX11_town_57 ⟨Nat.le_of_ble_eq_true rfl, Nat.le_of_ble_eq_true rfl⟩) (fun u57 H locs hwu57 hP hD hS => ?_)
    obtain ⟨u57a, u57b⟩ := u57
    obtain ⟨hqu570, hu57_00, hu57_10, hu57_20, -⟩ := hwu57
    have hqu57 : 0 ≤ (u57a 0) ∧ (u57a 0) ≤ 12 ∧ 0 ≤ (u57a 1) ∧ (u57a 1) ≤ 4095 := hqu570
    have hu57_0 : ∀ j : Nat, (-1) ≤ (u57b 0) j ∧ (u57b 0) j ≤ 149 := hu57_00
    have hu57_1 : ∀ j : Nat, (-1) ≤ (u57b 1) j ∧ (u57b 1) j ≤ 11 := hu57_10
    have hu57_2 : ∀ j : Nat, 0 ≤ (u57b 2) j ∧ (u57b 2) j ≤ 4095 := hu57_20
    clear hqu570 hu57_00 hu57_10 hu57_20
    have hP : va_P D vwCl [((t_q 0), .inr (3, oX3 t_0_q (u4a 0) (u4a 1))), ((t_0_q 0), .inr (6, oX6 t_0_0_q 0 (u4a 2) (u4a 3) (u4a 4))), ((t_0_0_q 1), .inl (K 1, 1400, .inl (fun j => iI (t_0_0_1_c j)))), ((t_0_q 1), .inr (7, oX7 t_0_1_q (u4a 5) (u4a 6) (u4a 7) (u4a 8) (u4a 9) (u4a 10) (u4a 11) (u4a 12) (u4a 13))), ((t_0_1_q 9), .inl (K 0, 5, .inl (fun j => iI ((u4b 5) j)))), ((t_1_q 9), .inl (K 0, 5, .inl (fun j => iI ((u42b 5) j)))), ((t_0_1_q 10), .inl (K 0, 6, .inl (fun j => iI ((u4b 0) j)))), ((t_0_1_q 11), .inl (K 0, 12, .inl (fun j => iI ((u4b 1) j)))), ((t_1_q 11), .inl (K 0, 12, .inl (fun j => iI ((u42b 1) j)))), ((t_0_1_q 12), .inl (K 0, 24, .inl (fun j => iI ((u4b 2) j)))), ((t_0_1_q 13), .inl (K 0, 24, .inl (fun j => iI ((u4b 3) j)))), ((t_0_1_q 14), .inl (K 0, 24, .inl (fun j => iI ((u4b 4) j)))), ((t_1_q 14), .inl (K 0, 24, .inl (fun j => iI ((u42b 4) j)))), ((t_1_q 10), .inl (K 0, 6, .inl (fun j => iI ((u42b 0) j)))), (t, .inr (11, oX11 t_q)), ((t_q 7), .inr (10, oX10 t_7_q (u57a 0) (u57a 1) t_7_x6)), ((t_q 1), .inr (7, oX7 t_1_q (u42a 0) (u42a 1) (u42a 2) (u42a 3) (u42a 4) (u42a 5) (u42a 6) (u42a 7) (u42a 8))), ((t_7_q 2), .inl (K 0, 12, .inl (fun j => iI ((u57b 0) j)))), ((t_q 2), .inr (5, oX5 t_2_q (u53a 0))), ((t_2_q 1), .inl (K 0, 5, .inl (fun j => iI ((u53b 0) j)))), ((t_2_q 2), .inl (K 0, 150, .inl (fun j => iI ((u53b 1) j)))), ((t_7_q 4), .inl (K 0, 12, .inl (fun j => iI ((u57b 2) j)))), ((t_1_q 12), .inl (K 0, 24, .inl (fun j => iI ((u42b 2) j)))), ((t_2_q 3), .inl (K 0, 24, .inl (fun j => iI ((u53b 2) j)))), ((t_1_q 13), .inl (K 0, 24, .inl (fun j => iI ((u42b 3) j)))), ((t_7_q 3), .inl (K 0, 24, .inl (fun j => iI ((u57b 1) j))))] H := hP
    have hD : va_D A [((t_q 0), .inr (3, oX3 t_0_q (u4a 0) (u4a 1))), ((t_0_q 0), .inr (6, oX6 t_0_0_q 0 (u4a 2) (u4a 3) (u4a 4))), ((t_0_0_q 1), .inl (K 1, 1400, .inl (fun j => iI (t_0_0_1_c j)))), ((t_0_q 1), .inr (7, oX7 t_0_1_q (u4a 5) (u4a 6) (u4a 7) (u4a 8) (u4a 9) (u4a 10) (u4a 11) (u4a 12) (u4a 13))), ((t_0_1_q 9), .inl (K 0, 5, .inl (fun j => iI ((u4b 5) j)))), ((t_1_q 9), .inl (K 0, 5, .inl (fun j => iI ((u42b 5) j)))), ((t_0_1_q 10), .inl (K 0, 6, .inl (fun j => iI ((u4b 0) j)))), ((t_0_1_q 11), .inl (K 0, 12, .inl (fun j => iI ((u4b 1) j)))), ((t_1_q 11), .inl (K 0, 12, .inl (fun j => iI ((u42b 1) j)))), ((t_0_1_q 12), .inl (K 0, 24, .inl (fun j => iI ((u4b 2) j)))), ((t_0_1_q 13), .inl (K 0, 24, .inl (fun j => iI ((u4b 3) j)))), ((t_0_1_q 14), .inl (K 0, 24, .inl (fun j => iI ((u4b 4) j)))), ((t_1_q 14), .inl (K 0, 24, .inl (fun j => iI ((u42b 4) j)))), ((t_1_q 10), .inl (K 0, 6, .inl (fun j => iI ((u42b 0) j)))), (t, .inr (11, oX11 t_q)), ((t_q 7), .inr (10, oX10 t_7_q (u57a 0) (u57a 1) t_7_x6)), ((t_q 1), .inr (7, oX7 t_1_q (u42a 0) (u42a 1) (u42a 2) (u42a 3) (u42a 4) (u42a 5) (u42a 6) (u42a 7) (u42a 8))), ((t_7_q 2), .inl (K 0, 12, .inl (fun j => iI ((u57b 0) j)))), ((t_q 2), .inr (5, oX5 t_2_q (u53a 0))), ((t_2_q 1), .inl (K 0, 5, .inl (fun j => iI ((u53b 0) j)))), ((t_2_q 2), .inl (K 0, 150, .inl (fun j => iI ((u53b 1) j)))), ((t_7_q 4), .inl (K 0, 12, .inl (fun j => iI ((u57b 2) j)))), ((t_1_q 12), .inl (K 0, 24, .inl (fun j => iI ((u42b 2) j)))), ((t_2_q 3), .inl (K 0, 24, .inl (fun j => iI ((u53b 2) j)))), ((t_1_q 13), .inl (K 0, 24, .inl (fun j => iI ((u42b 3) j)))), ((t_7_q 3), .inl (K 0, 24, .inl (fun j => iI ((u57b 1) j))))] := hD
    refine lv_aload_n hx hb dX11_town_60 rfl (lv_at hl 0 rfl) ?_
    refine va_get (D := D) (own := RX11) (ci := 11) (v := .ref (t_q 1)) (C := RX11) (T := TX11) (N := 13) hx hb hts inb_X11 hown hK.1 hP 14 rfl rfl 1 (by decide) (hts _ wd_423) (fun _ h9 => h9) rfl dX11_town_61 ?_
    refine va_getN (D := D) (own := RX11) (ci := 7) (v := .int (iI (u42a 0))) (C := RX7) (T := TX7) (N := 15) hx hb hts inb_X7 hown hK.1 hP 16 rfl rfl 0 (by decide) (hK.nf 7 rfl) (fun _ h9 => h9) rfl dX11_town_64 ?_
    rw [hQ]; exact fn_iret hx hb hr hlocks rfl hP hD hS ((fun k => ([(u4a 0), (u4a 1), 0, (u4a 2), (u4a 3), (u4a 4), (u4a 5), (u4a 6), (u4a 7), (u4a 8), (u4a 9), (u4a 10), (u4a 11), (u4a 12), (u4a 13), (u42a 0), (u42a 1), (u42a 2), (u42a 3), (u42a 4), (u42a 5), (u42a 6), (u42a 7), (u42a 8), (u53a 0), (u57a 0), (u57a 1)] : List Int).getD k 0), (fun k => ([(u4b 0), (u4b 1), (u4b 2), (u4b 3), (u4b 4), (u4b 5), (u42b 0), (u42b 1), (u42b 2), (u42b 3), (u42b 4), (u42b 5), (u53b 0), (u53b 1), (u53b 2), (u57b 0), (u57b 1), (u57b 2)] : List (Nat → Int)).getD k (fun _ => 0))) ⟨(u42a 0), rfl, by omega, (by show 0 ≤ (u4a 0) ∧ (u4a 0) ≤ 3 ∧ (-2147483648) ≤ (u4a 1) ∧ (u4a 1) ≤ 2147483647 ∧ 0 ≤ 0 ∧ 0 ≤ 1400 ∧ 0 ≤ (u4a 2) ∧ (u4a 2) ≤ 4 ∧ 0 ≤ (u4a 3) ∧ (u4a 3) ≤ 1400 ∧ 0 ≤ (u4a 4) ∧ (u4a 4) ≤ 1400 ∧ 0 ≤ (u4a 5) ∧ (u4a 5) ≤ 1400 ∧ 0 ≤ (u4a 6) ∧ (u4a 6) ≤ 20 ∧ 0 ≤ (u4a 7) ∧ (u4a 7) ≤ 100 ∧ 0 ≤ (u4a 8) ∧ (u4a 8) ≤ 5 ∧ 0 ≤ (u4a 9) ∧ (u4a 9) ≤ 12 ∧ 0 ≤ (u4a 10) ∧ (u4a 10) ≤ 24 ∧ 0 ≤ (u4a 11) ∧ (u4a 11) ≤ 4095 ∧ 0 ≤ (u4a 12) ∧ (u4a 12) ≤ 31 ∧ (-2147483648) ≤ (u4a 13) ∧ (u4a 13) ≤ 2147483647 ∧ 0 ≤ (u42a 0) ∧ (u42a 0) ≤ 1400 ∧ 0 ≤ (u42a 1) ∧ (u42a 1) ≤ 20 ∧ 0 ≤ (u42a 2) ∧ (u42a 2) ≤ 100 ∧ 0 ≤ (u42a 3) ∧ (u42a 3) ≤ 5 ∧ 0 ≤ (u42a 4) ∧ (u42a 4) ≤ 12 ∧ 0 ≤ (u42a 5) ∧ (u42a 5) ≤ 24 ∧ 0 ≤ (u42a 6) ∧ (u42a 6) ≤ 4095 ∧ 0 ≤ (u42a 7) ∧ (u42a 7) ≤ 31 ∧ (-2147483648) ≤ (u42a 8) ∧ (u42a 8) ≤ 2147483647 ∧ 0 ≤ (u53a 0) ∧ (u53a 0) ≤ 40 ∧ 0 ≤ (u57a 0) ∧ (u57a 0) ≤ 12 ∧ 0 ≤ (u57a 1) ∧ (u57a 1) ≤ 4095; omega), (show ∀ j : Nat, -12 ≤ (u53b 0) j ∨ t_2_1_c j ≤ (u53b 0) j from by first | assumption | exact fun j => Or.inr (Int.le_refl _)), (hu4_0), (hu4_1), (hu4_2), (hu4_3), (hu4_4), (hu4_5), (hu42_0), (hu42_1), (hu42_2), (hu42_3), (hu42_4), (hu42_5), (hu53_0), (hu53_1), (hu53_2), (hu57_0), (hu57_1), (hu57_2), trivial⟩ [14, 0, 3, 1, 2, 9, 10, 11, 4, 6, 7, 16, 5, 13, 8, 22, 24, 12, 18, 23, 19, 20, 15, 17, 21, 25] (by decide) rfl dX11_town_67
  · refine lv_bipush (v := iI (-4)) hx hb dX11_town_17 (by decide) ?_
    have y19_1 : 0 ≤ t_0_0_x0 ∧ t_0_0_x0 ≤ 1400 := hi_t_0_0.1
    have y19_2 : 0 ≤ t_1_x0 ∧ t_1_x0 ≤ 1400 := hi_t_1.1
    have y19_3 : 0 ≤ t_1_x1 ∧ t_1_x1 ≤ 20 := hi_t_1.2.1
    have y19_4 : 0 ≤ t_1_x2 ∧ t_1_x2 ≤ 100 := hi_t_1.2.2.1
    have y19_5 : 0 ≤ t_1_x3 ∧ t_1_x3 ≤ 5 := hi_t_1.2.2.2.1
    have y19_6 : 0 ≤ t_1_x4 ∧ t_1_x4 ≤ 12 := hi_t_1.2.2.2.2.1
    have y19_7 : 0 ≤ t_1_x5 ∧ t_1_x5 ≤ 24 := hi_t_1.2.2.2.2.2.1
    have y19_8 : 0 ≤ t_1_x6 ∧ t_1_x6 ≤ 4095 := hi_t_1.2.2.2.2.2.2.1
    have y19_9 : 0 ≤ t_1_x7 ∧ t_1_x7 ≤ 31 := hi_t_1.2.2.2.2.2.2.2.1
    have y19_10 : (-2147483648) ≤ t_1_x8 ∧ t_1_x8 ≤ 2147483647 := hi_t_1.2.2.2.2.2.2.2.2
    have y19_11 : 0 ≤ t_2_x0 ∧ t_2_x0 ≤ 40 := hi_t_2
    have y19_12 : 0 ≤ t_7_x0 ∧ t_7_x0 ≤ 12 := hi_t_7.1
    have y19_13 : 0 ≤ t_7_x1 ∧ t_7_x1 ≤ 4095 := hi_t_7.2.1
    rw [hQ]; exact fn_iret hx hb hr hlocks rfl hP hD hS ((fun k => ([(u4a 0), (u4a 1), t_0_0_x0, (u4a 2), (u4a 3), (u4a 4), (u4a 5), (u4a 6), (u4a 7), (u4a 8), (u4a 9), (u4a 10), (u4a 11), (u4a 12), (u4a 13), t_1_x0, t_1_x1, t_1_x2, t_1_x3, t_1_x4, t_1_x5, t_1_x6, t_1_x7, t_1_x8, t_2_x0, t_7_x0, t_7_x1] : List Int).getD k 0), (fun k => ([(u4b 0), (u4b 1), (u4b 2), (u4b 3), (u4b 4), (u4b 5), t_1_10_c, t_1_11_c, t_1_12_c, t_1_13_c, t_1_14_c, t_1_9_c, t_2_1_c, t_2_2_c, t_2_3_c, t_7_2_c, t_7_3_c, t_7_4_c] : List (Nat → Int)).getD k (fun _ => 0))) ⟨(-4), rfl, by omega, (by show 0 ≤ (u4a 0) ∧ (u4a 0) ≤ 3 ∧ (-2147483648) ≤ (u4a 1) ∧ (u4a 1) ≤ 2147483647 ∧ 0 ≤ t_0_0_x0 ∧ t_0_0_x0 ≤ 1400 ∧ 0 ≤ (u4a 2) ∧ (u4a 2) ≤ 4 ∧ 0 ≤ (u4a 3) ∧ (u4a 3) ≤ 1400 ∧ 0 ≤ (u4a 4) ∧ (u4a 4) ≤ 1400 ∧ 0 ≤ (u4a 5) ∧ (u4a 5) ≤ 1400 ∧ 0 ≤ (u4a 6) ∧ (u4a 6) ≤ 20 ∧ 0 ≤ (u4a 7) ∧ (u4a 7) ≤ 100 ∧ 0 ≤ (u4a 8) ∧ (u4a 8) ≤ 5 ∧ 0 ≤ (u4a 9) ∧ (u4a 9) ≤ 12 ∧ 0 ≤ (u4a 10) ∧ (u4a 10) ≤ 24 ∧ 0 ≤ (u4a 11) ∧ (u4a 11) ≤ 4095 ∧ 0 ≤ (u4a 12) ∧ (u4a 12) ≤ 31 ∧ (-2147483648) ≤ (u4a 13) ∧ (u4a 13) ≤ 2147483647 ∧ 0 ≤ t_1_x0 ∧ t_1_x0 ≤ 1400 ∧ 0 ≤ t_1_x1 ∧ t_1_x1 ≤ 20 ∧ 0 ≤ t_1_x2 ∧ t_1_x2 ≤ 100 ∧ 0 ≤ t_1_x3 ∧ t_1_x3 ≤ 5 ∧ 0 ≤ t_1_x4 ∧ t_1_x4 ≤ 12 ∧ 0 ≤ t_1_x5 ∧ t_1_x5 ≤ 24 ∧ 0 ≤ t_1_x6 ∧ t_1_x6 ≤ 4095 ∧ 0 ≤ t_1_x7 ∧ t_1_x7 ≤ 31 ∧ (-2147483648) ≤ t_1_x8 ∧ t_1_x8 ≤ 2147483647 ∧ 0 ≤ t_2_x0 ∧ t_2_x0 ≤ 40 ∧ 0 ≤ t_7_x0 ∧ t_7_x0 ≤ 12 ∧ 0 ≤ t_7_x1 ∧ t_7_x1 ≤ 4095; omega), (show ∀ j : Nat, -12 ≤ t_2_1_c j ∨ t_2_1_c j ≤ t_2_1_c j from by first | assumption | exact fun j => Or.inr (Int.le_refl _)), (hu4_0), (hu4_1), (hu4_2), (hu4_3), (hu4_4), (hu4_5), (hc_t_1_10), (hc_t_1_11), (hc_t_1_12), (hc_t_1_13), (hc_t_1_14), (hc_t_1_9), (hc_t_2_1), (hc_t_2_2), (hc_t_2_3), (hc_t_7_2), (hc_t_7_3), (hc_t_7_4), trivial⟩ [0, 16, 17, 18, 19, 20, 21, 22, 23, 24, 25, 1, 2, 3, 4, 5, 6, 7, 8, 9, 10, 11, 12, 13, 14, 15] (by decide) rfl dX11_town_19
theorem dX11_fault_0 : decode cX11_fault 0 = .ok (.iload_n 1, 1) := by decide +kernel
theorem dX11_fault_1 : decode cX11_fault 1 = .ok (.ifCond .ne 11, 3) := by decide +kernel
theorem dX11_fault_12 : decode cX11_fault 12 = .ok (.iload_n 1, 1) := by decide +kernel
theorem dX11_fault_13 : decode cX11_fault 13 = .ok (.iconst 1, 1) := by decide +kernel
theorem dX11_fault_14 : decode cX11_fault 14 = .ok (.if_icmp .ne 13, 3) := by decide +kernel
theorem dX11_fault_27 : decode cX11_fault 27 = .ok (.iconst (-1), 1) := by decide +kernel
theorem dX11_fault_28 : decode cX11_fault 28 = .ok (.ireturn, 1) := by decide +kernel
theorem dX11_fault_17 : decode cX11_fault 17 = .ok (.aload_n 0, 1) := by decide +kernel
theorem dX11_fault_18 : decode cX11_fault 18 = .ok (.getfield 10, 3) := by decide +kernel
theorem dX11_fault_21 : decode cX11_fault 21 = .ok (.getfield 123, 3) := by decide +kernel
theorem dX11_fault_24 : decode cX11_fault 24 = .ok (.goto 4, 3) := by decide +kernel
theorem dX11_fault_4 : decode cX11_fault 4 = .ok (.aload_n 0, 1) := by decide +kernel
theorem dX11_fault_5 : decode cX11_fault 5 = .ok (.getfield 10, 3) := by decide +kernel
theorem dX11_fault_8 : decode cX11_fault 8 = .ok (.getfield 104, 3) := by decide +kernel
theorem dX11_fault_11 : decode cX11_fault 11 = .ok (.ireturn, 1) := by decide +kernel
set_option maxHeartbeats 4000000 in
set_option maxRecDepth 100000 in
theorem k_X11_fault (l : Launch) (D : va_G) (K : Nat → ClassId) (t : Nat) (t_q t_0_q : Nat → Nat) (p1 t_0_x2 t_0_x3 : Int) (hp1 : (-2147483648) ≤ p1 ∧ p1 ≤ 2147483647) (hi_t_0 : bX3 t_0_x2 t_0_x3) : fn_CI (S := (Nat → Int) × (Nat → Nat → Int)) l D K yX11_fault (fn_ws yX11_fault cX11_fault 2 (some .int)) ({ frames := 4, cells := 0, slots := 0, locals := 100 } : Room) [.ref t, .int (iI p1)] [(t, .inr (11, oX11 t_q)), ((t_q 0), .inr (3, oX3 t_0_q t_0_x2 t_0_x3))] (fun r u => ∃ k : Int, r = iI k ∧ ((-2147483648) ≤ k ∧ k ≤ 2147483647) ∧ True) (fun u => [(t, .inr (11, oX11 t_q)), ((t_q 0), .inr (3, oX3 t_0_q t_0_x2 t_0_x3))]) 0 0 := by
  refine g_inI (cc := cX11_fault) (maxL := 2) (ret := (some .int)) (by decide) rfl (Nat.le_of_ble_eq_true rfl) ?_
  intro p e s m below meth c A ls ag Q B hA hP hD hS hl hQ
  obtain ⟨hx, hb, hr, hml, hts, hown, hlocks, hin, hK⟩ := B
  have hown : s.vm.findClass RX11 = some m.cls := hown
  have hts := fun w h => hts w (List.mem_cons_of_mem _ h)
  have hl : lv_has ls 2 [(0, .ref t), (1, .int (iI p1))] := hl
  refine lv_iload_n hx hb dX11_fault_0 rfl (lv_at hl 1 rfl) ?_
  refine g_if_ne (tgt := 12) hx hb (by omega) dX11_fault_1 (by decide) (fun c1 => ?_) (fun c1 => ?_)
  · refine lv_iload_n hx hb dX11_fault_12 rfl (lv_at hl 1 rfl) ?_
    refine lv_iconst (v := iI 1) hx hb dX11_fault_13 rfl ?_
    refine g_icmp_ne (tgt := 27) hx hb (by omega) (by omega) dX11_fault_14 (by decide) (fun c14 => ?_) (fun c14 => ?_)
    · refine lv_iconst (v := iI (-1)) hx hb dX11_fault_27 rfl ?_
      rw [hQ]; exact fn_iret hx hb hr hlocks rfl hP hD hS ((fun _ => 0), (fun _ _ => 0)) ⟨(-1), rfl, by omega, trivial⟩ [0, 1] (by decide) rfl dX11_fault_28
    · refine lv_aload_n hx hb dX11_fault_17 rfl (lv_at hl 0 rfl) ?_
      refine va_get (D := D) (own := RX11) (ci := 11) (v := .ref (t_q 0)) (C := RX11) (T := TX11) (N := 13) hx hb hts inb_X11 hown hK.1 hP 0 rfl rfl 0 (by decide) (hts _ wd_422) (fun _ h9 => h9) rfl dX11_fault_18 ?_
      refine va_getN (D := D) (own := RX11) (ci := 3) (v := .int (iI t_0_x3)) (C := RX3) (T := TX3) (N := 4) hx hb hts inb_X3 hown hK.1 hP 1 rfl rfl 3 (by decide) (hK.nf 53 rfl) (fun _ h9 => h9) rfl dX11_fault_21 ?_
      have y21_1 : (-2147483648) ≤ t_0_x3 ∧ t_0_x3 ≤ 2147483647 := hi_t_0.2
      refine lv_goto (tgt := 28) hx hb dX11_fault_24 (by decide) ?_
      rw [hQ]; exact fn_iret hx hb hr hlocks rfl hP hD hS ((fun _ => 0), (fun _ _ => 0)) ⟨t_0_x3, rfl, by omega, trivial⟩ [0, 1] (by decide) rfl dX11_fault_28
  · refine lv_aload_n hx hb dX11_fault_4 rfl (lv_at hl 0 rfl) ?_
    refine va_get (D := D) (own := RX11) (ci := 11) (v := .ref (t_q 0)) (C := RX11) (T := TX11) (N := 13) hx hb hts inb_X11 hown hK.1 hP 0 rfl rfl 0 (by decide) (hts _ wd_422) (fun _ h9 => h9) rfl dX11_fault_5 ?_
    refine va_getN (D := D) (own := RX11) (ci := 3) (v := .int (iI t_0_x2)) (C := RX3) (T := TX3) (N := 4) hx hb hts inb_X3 hown hK.1 hP 1 rfl rfl 2 (by decide) (hK.nf 52 rfl) (fun _ h9 => h9) rfl dX11_fault_8 ?_
    have y8_1 : 0 ≤ t_0_x2 ∧ t_0_x2 ≤ 3 := hi_t_0.1
    rw [hQ]; exact fn_iret hx hb hr hlocks rfl hP hD hS ((fun _ => 0), (fun _ _ => 0)) ⟨t_0_x2, rfl, by omega, trivial⟩ [0, 1] (by decide) rfl dX11_fault_11
theorem dX11_noTown_0 : decode cX11_noTown 0 = .ok (.aload_n 0, 1) := by decide +kernel
theorem dX11_noTown_1 : decode cX11_noTown 1 = .ok (.getfield 19, 3) := by decide +kernel
theorem dX11_noTown_4 : decode cX11_noTown 4 = .ok (.getfield 120, 3) := by decide +kernel
theorem dX11_noTown_7 : decode cX11_noTown 7 = .ok (.ifCond .ne 7, 3) := by decide +kernel
theorem dX11_noTown_14 : decode cX11_noTown 14 = .ok (.iconst 0, 1) := by decide +kernel
theorem dX11_noTown_15 : decode cX11_noTown 15 = .ok (.ireturn, 1) := by decide +kernel
theorem dX11_noTown_10 : decode cX11_noTown 10 = .ok (.iconst 1, 1) := by decide +kernel
theorem dX11_noTown_11 : decode cX11_noTown 11 = .ok (.goto 4, 3) := by decide +kernel
set_option maxHeartbeats 4000000 in
set_option maxRecDepth 100000 in
theorem k_X11_noTown (l : Launch) (D : va_G) (K : Nat → ClassId) (t : Nat) (t_q t_1_q : Nat → Nat) (t_1_x0 t_1_x1 t_1_x2 t_1_x3 t_1_x4 t_1_x5 t_1_x6 t_1_x7 t_1_x8 : Int) (hi_t_1 : bX7 t_1_x0 t_1_x1 t_1_x2 t_1_x3 t_1_x4 t_1_x5 t_1_x6 t_1_x7 t_1_x8) : fn_CI (S := (Nat → Int) × (Nat → Nat → Int)) l D K yX11_noTown (fn_ws yX11_noTown cX11_noTown 1 (some .boolean)) ({ frames := 4, cells := 0, slots := 0, locals := 100 } : Room) [.ref t] [(t, .inr (11, oX11 t_q)), ((t_q 1), .inr (7, oX7 t_1_q t_1_x0 t_1_x1 t_1_x2 t_1_x3 t_1_x4 t_1_x5 t_1_x6 t_1_x7 t_1_x8))] (fun r u => ∃ k : Int, r = iI k ∧ (0 ≤ k ∧ k ≤ 1) ∧ True) (fun u => [(t, .inr (11, oX11 t_q)), ((t_q 1), .inr (7, oX7 t_1_q t_1_x0 t_1_x1 t_1_x2 t_1_x3 t_1_x4 t_1_x5 t_1_x6 t_1_x7 t_1_x8))]) 0 0 := by
  refine g_inI (cc := cX11_noTown) (maxL := 1) (ret := (some .boolean)) (by decide) rfl (Nat.le_of_ble_eq_true rfl) ?_
  intro p e s m below meth c A ls ag Q B hA hP hD hS hl hQ
  obtain ⟨hx, hb, hr, hml, hts, hown, hlocks, hin, hK⟩ := B
  have hown : s.vm.findClass RX11 = some m.cls := hown
  have hts := fun w h => hts w (List.mem_cons_of_mem _ h)
  have hl : lv_has ls 1 [(0, .ref t)] := hl
  refine lv_aload_n hx hb dX11_noTown_0 rfl (lv_at hl 0 rfl) ?_
  refine va_get (D := D) (own := RX11) (ci := 11) (v := .ref (t_q 1)) (C := RX11) (T := TX11) (N := 13) hx hb hts inb_X11 hown hK.1 hP 0 rfl rfl 1 (by decide) (hts _ wd_423) (fun _ h9 => h9) rfl dX11_noTown_1 ?_
  refine va_getN (D := D) (own := RX11) (ci := 7) (v := .int (iI t_1_x0)) (C := RX7) (T := TX7) (N := 15) hx hb hts inb_X7 hown hK.1 hP 1 rfl rfl 0 (by decide) (hK.nf 7 rfl) (fun _ h9 => h9) rfl dX11_noTown_4 ?_
  have y4_1 : 0 ≤ t_1_x0 ∧ t_1_x0 ≤ 1400 := hi_t_1.1
  refine g_if_ne (tgt := 14) hx hb (by omega) dX11_noTown_7 (by decide) (fun c7 => ?_) (fun c7 => ?_)
  · refine lv_iconst (v := iI 0) hx hb dX11_noTown_14 rfl ?_
    rw [hQ]; exact fn_iret hx hb hr hlocks (iI_nz (by omega)) hP hD hS ((fun _ => 0), (fun _ _ => 0)) ⟨0, rfl, by omega, trivial⟩ [0, 1] (by decide) rfl dX11_noTown_15
  · refine lv_iconst (v := iI 1) hx hb dX11_noTown_10 rfl ?_
    refine lv_goto (tgt := 15) hx hb dX11_noTown_11 (by decide) ?_
    rw [hQ]; exact fn_iret hx hb hr hlocks (iI_nz (by omega)) hP hD hS ((fun _ => 0), (fun _ _ => 0)) ⟨1, rfl, by omega, trivial⟩ [0, 1] (by decide) rfl dX11_noTown_15
theorem wd_662 : Cond.code ⟨"FootNotes$Text", "hasPage", "(I)Z"⟩ prog_9_method_6_code 2 (Option.some Jvm.ClassFile.FieldType.boolean) ∈ fn_big := fn_tb (fn_l3 (List.mem_of_getElem? (i := 182) (by decide +kernel))) (by decide +kernel)
theorem wd_661 : Cond.instanceMethod ⟨"FootNotes$Text", "hasPage", "(I)Z"⟩ ∈ fn_big := fn_tb (fn_l3 (List.mem_of_getElem? (i := 181) (by decide +kernel))) (by decide +kernel)
theorem wp_25 : Cond.selects "FootNotes$Text" ⟨"FootNotes$Text", "hasPage", "(I)Z"⟩ ⟨"FootNotes$Text", "hasPage", "(I)Z"⟩ ∈ fn_big := fn_sel (q := (⟨"FootNotes$Text", "hasPage", "(I)Z"⟩, 15)) 25 (by decide +kernel) (by decide +kernel)
theorem wd_666 : Cond.code ⟨"FootNotes$Text", "notesOn", "(I)I"⟩ prog_9_method_11_code 4 (Option.some Jvm.ClassFile.FieldType.int) ∈ fn_big := fn_tb (fn_l3 (List.mem_of_getElem? (i := 186) (by decide +kernel))) (by decide +kernel)
theorem wd_665 : Cond.instanceMethod ⟨"FootNotes$Text", "notesOn", "(I)I"⟩ ∈ fn_big := fn_tb (fn_l3 (List.mem_of_getElem? (i := 185) (by decide +kernel))) (by decide +kernel)
theorem wp_26 : Cond.selects "FootNotes$Text" ⟨"FootNotes$Text", "notesOn", "(I)I"⟩ ⟨"FootNotes$Text", "notesOn", "(I)I"⟩ ∈ fn_big := fn_sel (q := (⟨"FootNotes$Text", "notesOn", "(I)I"⟩, 15)) 26 (by decide +kernel) (by decide +kernel)
theorem dX11_page_0 : decode cX11_page 0 = .ok (.aload_n 0, 1) := by decide +kernel
theorem dX11_page_1 : decode cX11_page 1 = .ok (.getfield 19, 3) := by decide +kernel
theorem dX11_page_4 : decode cX11_page 4 = .ok (.iload_n 1, 1) := by decide +kernel
theorem dX11_page_5 : decode cX11_page 5 = .ok (.invokevirtual 130, 3) := by decide +kernel
theorem dX11_page_8 : decode cX11_page 8 = .ok (.ifCond .ne 6, 3) := by decide +kernel
theorem dX11_page_14 : decode cX11_page 14 = .ok (.iload_n 2, 1) := by decide +kernel
theorem dX11_page_15 : decode cX11_page 15 = .ok (.tableswitch 89 0 3 #[29, 39, 68, 77], 29) := by decide +kernel
theorem dX11_page_104 : decode cX11_page 104 = .ok (.bipush (-2), 2) := by decide +kernel
theorem dX11_page_106 : decode cX11_page 106 = .ok (.ireturn, 1) := by decide +kernel
theorem dX11_page_44 : decode cX11_page 44 = .ok (.aload_n 0, 1) := by decide +kernel
theorem dX11_page_45 : decode cX11_page 45 = .ok (.getfield 19, 3) := by decide +kernel
theorem dX11_page_48 : decode cX11_page 48 = .ok (.getfield 134, 3) := by decide +kernel
theorem dX11_page_51 : decode cX11_page 51 = .ok (.iload_n 1, 1) := by decide +kernel
theorem dX11_page_52 : decode cX11_page 52 = .ok (.iaload, 1) := by decide +kernel
theorem dX11_page_53 : decode cX11_page 53 = .ok (.ireturn, 1) := by decide +kernel
theorem dX11_page_54 : decode cX11_page 54 = .ok (.aload_n 0, 1) := by decide +kernel
theorem dX11_page_55 : decode cX11_page 55 = .ok (.getfield 51, 3) := by decide +kernel
theorem dX11_page_58 : decode cX11_page 58 = .ok (.getfield 138, 3) := by decide +kernel
theorem dX11_page_61 : decode cX11_page 61 = .ok (.iload_n 1, 1) := by decide +kernel
theorem dX11_page_62 : decode cX11_page 62 = .ok (.iaload, 1) := by decide +kernel
theorem dX11_page_63 : decode cX11_page 63 = .ok (.ifCond .ge 7, 3) := by decide +kernel
theorem dX11_page_70 : decode cX11_page 70 = .ok (.aload_n 0, 1) := by decide +kernel
theorem dX11_page_71 : decode cX11_page 71 = .ok (.getfield 51, 3) := by decide +kernel
theorem dX11_page_74 : decode cX11_page 74 = .ok (.getfield 138, 3) := by decide +kernel
theorem dX11_page_77 : decode cX11_page 77 = .ok (.iload_n 1, 1) := by decide +kernel
theorem dX11_page_78 : decode cX11_page 78 = .ok (.iaload, 1) := by decide +kernel
theorem dX11_page_79 : decode cX11_page 79 = .ok (.bipush 30, 2) := by decide +kernel
theorem dX11_page_81 : decode cX11_page 81 = .ok (.irem, 1) := by decide +kernel
theorem dX11_page_82 : decode cX11_page 82 = .ok (.ireturn, 1) := by decide +kernel
theorem dX11_page_66 : decode cX11_page 66 = .ok (.iconst (-1), 1) := by decide +kernel
theorem dX11_page_67 : decode cX11_page 67 = .ok (.goto 15, 3) := by decide +kernel
theorem dX11_page_83 : decode cX11_page 83 = .ok (.aload_n 0, 1) := by decide +kernel
theorem dX11_page_84 : decode cX11_page 84 = .ok (.getfield 19, 3) := by decide +kernel
theorem dX11_page_87 : decode cX11_page 87 = .ok (.iload_n 1, 1) := by decide +kernel
theorem dX11_page_88 : decode cX11_page 88 = .ok (.invokevirtual 141, 3) := by decide +kernel
theorem dX11_page_91 : decode cX11_page 91 = .ok (.ireturn, 1) := by decide +kernel
theorem dX11_page_92 : decode cX11_page 92 = .ok (.aload_n 0, 1) := by decide +kernel
theorem dX11_page_93 : decode cX11_page 93 = .ok (.getfield 19, 3) := by decide +kernel
theorem dX11_page_96 : decode cX11_page 96 = .ok (.getfield 145, 3) := by decide +kernel
theorem dX11_page_99 : decode cX11_page 99 = .ok (.iload_n 1, 1) := by decide +kernel
theorem dX11_page_100 : decode cX11_page 100 = .ok (.ishr, 1) := by decide +kernel
theorem dX11_page_101 : decode cX11_page 101 = .ok (.iconst 1, 1) := by decide +kernel
theorem dX11_page_102 : decode cX11_page 102 = .ok (.iand, 1) := by decide +kernel
theorem dX11_page_103 : decode cX11_page 103 = .ok (.ireturn, 1) := by decide +kernel
theorem dX11_page_11 : decode cX11_page 11 = .ok (.bipush (-2), 2) := by decide +kernel
theorem dX11_page_13 : decode cX11_page 13 = .ok (.ireturn, 1) := by decide +kernel
set_option maxHeartbeats 4000000 in
set_option maxRecDepth 100000 in
theorem k_X11_page (l : Launch) (D : va_G) (K : Nat → ClassId) (t : Nat) (t_q t_1_q t_7_q : Nat → Nat) (p1 p2 t_1_x0 t_1_x1 t_1_x2 t_1_x3 t_1_x4 t_1_x5 t_1_x6 t_1_x7 t_1_x8 t_7_x0 t_7_x1 t_7_x6 : Int) (t_1_11_c : Nat → Int) (t_7_2_c : Nat → Int) (t_1_12_c : Nat → Int) (hp1 : (-2147483648) ≤ p1 ∧ p1 ≤ 2147483647) (hp2 : (-2147483648) ≤ p2 ∧ p2 ≤ 2147483647) (hi_t_1 : bX7 t_1_x0 t_1_x1 t_1_x2 t_1_x3 t_1_x4 t_1_x5 t_1_x6 t_1_x7 t_1_x8) (hc_t_1_11 : ∀ j : Nat, 0 ≤ t_1_11_c j ∧ t_1_11_c j ≤ 4) (hi_t_7 : bX10 t_7_x0 t_7_x1 t_7_x6) (hc_t_7_2 : ∀ j : Nat, (-1) ≤ t_7_2_c j ∧ t_7_2_c j ≤ 149) (hc_t_1_12 : ∀ j : Nat, 0 ≤ t_1_12_c j ∧ t_1_12_c j ≤ 11) : fn_CI (S := (Nat → Int) × (Nat → Nat → Int)) l D K yX11_page (fn_ws yX11_page cX11_page 3 (some .int)) ({ frames := 12, cells := 0, slots := 0, locals := 300 } : Room) [.ref t, .int (iI p1), .int (iI p2)] [(t, .inr (11, oX11 t_q)), ((t_q 1), .inr (7, oX7 t_1_q t_1_x0 t_1_x1 t_1_x2 t_1_x3 t_1_x4 t_1_x5 t_1_x6 t_1_x7 t_1_x8)), ((t_1_q 11), .inl (K 0, 12, .inl (fun j => iI (t_1_11_c j)))), ((t_q 7), .inr (10, oX10 t_7_q t_7_x0 t_7_x1 t_7_x6)), ((t_7_q 2), .inl (K 0, 12, .inl (fun j => iI (t_7_2_c j)))), ((t_1_q 12), .inl (K 0, 24, .inl (fun j => iI (t_1_12_c j))))] (fun r u => ∃ k : Int, r = iI k ∧ ((-2147483648) ≤ k ∧ k ≤ 2147483647) ∧ True) (fun u => [(t, .inr (11, oX11 t_q)), ((t_q 1), .inr (7, oX7 t_1_q t_1_x0 t_1_x1 t_1_x2 t_1_x3 t_1_x4 t_1_x5 t_1_x6 t_1_x7 t_1_x8)), ((t_1_q 11), .inl (K 0, 12, .inl (fun j => iI (t_1_11_c j)))), ((t_q 7), .inr (10, oX10 t_7_q t_7_x0 t_7_x1 t_7_x6)), ((t_7_q 2), .inl (K 0, 12, .inl (fun j => iI (t_7_2_c j)))), ((t_1_q 12), .inl (K 0, 24, .inl (fun j => iI (t_1_12_c j))))]) 0 0 := by
  refine g_inI (cc := cX11_page) (maxL := 3) (ret := (some .int)) (by decide) rfl (Nat.le_of_ble_eq_true rfl) ?_
  intro p e s m below meth c A ls ag Q B hA hP hD hS hl hQ
  obtain ⟨hx, hb, hr, hml, hts, hown, hlocks, hin, hK⟩ := B
  have hown : s.vm.findClass RX11 = some m.cls := hown
  have hts := fun w h => hts w (List.mem_cons_of_mem _ h)
  have hl : lv_has ls 3 [(0, .ref t), (1, .int (iI p1)), (2, .int (iI p2))] := hl
  refine lv_aload_n hx hb dX11_page_0 rfl (lv_at hl 0 rfl) ?_
  refine va_get (D := D) (own := RX11) (ci := 11) (v := .ref (t_q 1)) (C := RX11) (T := TX11) (N := 13) hx hb hts inb_X11 hown hK.1 hP 0 rfl rfl 1 (by decide) (hts _ wd_423) (fun _ h9 => h9) rfl dX11_page_1 ?_
  refine lv_iload_n hx hb dX11_page_4 rfl (lv_at hl 1 rfl) ?_
  refine fn_goi (wc := [((t_q 1), .inr (7, oX7 t_1_q t_1_x0 t_1_x1 t_1_x2 t_1_x3 t_1_x4 t_1_x5 t_1_x6 t_1_x7 t_1_x8))]) (wr := [(t, .inr (11, oX11 t_q)), ((t_1_q 11), .inl (K 0, 12, .inl (fun j => iI (t_1_11_c j)))), ((t_q 7), .inr (10, oX10 t_7_q t_7_x0 t_7_x1 t_7_x6)), ((t_7_q 2), .inl (K 0, 12, .inl (fun j => iI (t_7_2_c j)))), ((t_1_q 12), .inl (K 0, 24, .inl (fun j => iI (t_1_12_c j))))]) hK hP hD hS hA [1] [0, 2, 3, 4, 5] rfl rfl (by decide) (fun hp => va_runVN (C := RX7) (As := [.int (iI p1)]) (rest := []) ⟨hx, hb, hml, hown, hts⟩ (k_X7_hasPage (l := l) (D := D) (K := K) (t := (t_q 1)) (p1 := p1) (t_q := t_1_q) (t_x0 := t_1_x0) (t_x1 := t_1_x1) (t_x2 := t_1_x2) (t_x3 := t_1_x3) (t_x4 := t_1_x4) (t_x5 := t_1_x5) (t_x6 := t_1_x6) (t_x7 := t_1_x7) (t_x8 := t_1_x8) (hp1 := (by omega)) (hi_t := hi_t_1) _) ⟨va_cnB (own := RX11) 1 hts (fn_gin wd_662) rfl rfl rfl (hK.nw 108 rfl) (hts _ wd_4) (by decide +kernel) ⟨Nat.le_of_ble_eq_true rfl, Nat.le_of_ble_eq_true rfl⟩, hts _ wd_661, hts _ wp_25⟩ ⟨fn_blind, va_recv hK.1 hP (ci := 7) (q0 := 1) rfl rfl, hp⟩ rfl rfl hl.1 rfl (lv_room (Nat.le_of_ble_eq_true rfl)) dX11_page_5 ⟨Nat.le_of_ble_eq_true rfl, Nat.le_of_ble_eq_true rfl⟩) (fun r5 u5 H locs hwu5 hP hD hS => ?_)
  obtain ⟨u5a, u5b⟩ := u5
  obtain ⟨kr5, rfl, hkr5, hqu50, -⟩ := hwu5
  have hqu5 : (kr5 = 1 → 0 ≤ p1 ∧ p1 < t_1_x4 ∧ p1 ≤ 11) := hqu50
  clear hqu50
  have hP : va_P D vwCl [(t, .inr (11, oX11 t_q)), ((t_1_q 11), .inl (K 0, 12, .inl (fun j => iI (t_1_11_c j)))), ((t_q 7), .inr (10, oX10 t_7_q t_7_x0 t_7_x1 t_7_x6)), ((t_7_q 2), .inl (K 0, 12, .inl (fun j => iI (t_7_2_c j)))), ((t_1_q 12), .inl (K 0, 24, .inl (fun j => iI (t_1_12_c j)))), ((t_q 1), .inr (7, oX7 t_1_q t_1_x0 t_1_x1 t_1_x2 t_1_x3 t_1_x4 t_1_x5 t_1_x6 t_1_x7 t_1_x8))] H := hP
  have hD : va_D A [(t, .inr (11, oX11 t_q)), ((t_1_q 11), .inl (K 0, 12, .inl (fun j => iI (t_1_11_c j)))), ((t_q 7), .inr (10, oX10 t_7_q t_7_x0 t_7_x1 t_7_x6)), ((t_7_q 2), .inl (K 0, 12, .inl (fun j => iI (t_7_2_c j)))), ((t_1_q 12), .inl (K 0, 24, .inl (fun j => iI (t_1_12_c j)))), ((t_q 1), .inr (7, oX7 t_1_q t_1_x0 t_1_x1 t_1_x2 t_1_x3 t_1_x4 t_1_x5 t_1_x6 t_1_x7 t_1_x8))] := hD
  refine g_if_ne (tgt := 14) hx hb (by omega) dX11_page_8 (by decide) (fun c8 => ?_) (fun c8 => ?_)
  · refine lv_iload_n hx hb dX11_page_14 rfl (lv_at hl 2 rfl) ?_
    rcases (show (p2 < 0 ∨ 3 < p2) ∨ p2 = 0 ∨ p2 = 1 ∨ p2 = 2 ∨ p2 = 3 by omega) with c15 | c15 | c15 | c15 | c15
    · refine lv_tableOut (tgt := 104) hx hb dX11_page_15 (by rw [iI_toInt (by omega)]; exact c15) (by decide) ?_
      refine lv_bipush (v := iI (-2)) hx hb dX11_page_104 (by decide) ?_
      rw [hQ]; exact fn_iret hx hb hr hlocks rfl hP hD hS ((fun _ => 0), (fun _ _ => 0)) ⟨(-2), rfl, by omega, trivial⟩ [0, 5, 1, 2, 3, 4] (by decide) rfl dX11_page_106
    · refine lv_tableIn (tgt := 44) (off := 29) hx hb dX11_page_15 (by rw [iI_toInt (by omega)]; omega) (by rw [iI_toInt (by omega)]; omega) (by rw [iI_toInt (by omega), c15]; decide) (by decide) ?_
      refine lv_aload_n hx hb dX11_page_44 rfl (lv_at hl 0 rfl) ?_
      refine va_get (D := D) (own := RX11) (ci := 11) (v := .ref (t_q 1)) (C := RX11) (T := TX11) (N := 13) hx hb hts inb_X11 hown hK.1 hP 0 rfl rfl 1 (by decide) (hts _ wd_423) (fun _ h9 => h9) rfl dX11_page_45 ?_
      refine va_getN (D := D) (own := RX11) (ci := 7) (v := .ref (t_1_q 11)) (C := RX7) (T := TX7) (N := 15) hx hb hts inb_X7 hown hK.1 hP 5 rfl rfl 11 (by decide) (hK.nf 41 rfl) (fun _ h9 => h9) rfl dX11_page_48 ?_
      refine lv_iload_n hx hb dX11_page_51 rfl (lv_at hl 1 rfl) ?_
      refine g_iald hx hb hK.1 hP 1 0 rfl rfl (by omega) (by omega) (by decide) dX11_page_52 ?_
      have y52 : 0 ≤ (t_1_11_c p1.toNat) ∧ (t_1_11_c p1.toNat) ≤ 4 := hc_t_1_11 p1.toNat
      rw [hQ]; exact fn_iret hx hb hr hlocks rfl hP hD hS ((fun _ => 0), (fun _ _ => 0)) ⟨t_1_11_c p1.toNat, rfl, by omega, trivial⟩ [0, 5, 1, 2, 3, 4] (by decide) rfl dX11_page_53
    · refine lv_tableIn (tgt := 54) (off := 39) hx hb dX11_page_15 (by rw [iI_toInt (by omega)]; omega) (by rw [iI_toInt (by omega)]; omega) (by rw [iI_toInt (by omega), c15]; decide) (by decide) ?_
      refine lv_aload_n hx hb dX11_page_54 rfl (lv_at hl 0 rfl) ?_
      refine va_get (D := D) (own := RX11) (ci := 11) (v := .ref (t_q 7)) (C := RX11) (T := TX11) (N := 13) hx hb hts inb_X11 hown hK.1 hP 0 rfl rfl 7 (by decide) (hts _ wd_429) (fun _ h9 => h9) rfl dX11_page_55 ?_
      refine va_getN (D := D) (own := RX11) (ci := 10) (v := .ref (t_7_q 2)) (C := RX10) (T := TX10) (N := 7) hx hb hts inb_X10 hown hK.1 hP 2 rfl rfl 2 (by decide) (hK.nf 65 rfl) (fun _ h9 => h9) rfl dX11_page_58 ?_
      refine lv_iload_n hx hb dX11_page_61 rfl (lv_at hl 1 rfl) ?_
      refine g_iald hx hb hK.1 hP 3 0 rfl rfl (by omega) (by omega) (by decide) dX11_page_62 ?_
      have y62 : (-1) ≤ (t_7_2_c p1.toNat) ∧ (t_7_2_c p1.toNat) ≤ 149 := hc_t_7_2 p1.toNat
      refine g_if_ge (tgt := 70) hx hb (by omega) dX11_page_63 (by decide) (fun c63 => ?_) (fun c63 => ?_)
      · refine lv_aload_n hx hb dX11_page_70 rfl (lv_at hl 0 rfl) ?_
        refine va_get (D := D) (own := RX11) (ci := 11) (v := .ref (t_q 7)) (C := RX11) (T := TX11) (N := 13) hx hb hts inb_X11 hown hK.1 hP 0 rfl rfl 7 (by decide) (hts _ wd_429) (fun _ h9 => h9) rfl dX11_page_71 ?_
        refine va_getN (D := D) (own := RX11) (ci := 10) (v := .ref (t_7_q 2)) (C := RX10) (T := TX10) (N := 7) hx hb hts inb_X10 hown hK.1 hP 2 rfl rfl 2 (by decide) (hK.nf 65 rfl) (fun _ h9 => h9) rfl dX11_page_74 ?_
        refine lv_iload_n hx hb dX11_page_77 rfl (lv_at hl 1 rfl) ?_
        refine g_iald hx hb hK.1 hP 3 0 rfl rfl (by omega) (by omega) (by decide) dX11_page_78 ?_
        refine lv_bipush (v := iI 30) hx hb dX11_page_79 (by decide) ?_
        refine fn_at 81 rfl ?_
        refine g_irem hx hb (by omega) (by omega) dX11_page_81 ?_
        rw [hQ]; exact fn_iret hx hb hr hlocks rfl hP hD hS ((fun _ => 0), (fun _ _ => 0)) ⟨(t_7_2_c p1.toNat) % 30, rfl, by omega, trivial⟩ [0, 5, 1, 2, 3, 4] (by decide) rfl dX11_page_82
      · refine lv_iconst (v := iI (-1)) hx hb dX11_page_66 rfl ?_
        refine lv_goto (tgt := 82) hx hb dX11_page_67 (by decide) ?_
        rw [hQ]; exact fn_iret hx hb hr hlocks rfl hP hD hS ((fun _ => 0), (fun _ _ => 0)) ⟨(-1), rfl, by omega, trivial⟩ [0, 5, 1, 2, 3, 4] (by decide) rfl dX11_page_82
    · refine lv_tableIn (tgt := 83) (off := 68) hx hb dX11_page_15 (by rw [iI_toInt (by omega)]; omega) (by rw [iI_toInt (by omega)]; omega) (by rw [iI_toInt (by omega), c15]; decide) (by decide) ?_
      refine lv_aload_n hx hb dX11_page_83 rfl (lv_at hl 0 rfl) ?_
      refine va_get (D := D) (own := RX11) (ci := 11) (v := .ref (t_q 1)) (C := RX11) (T := TX11) (N := 13) hx hb hts inb_X11 hown hK.1 hP 0 rfl rfl 1 (by decide) (hts _ wd_423) (fun _ h9 => h9) rfl dX11_page_84 ?_
      refine lv_iload_n hx hb dX11_page_87 rfl (lv_at hl 1 rfl) ?_
      refine fn_goi (wc := [((t_q 1), .inr (7, oX7 t_1_q t_1_x0 t_1_x1 t_1_x2 t_1_x3 t_1_x4 t_1_x5 t_1_x6 t_1_x7 t_1_x8)), ((t_1_q 12), .inl (K 0, 24, .inl (fun j => iI (t_1_12_c j))))]) (wr := [(t, .inr (11, oX11 t_q)), ((t_1_q 11), .inl (K 0, 12, .inl (fun j => iI (t_1_11_c j)))), ((t_q 7), .inr (10, oX10 t_7_q t_7_x0 t_7_x1 t_7_x6)), ((t_7_q 2), .inl (K 0, 12, .inl (fun j => iI (t_7_2_c j))))]) hK hP hD hS hA [5, 4] [0, 1, 2, 3] rfl rfl (by decide) (fun hp => va_runVN (C := RX7) (As := [.int (iI p1)]) (rest := []) ⟨hx, hb, hml, hown, hts⟩ (k_X7_notesOn (l := l) (D := D) (K := K) (t := (t_q 1)) (p1 := p1) (t_q := t_1_q) (t_x0 := t_1_x0) (t_x1 := t_1_x1) (t_x2 := t_1_x2) (t_x3 := t_1_x3) (t_x4 := t_1_x4) (t_x5 := t_1_x5) (t_x6 := t_1_x6) (t_x7 := t_1_x7) (t_x8 := t_1_x8) (t_12_c := t_1_12_c) (hp1 := (by omega)) (hi_t := hi_t_1) (hc_t_12 := hc_t_1_12) _) ⟨va_cnB (own := RX11) 1 hts (fn_gin wd_666) rfl rfl rfl (hK.nw 109 rfl) (hts _ wd_4) (by decide +kernel) ⟨Nat.le_of_ble_eq_true rfl, Nat.le_of_ble_eq_true rfl⟩, hts _ wd_665, hts _ wp_26⟩ ⟨fn_blind, va_recv hK.1 hP (ci := 7) (q0 := 5) rfl rfl, hp⟩ rfl rfl hl.1 rfl (lv_room (Nat.le_of_ble_eq_true rfl)) dX11_page_88 ⟨Nat.le_of_ble_eq_true rfl, Nat.le_of_ble_eq_true rfl⟩) (fun r88 u88 H locs hwu88 hP hD hS => ?_)
      obtain ⟨u88a, u88b⟩ := u88
      obtain ⟨kr88, rfl, hkr88, -⟩ := hwu88
      have hP : va_P D vwCl [(t, .inr (11, oX11 t_q)), ((t_1_q 11), .inl (K 0, 12, .inl (fun j => iI (t_1_11_c j)))), ((t_q 7), .inr (10, oX10 t_7_q t_7_x0 t_7_x1 t_7_x6)), ((t_7_q 2), .inl (K 0, 12, .inl (fun j => iI (t_7_2_c j)))), ((t_q 1), .inr (7, oX7 t_1_q t_1_x0 t_1_x1 t_1_x2 t_1_x3 t_1_x4 t_1_x5 t_1_x6 t_1_x7 t_1_x8)), ((t_1_q 12), .inl (K 0, 24, .inl (fun j => iI (t_1_12_c j))))] H := hP
      have hD : va_D A [(t, .inr (11, oX11 t_q)), ((t_1_q 11), .inl (K 0, 12, .inl (fun j => iI (t_1_11_c j)))), ((t_q 7), .inr (10, oX10 t_7_q t_7_x0 t_7_x1 t_7_x6)), ((t_7_q 2), .inl (K 0, 12, .inl (fun j => iI (t_7_2_c j)))), ((t_q 1), .inr (7, oX7 t_1_q t_1_x0 t_1_x1 t_1_x2 t_1_x3 t_1_x4 t_1_x5 t_1_x6 t_1_x7 t_1_x8)), ((t_1_q 12), .inl (K 0, 24, .inl (fun j => iI (t_1_12_c j))))] := hD
      rw [hQ]; exact fn_iret hx hb hr hlocks rfl hP hD hS ((fun _ => 0), (fun _ _ => 0)) ⟨kr88, rfl, by omega, trivial⟩ [0, 4, 1, 2, 3, 5] (by decide) rfl dX11_page_91
    · refine lv_tableIn (tgt := 92) (off := 77) hx hb dX11_page_15 (by rw [iI_toInt (by omega)]; omega) (by rw [iI_toInt (by omega)]; omega) (by rw [iI_toInt (by omega), c15]; decide) (by decide) ?_
      refine lv_aload_n hx hb dX11_page_92 rfl (lv_at hl 0 rfl) ?_
      refine va_get (D := D) (own := RX11) (ci := 11) (v := .ref (t_q 1)) (C := RX11) (T := TX11) (N := 13) hx hb hts inb_X11 hown hK.1 hP 0 rfl rfl 1 (by decide) (hts _ wd_423) (fun _ h9 => h9) rfl dX11_page_93 ?_
      refine va_getN (D := D) (own := RX11) (ci := 7) (v := .int (iI t_1_x6)) (C := RX7) (T := TX7) (N := 15) hx hb hts inb_X7 hown hK.1 hP 5 rfl rfl 6 (by decide) (hK.nf 33 rfl) (fun _ h9 => h9) rfl dX11_page_96 ?_
      have y96_1 : 0 ≤ t_1_x6 ∧ t_1_x6 ≤ 4095 := hi_t_1.2.2.2.2.2.2.1
      refine lv_iload_n hx hb dX11_page_99 rfl (lv_at hl 1 rfl) ?_
      refine lv_ishr hx hb dX11_page_100 ?_
      obtain ⟨w100, ew100, hw100⟩ := iI_shr t_1_x6 p1 (by omega) (by omega)
      refine fn_top (iI w100) ew100 ?_
      refine lv_iconst (v := iI 1) hx hb dX11_page_101 rfl ?_
      refine lv_iand hx hb dX11_page_102 ?_
      obtain ⟨w102, ew102, hw102⟩ := iI_and1 w100 (by omega)
      refine fn_top (iI w102) ew102 ?_
      rw [hQ]; exact fn_iret hx hb hr hlocks rfl hP hD hS ((fun _ => 0), (fun _ _ => 0)) ⟨w102, rfl, by omega, trivial⟩ [0, 5, 1, 2, 3, 4] (by decide) rfl dX11_page_103
  · refine lv_bipush (v := iI (-2)) hx hb dX11_page_11 (by decide) ?_
    rw [hQ]; exact fn_iret hx hb hr hlocks rfl hP hD hS ((fun _ => 0), (fun _ _ => 0)) ⟨(-2), rfl, by omega, trivial⟩ [0, 5, 1, 2, 3, 4] (by decide) rfl dX11_page_13
theorem wd_674 : Cond.code ⟨"FootNotes$Text", "hasBook", "(I)Z"⟩ prog_9_method_7_code 2 (Option.some Jvm.ClassFile.FieldType.boolean) ∈ fn_big := fn_tb (fn_l3 (List.mem_of_getElem? (i := 194) (by decide +kernel))) (by decide +kernel)
theorem wd_673 : Cond.instanceMethod ⟨"FootNotes$Text", "hasBook", "(I)Z"⟩ ∈ fn_big := fn_tb (fn_l3 (List.mem_of_getElem? (i := 193) (by decide +kernel))) (by decide +kernel)
theorem wp_27 : Cond.selects "FootNotes$Text" ⟨"FootNotes$Text", "hasBook", "(I)Z"⟩ ⟨"FootNotes$Text", "hasBook", "(I)Z"⟩ ∈ fn_big := fn_sel (q := (⟨"FootNotes$Text", "hasBook", "(I)Z"⟩, 15)) 27 (by decide +kernel) (by decide +kernel)
theorem dX11_book_0 : decode cX11_book 0 = .ok (.aload_n 0, 1) := by decide +kernel
theorem dX11_book_1 : decode cX11_book 1 = .ok (.getfield 19, 3) := by decide +kernel
theorem dX11_book_4 : decode cX11_book 4 = .ok (.iload_n 1, 1) := by decide +kernel
theorem dX11_book_5 : decode cX11_book 5 = .ok (.invokevirtual 148, 3) := by decide +kernel
theorem dX11_book_8 : decode cX11_book 8 = .ok (.ifCond .ne 6, 3) := by decide +kernel
theorem dX11_book_14 : decode cX11_book 14 = .ok (.iload_n 2, 1) := by decide +kernel
theorem dX11_book_15 : decode cX11_book 15 = .ok (.tableswitch 78 0 3 #[29, 39, 49, 58], 29) := by decide +kernel
theorem dX11_book_93 : decode cX11_book 93 = .ok (.bipush (-2), 2) := by decide +kernel
theorem dX11_book_95 : decode cX11_book 95 = .ok (.ireturn, 1) := by decide +kernel
theorem dX11_book_44 : decode cX11_book 44 = .ok (.aload_n 0, 1) := by decide +kernel
theorem dX11_book_45 : decode cX11_book 45 = .ok (.getfield 19, 3) := by decide +kernel
theorem dX11_book_48 : decode cX11_book 48 = .ok (.getfield 151, 3) := by decide +kernel
theorem dX11_book_51 : decode cX11_book 51 = .ok (.iload_n 1, 1) := by decide +kernel
theorem dX11_book_52 : decode cX11_book 52 = .ok (.iaload, 1) := by decide +kernel
theorem dX11_book_53 : decode cX11_book 53 = .ok (.ireturn, 1) := by decide +kernel
theorem dX11_book_54 : decode cX11_book 54 = .ok (.aload_n 0, 1) := by decide +kernel
theorem dX11_book_55 : decode cX11_book 55 = .ok (.getfield 26, 3) := by decide +kernel
theorem dX11_book_58 : decode cX11_book 58 = .ok (.getfield 154, 3) := by decide +kernel
theorem dX11_book_61 : decode cX11_book 61 = .ok (.iload_n 1, 1) := by decide +kernel
theorem dX11_book_62 : decode cX11_book 62 = .ok (.iaload, 1) := by decide +kernel
theorem dX11_book_63 : decode cX11_book 63 = .ok (.ireturn, 1) := by decide +kernel
theorem dX11_book_64 : decode cX11_book 64 = .ok (.aload_n 0, 1) := by decide +kernel
theorem dX11_book_65 : decode cX11_book 65 = .ok (.getfield 19, 3) := by decide +kernel
theorem dX11_book_68 : decode cX11_book 68 = .ok (.iload_n 1, 1) := by decide +kernel
theorem dX11_book_69 : decode cX11_book 69 = .ok (.invokevirtual 157, 3) := by decide +kernel
theorem dX11_book_72 : decode cX11_book 72 = .ok (.ireturn, 1) := by decide +kernel
theorem dX11_book_73 : decode cX11_book 73 = .ok (.aload_n 0, 1) := by decide +kernel
theorem dX11_book_74 : decode cX11_book 74 = .ok (.getfield 19, 3) := by decide +kernel
theorem dX11_book_77 : decode cX11_book 77 = .ok (.getfield 160, 3) := by decide +kernel
theorem dX11_book_80 : decode cX11_book 80 = .ok (.aload_n 0, 1) := by decide +kernel
theorem dX11_book_81 : decode cX11_book 81 = .ok (.getfield 19, 3) := by decide +kernel
theorem dX11_book_84 : decode cX11_book 84 = .ok (.getfield 151, 3) := by decide +kernel
theorem dX11_book_87 : decode cX11_book 87 = .ok (.iload_n 1, 1) := by decide +kernel
theorem dX11_book_88 : decode cX11_book 88 = .ok (.iaload, 1) := by decide +kernel
theorem dX11_book_89 : decode cX11_book 89 = .ok (.ishr, 1) := by decide +kernel
theorem dX11_book_90 : decode cX11_book 90 = .ok (.iconst 1, 1) := by decide +kernel
theorem dX11_book_91 : decode cX11_book 91 = .ok (.iand, 1) := by decide +kernel
theorem dX11_book_92 : decode cX11_book 92 = .ok (.ireturn, 1) := by decide +kernel
theorem dX11_book_11 : decode cX11_book 11 = .ok (.bipush (-2), 2) := by decide +kernel
theorem dX11_book_13 : decode cX11_book 13 = .ok (.ireturn, 1) := by decide +kernel
set_option maxHeartbeats 4000000 in
set_option maxRecDepth 100000 in
theorem k_X11_book (l : Launch) (D : va_G) (K : Nat → ClassId) (t : Nat) (t_q t_1_q t_2_q : Nat → Nat) (p1 p2 t_1_x0 t_1_x1 t_1_x2 t_1_x3 t_1_x4 t_1_x5 t_1_x6 t_1_x7 t_1_x8 t_2_x0 : Int) (t_1_9_c : Nat → Int) (t_2_1_c : Nat → Int) (t_1_10_c : Nat → Int) (hp1 : (-2147483648) ≤ p1 ∧ p1 ≤ 2147483647) (hp2 : (-2147483648) ≤ p2 ∧ p2 ≤ 2147483647) (hi_t_1 : bX7 t_1_x0 t_1_x1 t_1_x2 t_1_x3 t_1_x4 t_1_x5 t_1_x6 t_1_x7 t_1_x8) (hc_t_1_9 : ∀ j : Nat, 0 ≤ t_1_9_c j ∧ t_1_9_c j ≤ 4) (hi_t_2 : bX5 t_2_x0) (hc_t_2_1 : ∀ j : Nat, (-1000) ≤ t_2_1_c j ∧ t_2_1_c j ≤ 30) (hc_t_1_10 : ∀ j : Nat, 0 ≤ t_1_10_c j ∧ t_1_10_c j ≤ 12) : fn_CI (S := (Nat → Int) × (Nat → Nat → Int)) l D K yX11_book (fn_ws yX11_book cX11_book 3 (some .int)) ({ frames := 8, cells := 0, slots := 0, locals := 200 } : Room) [.ref t, .int (iI p1), .int (iI p2)] [(t, .inr (11, oX11 t_q)), ((t_q 1), .inr (7, oX7 t_1_q t_1_x0 t_1_x1 t_1_x2 t_1_x3 t_1_x4 t_1_x5 t_1_x6 t_1_x7 t_1_x8)), ((t_1_q 9), .inl (K 0, 5, .inl (fun j => iI (t_1_9_c j)))), ((t_q 2), .inr (5, oX5 t_2_q t_2_x0)), ((t_2_q 1), .inl (K 0, 5, .inl (fun j => iI (t_2_1_c j)))), ((t_1_q 10), .inl (K 0, 6, .inl (fun j => iI (t_1_10_c j))))] (fun r u => ∃ k : Int, r = iI k ∧ ((-1000) ≤ k ∧ k ≤ 30) ∧ True) (fun u => [(t, .inr (11, oX11 t_q)), ((t_q 1), .inr (7, oX7 t_1_q t_1_x0 t_1_x1 t_1_x2 t_1_x3 t_1_x4 t_1_x5 t_1_x6 t_1_x7 t_1_x8)), ((t_1_q 9), .inl (K 0, 5, .inl (fun j => iI (t_1_9_c j)))), ((t_q 2), .inr (5, oX5 t_2_q t_2_x0)), ((t_2_q 1), .inl (K 0, 5, .inl (fun j => iI (t_2_1_c j)))), ((t_1_q 10), .inl (K 0, 6, .inl (fun j => iI (t_1_10_c j))))]) 0 0 := by
  refine g_inI (cc := cX11_book) (maxL := 3) (ret := (some .int)) (by decide) rfl (Nat.le_of_ble_eq_true rfl) ?_
  intro p e s m below meth c A ls ag Q B hA hP hD hS hl hQ
  obtain ⟨hx, hb, hr, hml, hts, hown, hlocks, hin, hK⟩ := B
  have hown : s.vm.findClass RX11 = some m.cls := hown
  have hts := fun w h => hts w (List.mem_cons_of_mem _ h)
  have hl : lv_has ls 3 [(0, .ref t), (1, .int (iI p1)), (2, .int (iI p2))] := hl
  refine lv_aload_n hx hb dX11_book_0 rfl (lv_at hl 0 rfl) ?_
  refine va_get (D := D) (own := RX11) (ci := 11) (v := .ref (t_q 1)) (C := RX11) (T := TX11) (N := 13) hx hb hts inb_X11 hown hK.1 hP 0 rfl rfl 1 (by decide) (hts _ wd_423) (fun _ h9 => h9) rfl dX11_book_1 ?_
  refine lv_iload_n hx hb dX11_book_4 rfl (lv_at hl 1 rfl) ?_
  refine fn_goi (wc := [((t_q 1), .inr (7, oX7 t_1_q t_1_x0 t_1_x1 t_1_x2 t_1_x3 t_1_x4 t_1_x5 t_1_x6 t_1_x7 t_1_x8))]) (wr := [(t, .inr (11, oX11 t_q)), ((t_1_q 9), .inl (K 0, 5, .inl (fun j => iI (t_1_9_c j)))), ((t_q 2), .inr (5, oX5 t_2_q t_2_x0)), ((t_2_q 1), .inl (K 0, 5, .inl (fun j => iI (t_2_1_c j)))), ((t_1_q 10), .inl (K 0, 6, .inl (fun j => iI (t_1_10_c j))))]) hK hP hD hS hA [1] [0, 2, 3, 4, 5] rfl rfl (by decide) (fun hp => va_runVN (C := RX7) (As := [.int (iI p1)]) (rest := []) ⟨hx, hb, hml, hown, hts⟩ (k_X7_hasBook (l := l) (D := D) (K := K) (t := (t_q 1)) (p1 := p1) (t_q := t_1_q) (t_x0 := t_1_x0) (t_x1 := t_1_x1) (t_x2 := t_1_x2) (t_x3 := t_1_x3) (t_x4 := t_1_x4) (t_x5 := t_1_x5) (t_x6 := t_1_x6) (t_x7 := t_1_x7) (t_x8 := t_1_x8) (hp1 := (by omega)) (hi_t := hi_t_1) _) ⟨va_cnB (own := RX11) 1 hts (fn_gin wd_674) rfl rfl rfl (hK.nw 110 rfl) (hts _ wd_4) (by decide +kernel) ⟨Nat.le_of_ble_eq_true rfl, Nat.le_of_ble_eq_true rfl⟩, hts _ wd_673, hts _ wp_27⟩ ⟨fn_blind, va_recv hK.1 hP (ci := 7) (q0 := 1) rfl rfl, hp⟩ rfl rfl hl.1 rfl (lv_room (Nat.le_of_ble_eq_true rfl)) dX11_book_5 ⟨Nat.le_of_ble_eq_true rfl, Nat.le_of_ble_eq_true rfl⟩) (fun r5 u5 H locs hwu5 hP hD hS => ?_)
  obtain ⟨u5a, u5b⟩ := u5
  obtain ⟨kr5, rfl, hkr5, hqu50, -⟩ := hwu5
  have hqu5 : (kr5 = 1 → 0 ≤ p1 ∧ p1 < t_1_x3 ∧ p1 ≤ 4) := hqu50
  clear hqu50
  have hP : va_P D vwCl [(t, .inr (11, oX11 t_q)), ((t_1_q 9), .inl (K 0, 5, .inl (fun j => iI (t_1_9_c j)))), ((t_q 2), .inr (5, oX5 t_2_q t_2_x0)), ((t_2_q 1), .inl (K 0, 5, .inl (fun j => iI (t_2_1_c j)))), ((t_1_q 10), .inl (K 0, 6, .inl (fun j => iI (t_1_10_c j)))), ((t_q 1), .inr (7, oX7 t_1_q t_1_x0 t_1_x1 t_1_x2 t_1_x3 t_1_x4 t_1_x5 t_1_x6 t_1_x7 t_1_x8))] H := hP
  have hD : va_D A [(t, .inr (11, oX11 t_q)), ((t_1_q 9), .inl (K 0, 5, .inl (fun j => iI (t_1_9_c j)))), ((t_q 2), .inr (5, oX5 t_2_q t_2_x0)), ((t_2_q 1), .inl (K 0, 5, .inl (fun j => iI (t_2_1_c j)))), ((t_1_q 10), .inl (K 0, 6, .inl (fun j => iI (t_1_10_c j)))), ((t_q 1), .inr (7, oX7 t_1_q t_1_x0 t_1_x1 t_1_x2 t_1_x3 t_1_x4 t_1_x5 t_1_x6 t_1_x7 t_1_x8))] := hD
  refine g_if_ne (tgt := 14) hx hb (by omega) dX11_book_8 (by decide) (fun c8 => ?_) (fun c8 => ?_)
  · refine lv_iload_n hx hb dX11_book_14 rfl (lv_at hl 2 rfl) ?_
    rcases (show (p2 < 0 ∨ 3 < p2) ∨ p2 = 0 ∨ p2 = 1 ∨ p2 = 2 ∨ p2 = 3 by omega) with c15 | c15 | c15 | c15 | c15
    · refine lv_tableOut (tgt := 93) hx hb dX11_book_15 (by rw [iI_toInt (by omega)]; exact c15) (by decide) ?_
      refine lv_bipush (v := iI (-2)) hx hb dX11_book_93 (by decide) ?_
      rw [hQ]; exact fn_iret hx hb hr hlocks rfl hP hD hS ((fun _ => 0), (fun _ _ => 0)) ⟨(-2), rfl, by omega, trivial⟩ [0, 5, 1, 2, 3, 4] (by decide) rfl dX11_book_95
    · refine lv_tableIn (tgt := 44) (off := 29) hx hb dX11_book_15 (by rw [iI_toInt (by omega)]; omega) (by rw [iI_toInt (by omega)]; omega) (by rw [iI_toInt (by omega), c15]; decide) (by decide) ?_
      refine lv_aload_n hx hb dX11_book_44 rfl (lv_at hl 0 rfl) ?_
      refine va_get (D := D) (own := RX11) (ci := 11) (v := .ref (t_q 1)) (C := RX11) (T := TX11) (N := 13) hx hb hts inb_X11 hown hK.1 hP 0 rfl rfl 1 (by decide) (hts _ wd_423) (fun _ h9 => h9) rfl dX11_book_45 ?_
      refine va_getN (D := D) (own := RX11) (ci := 7) (v := .ref (t_1_q 9)) (C := RX7) (T := TX7) (N := 15) hx hb hts inb_X7 hown hK.1 hP 5 rfl rfl 9 (by decide) (hK.nf 38 rfl) (fun _ h9 => h9) rfl dX11_book_48 ?_
      refine lv_iload_n hx hb dX11_book_51 rfl (lv_at hl 1 rfl) ?_
      refine g_iald hx hb hK.1 hP 1 0 rfl rfl (by omega) (by omega) (by decide) dX11_book_52 ?_
      have y52 : 0 ≤ (t_1_9_c p1.toNat) ∧ (t_1_9_c p1.toNat) ≤ 4 := hc_t_1_9 p1.toNat
      rw [hQ]; exact fn_iret hx hb hr hlocks rfl hP hD hS ((fun _ => 0), (fun _ _ => 0)) ⟨t_1_9_c p1.toNat, rfl, by omega, trivial⟩ [0, 5, 1, 2, 3, 4] (by decide) rfl dX11_book_53
    · refine lv_tableIn (tgt := 54) (off := 39) hx hb dX11_book_15 (by rw [iI_toInt (by omega)]; omega) (by rw [iI_toInt (by omega)]; omega) (by rw [iI_toInt (by omega), c15]; decide) (by decide) ?_
      refine lv_aload_n hx hb dX11_book_54 rfl (lv_at hl 0 rfl) ?_
      refine va_get (D := D) (own := RX11) (ci := 11) (v := .ref (t_q 2)) (C := RX11) (T := TX11) (N := 13) hx hb hts inb_X11 hown hK.1 hP 0 rfl rfl 2 (by decide) (hts _ wd_424) (fun _ h9 => h9) rfl dX11_book_55 ?_
      refine va_getN (D := D) (own := RX11) (ci := 5) (v := .ref (t_2_q 1)) (C := RX5) (T := TX5) (N := 8) hx hb hts inb_X5 hown hK.1 hP 2 rfl rfl 1 (by decide) (hK.nf 59 rfl) (fun _ h9 => h9) rfl dX11_book_58 ?_
      refine lv_iload_n hx hb dX11_book_61 rfl (lv_at hl 1 rfl) ?_
      refine g_iald hx hb hK.1 hP 3 0 rfl rfl (by omega) (by omega) (by decide) dX11_book_62 ?_
      have y62 : (-1000) ≤ (t_2_1_c p1.toNat) ∧ (t_2_1_c p1.toNat) ≤ 30 := hc_t_2_1 p1.toNat
      rw [hQ]; exact fn_iret hx hb hr hlocks rfl hP hD hS ((fun _ => 0), (fun _ _ => 0)) ⟨t_2_1_c p1.toNat, rfl, by omega, trivial⟩ [0, 5, 1, 2, 3, 4] (by decide) rfl dX11_book_63
    · refine lv_tableIn (tgt := 64) (off := 49) hx hb dX11_book_15 (by rw [iI_toInt (by omega)]; omega) (by rw [iI_toInt (by omega)]; omega) (by rw [iI_toInt (by omega), c15]; decide) (by decide) ?_
      refine lv_aload_n hx hb dX11_book_64 rfl (lv_at hl 0 rfl) ?_
      refine va_get (D := D) (own := RX11) (ci := 11) (v := .ref (t_q 1)) (C := RX11) (T := TX11) (N := 13) hx hb hts inb_X11 hown hK.1 hP 0 rfl rfl 1 (by decide) (hts _ wd_423) (fun _ h9 => h9) rfl dX11_book_65 ?_
      refine lv_iload_n hx hb dX11_book_68 rfl (lv_at hl 1 rfl) ?_
      refine fn_goi (wc := [((t_q 1), .inr (7, oX7 t_1_q t_1_x0 t_1_x1 t_1_x2 t_1_x3 t_1_x4 t_1_x5 t_1_x6 t_1_x7 t_1_x8)), ((t_1_q 10), .inl (K 0, 6, .inl (fun j => iI (t_1_10_c j))))]) (wr := [(t, .inr (11, oX11 t_q)), ((t_1_q 9), .inl (K 0, 5, .inl (fun j => iI (t_1_9_c j)))), ((t_q 2), .inr (5, oX5 t_2_q t_2_x0)), ((t_2_q 1), .inl (K 0, 5, .inl (fun j => iI (t_2_1_c j))))]) hK hP hD hS hA [5, 4] [0, 1, 2, 3] rfl rfl (by decide) (fun hp => va_runVN (C := RX7) (As := [.int (iI p1)]) (rest := []) ⟨hx, hb, hml, hown, hts⟩ (k_X7_pagesIn (l := l) (D := D) (K := K) (t := (t_q 1)) (p1 := p1) (t_q := t_1_q) (t_x0 := t_1_x0) (t_x1 := t_1_x1) (t_x2 := t_1_x2) (t_x3 := t_1_x3) (t_x4 := t_1_x4) (t_x5 := t_1_x5) (t_x6 := t_1_x6) (t_x7 := t_1_x7) (t_x8 := t_1_x8) (t_10_c := t_1_10_c) (hp1 := (by omega)) (hi_t := hi_t_1) (hc_t_10 := hc_t_1_10) _) ⟨va_cnB (own := RX11) 1 hts (fn_gin wd_630) rfl rfl rfl (hK.nw 111 rfl) (hts _ wd_4) (by decide +kernel) ⟨Nat.le_of_ble_eq_true rfl, Nat.le_of_ble_eq_true rfl⟩, hts _ wd_629, hts _ wp_20⟩ ⟨fn_blind, va_recv hK.1 hP (ci := 7) (q0 := 5) rfl rfl, hp⟩ rfl rfl hl.1 rfl (lv_room (Nat.le_of_ble_eq_true rfl)) dX11_book_69 ⟨Nat.le_of_ble_eq_true rfl, Nat.le_of_ble_eq_true rfl⟩) (fun r69 u69 H locs hwu69 hP hD hS => ?_)
      obtain ⟨u69a, u69b⟩ := u69
      obtain ⟨kr69, rfl, hkr69, hqu690, -⟩ := hwu69
      have hqu69 : (kr69 = t_1_10_c (Int.toNat (p1 + 1)) - t_1_10_c (Int.toNat p1)) := hqu690
      clear hqu690
      have hP : va_P D vwCl [(t, .inr (11, oX11 t_q)), ((t_1_q 9), .inl (K 0, 5, .inl (fun j => iI (t_1_9_c j)))), ((t_q 2), .inr (5, oX5 t_2_q t_2_x0)), ((t_2_q 1), .inl (K 0, 5, .inl (fun j => iI (t_2_1_c j)))), ((t_q 1), .inr (7, oX7 t_1_q t_1_x0 t_1_x1 t_1_x2 t_1_x3 t_1_x4 t_1_x5 t_1_x6 t_1_x7 t_1_x8)), ((t_1_q 10), .inl (K 0, 6, .inl (fun j => iI (t_1_10_c j))))] H := hP
      have hD : va_D A [(t, .inr (11, oX11 t_q)), ((t_1_q 9), .inl (K 0, 5, .inl (fun j => iI (t_1_9_c j)))), ((t_q 2), .inr (5, oX5 t_2_q t_2_x0)), ((t_2_q 1), .inl (K 0, 5, .inl (fun j => iI (t_2_1_c j)))), ((t_q 1), .inr (7, oX7 t_1_q t_1_x0 t_1_x1 t_1_x2 t_1_x3 t_1_x4 t_1_x5 t_1_x6 t_1_x7 t_1_x8)), ((t_1_q 10), .inl (K 0, 6, .inl (fun j => iI (t_1_10_c j))))] := hD
      rw [hQ]; exact fn_iret hx hb hr hlocks rfl hP hD hS ((fun _ => 0), (fun _ _ => 0)) ⟨kr69, rfl, by omega, trivial⟩ [0, 4, 1, 2, 3, 5] (by decide) rfl dX11_book_72
    · refine lv_tableIn (tgt := 73) (off := 58) hx hb dX11_book_15 (by rw [iI_toInt (by omega)]; omega) (by rw [iI_toInt (by omega)]; omega) (by rw [iI_toInt (by omega), c15]; decide) (by decide) ?_
      refine lv_aload_n hx hb dX11_book_73 rfl (lv_at hl 0 rfl) ?_
      refine va_get (D := D) (own := RX11) (ci := 11) (v := .ref (t_q 1)) (C := RX11) (T := TX11) (N := 13) hx hb hts inb_X11 hown hK.1 hP 0 rfl rfl 1 (by decide) (hts _ wd_423) (fun _ h9 => h9) rfl dX11_book_74 ?_
      refine va_getN (D := D) (own := RX11) (ci := 7) (v := .int (iI t_1_x7)) (C := RX7) (T := TX7) (N := 15) hx hb hts inb_X7 hown hK.1 hP 5 rfl rfl 7 (by decide) (hK.nf 35 rfl) (fun _ h9 => h9) rfl dX11_book_77 ?_
      have y77_1 : 0 ≤ t_1_x7 ∧ t_1_x7 ≤ 31 := hi_t_1.2.2.2.2.2.2.2.1
      refine lv_aload_n hx hb dX11_book_80 rfl (lv_at hl 0 rfl) ?_
      refine va_get (D := D) (own := RX11) (ci := 11) (v := .ref (t_q 1)) (C := RX11) (T := TX11) (N := 13) hx hb hts inb_X11 hown hK.1 hP 0 rfl rfl 1 (by decide) (hts _ wd_423) (fun _ h9 => h9) rfl dX11_book_81 ?_
      refine va_getN (D := D) (own := RX11) (ci := 7) (v := .ref (t_1_q 9)) (C := RX7) (T := TX7) (N := 15) hx hb hts inb_X7 hown hK.1 hP 5 rfl rfl 9 (by decide) (hK.nf 38 rfl) (fun _ h9 => h9) rfl dX11_book_84 ?_
      refine lv_iload_n hx hb dX11_book_87 rfl (lv_at hl 1 rfl) ?_
      refine g_iald hx hb hK.1 hP 1 0 rfl rfl (by omega) (by omega) (by decide) dX11_book_88 ?_
      have y88 : 0 ≤ (t_1_9_c p1.toNat) ∧ (t_1_9_c p1.toNat) ≤ 4 := hc_t_1_9 p1.toNat
      refine lv_ishr hx hb dX11_book_89 ?_
      obtain ⟨w89, ew89, hw89⟩ := iI_shr t_1_x7 (t_1_9_c p1.toNat) (by omega) (by omega)
      refine fn_top (iI w89) ew89 ?_
      refine lv_iconst (v := iI 1) hx hb dX11_book_90 rfl ?_
      refine lv_iand hx hb dX11_book_91 ?_
      obtain ⟨w91, ew91, hw91⟩ := iI_and1 w89 (by omega)
      refine fn_top (iI w91) ew91 ?_
      rw [hQ]; exact fn_iret hx hb hr hlocks rfl hP hD hS ((fun _ => 0), (fun _ _ => 0)) ⟨w91, rfl, by omega, trivial⟩ [0, 5, 1, 2, 3, 4] (by decide) rfl dX11_book_92
  · refine lv_bipush (v := iI (-2)) hx hb dX11_book_11 (by decide) ?_
    rw [hQ]; exact fn_iret hx hb hr hlocks rfl hP hD hS ((fun _ => 0), (fun _ _ => 0)) ⟨(-2), rfl, by omega, trivial⟩ [0, 5, 1, 2, 3, 4] (by decide) rfl dX11_book_13
theorem dX11_leaf_0 : decode cX11_leaf 0 = .ok (.aload_n 0, 1) := by decide +kernel
theorem dX11_leaf_1 : decode cX11_leaf 1 = .ok (.getfield 19, 3) := by decide +kernel
theorem dX11_leaf_4 : decode cX11_leaf 4 = .ok (.iload_n 1, 1) := by decide +kernel
theorem dX11_leaf_5 : decode cX11_leaf 5 = .ok (.invokevirtual 148, 3) := by decide +kernel
theorem dX11_leaf_8 : decode cX11_leaf 8 = .ok (.ifCond .eq 15, 3) := by decide +kernel
theorem dX11_leaf_23 : decode cX11_leaf 23 = .ok (.bipush (-2), 2) := by decide +kernel
theorem dX11_leaf_25 : decode cX11_leaf 25 = .ok (.ireturn, 1) := by decide +kernel
theorem dX11_leaf_11 : decode cX11_leaf 11 = .ok (.aload_n 0, 1) := by decide +kernel
theorem dX11_leaf_12 : decode cX11_leaf 12 = .ok (.getfield 26, 3) := by decide +kernel
theorem dX11_leaf_15 : decode cX11_leaf 15 = .ok (.iload_n 1, 1) := by decide +kernel
theorem dX11_leaf_16 : decode cX11_leaf 16 = .ok (.iload_n 2, 1) := by decide +kernel
theorem dX11_leaf_17 : decode cX11_leaf 17 = .ok (.invokevirtual 163, 3) := by decide +kernel
theorem dX11_leaf_20 : decode cX11_leaf 20 = .ok (.goto 5, 3) := by decide +kernel
set_option maxHeartbeats 4000000 in
set_option maxRecDepth 100000 in
theorem k_X11_leaf (l : Launch) (D : va_G) (K : Nat → ClassId) (t : Nat) (t_q t_1_q t_2_q : Nat → Nat) (p1 p2 t_1_x0 t_1_x1 t_1_x2 t_1_x3 t_1_x4 t_1_x5 t_1_x6 t_1_x7 t_1_x8 t_2_x0 : Int) (t_2_1_c : Nat → Int) (t_2_2_c : Nat → Int) (hp1 : (-2147483648) ≤ p1 ∧ p1 ≤ 2147483647) (hp2 : (-2147483648) ≤ p2 ∧ p2 ≤ 2147483647) (hi_t_1 : bX7 t_1_x0 t_1_x1 t_1_x2 t_1_x3 t_1_x4 t_1_x5 t_1_x6 t_1_x7 t_1_x8) (hi_t_2 : bX5 t_2_x0) (hc_t_2_1 : ∀ j : Nat, (-1000) ≤ t_2_1_c j ∧ t_2_1_c j ≤ 30) (hc_t_2_2 : ∀ j : Nat, (-4) ≤ t_2_2_c j ∧ t_2_2_c j ≤ 11) : fn_CI (S := (Nat → Int) × (Nat → Nat → Int)) l D K yX11_leaf (fn_ws yX11_leaf cX11_leaf 3 (some .int)) ({ frames := 8, cells := 0, slots := 0, locals := 200 } : Room) [.ref t, .int (iI p1), .int (iI p2)] [(t, .inr (11, oX11 t_q)), ((t_q 1), .inr (7, oX7 t_1_q t_1_x0 t_1_x1 t_1_x2 t_1_x3 t_1_x4 t_1_x5 t_1_x6 t_1_x7 t_1_x8)), ((t_q 2), .inr (5, oX5 t_2_q t_2_x0)), ((t_2_q 1), .inl (K 0, 5, .inl (fun j => iI (t_2_1_c j)))), ((t_2_q 2), .inl (K 0, 150, .inl (fun j => iI (t_2_2_c j))))] (fun r u => ∃ k : Int, r = iI k ∧ ((-4) ≤ k ∧ k ≤ 11) ∧ True) (fun u => [(t, .inr (11, oX11 t_q)), ((t_q 1), .inr (7, oX7 t_1_q t_1_x0 t_1_x1 t_1_x2 t_1_x3 t_1_x4 t_1_x5 t_1_x6 t_1_x7 t_1_x8)), ((t_q 2), .inr (5, oX5 t_2_q t_2_x0)), ((t_2_q 1), .inl (K 0, 5, .inl (fun j => iI (t_2_1_c j)))), ((t_2_q 2), .inl (K 0, 150, .inl (fun j => iI (t_2_2_c j))))]) 0 0 := by
  refine g_inI (cc := cX11_leaf) (maxL := 3) (ret := (some .int)) (by decide) rfl (Nat.le_of_ble_eq_true rfl) ?_
  intro p e s m below meth c A ls ag Q B hA hP hD hS hl hQ
  obtain ⟨hx, hb, hr, hml, hts, hown, hlocks, hin, hK⟩ := B
  have hown : s.vm.findClass RX11 = some m.cls := hown
  have hts := fun w h => hts w (List.mem_cons_of_mem _ h)
  have hl : lv_has ls 3 [(0, .ref t), (1, .int (iI p1)), (2, .int (iI p2))] := hl
  refine lv_aload_n hx hb dX11_leaf_0 rfl (lv_at hl 0 rfl) ?_
  refine va_get (D := D) (own := RX11) (ci := 11) (v := .ref (t_q 1)) (C := RX11) (T := TX11) (N := 13) hx hb hts inb_X11 hown hK.1 hP 0 rfl rfl 1 (by decide) (hts _ wd_423) (fun _ h9 => h9) rfl dX11_leaf_1 ?_
  refine lv_iload_n hx hb dX11_leaf_4 rfl (lv_at hl 1 rfl) ?_
  refine fn_goi (wc := [((t_q 1), .inr (7, oX7 t_1_q t_1_x0 t_1_x1 t_1_x2 t_1_x3 t_1_x4 t_1_x5 t_1_x6 t_1_x7 t_1_x8))]) (wr := [(t, .inr (11, oX11 t_q)), ((t_q 2), .inr (5, oX5 t_2_q t_2_x0)), ((t_2_q 1), .inl (K 0, 5, .inl (fun j => iI (t_2_1_c j)))), ((t_2_q 2), .inl (K 0, 150, .inl (fun j => iI (t_2_2_c j))))]) hK hP hD hS hA [1] [0, 2, 3, 4] rfl rfl (by decide) (fun hp => va_runVN (C := RX7) (As := [.int (iI p1)]) (rest := []) ⟨hx, hb, hml, hown, hts⟩ (k_X7_hasBook (l := l) (D := D) (K := K) (t := (t_q 1)) (p1 := p1) (t_q := t_1_q) (t_x0 := t_1_x0) (t_x1 := t_1_x1) (t_x2 := t_1_x2) (t_x3 := t_1_x3) (t_x4 := t_1_x4) (t_x5 := t_1_x5) (t_x6 := t_1_x6) (t_x7 := t_1_x7) (t_x8 := t_1_x8) (hp1 := (by omega)) (hi_t := hi_t_1) _) ⟨va_cnB (own := RX11) 1 hts (fn_gin wd_674) rfl rfl rfl (hK.nw 110 rfl) (hts _ wd_4) (by decide +kernel) ⟨Nat.le_of_ble_eq_true rfl, Nat.le_of_ble_eq_true rfl⟩, hts _ wd_673, hts _ wp_27⟩ ⟨fn_blind, va_recv hK.1 hP (ci := 7) (q0 := 1) rfl rfl, hp⟩ rfl rfl hl.1 rfl (lv_room (Nat.le_of_ble_eq_true rfl)) dX11_leaf_5 ⟨Nat.le_of_ble_eq_true rfl, Nat.le_of_ble_eq_true rfl⟩) (fun r5 u5 H locs hwu5 hP hD hS => ?_)
  obtain ⟨u5a, u5b⟩ := u5
  obtain ⟨kr5, rfl, hkr5, hqu50, -⟩ := hwu5
  have hqu5 : (kr5 = 1 → 0 ≤ p1 ∧ p1 < t_1_x3 ∧ p1 ≤ 4) := hqu50
  clear hqu50
  have hP : va_P D vwCl [(t, .inr (11, oX11 t_q)), ((t_q 2), .inr (5, oX5 t_2_q t_2_x0)), ((t_2_q 1), .inl (K 0, 5, .inl (fun j => iI (t_2_1_c j)))), ((t_2_q 2), .inl (K 0, 150, .inl (fun j => iI (t_2_2_c j)))), ((t_q 1), .inr (7, oX7 t_1_q t_1_x0 t_1_x1 t_1_x2 t_1_x3 t_1_x4 t_1_x5 t_1_x6 t_1_x7 t_1_x8))] H := hP
  have hD : va_D A [(t, .inr (11, oX11 t_q)), ((t_q 2), .inr (5, oX5 t_2_q t_2_x0)), ((t_2_q 1), .inl (K 0, 5, .inl (fun j => iI (t_2_1_c j)))), ((t_2_q 2), .inl (K 0, 150, .inl (fun j => iI (t_2_2_c j)))), ((t_q 1), .inr (7, oX7 t_1_q t_1_x0 t_1_x1 t_1_x2 t_1_x3 t_1_x4 t_1_x5 t_1_x6 t_1_x7 t_1_x8))] := hD
  refine g_if_eq (tgt := 23) hx hb (by omega) dX11_leaf_8 (by decide) (fun c8 => ?_) (fun c8 => ?_)
  · refine lv_bipush (v := iI (-2)) hx hb dX11_leaf_23 (by decide) ?_
    rw [hQ]; exact fn_iret hx hb hr hlocks rfl hP hD hS ((fun _ => 0), (fun _ _ => 0)) ⟨(-2), rfl, by omega, trivial⟩ [0, 4, 1, 2, 3] (by decide) rfl dX11_leaf_25
  · refine lv_aload_n hx hb dX11_leaf_11 rfl (lv_at hl 0 rfl) ?_
    refine va_get (D := D) (own := RX11) (ci := 11) (v := .ref (t_q 2)) (C := RX11) (T := TX11) (N := 13) hx hb hts inb_X11 hown hK.1 hP 0 rfl rfl 2 (by decide) (hts _ wd_424) (fun _ h9 => h9) rfl dX11_leaf_12 ?_
    refine lv_iload_n hx hb dX11_leaf_15 rfl (lv_at hl 1 rfl) ?_
    refine lv_iload_n hx hb dX11_leaf_16 rfl (lv_at hl 2 rfl) ?_
    refine fn_goi (wc := [((t_q 2), .inr (5, oX5 t_2_q t_2_x0)), ((t_2_q 1), .inl (K 0, 5, .inl (fun j => iI (t_2_1_c j)))), ((t_2_q 2), .inl (K 0, 150, .inl (fun j => iI (t_2_2_c j))))]) (wr := [(t, .inr (11, oX11 t_q)), ((t_q 1), .inr (7, oX7 t_1_q t_1_x0 t_1_x1 t_1_x2 t_1_x3 t_1_x4 t_1_x5 t_1_x6 t_1_x7 t_1_x8))]) hK hP hD hS hA [1, 2, 3] [0, 4] rfl rfl (by decide) (fun hp => va_runVN (C := RX5) (As := [.int (iI p1), .int (iI p2)]) (rest := []) ⟨hx, hb, hml, hown, hts⟩ (k_X5_onLeaf (l := l) (D := D) (K := K) (t := (t_q 2)) (p1 := p1) (p2 := p2) (t_q := t_2_q) (t_x0 := t_2_x0) (t_1_c := t_2_1_c) (t_2_c := t_2_2_c) (hp1 := (by omega)) (hp2 := (by omega)) (hi_t := hi_t_2) (hc_t_1 := hc_t_2_1) (hc_t_2 := hc_t_2_2) _) ⟨va_cnB (own := RX11) 2 hts (fn_gin wd_650) rfl rfl rfl (hK.nw 112 rfl) (hts _ wd_5) (by decide +kernel) ⟨Nat.le_of_ble_eq_true rfl, Nat.le_of_ble_eq_true rfl⟩, hts _ wd_649, hts _ wp_24⟩ ⟨fn_blind, va_recv hK.1 hP (ci := 5) (q0 := 1) rfl rfl, hp⟩ rfl rfl hl.1 rfl (lv_room (Nat.le_of_ble_eq_true rfl)) dX11_leaf_17 ⟨Nat.le_of_ble_eq_true rfl, Nat.le_of_ble_eq_true rfl⟩) (fun r17 u17 H locs hwu17 hP hD hS => ?_)
    obtain ⟨u17a, u17b⟩ := u17
    obtain ⟨kr17, rfl, hkr17, -⟩ := hwu17
    have hP : va_P D vwCl [(t, .inr (11, oX11 t_q)), ((t_q 1), .inr (7, oX7 t_1_q t_1_x0 t_1_x1 t_1_x2 t_1_x3 t_1_x4 t_1_x5 t_1_x6 t_1_x7 t_1_x8)), ((t_q 2), .inr (5, oX5 t_2_q t_2_x0)), ((t_2_q 1), .inl (K 0, 5, .inl (fun j => iI (t_2_1_c j)))), ((t_2_q 2), .inl (K 0, 150, .inl (fun j => iI (t_2_2_c j))))] H := hP
    have hD : va_D A [(t, .inr (11, oX11 t_q)), ((t_q 1), .inr (7, oX7 t_1_q t_1_x0 t_1_x1 t_1_x2 t_1_x3 t_1_x4 t_1_x5 t_1_x6 t_1_x7 t_1_x8)), ((t_q 2), .inr (5, oX5 t_2_q t_2_x0)), ((t_2_q 1), .inl (K 0, 5, .inl (fun j => iI (t_2_1_c j)))), ((t_2_q 2), .inl (K 0, 150, .inl (fun j => iI (t_2_2_c j))))] := hD
    refine lv_goto (tgt := 25) hx hb dX11_leaf_20 (by decide) ?_
    rw [hQ]; exact fn_iret hx hb hr hlocks rfl hP hD hS ((fun _ => 0), (fun _ _ => 0)) ⟨kr17, rfl, by omega, trivial⟩ [0, 1, 2, 3, 4] (by decide) rfl dX11_leaf_25
theorem wd_688 : Cond.code ⟨"FootNotes$Text", "hasNote", "(I)Z"⟩ prog_9_method_8_code 2 (Option.some Jvm.ClassFile.FieldType.boolean) ∈ fn_big := fn_tb (fn_l3 (List.mem_of_getElem? (i := 208) (by decide +kernel))) (by decide +kernel)
theorem wd_687 : Cond.instanceMethod ⟨"FootNotes$Text", "hasNote", "(I)Z"⟩ ∈ fn_big := fn_tb (fn_l3 (List.mem_of_getElem? (i := 207) (by decide +kernel))) (by decide +kernel)
theorem wp_28 : Cond.selects "FootNotes$Text" ⟨"FootNotes$Text", "hasNote", "(I)Z"⟩ ⟨"FootNotes$Text", "hasNote", "(I)Z"⟩ ∈ fn_big := fn_sel (q := (⟨"FootNotes$Text", "hasNote", "(I)Z"⟩, 15)) 28 (by decide +kernel) (by decide +kernel)
theorem dX11_note_0 : decode cX11_note 0 = .ok (.aload_n 0, 1) := by decide +kernel
theorem dX11_note_1 : decode cX11_note 1 = .ok (.getfield 19, 3) := by decide +kernel
theorem dX11_note_4 : decode cX11_note 4 = .ok (.iload_n 1, 1) := by decide +kernel
theorem dX11_note_5 : decode cX11_note 5 = .ok (.invokevirtual 167, 3) := by decide +kernel
theorem dX11_note_8 : decode cX11_note 8 = .ok (.ifCond .ne 6, 3) := by decide +kernel
theorem dX11_note_14 : decode cX11_note 14 = .ok (.iload_n 2, 1) := by decide +kernel
theorem dX11_note_15 : decode cX11_note 15 = .ok (.tableswitch 71 0 3 #[29, 39, 49, 59], 29) := by decide +kernel
theorem dX11_note_86 : decode cX11_note 86 = .ok (.bipush (-2), 2) := by decide +kernel
theorem dX11_note_88 : decode cX11_note 88 = .ok (.ireturn, 1) := by decide +kernel
theorem dX11_note_44 : decode cX11_note 44 = .ok (.aload_n 0, 1) := by decide +kernel
theorem dX11_note_45 : decode cX11_note 45 = .ok (.getfield 19, 3) := by decide +kernel
theorem dX11_note_48 : decode cX11_note 48 = .ok (.getfield 170, 3) := by decide +kernel
theorem dX11_note_51 : decode cX11_note 51 = .ok (.iload_n 1, 1) := by decide +kernel
theorem dX11_note_52 : decode cX11_note 52 = .ok (.iaload, 1) := by decide +kernel
theorem dX11_note_53 : decode cX11_note 53 = .ok (.ireturn, 1) := by decide +kernel
theorem dX11_note_54 : decode cX11_note 54 = .ok (.aload_n 0, 1) := by decide +kernel
theorem dX11_note_55 : decode cX11_note 55 = .ok (.getfield 19, 3) := by decide +kernel
theorem dX11_note_58 : decode cX11_note 58 = .ok (.getfield 173, 3) := by decide +kernel
theorem dX11_note_61 : decode cX11_note 61 = .ok (.iload_n 1, 1) := by decide +kernel
theorem dX11_note_62 : decode cX11_note 62 = .ok (.iaload, 1) := by decide +kernel
theorem dX11_note_63 : decode cX11_note 63 = .ok (.ireturn, 1) := by decide +kernel
theorem dX11_note_64 : decode cX11_note 64 = .ok (.aload_n 0, 1) := by decide +kernel
theorem dX11_note_65 : decode cX11_note 65 = .ok (.getfield 26, 3) := by decide +kernel
theorem dX11_note_68 : decode cX11_note 68 = .ok (.getfield 176, 3) := by decide +kernel
theorem dX11_note_71 : decode cX11_note 71 = .ok (.iload_n 1, 1) := by decide +kernel
theorem dX11_note_72 : decode cX11_note 72 = .ok (.iaload, 1) := by decide +kernel
theorem dX11_note_73 : decode cX11_note 73 = .ok (.ireturn, 1) := by decide +kernel
theorem dX11_note_74 : decode cX11_note 74 = .ok (.aload_n 0, 1) := by decide +kernel
theorem dX11_note_75 : decode cX11_note 75 = .ok (.getfield 19, 3) := by decide +kernel
theorem dX11_note_78 : decode cX11_note 78 = .ok (.getfield 179, 3) := by decide +kernel
theorem dX11_note_81 : decode cX11_note 81 = .ok (.iload_n 1, 1) := by decide +kernel
theorem dX11_note_82 : decode cX11_note 82 = .ok (.ishr, 1) := by decide +kernel
theorem dX11_note_83 : decode cX11_note 83 = .ok (.iconst 1, 1) := by decide +kernel
theorem dX11_note_84 : decode cX11_note 84 = .ok (.iand, 1) := by decide +kernel
theorem dX11_note_85 : decode cX11_note 85 = .ok (.ireturn, 1) := by decide +kernel
theorem dX11_note_11 : decode cX11_note 11 = .ok (.bipush (-2), 2) := by decide +kernel
theorem dX11_note_13 : decode cX11_note 13 = .ok (.ireturn, 1) := by decide +kernel
set_option maxHeartbeats 4000000 in
set_option maxRecDepth 100000 in
theorem k_X11_note (l : Launch) (D : va_G) (K : Nat → ClassId) (t : Nat) (t_q t_1_q t_2_q : Nat → Nat) (p1 p2 t_1_x0 t_1_x1 t_1_x2 t_1_x3 t_1_x4 t_1_x5 t_1_x6 t_1_x7 t_1_x8 t_2_x0 : Int) (t_1_12_c : Nat → Int) (t_1_13_c : Nat → Int) (t_2_3_c : Nat → Int) (hp1 : (-2147483648) ≤ p1 ∧ p1 ≤ 2147483647) (hp2 : (-2147483648) ≤ p2 ∧ p2 ≤ 2147483647) (hi_t_1 : bX7 t_1_x0 t_1_x1 t_1_x2 t_1_x3 t_1_x4 t_1_x5 t_1_x6 t_1_x7 t_1_x8) (hc_t_1_12 : ∀ j : Nat, 0 ≤ t_1_12_c j ∧ t_1_12_c j ≤ 11) (hc_t_1_13 : ∀ j : Nat, 0 ≤ t_1_13_c j ∧ t_1_13_c j ≤ 4) (hi_t_2 : bX5 t_2_x0) (hc_t_2_3 : ∀ j : Nat, 0 ≤ t_2_3_c j ∧ t_2_3_c j ≤ 29) : fn_CI (S := (Nat → Int) × (Nat → Nat → Int)) l D K yX11_note (fn_ws yX11_note cX11_note 3 (some .int)) ({ frames := 8, cells := 0, slots := 0, locals := 200 } : Room) [.ref t, .int (iI p1), .int (iI p2)] [(t, .inr (11, oX11 t_q)), ((t_q 1), .inr (7, oX7 t_1_q t_1_x0 t_1_x1 t_1_x2 t_1_x3 t_1_x4 t_1_x5 t_1_x6 t_1_x7 t_1_x8)), ((t_1_q 12), .inl (K 0, 24, .inl (fun j => iI (t_1_12_c j)))), ((t_1_q 13), .inl (K 0, 24, .inl (fun j => iI (t_1_13_c j)))), ((t_q 2), .inr (5, oX5 t_2_q t_2_x0)), ((t_2_q 3), .inl (K 0, 24, .inl (fun j => iI (t_2_3_c j))))] (fun r u => ∃ k : Int, r = iI k ∧ ((-2) ≤ k ∧ k ≤ 29) ∧ True) (fun u => [(t, .inr (11, oX11 t_q)), ((t_q 1), .inr (7, oX7 t_1_q t_1_x0 t_1_x1 t_1_x2 t_1_x3 t_1_x4 t_1_x5 t_1_x6 t_1_x7 t_1_x8)), ((t_1_q 12), .inl (K 0, 24, .inl (fun j => iI (t_1_12_c j)))), ((t_1_q 13), .inl (K 0, 24, .inl (fun j => iI (t_1_13_c j)))), ((t_q 2), .inr (5, oX5 t_2_q t_2_x0)), ((t_2_q 3), .inl (K 0, 24, .inl (fun j => iI (t_2_3_c j))))]) 0 0 := by
  refine g_inI (cc := cX11_note) (maxL := 3) (ret := (some .int)) (by decide) rfl (Nat.le_of_ble_eq_true rfl) ?_
  intro p e s m below meth c A ls ag Q B hA hP hD hS hl hQ
  obtain ⟨hx, hb, hr, hml, hts, hown, hlocks, hin, hK⟩ := B
  have hown : s.vm.findClass RX11 = some m.cls := hown
  have hts := fun w h => hts w (List.mem_cons_of_mem _ h)
  have hl : lv_has ls 3 [(0, .ref t), (1, .int (iI p1)), (2, .int (iI p2))] := hl
  refine lv_aload_n hx hb dX11_note_0 rfl (lv_at hl 0 rfl) ?_
  refine va_get (D := D) (own := RX11) (ci := 11) (v := .ref (t_q 1)) (C := RX11) (T := TX11) (N := 13) hx hb hts inb_X11 hown hK.1 hP 0 rfl rfl 1 (by decide) (hts _ wd_423) (fun _ h9 => h9) rfl dX11_note_1 ?_
  refine lv_iload_n hx hb dX11_note_4 rfl (lv_at hl 1 rfl) ?_
  refine fn_goi (wc := [((t_q 1), .inr (7, oX7 t_1_q t_1_x0 t_1_x1 t_1_x2 t_1_x3 t_1_x4 t_1_x5 t_1_x6 t_1_x7 t_1_x8))]) (wr := [(t, .inr (11, oX11 t_q)), ((t_1_q 12), .inl (K 0, 24, .inl (fun j => iI (t_1_12_c j)))), ((t_1_q 13), .inl (K 0, 24, .inl (fun j => iI (t_1_13_c j)))), ((t_q 2), .inr (5, oX5 t_2_q t_2_x0)), ((t_2_q 3), .inl (K 0, 24, .inl (fun j => iI (t_2_3_c j))))]) hK hP hD hS hA [1] [0, 2, 3, 4, 5] rfl rfl (by decide) (fun hp => va_runVN (C := RX7) (As := [.int (iI p1)]) (rest := []) ⟨hx, hb, hml, hown, hts⟩ (k_X7_hasNote (l := l) (D := D) (K := K) (t := (t_q 1)) (p1 := p1) (t_q := t_1_q) (t_x0 := t_1_x0) (t_x1 := t_1_x1) (t_x2 := t_1_x2) (t_x3 := t_1_x3) (t_x4 := t_1_x4) (t_x5 := t_1_x5) (t_x6 := t_1_x6) (t_x7 := t_1_x7) (t_x8 := t_1_x8) (hp1 := (by omega)) (hi_t := hi_t_1) _) ⟨va_cnB (own := RX11) 1 hts (fn_gin wd_688) rfl rfl rfl (hK.nw 113 rfl) (hts _ wd_4) (by decide +kernel) ⟨Nat.le_of_ble_eq_true rfl, Nat.le_of_ble_eq_true rfl⟩, hts _ wd_687, hts _ wp_28⟩ ⟨fn_blind, va_recv hK.1 hP (ci := 7) (q0 := 1) rfl rfl, hp⟩ rfl rfl hl.1 rfl (lv_room (Nat.le_of_ble_eq_true rfl)) dX11_note_5 ⟨Nat.le_of_ble_eq_true rfl, Nat.le_of_ble_eq_true rfl⟩) (fun r5 u5 H locs hwu5 hP hD hS => ?_)
  obtain ⟨u5a, u5b⟩ := u5
  obtain ⟨kr5, rfl, hkr5, hqu50, -⟩ := hwu5
  have hqu5 : (kr5 = 1 → 0 ≤ p1 ∧ p1 < t_1_x5 ∧ p1 ≤ 23) := hqu50
  clear hqu50
  have hP : va_P D vwCl [(t, .inr (11, oX11 t_q)), ((t_1_q 12), .inl (K 0, 24, .inl (fun j => iI (t_1_12_c j)))), ((t_1_q 13), .inl (K 0, 24, .inl (fun j => iI (t_1_13_c j)))), ((t_q 2), .inr (5, oX5 t_2_q t_2_x0)), ((t_2_q 3), .inl (K 0, 24, .inl (fun j => iI (t_2_3_c j)))), ((t_q 1), .inr (7, oX7 t_1_q t_1_x0 t_1_x1 t_1_x2 t_1_x3 t_1_x4 t_1_x5 t_1_x6 t_1_x7 t_1_x8))] H := hP
  have hD : va_D A [(t, .inr (11, oX11 t_q)), ((t_1_q 12), .inl (K 0, 24, .inl (fun j => iI (t_1_12_c j)))), ((t_1_q 13), .inl (K 0, 24, .inl (fun j => iI (t_1_13_c j)))), ((t_q 2), .inr (5, oX5 t_2_q t_2_x0)), ((t_2_q 3), .inl (K 0, 24, .inl (fun j => iI (t_2_3_c j)))), ((t_q 1), .inr (7, oX7 t_1_q t_1_x0 t_1_x1 t_1_x2 t_1_x3 t_1_x4 t_1_x5 t_1_x6 t_1_x7 t_1_x8))] := hD
  refine g_if_ne (tgt := 14) hx hb (by omega) dX11_note_8 (by decide) (fun c8 => ?_) (fun c8 => ?_)
  · refine lv_iload_n hx hb dX11_note_14 rfl (lv_at hl 2 rfl) ?_
    rcases (show (p2 < 0 ∨ 3 < p2) ∨ p2 = 0 ∨ p2 = 1 ∨ p2 = 2 ∨ p2 = 3 by omega) with c15 | c15 | c15 | c15 | c15
    · refine lv_tableOut (tgt := 86) hx hb dX11_note_15 (by rw [iI_toInt (by omega)]; exact c15) (by decide) ?_
      refine lv_bipush (v := iI (-2)) hx hb dX11_note_86 (by decide) ?_
      rw [hQ]; exact fn_iret hx hb hr hlocks rfl hP hD hS ((fun _ => 0), (fun _ _ => 0)) ⟨(-2), rfl, by omega, trivial⟩ [0, 5, 1, 2, 3, 4] (by decide) rfl dX11_note_88
    · refine lv_tableIn (tgt := 44) (off := 29) hx hb dX11_note_15 (by rw [iI_toInt (by omega)]; omega) (by rw [iI_toInt (by omega)]; omega) (by rw [iI_toInt (by omega), c15]; decide) (by decide) ?_
      refine lv_aload_n hx hb dX11_note_44 rfl (lv_at hl 0 rfl) ?_
      refine va_get (D := D) (own := RX11) (ci := 11) (v := .ref (t_q 1)) (C := RX11) (T := TX11) (N := 13) hx hb hts inb_X11 hown hK.1 hP 0 rfl rfl 1 (by decide) (hts _ wd_423) (fun _ h9 => h9) rfl dX11_note_45 ?_
      refine va_getN (D := D) (own := RX11) (ci := 7) (v := .ref (t_1_q 12)) (C := RX7) (T := TX7) (N := 15) hx hb hts inb_X7 hown hK.1 hP 5 rfl rfl 12 (by decide) (hK.nf 46 rfl) (fun _ h9 => h9) rfl dX11_note_48 ?_
      refine lv_iload_n hx hb dX11_note_51 rfl (lv_at hl 1 rfl) ?_
      refine g_iald hx hb hK.1 hP 1 0 rfl rfl (by omega) (by omega) (by decide) dX11_note_52 ?_
      have y52 : 0 ≤ (t_1_12_c p1.toNat) ∧ (t_1_12_c p1.toNat) ≤ 11 := hc_t_1_12 p1.toNat
      rw [hQ]; exact fn_iret hx hb hr hlocks rfl hP hD hS ((fun _ => 0), (fun _ _ => 0)) ⟨t_1_12_c p1.toNat, rfl, by omega, trivial⟩ [0, 5, 1, 2, 3, 4] (by decide) rfl dX11_note_53
    · refine lv_tableIn (tgt := 54) (off := 39) hx hb dX11_note_15 (by rw [iI_toInt (by omega)]; omega) (by rw [iI_toInt (by omega)]; omega) (by rw [iI_toInt (by omega), c15]; decide) (by decide) ?_
      refine lv_aload_n hx hb dX11_note_54 rfl (lv_at hl 0 rfl) ?_
      refine va_get (D := D) (own := RX11) (ci := 11) (v := .ref (t_q 1)) (C := RX11) (T := TX11) (N := 13) hx hb hts inb_X11 hown hK.1 hP 0 rfl rfl 1 (by decide) (hts _ wd_423) (fun _ h9 => h9) rfl dX11_note_55 ?_
      refine va_getN (D := D) (own := RX11) (ci := 7) (v := .ref (t_1_q 13)) (C := RX7) (T := TX7) (N := 15) hx hb hts inb_X7 hown hK.1 hP 5 rfl rfl 13 (by decide) (hK.nf 48 rfl) (fun _ h9 => h9) rfl dX11_note_58 ?_
      refine lv_iload_n hx hb dX11_note_61 rfl (lv_at hl 1 rfl) ?_
      refine g_iald hx hb hK.1 hP 2 0 rfl rfl (by omega) (by omega) (by decide) dX11_note_62 ?_
      have y62 : 0 ≤ (t_1_13_c p1.toNat) ∧ (t_1_13_c p1.toNat) ≤ 4 := hc_t_1_13 p1.toNat
      rw [hQ]; exact fn_iret hx hb hr hlocks rfl hP hD hS ((fun _ => 0), (fun _ _ => 0)) ⟨t_1_13_c p1.toNat, rfl, by omega, trivial⟩ [0, 5, 1, 2, 3, 4] (by decide) rfl dX11_note_63
    · refine lv_tableIn (tgt := 64) (off := 49) hx hb dX11_note_15 (by rw [iI_toInt (by omega)]; omega) (by rw [iI_toInt (by omega)]; omega) (by rw [iI_toInt (by omega), c15]; decide) (by decide) ?_
      refine lv_aload_n hx hb dX11_note_64 rfl (lv_at hl 0 rfl) ?_
      refine va_get (D := D) (own := RX11) (ci := 11) (v := .ref (t_q 2)) (C := RX11) (T := TX11) (N := 13) hx hb hts inb_X11 hown hK.1 hP 0 rfl rfl 2 (by decide) (hts _ wd_424) (fun _ h9 => h9) rfl dX11_note_65 ?_
      refine va_getN (D := D) (own := RX11) (ci := 5) (v := .ref (t_2_q 3)) (C := RX5) (T := TX5) (N := 8) hx hb hts inb_X5 hown hK.1 hP 3 rfl rfl 3 (by decide) (hK.nf 61 rfl) (fun _ h9 => h9) rfl dX11_note_68 ?_
      refine lv_iload_n hx hb dX11_note_71 rfl (lv_at hl 1 rfl) ?_
      refine g_iald hx hb hK.1 hP 4 0 rfl rfl (by omega) (by omega) (by decide) dX11_note_72 ?_
      have y72 : 0 ≤ (t_2_3_c p1.toNat) ∧ (t_2_3_c p1.toNat) ≤ 29 := hc_t_2_3 p1.toNat
      rw [hQ]; exact fn_iret hx hb hr hlocks rfl hP hD hS ((fun _ => 0), (fun _ _ => 0)) ⟨t_2_3_c p1.toNat, rfl, by omega, trivial⟩ [0, 5, 1, 2, 3, 4] (by decide) rfl dX11_note_73
    · refine lv_tableIn (tgt := 74) (off := 59) hx hb dX11_note_15 (by rw [iI_toInt (by omega)]; omega) (by rw [iI_toInt (by omega)]; omega) (by rw [iI_toInt (by omega), c15]; decide) (by decide) ?_
      refine lv_aload_n hx hb dX11_note_74 rfl (lv_at hl 0 rfl) ?_
      refine va_get (D := D) (own := RX11) (ci := 11) (v := .ref (t_q 1)) (C := RX11) (T := TX11) (N := 13) hx hb hts inb_X11 hown hK.1 hP 0 rfl rfl 1 (by decide) (hts _ wd_423) (fun _ h9 => h9) rfl dX11_note_75 ?_
      refine va_getN (D := D) (own := RX11) (ci := 7) (v := .int (iI t_1_x8)) (C := RX7) (T := TX7) (N := 15) hx hb hts inb_X7 hown hK.1 hP 5 rfl rfl 8 (by decide) (hK.nf 37 rfl) (fun _ h9 => h9) rfl dX11_note_78 ?_
      have y78_1 : (-2147483648) ≤ t_1_x8 ∧ t_1_x8 ≤ 2147483647 := hi_t_1.2.2.2.2.2.2.2.2
      refine lv_iload_n hx hb dX11_note_81 rfl (lv_at hl 1 rfl) ?_
      refine lv_ishr hx hb dX11_note_82 ?_
      refine g_any (fun w82 hw82 ew82 => ?_)
      refine lv_iconst (v := iI 1) hx hb dX11_note_83 rfl ?_
      refine lv_iand hx hb dX11_note_84 ?_
      obtain ⟨w84, ew84, hw84⟩ := iI_and w82 1 (by omega)
      refine fn_top (iI w84) ew84 ?_
      rw [hQ]; exact fn_iret hx hb hr hlocks rfl hP hD hS ((fun _ => 0), (fun _ _ => 0)) ⟨w84, rfl, by omega, trivial⟩ [0, 5, 1, 2, 3, 4] (by decide) rfl dX11_note_85
  · refine lv_bipush (v := iI (-2)) hx hb dX11_note_11 (by decide) ?_
    rw [hQ]; exact fn_iret hx hb hr hlocks rfl hP hD hS ((fun _ => 0), (fun _ _ => 0)) ⟨(-2), rfl, by omega, trivial⟩ [0, 5, 1, 2, 3, 4] (by decide) rfl dX11_note_13
theorem dX11_leads_0 : decode cX11_leads 0 = .ok (.aload_n 0, 1) := by decide +kernel
theorem dX11_leads_1 : decode cX11_leads 1 = .ok (.getfield 19, 3) := by decide +kernel
theorem dX11_leads_4 : decode cX11_leads 4 = .ok (.iload_n 1, 1) := by decide +kernel
theorem dX11_leads_5 : decode cX11_leads 5 = .ok (.invokevirtual 167, 3) := by decide +kernel
theorem dX11_leads_8 : decode cX11_leads 8 = .ok (.ifCond .eq 15, 3) := by decide +kernel
theorem dX11_leads_23 : decode cX11_leads 23 = .ok (.bipush (-2), 2) := by decide +kernel
theorem dX11_leads_25 : decode cX11_leads 25 = .ok (.ireturn, 1) := by decide +kernel
theorem dX11_leads_11 : decode cX11_leads 11 = .ok (.aload_n 0, 1) := by decide +kernel
theorem dX11_leads_12 : decode cX11_leads 12 = .ok (.getfield 51, 3) := by decide +kernel
theorem dX11_leads_15 : decode cX11_leads 15 = .ok (.getfield 182, 3) := by decide +kernel
theorem dX11_leads_18 : decode cX11_leads 18 = .ok (.iload_n 1, 1) := by decide +kernel
theorem dX11_leads_19 : decode cX11_leads 19 = .ok (.iaload, 1) := by decide +kernel
theorem dX11_leads_20 : decode cX11_leads 20 = .ok (.goto 5, 3) := by decide +kernel
set_option maxHeartbeats 4000000 in
set_option maxRecDepth 100000 in
theorem k_X11_leads (l : Launch) (D : va_G) (K : Nat → ClassId) (t : Nat) (t_q t_1_q t_7_q : Nat → Nat) (p1 t_1_x0 t_1_x1 t_1_x2 t_1_x3 t_1_x4 t_1_x5 t_1_x6 t_1_x7 t_1_x8 t_7_x0 t_7_x1 t_7_x6 : Int) (t_7_3_c : Nat → Int) (hp1 : (-2147483648) ≤ p1 ∧ p1 ≤ 2147483647) (hi_t_1 : bX7 t_1_x0 t_1_x1 t_1_x2 t_1_x3 t_1_x4 t_1_x5 t_1_x6 t_1_x7 t_1_x8) (hi_t_7 : bX10 t_7_x0 t_7_x1 t_7_x6) (hc_t_7_3 : ∀ j : Nat, (-1) ≤ t_7_3_c j ∧ t_7_3_c j ≤ 11) : fn_CI (S := (Nat → Int) × (Nat → Nat → Int)) l D K yX11_leads (fn_ws yX11_leads cX11_leads 2 (some .int)) ({ frames := 8, cells := 0, slots := 0, locals := 200 } : Room) [.ref t, .int (iI p1)] [(t, .inr (11, oX11 t_q)), ((t_q 1), .inr (7, oX7 t_1_q t_1_x0 t_1_x1 t_1_x2 t_1_x3 t_1_x4 t_1_x5 t_1_x6 t_1_x7 t_1_x8)), ((t_q 7), .inr (10, oX10 t_7_q t_7_x0 t_7_x1 t_7_x6)), ((t_7_q 3), .inl (K 0, 24, .inl (fun j => iI (t_7_3_c j))))] (fun r u => ∃ k : Int, r = iI k ∧ ((-2) ≤ k ∧ k ≤ 11) ∧ True) (fun u => [(t, .inr (11, oX11 t_q)), ((t_q 1), .inr (7, oX7 t_1_q t_1_x0 t_1_x1 t_1_x2 t_1_x3 t_1_x4 t_1_x5 t_1_x6 t_1_x7 t_1_x8)), ((t_q 7), .inr (10, oX10 t_7_q t_7_x0 t_7_x1 t_7_x6)), ((t_7_q 3), .inl (K 0, 24, .inl (fun j => iI (t_7_3_c j))))]) 0 0 := by
  refine g_inI (cc := cX11_leads) (maxL := 2) (ret := (some .int)) (by decide) rfl (Nat.le_of_ble_eq_true rfl) ?_
  intro p e s m below meth c A ls ag Q B hA hP hD hS hl hQ
  obtain ⟨hx, hb, hr, hml, hts, hown, hlocks, hin, hK⟩ := B
  have hown : s.vm.findClass RX11 = some m.cls := hown
  have hts := fun w h => hts w (List.mem_cons_of_mem _ h)
  have hl : lv_has ls 2 [(0, .ref t), (1, .int (iI p1))] := hl
  refine lv_aload_n hx hb dX11_leads_0 rfl (lv_at hl 0 rfl) ?_
  refine va_get (D := D) (own := RX11) (ci := 11) (v := .ref (t_q 1)) (C := RX11) (T := TX11) (N := 13) hx hb hts inb_X11 hown hK.1 hP 0 rfl rfl 1 (by decide) (hts _ wd_423) (fun _ h9 => h9) rfl dX11_leads_1 ?_
  refine lv_iload_n hx hb dX11_leads_4 rfl (lv_at hl 1 rfl) ?_
  refine fn_goi (wc := [((t_q 1), .inr (7, oX7 t_1_q t_1_x0 t_1_x1 t_1_x2 t_1_x3 t_1_x4 t_1_x5 t_1_x6 t_1_x7 t_1_x8))]) (wr := [(t, .inr (11, oX11 t_q)), ((t_q 7), .inr (10, oX10 t_7_q t_7_x0 t_7_x1 t_7_x6)), ((t_7_q 3), .inl (K 0, 24, .inl (fun j => iI (t_7_3_c j))))]) hK hP hD hS hA [1] [0, 2, 3] rfl rfl (by decide) (fun hp => va_runVN (C := RX7) (As := [.int (iI p1)]) (rest := []) ⟨hx, hb, hml, hown, hts⟩ (k_X7_hasNote (l := l) (D := D) (K := K) (t := (t_q 1)) (p1 := p1) (t_q := t_1_q) (t_x0 := t_1_x0) (t_x1 := t_1_x1) (t_x2 := t_1_x2) (t_x3 := t_1_x3) (t_x4 := t_1_x4) (t_x5 := t_1_x5) (t_x6 := t_1_x6) (t_x7 := t_1_x7) (t_x8 := t_1_x8) (hp1 := (by omega)) (hi_t := hi_t_1) _) ⟨va_cnB (own := RX11) 1 hts (fn_gin wd_688) rfl rfl rfl (hK.nw 113 rfl) (hts _ wd_4) (by decide +kernel) ⟨Nat.le_of_ble_eq_true rfl, Nat.le_of_ble_eq_true rfl⟩, hts _ wd_687, hts _ wp_28⟩ ⟨fn_blind, va_recv hK.1 hP (ci := 7) (q0 := 1) rfl rfl, hp⟩ rfl rfl hl.1 rfl (lv_room (Nat.le_of_ble_eq_true rfl)) dX11_leads_5 ⟨Nat.le_of_ble_eq_true rfl, Nat.le_of_ble_eq_true rfl⟩) (fun r5 u5 H locs hwu5 hP hD hS => ?_)
  obtain ⟨u5a, u5b⟩ := u5
  obtain ⟨kr5, rfl, hkr5, hqu50, -⟩ := hwu5
  have hqu5 : (kr5 = 1 → 0 ≤ p1 ∧ p1 < t_1_x5 ∧ p1 ≤ 23) := hqu50
  clear hqu50
  have hP : va_P D vwCl [(t, .inr (11, oX11 t_q)), ((t_q 7), .inr (10, oX10 t_7_q t_7_x0 t_7_x1 t_7_x6)), ((t_7_q 3), .inl (K 0, 24, .inl (fun j => iI (t_7_3_c j)))), ((t_q 1), .inr (7, oX7 t_1_q t_1_x0 t_1_x1 t_1_x2 t_1_x3 t_1_x4 t_1_x5 t_1_x6 t_1_x7 t_1_x8))] H := hP
  have hD : va_D A [(t, .inr (11, oX11 t_q)), ((t_q 7), .inr (10, oX10 t_7_q t_7_x0 t_7_x1 t_7_x6)), ((t_7_q 3), .inl (K 0, 24, .inl (fun j => iI (t_7_3_c j)))), ((t_q 1), .inr (7, oX7 t_1_q t_1_x0 t_1_x1 t_1_x2 t_1_x3 t_1_x4 t_1_x5 t_1_x6 t_1_x7 t_1_x8))] := hD
  refine g_if_eq (tgt := 23) hx hb (by omega) dX11_leads_8 (by decide) (fun c8 => ?_) (fun c8 => ?_)
  · refine lv_bipush (v := iI (-2)) hx hb dX11_leads_23 (by decide) ?_
    rw [hQ]; exact fn_iret hx hb hr hlocks rfl hP hD hS ((fun _ => 0), (fun _ _ => 0)) ⟨(-2), rfl, by omega, trivial⟩ [0, 3, 1, 2] (by decide) rfl dX11_leads_25
  · refine lv_aload_n hx hb dX11_leads_11 rfl (lv_at hl 0 rfl) ?_
    refine va_get (D := D) (own := RX11) (ci := 11) (v := .ref (t_q 7)) (C := RX11) (T := TX11) (N := 13) hx hb hts inb_X11 hown hK.1 hP 0 rfl rfl 7 (by decide) (hts _ wd_429) (fun _ h9 => h9) rfl dX11_leads_12 ?_
    refine va_getN (D := D) (own := RX11) (ci := 10) (v := .ref (t_7_q 3)) (C := RX10) (T := TX10) (N := 7) hx hb hts inb_X10 hown hK.1 hP 1 rfl rfl 3 (by decide) (hK.nf 69 rfl) (fun _ h9 => h9) rfl dX11_leads_15 ?_
    refine lv_iload_n hx hb dX11_leads_18 rfl (lv_at hl 1 rfl) ?_
    refine g_iald hx hb hK.1 hP 2 0 rfl rfl (by omega) (by omega) (by decide) dX11_leads_19 ?_
    have y19 : (-1) ≤ (t_7_3_c p1.toNat) ∧ (t_7_3_c p1.toNat) ≤ 11 := hc_t_7_3 p1.toNat
    refine lv_goto (tgt := 25) hx hb dX11_leads_20 (by decide) ?_
    rw [hQ]; exact fn_iret hx hb hr hlocks rfl hP hD hS ((fun _ => 0), (fun _ _ => 0)) ⟨t_7_3_c p1.toNat, rfl, by omega, trivial⟩ [0, 3, 1, 2] (by decide) rfl dX11_leads_25
