theorem wd_263 : Cond.fieldLink "FootNotes$Faith" 27 "FootNotes$Faith" "full" "I" ∈ fn_big := fn_tb (fn_l2 (List.mem_of_getElem? (i := 23) (by decide +kernel))) (by decide +kernel)
theorem wd_264 : Cond.fieldLink "FootNotes$Faith" 33 "FootNotes$Faith" "facts" "I" ∈ fn_big := fn_tb (fn_l2 (List.mem_of_getElem? (i := 24) (by decide +kernel))) (by decide +kernel)
theorem wd_265 : Cond.fieldLink "FootNotes$Faith" 34 "FootNotes$Faith" "notes" "I" ∈ fn_big := fn_tb (fn_l2 (List.mem_of_getElem? (i := 25) (by decide +kernel))) (by decide +kernel)
theorem wd_266 : Cond.fieldLink "FootNotes$Faith" 9 "FootNotes$Faith" "from" "[I" ∈ fn_big := fn_tb (fn_l2 (List.mem_of_getElem? (i := 26) (by decide +kernel))) (by decide +kernel)
theorem wd_267 : Cond.fieldLink "FootNotes$Faith" 15 "FootNotes$Faith" "to" "[I" ∈ fn_big := fn_tb (fn_l2 (List.mem_of_getElem? (i := 27) (by decide +kernel))) (by decide +kernel)
theorem wd_268 : Cond.fieldLink "FootNotes$Faith" 18 "FootNotes$Faith" "wanted" "[I" ∈ fn_big := fn_tb (fn_l2 (List.mem_of_getElem? (i := 28) (by decide +kernel))) (by decide +kernel)
theorem dX0_take_103 : decode cX0_take 103 = .ok (.iinc 3 1, 3) := by decide +kernel
theorem dX0_take_106 : decode cX0_take 106 = .ok (.goto (-79), 3) := by decide +kernel
theorem dX0_take_27 : decode cX0_take 27 = .ok (.iload_n 3, 1) := by decide +kernel
theorem dX0_take_28 : decode cX0_take 28 = .ok (.aload_n 1, 1) := by decide +kernel
theorem dX0_take_29 : decode cX0_take 29 = .ok (.getfield 37, 3) := by decide +kernel
theorem dX0_take_32 : decode cX0_take 32 = .ok (.if_icmp .ge 77, 3) := by decide +kernel
theorem dX0_take_109 : decode cX0_take 109 = .ok (.return_, 1) := by decide +kernel
theorem dX0_take_35 : decode cX0_take 35 = .ok (.aload_n 2, 1) := by decide +kernel
theorem dX0_take_36 : decode cX0_take 36 = .ok (.getfield 38, 3) := by decide +kernel
theorem dX0_take_39 : decode cX0_take 39 = .ok (.iload_n 3, 1) := by decide +kernel
theorem dX0_take_40 : decode cX0_take 40 = .ok (.iaload, 1) := by decide +kernel
theorem dX0_take_41 : decode cX0_take 41 = .ok (.ifCond .lt 62, 3) := by decide +kernel
theorem dX0_take_44 : decode cX0_take 44 = .ok (.aload_n 0, 1) := by decide +kernel
theorem dX0_take_45 : decode cX0_take 45 = .ok (.getfield 9, 3) := by decide +kernel
theorem dX0_take_48 : decode cX0_take 48 = .ok (.aload_n 0, 1) := by decide +kernel
theorem dX0_take_49 : decode cX0_take 49 = .ok (.getfield 34, 3) := by decide +kernel
theorem dX0_take_52 : decode cX0_take 52 = .ok (.aload_n 1, 1) := by decide +kernel
theorem dX0_take_53 : decode cX0_take 53 = .ok (.getfield 43, 3) := by decide +kernel
theorem dX0_take_56 : decode cX0_take 56 = .ok (.iload_n 3, 1) := by decide +kernel
theorem dX0_take_57 : decode cX0_take 57 = .ok (.iaload, 1) := by decide +kernel
theorem dX0_take_58 : decode cX0_take 58 = .ok (.iastore, 1) := by decide +kernel
theorem dX0_take_59 : decode cX0_take 59 = .ok (.aload_n 0, 1) := by decide +kernel
theorem dX0_take_60 : decode cX0_take 60 = .ok (.getfield 15, 3) := by decide +kernel
theorem dX0_take_63 : decode cX0_take 63 = .ok (.aload_n 0, 1) := by decide +kernel
theorem dX0_take_64 : decode cX0_take 64 = .ok (.getfield 34, 3) := by decide +kernel
theorem dX0_take_67 : decode cX0_take 67 = .ok (.aload_n 2, 1) := by decide +kernel
theorem dX0_take_68 : decode cX0_take 68 = .ok (.getfield 38, 3) := by decide +kernel
theorem dX0_take_71 : decode cX0_take 71 = .ok (.iload_n 3, 1) := by decide +kernel
theorem dX0_take_72 : decode cX0_take 72 = .ok (.iaload, 1) := by decide +kernel
theorem dX0_take_73 : decode cX0_take 73 = .ok (.iastore, 1) := by decide +kernel
theorem dX0_take_74 : decode cX0_take 74 = .ok (.aload_n 0, 1) := by decide +kernel
theorem dX0_take_75 : decode cX0_take 75 = .ok (.getfield 18, 3) := by decide +kernel
theorem dX0_take_78 : decode cX0_take 78 = .ok (.aload_n 0, 1) := by decide +kernel
theorem dX0_take_79 : decode cX0_take 79 = .ok (.getfield 34, 3) := by decide +kernel
theorem dX0_take_82 : decode cX0_take 82 = .ok (.iconst 1, 1) := by decide +kernel
theorem dX0_take_83 : decode cX0_take 83 = .ok (.aload_n 1, 1) := by decide +kernel
theorem dX0_take_84 : decode cX0_take 84 = .ok (.getfield 46, 3) := by decide +kernel
theorem dX0_take_87 : decode cX0_take 87 = .ok (.iload_n 3, 1) := by decide +kernel
theorem dX0_take_88 : decode cX0_take 88 = .ok (.ishr, 1) := by decide +kernel
theorem dX0_take_89 : decode cX0_take 89 = .ok (.iconst 1, 1) := by decide +kernel
theorem dX0_take_90 : decode cX0_take 90 = .ok (.iand, 1) := by decide +kernel
theorem dX0_take_91 : decode cX0_take 91 = .ok (.isub, 1) := by decide +kernel
theorem dX0_take_92 : decode cX0_take 92 = .ok (.iastore, 1) := by decide +kernel
theorem dX0_take_93 : decode cX0_take 93 = .ok (.aload_n 0, 1) := by decide +kernel
theorem dX0_take_94 : decode cX0_take 94 = .ok (.dup, 1) := by decide +kernel
theorem dX0_take_95 : decode cX0_take 95 = .ok (.getfield 34, 3) := by decide +kernel
theorem dX0_take_98 : decode cX0_take 98 = .ok (.iconst 1, 1) := by decide +kernel
theorem dX0_take_99 : decode cX0_take 99 = .ok (.iadd, 1) := by decide +kernel
theorem dX0_take_100 : decode cX0_take 100 = .ok (.putfield 34, 3) := by decide +kernel
theorem dX0_take_0 : decode cX0_take 0 = .ok (.aload_n 0, 1) := by decide +kernel
theorem dX0_take_1 : decode cX0_take 1 = .ok (.iconst 1, 1) := by decide +kernel
theorem dX0_take_2 : decode cX0_take 2 = .ok (.aload_n 1, 1) := by decide +kernel
theorem dX0_take_3 : decode cX0_take 3 = .ok (.getfield 21, 3) := by decide +kernel
theorem dX0_take_6 : decode cX0_take 6 = .ok (.ishl, 1) := by decide +kernel
theorem dX0_take_7 : decode cX0_take 7 = .ok (.iconst 1, 1) := by decide +kernel
theorem dX0_take_8 : decode cX0_take 8 = .ok (.isub, 1) := by decide +kernel
theorem dX0_take_9 : decode cX0_take 9 = .ok (.putfield 27, 3) := by decide +kernel
theorem dX0_take_12 : decode cX0_take 12 = .ok (.aload_n 0, 1) := by decide +kernel
theorem dX0_take_13 : decode cX0_take 13 = .ok (.aload_n 1, 1) := by decide +kernel
theorem dX0_take_14 : decode cX0_take 14 = .ok (.getfield 30, 3) := by decide +kernel
theorem dX0_take_17 : decode cX0_take 17 = .ok (.putfield 33, 3) := by decide +kernel
theorem dX0_take_20 : decode cX0_take 20 = .ok (.aload_n 0, 1) := by decide +kernel
theorem dX0_take_21 : decode cX0_take 21 = .ok (.iconst 0, 1) := by decide +kernel
theorem dX0_take_22 : decode cX0_take 22 = .ok (.putfield 34, 3) := by decide +kernel
theorem dX0_take_25 : decode cX0_take 25 = .ok (.iconst 0, 1) := by decide +kernel
theorem dX0_take_26 : decode cX0_take 26 = .ok (.istore_n 3, 1) := by decide +kernel
set_option maxHeartbeats 4000000 in
set_option maxRecDepth 100000 in
theorem k_X0_take (l : Launch) (D : va_G) (K : Nat → ClassId) (t a1 a2 : Nat) (a1_q t_q a2_q : Nat → Nat) (a1_x0 a1_x1 a1_x2 a1_x3 a1_x4 a1_x5 a1_x6 a1_x7 a1_x8 t_x0 t_x1 t_x2 t_x6 t_x7 t_x8 t_x9 t_x10 t_x11 a2_x0 a2_x1 a2_x6 : Int) (a2_3_c : Nat → Int) (a1_12_c : Nat → Int) (t_3_c : Nat → Int) (t_4_c : Nat → Int) (t_5_c : Nat → Int) (hi_a1 : bX7 a1_x0 a1_x1 a1_x2 a1_x3 a1_x4 a1_x5 a1_x6 a1_x7 a1_x8) (hi_t : bX0 t_x0 t_x1 t_x2 t_x6 t_x7 t_x8 t_x9 t_x10 t_x11) (hi_a2 : bX10 a2_x0 a2_x1 a2_x6) (hc_a2_3 : ∀ j : Nat, (-1) ≤ a2_3_c j ∧ a2_3_c j ≤ 11) (hc_a1_12 : ∀ j : Nat, 0 ≤ a1_12_c j ∧ a1_12_c j ≤ 11) (hc_t_3 : ∀ j : Nat, 0 ≤ t_3_c j ∧ t_3_c j ≤ 11) (hc_t_4 : ∀ j : Nat, 0 ≤ t_4_c j ∧ t_4_c j ≤ 11) (hc_t_5 : ∀ j : Nat, 0 ≤ t_5_c j ∧ t_5_c j ≤ 1) : fn_CV (S := (Nat → Int) × (Nat → Nat → Int)) l D K yX0_take (fn_ws yX0_take cX0_take 4 none) ({ frames := 4, cells := 0, slots := 0, locals := 100 } : Room) [.ref t, .ref a1, .ref a2] [(a1, .inr (7, oX7 a1_q a1_x0 a1_x1 a1_x2 a1_x3 a1_x4 a1_x5 a1_x6 a1_x7 a1_x8)), (t, .inr (0, oX0 t_q t_x0 t_x1 t_x2 t_x6 t_x7 t_x8 t_x9 t_x10 t_x11)), (a2, .inr (10, oX10 a2_q a2_x0 a2_x1 a2_x6)), ((a2_q 3), .inl (K 0, 24, .inl (fun j => iI (a2_3_c j)))), ((a1_q 12), .inl (K 0, 24, .inl (fun j => iI (a1_12_c j)))), ((t_q 3), .inl (K 0, 24, .inl (fun j => iI (t_3_c j)))), ((t_q 4), .inl (K 0, 24, .inl (fun j => iI (t_4_c j)))), ((t_q 5), .inl (K 0, 24, .inl (fun j => iI (t_5_c j))))] (fun u => (0 ≤ (u.1 0) ∧ (u.1 0) ≤ 4095 ∧ 0 ≤ (u.1 1) ∧ (u.1 1) ≤ 4095 ∧ 0 ≤ (u.1 2) ∧ (u.1 2) ≤ 24) ∧ (∀ j : Nat, 0 ≤ (u.2 0) j ∧ (u.2 0) j ≤ 11) ∧ (∀ j : Nat, 0 ≤ (u.2 1) j ∧ (u.2 1) j ≤ 11) ∧ (∀ j : Nat, 0 ≤ (u.2 2) j ∧ (u.2 2) j ≤ 1) ∧ True) (fun u => [(a1, .inr (7, oX7 a1_q a1_x0 a1_x1 a1_x2 a1_x3 a1_x4 a1_x5 a1_x6 a1_x7 a1_x8)), (t, .inr (0, oX0 t_q (u.1 0) (u.1 1) (u.1 2) t_x6 t_x7 t_x8 t_x9 t_x10 t_x11)), (a2, .inr (10, oX10 a2_q a2_x0 a2_x1 a2_x6)), ((a2_q 3), .inl (K 0, 24, .inl (fun j => iI (a2_3_c j)))), ((a1_q 12), .inl (K 0, 24, .inl (fun j => iI (a1_12_c j)))), ((t_q 3), .inl (K 0, 24, .inl (fun j => iI ((u.2 0) j)))), ((t_q 4), .inl (K 0, 24, .inl (fun j => iI ((u.2 1) j)))), ((t_q 5), .inl (K 0, 24, .inl (fun j => iI ((u.2 2) j))))]) 0 0 := by
  refine g_inV (cc := cX0_take) (maxL := 4) (ret := none) (by decide) rfl (Nat.le_of_ble_eq_true rfl) ?_
  intro p e s m below meth c A ls ag Q B hA hP hD hS hl hQ
  obtain ⟨hx, hb, hr, hml, hts, hown, hlocks, hin, hK⟩ := B
  have hown : s.vm.findClass RX0 = some m.cls := hown
  have hts := fun w h => hts w (List.mem_cons_of_mem _ h)
  have J27 : ∀ (n : Nat) (x27_3 : Int) (f27_t_0 : Int) (f27_t_2 : Int) (c27_t_3 : Nat → Int) (c27_t_4 : Nat → Int) (c27_t_5 : Nat → Int) (H : Heap) (locs : List Loc) (ls : Array Slot), (24 - x27_3).toNat < n → (0 ≤ x27_3 ∧ x27_3 ≤ 24 ∧ 0 ≤ f27_t_0 ∧ f27_t_0 ≤ 4095 ∧ 0 ≤ f27_t_2 ∧ f27_t_2 ≤ 24 ∧ f27_t_2 ≤ x27_3) → (∀ j : Nat, 0 ≤ c27_t_3 j ∧ c27_t_3 j ≤ 11) → (∀ j : Nat, 0 ≤ c27_t_4 j ∧ c27_t_4 j ≤ 11) → (∀ j : Nat, 0 ≤ c27_t_5 j ∧ c27_t_5 j ≤ 1) → va_P D vwCl [(a1, .inr (7, oX7 a1_q a1_x0 a1_x1 a1_x2 a1_x3 a1_x4 a1_x5 a1_x6 a1_x7 a1_x8)), (t, .inr (0, oX0 t_q f27_t_0 a1_x6 f27_t_2 t_x6 t_x7 t_x8 t_x9 t_x10 t_x11)), (a2, .inr (10, oX10 a2_q a2_x0 a2_x1 a2_x6)), ((a2_q 3), .inl (K 0, 24, .inl (fun j => iI (a2_3_c j)))), ((a1_q 12), .inl (K 0, 24, .inl (fun j => iI (a1_12_c j)))), ((t_q 3), .inl (K 0, 24, .inl (fun j => iI (c27_t_3 j)))), ((t_q 4), .inl (K 0, 24, .inl (fun j => iI (c27_t_4 j)))), ((t_q 5), .inl (K 0, 24, .inl (fun j => iI (c27_t_5 j))))] H → va_D A [(a1, .inr (7, oX7 a1_q a1_x0 a1_x1 a1_x2 a1_x3 a1_x4 a1_x5 a1_x6 a1_x7 a1_x8)), (t, .inr (0, oX0 t_q f27_t_0 a1_x6 f27_t_2 t_x6 t_x7 t_x8 t_x9 t_x10 t_x11)), (a2, .inr (10, oX10 a2_q a2_x0 a2_x1 a2_x6)), ((a2_q 3), .inl (K 0, 24, .inl (fun j => iI (a2_3_c j)))), ((a1_q 12), .inl (K 0, 24, .inl (fun j => iI (a1_12_c j)))), ((t_q 3), .inl (K 0, 24, .inl (fun j => iI (c27_t_3 j)))), ((t_q 4), .inl (K 0, 24, .inl (fun j => iI (c27_t_4 j)))), ((t_q 5), .inl (K 0, 24, .inl (fun j => iI (c27_t_5 j))))] → va_S A s.heap H locs → lv_has ls 4 [(0, .ref t), (1, .ref a1), (2, .ref a2), (3, .int (iI x27_3))] → W p l e ({ frames := 4, cells := 0, slots := 0, locals := 100 } : Room) s m ag below meth c H locs 0 0 Q (F0 m 27 ls []) := by
    intro n
    induction n with
    | zero =>
      intro x27_3 f27_t_0 f27_t_2 c27_t_3 c27_t_4 c27_t_5 H locs ls hm27 hf27 hc27_t_3 hc27_t_4 hc27_t_5 hP hD hS hl
      exact absurd hm27 (Nat.not_lt_zero _)
    | succ n ih27 =>
      intro x27_3 f27_t_0 f27_t_2 c27_t_3 c27_t_4 c27_t_5 H locs ls hm27 hf27 hc27_t_3 hc27_t_4 hc27_t_5 hP hD hS hl
      have J103 : ∀ (f103_t_2 : Int) (c103_t_3 : Nat → Int) (c103_t_4 : Nat → Int) (c103_t_5 : Nat → Int) (H : Heap) (locs : List Loc) (ls : Array Slot), (0 ≤ x27_3 ∧ x27_3 ≤ 23 ∧ 1 ≤ a1_x5 ∧ a1_x5 ≤ 24 ∧ 0 ≤ f103_t_2 ∧ f103_t_2 ≤ 24 ∧ f103_t_2 ≤ x27_3 + 1) → (∀ j : Nat, 0 ≤ c103_t_3 j ∧ c103_t_3 j ≤ 11) → (∀ j : Nat, 0 ≤ c103_t_4 j ∧ c103_t_4 j ≤ 11) → (∀ j : Nat, 0 ≤ c103_t_5 j ∧ c103_t_5 j ≤ 1) → va_P D vwCl [(a1, .inr (7, oX7 a1_q a1_x0 a1_x1 a1_x2 a1_x3 a1_x4 a1_x5 a1_x6 a1_x7 a1_x8)), (t, .inr (0, oX0 t_q f27_t_0 a1_x6 f103_t_2 t_x6 t_x7 t_x8 t_x9 t_x10 t_x11)), (a2, .inr (10, oX10 a2_q a2_x0 a2_x1 a2_x6)), ((a2_q 3), .inl (K 0, 24, .inl (fun j => iI (a2_3_c j)))), ((a1_q 12), .inl (K 0, 24, .inl (fun j => iI (a1_12_c j)))), ((t_q 3), .inl (K 0, 24, .inl (fun j => iI (c103_t_3 j)))), ((t_q 4), .inl (K 0, 24, .inl (fun j => iI (c103_t_4 j)))), ((t_q 5), .inl (K 0, 24, .inl (fun j => iI (c103_t_5 j))))] H → va_D A [(a1, .inr (7, oX7 a1_q a1_x0 a1_x1 a1_x2 a1_x3 a1_x4 a1_x5 a1_x6 a1_x7 a1_x8)), (t, .inr (0, oX0 t_q f27_t_0 a1_x6 f103_t_2 t_x6 t_x7 t_x8 t_x9 t_x10 t_x11)), (a2, .inr (10, oX10 a2_q a2_x0 a2_x1 a2_x6)), ((a2_q 3), .inl (K 0, 24, .inl (fun j => iI (a2_3_c j)))), ((a1_q 12), .inl (K 0, 24, .inl (fun j => iI (a1_12_c j)))), ((t_q 3), .inl (K 0, 24, .inl (fun j => iI (c103_t_3 j)))), ((t_q 4), .inl (K 0, 24, .inl (fun j => iI (c103_t_4 j)))), ((t_q 5), .inl (K 0, 24, .inl (fun j => iI (c103_t_5 j))))] → va_S A s.heap H locs → lv_has ls 4 [(0, .ref t), (1, .ref a1), (2, .ref a2), (3, .int (iI x27_3))] → W p l e ({ frames := 4, cells := 0, slots := 0, locals := 100 } : Room) s m ag below meth c H locs 0 0 Q (F0 m 103 ls []) := by
        intro f103_t_2 c103_t_3 c103_t_4 c103_t_5 H locs ls hf103 hc103_t_3 hc103_t_4 hc103_t_5 hP hD hS hl
        refine lv_iinc (v := iI (x27_3 + 1)) (lv' := [(3, .int (iI (x27_3 + 1))), (0, .ref t), (1, .ref a1), (2, .ref a2)]) hx hb dX0_take_103 hl (k := 3) rfl (iI_add _ _) (by decide) rfl (fun ls hl => ?_)
        refine lv_goto (tgt := 27) hx hb dX0_take_106 (by decide) ?_
        exact ih27 (x27_3 + 1) f27_t_0 f103_t_2 c103_t_3 c103_t_4 c103_t_5 _ _ ls (by omega) (by omega) hc103_t_3 hc103_t_4 hc103_t_5 (hP.sub [0, 1, 2, 3, 4, 5, 6, 7] rfl) (hD.sub [0, 1, 2, 3, 4, 5, 6, 7] (by decide) rfl) hS (lv_sub hl [1, 2, 3, 0] rfl)
      refine lv_iload_n hx hb dX0_take_27 rfl (lv_at hl 3 rfl) ?_
      refine lv_aload_n hx hb dX0_take_28 rfl (lv_at hl 1 rfl) ?_
      refine va_getN (D := D) (own := RX0) (ci := 7) (v := .int (iI a1_x5)) (C := RX7) (T := TX7) (N := 15) hx hb hts inb_X7 hown hK.1 hP 0 rfl rfl 5 (by decide) (hK.nf 26 rfl) (fun _ h9 => h9) rfl dX0_take_29 ?_
      have y29_1 : 0 ≤ a1_x5 ∧ a1_x5 ≤ 24 := hi_a1.2.2.2.2.2.1
      refine g_icmp_ge (tgt := 109) hx hb (by omega) (by omega) dX0_take_32 (by decide) (fun c32 => ?_) (fun c32 => ?_)
      · have y109_2 : 0 ≤ a1_x6 ∧ a1_x6 ≤ 4095 := hi_a1.2.2.2.2.2.2.1
        rw [hQ]; exact fn_vret hx hb hr hlocks hP hD hS ((fun k => ([f27_t_0, a1_x6, f27_t_2] : List Int).getD k 0), (fun k => ([c27_t_3, c27_t_4, c27_t_5] : List (Nat → Int)).getD k (fun _ => 0))) ⟨(by show 0 ≤ f27_t_0 ∧ f27_t_0 ≤ 4095 ∧ 0 ≤ a1_x6 ∧ a1_x6 ≤ 4095 ∧ 0 ≤ f27_t_2 ∧ f27_t_2 ≤ 24; omega), (hc27_t_3), (hc27_t_4), (hc27_t_5), trivial⟩ [0, 1, 2, 3, 4, 5, 6, 7] (by decide) rfl dX0_take_109
      · refine lv_aload_n hx hb dX0_take_35 rfl (lv_at hl 2 rfl) ?_
        refine va_getN (D := D) (own := RX0) (ci := 10) (v := .ref (a2_q 3)) (C := RX10) (T := TX10) (N := 7) hx hb hts inb_X10 hown hK.1 hP 2 rfl rfl 3 (by decide) (hK.nf 67 rfl) (fun _ h9 => h9) rfl dX0_take_36 ?_
        refine lv_iload_n hx hb dX0_take_39 rfl (lv_at hl 3 rfl) ?_
        refine g_iald hx hb hK.1 hP 3 0 rfl rfl (by omega) (by omega) (by decide) dX0_take_40 ?_
        have y40 : (-1) ≤ (a2_3_c x27_3.toNat) ∧ (a2_3_c x27_3.toNat) ≤ 11 := hc_a2_3 x27_3.toNat
        refine g_if_lt (tgt := 103) hx hb (by omega) dX0_take_41 (by decide) (fun c41 => ?_) (fun c41 => ?_)
        · exact J103 f27_t_2 c27_t_3 c27_t_4 c27_t_5 _ _ ls (by omega) hc27_t_3 hc27_t_4 hc27_t_5 (hP.sub [0, 1, 2, 3, 4, 5, 6, 7] rfl) (hD.sub [0, 1, 2, 3, 4, 5, 6, 7] (by decide) rfl) hS (lv_sub hl [0, 1, 2, 3] rfl)
        · refine lv_aload_n hx hb dX0_take_44 rfl (lv_at hl 0 rfl) ?_
          refine va_get (D := D) (own := RX0) (ci := 0) (v := .ref (t_q 3)) (C := RX0) (T := TX0) (N := 12) hx hb hts inb_X0 hown hK.1 hP 1 rfl rfl 3 (by decide) (hts _ wd_266) (fun _ h9 => h9) rfl dX0_take_45 ?_
          refine lv_aload_n hx hb dX0_take_48 rfl (lv_at hl 0 rfl) ?_
          refine va_get (D := D) (own := RX0) (ci := 0) (v := .int (iI f27_t_2)) (C := RX0) (T := TX0) (N := 12) hx hb hts inb_X0 hown hK.1 hP 1 rfl rfl 2 (by decide) (hts _ wd_265) (fun _ h9 => h9) rfl dX0_take_49 ?_
          refine lv_aload_n hx hb dX0_take_52 rfl (lv_at hl 1 rfl) ?_
          refine va_getN (D := D) (own := RX0) (ci := 7) (v := .ref (a1_q 12)) (C := RX7) (T := TX7) (N := 15) hx hb hts inb_X7 hown hK.1 hP 0 rfl rfl 12 (by decide) (hK.nf 44 rfl) (fun _ h9 => h9) rfl dX0_take_53 ?_
          refine lv_iload_n hx hb dX0_take_56 rfl (lv_at hl 3 rfl) ?_
          refine g_iald hx hb hK.1 hP 4 0 rfl rfl (by omega) (by omega) (by decide) dX0_take_57 ?_
          have y57 : 0 ≤ (a1_12_c x27_3.toNat) ∧ (a1_12_c x27_3.toNat) ≤ 11 := hc_a1_12 x27_3.toNat
          refine g_iast hx hb hK.1 hP hD hS 5 0 rfl rfl (by omega) (by omega) (by decide) dX0_take_58 (fun H locs g58 eg58 hP hD hS => ?_)
          have hg58 : ∀ j : Nat, 0 ≤ g58 j ∧ g58 j ≤ 11 := by rw [eg58]; exact uI_all hc27_t_3 (by omega)
          have hP : va_P D vwCl [(a1, .inr (7, oX7 a1_q a1_x0 a1_x1 a1_x2 a1_x3 a1_x4 a1_x5 a1_x6 a1_x7 a1_x8)), (t, .inr (0, oX0 t_q f27_t_0 a1_x6 f27_t_2 t_x6 t_x7 t_x8 t_x9 t_x10 t_x11)), (a2, .inr (10, oX10 a2_q a2_x0 a2_x1 a2_x6)), ((a2_q 3), .inl (K 0, 24, .inl (fun j => iI (a2_3_c j)))), ((a1_q 12), .inl (K 0, 24, .inl (fun j => iI (a1_12_c j)))), ((t_q 3), .inl (K 0, 24, .inl (fun j => iI (g58 j)))), ((t_q 4), .inl (K 0, 24, .inl (fun j => iI (c27_t_4 j)))), ((t_q 5), .inl (K 0, 24, .inl (fun j => iI (c27_t_5 j))))] H := hP
          have hD : va_D A [(a1, .inr (7, oX7 a1_q a1_x0 a1_x1 a1_x2 a1_x3 a1_x4 a1_x5 a1_x6 a1_x7 a1_x8)), (t, .inr (0, oX0 t_q f27_t_0 a1_x6 f27_t_2 t_x6 t_x7 t_x8 t_x9 t_x10 t_x11)), (a2, .inr (10, oX10 a2_q a2_x0 a2_x1 a2_x6)), ((a2_q 3), .inl (K 0, 24, .inl (fun j => iI (a2_3_c j)))), ((a1_q 12), .inl (K 0, 24, .inl (fun j => iI (a1_12_c j)))), ((t_q 3), .inl (K 0, 24, .inl (fun j => iI (g58 j)))), ((t_q 4), .inl (K 0, 24, .inl (fun j => iI (c27_t_4 j)))), ((t_q 5), .inl (K 0, 24, .inl (fun j => iI (c27_t_5 j))))] := hD
          refine lv_aload_n hx hb dX0_take_59 rfl (lv_at hl 0 rfl) ?_
          refine fn_at 60 rfl ?_
          refine va_get (D := D) (own := RX0) (ci := 0) (v := .ref (t_q 4)) (C := RX0) (T := TX0) (N := 12) hx hb hts inb_X0 hown hK.1 hP 1 rfl rfl 4 (by decide) (hts _ wd_267) (fun _ h9 => h9) rfl dX0_take_60 ?_
          refine lv_aload_n hx hb dX0_take_63 rfl (lv_at hl 0 rfl) ?_
          refine va_get (D := D) (own := RX0) (ci := 0) (v := .int (iI f27_t_2)) (C := RX0) (T := TX0) (N := 12) hx hb hts inb_X0 hown hK.1 hP 1 rfl rfl 2 (by decide) (hts _ wd_265) (fun _ h9 => h9) rfl dX0_take_64 ?_
          refine lv_aload_n hx hb dX0_take_67 rfl (lv_at hl 2 rfl) ?_
          refine va_getN (D := D) (own := RX0) (ci := 10) (v := .ref (a2_q 3)) (C := RX10) (T := TX10) (N := 7) hx hb hts inb_X10 hown hK.1 hP 2 rfl rfl 3 (by decide) (hK.nf 67 rfl) (fun _ h9 => h9) rfl dX0_take_68 ?_
          refine lv_iload_n hx hb dX0_take_71 rfl (lv_at hl 3 rfl) ?_
          refine g_iald hx hb hK.1 hP 3 0 rfl rfl (by omega) (by omega) (by decide) dX0_take_72 ?_
          refine g_iast hx hb hK.1 hP hD hS 6 0 rfl rfl (by omega) (by omega) (by decide) dX0_take_73 (fun H locs g73 eg73 hP hD hS => ?_)
          have hg73 : ∀ j : Nat, 0 ≤ g73 j ∧ g73 j ≤ 11 := by rw [eg73]; exact uI_all hc27_t_4 (by omega)
          have hP : va_P D vwCl [(a1, .inr (7, oX7 a1_q a1_x0 a1_x1 a1_x2 a1_x3 a1_x4 a1_x5 a1_x6 a1_x7 a1_x8)), (t, .inr (0, oX0 t_q f27_t_0 a1_x6 f27_t_2 t_x6 t_x7 t_x8 t_x9 t_x10 t_x11)), (a2, .inr (10, oX10 a2_q a2_x0 a2_x1 a2_x6)), ((a2_q 3), .inl (K 0, 24, .inl (fun j => iI (a2_3_c j)))), ((a1_q 12), .inl (K 0, 24, .inl (fun j => iI (a1_12_c j)))), ((t_q 3), .inl (K 0, 24, .inl (fun j => iI (g58 j)))), ((t_q 4), .inl (K 0, 24, .inl (fun j => iI (g73 j)))), ((t_q 5), .inl (K 0, 24, .inl (fun j => iI (c27_t_5 j))))] H := hP
          have hD : va_D A [(a1, .inr (7, oX7 a1_q a1_x0 a1_x1 a1_x2 a1_x3 a1_x4 a1_x5 a1_x6 a1_x7 a1_x8)), (t, .inr (0, oX0 t_q f27_t_0 a1_x6 f27_t_2 t_x6 t_x7 t_x8 t_x9 t_x10 t_x11)), (a2, .inr (10, oX10 a2_q a2_x0 a2_x1 a2_x6)), ((a2_q 3), .inl (K 0, 24, .inl (fun j => iI (a2_3_c j)))), ((a1_q 12), .inl (K 0, 24, .inl (fun j => iI (a1_12_c j)))), ((t_q 3), .inl (K 0, 24, .inl (fun j => iI (g58 j)))), ((t_q 4), .inl (K 0, 24, .inl (fun j => iI (g73 j)))), ((t_q 5), .inl (K 0, 24, .inl (fun j => iI (c27_t_5 j))))] := hD
          refine lv_aload_n hx hb dX0_take_74 rfl (lv_at hl 0 rfl) ?_
          refine va_get (D := D) (own := RX0) (ci := 0) (v := .ref (t_q 5)) (C := RX0) (T := TX0) (N := 12) hx hb hts inb_X0 hown hK.1 hP 1 rfl rfl 5 (by decide) (hts _ wd_268) (fun _ h9 => h9) rfl dX0_take_75 ?_
          refine lv_aload_n hx hb dX0_take_78 rfl (lv_at hl 0 rfl) ?_
          refine va_get (D := D) (own := RX0) (ci := 0) (v := .int (iI f27_t_2)) (C := RX0) (T := TX0) (N := 12) hx hb hts inb_X0 hown hK.1 hP 1 rfl rfl 2 (by decide) (hts _ wd_265) (fun _ h9 => h9) rfl dX0_take_79 ?_
          refine lv_iconst (v := iI 1) hx hb dX0_take_82 rfl ?_
          refine lv_aload_n hx hb dX0_take_83 rfl (lv_at hl 1 rfl) ?_
          refine va_getN (D := D) (own := RX0) (ci := 7) (v := .int (iI a1_x8)) (C := RX7) (T := TX7) (N := 15) hx hb hts inb_X7 hown hK.1 hP 0 rfl rfl 8 (by decide) (hK.nf 36 rfl) (fun _ h9 => h9) rfl dX0_take_84 ?_
          have y84_2 : (-2147483648) ≤ a1_x8 ∧ a1_x8 ≤ 2147483647 := hi_a1.2.2.2.2.2.2.2.2
          refine lv_iload_n hx hb dX0_take_87 rfl (lv_at hl 3 rfl) ?_
          refine lv_ishr hx hb dX0_take_88 ?_
          refine g_any (fun w88 hw88 ew88 => ?_)
          refine lv_iconst (v := iI 1) hx hb dX0_take_89 rfl ?_
          refine lv_iand hx hb dX0_take_90 ?_
          obtain ⟨w90, ew90, hw90⟩ := iI_and w88 1 (by omega)
          refine fn_top (iI w90) ew90 ?_
          refine g_isub hx hb dX0_take_91 ?_
          refine fn_at 92 rfl ?_
          refine g_iast hx hb hK.1 hP hD hS 7 0 rfl rfl (by omega) (by omega) (by decide) dX0_take_92 (fun H locs g92 eg92 hP hD hS => ?_)
          have hg92 : ∀ j : Nat, 0 ≤ g92 j ∧ g92 j ≤ 1 := by rw [eg92]; exact uI_all hc27_t_5 (by omega)
          have hP : va_P D vwCl [(a1, .inr (7, oX7 a1_q a1_x0 a1_x1 a1_x2 a1_x3 a1_x4 a1_x5 a1_x6 a1_x7 a1_x8)), (t, .inr (0, oX0 t_q f27_t_0 a1_x6 f27_t_2 t_x6 t_x7 t_x8 t_x9 t_x10 t_x11)), (a2, .inr (10, oX10 a2_q a2_x0 a2_x1 a2_x6)), ((a2_q 3), .inl (K 0, 24, .inl (fun j => iI (a2_3_c j)))), ((a1_q 12), .inl (K 0, 24, .inl (fun j => iI (a1_12_c j)))), ((t_q 3), .inl (K 0, 24, .inl (fun j => iI (g58 j)))), ((t_q 4), .inl (K 0, 24, .inl (fun j => iI (g73 j)))), ((t_q 5), .inl (K 0, 24, .inl (fun j => iI (g92 j))))] H := hP
          have hD : va_D A [(a1, .inr (7, oX7 a1_q a1_x0 a1_x1 a1_x2 a1_x3 a1_x4 a1_x5 a1_x6 a1_x7 a1_x8)), (t, .inr (0, oX0 t_q f27_t_0 a1_x6 f27_t_2 t_x6 t_x7 t_x8 t_x9 t_x10 t_x11)), (a2, .inr (10, oX10 a2_q a2_x0 a2_x1 a2_x6)), ((a2_q 3), .inl (K 0, 24, .inl (fun j => iI (a2_3_c j)))), ((a1_q 12), .inl (K 0, 24, .inl (fun j => iI (a1_12_c j)))), ((t_q 3), .inl (K 0, 24, .inl (fun j => iI (g58 j)))), ((t_q 4), .inl (K 0, 24, .inl (fun j => iI (g73 j)))), ((t_q 5), .inl (K 0, 24, .inl (fun j => iI (g92 j))))] := hD
          refine lv_aload_n hx hb dX0_take_93 rfl (lv_at hl 0 rfl) ?_
          refine lv_dup hx hb dX0_take_94 rfl ?_
          refine va_get (D := D) (own := RX0) (ci := 0) (v := .int (iI f27_t_2)) (C := RX0) (T := TX0) (N := 12) hx hb hts inb_X0 hown hK.1 hP 1 rfl rfl 2 (by decide) (hts _ wd_265) (fun _ h9 => h9) rfl dX0_take_95 ?_
          refine lv_iconst (v := iI 1) hx hb dX0_take_98 rfl ?_
          refine g_iadd hx hb dX0_take_99 ?_
          refine va_put (D := D) (own := RX0) (ci := 0) (v := .int (iI (f27_t_2 + 1))) (ty := .int) (C := RX0) (T := TX0) (N := 12) hx hb hts inb_X0 tyX0 tyX0_ok nmX0 hown hK.1 hP hD hS 1 rfl rfl 2 (by decide) (hts _ wd_265) (fun _ h9 => h9) rfl (by decide +kernel) rfl rfl (Nat.le_of_ble_eq_true rfl) dX0_take_100 (fun H locs hP hD hS => ?_)
          have hP : va_P D vwCl [(a1, .inr (7, oX7 a1_q a1_x0 a1_x1 a1_x2 a1_x3 a1_x4 a1_x5 a1_x6 a1_x7 a1_x8)), (t, .inr (0, oX0 t_q f27_t_0 a1_x6 (f27_t_2 + 1) t_x6 t_x7 t_x8 t_x9 t_x10 t_x11)), (a2, .inr (10, oX10 a2_q a2_x0 a2_x1 a2_x6)), ((a2_q 3), .inl (K 0, 24, .inl (fun j => iI (a2_3_c j)))), ((a1_q 12), .inl (K 0, 24, .inl (fun j => iI (a1_12_c j)))), ((t_q 3), .inl (K 0, 24, .inl (fun j => iI (g58 j)))), ((t_q 4), .inl (K 0, 24, .inl (fun j => iI (g73 j)))), ((t_q 5), .inl (K 0, 24, .inl (fun j => iI (g92 j))))] H := hP
          have hD : va_D A [(a1, .inr (7, oX7 a1_q a1_x0 a1_x1 a1_x2 a1_x3 a1_x4 a1_x5 a1_x6 a1_x7 a1_x8)), (t, .inr (0, oX0 t_q f27_t_0 a1_x6 (f27_t_2 + 1) t_x6 t_x7 t_x8 t_x9 t_x10 t_x11)), (a2, .inr (10, oX10 a2_q a2_x0 a2_x1 a2_x6)), ((a2_q 3), .inl (K 0, 24, .inl (fun j => iI (a2_3_c j)))), ((a1_q 12), .inl (K 0, 24, .inl (fun j => iI (a1_12_c j)))), ((t_q 3), .inl (K 0, 24, .inl (fun j => iI (g58 j)))), ((t_q 4), .inl (K 0, 24, .inl (fun j => iI (g73 j)))), ((t_q 5), .inl (K 0, 24, .inl (fun j => iI (g92 j))))] := hD
          exact J103 (f27_t_2 + 1) g58 g73 g92 _ _ ls (by omega) hg58 hg73 hg92 (hP.sub [0, 1, 2, 3, 4, 5, 6, 7] rfl) (hD.sub [0, 1, 2, 3, 4, 5, 6, 7] (by decide) rfl) hS (lv_sub hl [0, 1, 2, 3] rfl)
  have hl : lv_has ls 4 [(0, .ref t), (1, .ref a1), (2, .ref a2)] := hl
  refine lv_aload_n hx hb dX0_take_0 rfl (lv_at hl 0 rfl) ?_
  refine lv_iconst (v := iI 1) hx hb dX0_take_1 rfl ?_
  refine lv_aload_n hx hb dX0_take_2 rfl (lv_at hl 1 rfl) ?_
  refine va_getN (D := D) (own := RX0) (ci := 7) (v := .int (iI a1_x4)) (C := RX7) (T := TX7) (N := 15) hx hb hts inb_X7 hown hK.1 hP 0 rfl rfl 4 (by decide) (hK.nf 20 rfl) (fun _ h9 => h9) rfl dX0_take_3 ?_
  have y3_1 : 0 ≤ a1_x4 ∧ a1_x4 ≤ 12 := hi_a1.2.2.2.2.1
  refine lv_ishl hx hb dX0_take_6 ?_
  obtain ⟨w6, ew6, hw6⟩ := iI_shl1 12 a1_x4 (by omega) (by omega) (by decide)
  refine fn_top (iI w6) ew6 ?_
  refine lv_iconst (v := iI 1) hx hb dX0_take_7 rfl ?_
  refine g_isub hx hb dX0_take_8 ?_
  refine va_put (D := D) (own := RX0) (ci := 0) (v := .int (iI (w6 - 1))) (ty := .int) (C := RX0) (T := TX0) (N := 12) hx hb hts inb_X0 tyX0 tyX0_ok nmX0 hown hK.1 hP hD hS 1 rfl rfl 0 (by decide) (hts _ wd_263) (fun _ h9 => h9) rfl (by decide +kernel) rfl rfl (Nat.le_of_ble_eq_true rfl) dX0_take_9 (fun H locs hP hD hS => ?_)
  have hP : va_P D vwCl [(a1, .inr (7, oX7 a1_q a1_x0 a1_x1 a1_x2 a1_x3 a1_x4 a1_x5 a1_x6 a1_x7 a1_x8)), (t, .inr (0, oX0 t_q (w6 - 1) t_x1 t_x2 t_x6 t_x7 t_x8 t_x9 t_x10 t_x11)), (a2, .inr (10, oX10 a2_q a2_x0 a2_x1 a2_x6)), ((a2_q 3), .inl (K 0, 24, .inl (fun j => iI (a2_3_c j)))), ((a1_q 12), .inl (K 0, 24, .inl (fun j => iI (a1_12_c j)))), ((t_q 3), .inl (K 0, 24, .inl (fun j => iI (t_3_c j)))), ((t_q 4), .inl (K 0, 24, .inl (fun j => iI (t_4_c j)))), ((t_q 5), .inl (K 0, 24, .inl (fun j => iI (t_5_c j))))] H := hP
  have hD : va_D A [(a1, .inr (7, oX7 a1_q a1_x0 a1_x1 a1_x2 a1_x3 a1_x4 a1_x5 a1_x6 a1_x7 a1_x8)), (t, .inr (0, oX0 t_q (w6 - 1) t_x1 t_x2 t_x6 t_x7 t_x8 t_x9 t_x10 t_x11)), (a2, .inr (10, oX10 a2_q a2_x0 a2_x1 a2_x6)), ((a2_q 3), .inl (K 0, 24, .inl (fun j => iI (a2_3_c j)))), ((a1_q 12), .inl (K 0, 24, .inl (fun j => iI (a1_12_c j)))), ((t_q 3), .inl (K 0, 24, .inl (fun j => iI (t_3_c j)))), ((t_q 4), .inl (K 0, 24, .inl (fun j => iI (t_4_c j)))), ((t_q 5), .inl (K 0, 24, .inl (fun j => iI (t_5_c j))))] := hD
  refine lv_aload_n hx hb dX0_take_12 rfl (lv_at hl 0 rfl) ?_
  refine lv_aload_n hx hb dX0_take_13 rfl (lv_at hl 1 rfl) ?_
  refine va_getN (D := D) (own := RX0) (ci := 7) (v := .int (iI a1_x6)) (C := RX7) (T := TX7) (N := 15) hx hb hts inb_X7 hown hK.1 hP 0 rfl rfl 6 (by decide) (hK.nf 30 rfl) (fun _ h9 => h9) rfl dX0_take_14 ?_
  have y14_2 : 0 ≤ a1_x6 ∧ a1_x6 ≤ 4095 := hi_a1.2.2.2.2.2.2.1
  refine va_put (D := D) (own := RX0) (ci := 0) (v := .int (iI a1_x6)) (ty := .int) (C := RX0) (T := TX0) (N := 12) hx hb hts inb_X0 tyX0 tyX0_ok nmX0 hown hK.1 hP hD hS 1 rfl rfl 1 (by decide) (hts _ wd_264) (fun _ h9 => h9) rfl (by decide +kernel) rfl rfl (Nat.le_of_ble_eq_true rfl) dX0_take_17 (fun H locs hP hD hS => ?_)
  have hP : va_P D vwCl [(a1, .inr (7, oX7 a1_q a1_x0 a1_x1 a1_x2 a1_x3 a1_x4 a1_x5 a1_x6 a1_x7 a1_x8)), (t, .inr (0, oX0 t_q (w6 - 1) a1_x6 t_x2 t_x6 t_x7 t_x8 t_x9 t_x10 t_x11)), (a2, .inr (10, oX10 a2_q a2_x0 a2_x1 a2_x6)), ((a2_q 3), .inl (K 0, 24, .inl (fun j => iI (a2_3_c j)))), ((a1_q 12), .inl (K 0, 24, .inl (fun j => iI (a1_12_c j)))), ((t_q 3), .inl (K 0, 24, .inl (fun j => iI (t_3_c j)))), ((t_q 4), .inl (K 0, 24, .inl (fun j => iI (t_4_c j)))), ((t_q 5), .inl (K 0, 24, .inl (fun j => iI (t_5_c j))))] H := hP
  have hD : va_D A [(a1, .inr (7, oX7 a1_q a1_x0 a1_x1 a1_x2 a1_x3 a1_x4 a1_x5 a1_x6 a1_x7 a1_x8)), (t, .inr (0, oX0 t_q (w6 - 1) a1_x6 t_x2 t_x6 t_x7 t_x8 t_x9 t_x10 t_x11)), (a2, .inr (10, oX10 a2_q a2_x0 a2_x1 a2_x6)), ((a2_q 3), .inl (K 0, 24, .inl (fun j => iI (a2_3_c j)))), ((a1_q 12), .inl (K 0, 24, .inl (fun j => iI (a1_12_c j)))), ((t_q 3), .inl (K 0, 24, .inl (fun j => iI (t_3_c j)))), ((t_q 4), .inl (K 0, 24, .inl (fun j => iI (t_4_c j)))), ((t_q 5), .inl (K 0, 24, .inl (fun j => iI (t_5_c j))))] := hD
  refine lv_aload_n hx hb dX0_take_20 rfl (lv_at hl 0 rfl) ?_
  refine lv_iconst (v := iI 0) hx hb dX0_take_21 rfl ?_
  refine va_put (D := D) (own := RX0) (ci := 0) (v := .int (iI 0)) (ty := .int) (C := RX0) (T := TX0) (N := 12) hx hb hts inb_X0 tyX0 tyX0_ok nmX0 hown hK.1 hP hD hS 1 rfl rfl 2 (by decide) (hts _ wd_265) (fun _ h9 => h9) rfl (by decide +kernel) rfl rfl (Nat.le_of_ble_eq_true rfl) dX0_take_22 (fun H locs hP hD hS => ?_)
  have hP : va_P D vwCl [(a1, .inr (7, oX7 a1_q a1_x0 a1_x1 a1_x2 a1_x3 a1_x4 a1_x5 a1_x6 a1_x7 a1_x8)), (t, .inr (0, oX0 t_q (w6 - 1) a1_x6 0 t_x6 t_x7 t_x8 t_x9 t_x10 t_x11)), (a2, .inr (10, oX10 a2_q a2_x0 a2_x1 a2_x6)), ((a2_q 3), .inl (K 0, 24, .inl (fun j => iI (a2_3_c j)))), ((a1_q 12), .inl (K 0, 24, .inl (fun j => iI (a1_12_c j)))), ((t_q 3), .inl (K 0, 24, .inl (fun j => iI (t_3_c j)))), ((t_q 4), .inl (K 0, 24, .inl (fun j => iI (t_4_c j)))), ((t_q 5), .inl (K 0, 24, .inl (fun j => iI (t_5_c j))))] H := hP
  have hD : va_D A [(a1, .inr (7, oX7 a1_q a1_x0 a1_x1 a1_x2 a1_x3 a1_x4 a1_x5 a1_x6 a1_x7 a1_x8)), (t, .inr (0, oX0 t_q (w6 - 1) a1_x6 0 t_x6 t_x7 t_x8 t_x9 t_x10 t_x11)), (a2, .inr (10, oX10 a2_q a2_x0 a2_x1 a2_x6)), ((a2_q 3), .inl (K 0, 24, .inl (fun j => iI (a2_3_c j)))), ((a1_q 12), .inl (K 0, 24, .inl (fun j => iI (a1_12_c j)))), ((t_q 3), .inl (K 0, 24, .inl (fun j => iI (t_3_c j)))), ((t_q 4), .inl (K 0, 24, .inl (fun j => iI (t_4_c j)))), ((t_q 5), .inl (K 0, 24, .inl (fun j => iI (t_5_c j))))] := hD
  refine lv_iconst (v := iI 0) hx hb dX0_take_25 rfl ?_
  refine lv_istore_n (lv' := [(3, .int (iI 0)), (0, .ref t), (1, .ref a1), (2, .ref a2)]) hx hb dX0_take_26 rfl hl (by decide) rfl (fun ls hl => ?_)
  exact J27 _ 0 (w6 - 1) 0 t_3_c t_4_c t_5_c _ _ ls (Nat.lt_succ_self _) (by omega) hc_t_3 hc_t_4 hc_t_5 (hP.sub [0, 1, 2, 3, 4, 5, 6, 7] rfl) (hD.sub [0, 1, 2, 3, 4, 5, 6, 7] (by decide) rfl) hS (lv_sub hl [1, 2, 3, 0] rfl)
theorem dX0_broken_58 : decode cX0_broken 58 = .ok (.iinc 4 1, 3) := by decide +kernel
theorem dX0_broken_61 : decode cX0_broken 61 = .ok (.goto (-56), 3) := by decide +kernel
theorem dX0_broken_5 : decode cX0_broken 5 = .ok (.iload 4, 2) := by decide +kernel
theorem dX0_broken_7 : decode cX0_broken 7 = .ok (.aload_n 0, 1) := by decide +kernel
theorem dX0_broken_8 : decode cX0_broken 8 = .ok (.getfield 34, 3) := by decide +kernel
theorem dX0_broken_11 : decode cX0_broken 11 = .ok (.if_icmp .ge 53, 3) := by decide +kernel
theorem dX0_broken_64 : decode cX0_broken 64 = .ok (.iload_n 3, 1) := by decide +kernel
theorem dX0_broken_65 : decode cX0_broken 65 = .ok (.ireturn, 1) := by decide +kernel
theorem dX0_broken_14 : decode cX0_broken 14 = .ok (.iload_n 3, 1) := by decide +kernel
theorem dX0_broken_15 : decode cX0_broken 15 = .ok (.iload_n 2, 1) := by decide +kernel
theorem dX0_broken_16 : decode cX0_broken 16 = .ok (.if_icmp .ge 48, 3) := by decide +kernel
theorem dX0_broken_19 : decode cX0_broken 19 = .ok (.iload_n 1, 1) := by decide +kernel
theorem dX0_broken_20 : decode cX0_broken 20 = .ok (.aload_n 0, 1) := by decide +kernel
theorem dX0_broken_21 : decode cX0_broken 21 = .ok (.getfield 9, 3) := by decide +kernel
theorem dX0_broken_24 : decode cX0_broken 24 = .ok (.iload 4, 2) := by decide +kernel
theorem dX0_broken_26 : decode cX0_broken 26 = .ok (.iaload, 1) := by decide +kernel
theorem dX0_broken_27 : decode cX0_broken 27 = .ok (.ishr, 1) := by decide +kernel
theorem dX0_broken_28 : decode cX0_broken 28 = .ok (.iconst 1, 1) := by decide +kernel
theorem dX0_broken_29 : decode cX0_broken 29 = .ok (.iand, 1) := by decide +kernel
theorem dX0_broken_30 : decode cX0_broken 30 = .ok (.iconst 1, 1) := by decide +kernel
theorem dX0_broken_31 : decode cX0_broken 31 = .ok (.if_icmp .ne 27, 3) := by decide +kernel
theorem dX0_broken_34 : decode cX0_broken 34 = .ok (.iload_n 1, 1) := by decide +kernel
theorem dX0_broken_35 : decode cX0_broken 35 = .ok (.aload_n 0, 1) := by decide +kernel
theorem dX0_broken_36 : decode cX0_broken 36 = .ok (.getfield 15, 3) := by decide +kernel
theorem dX0_broken_39 : decode cX0_broken 39 = .ok (.iload 4, 2) := by decide +kernel
theorem dX0_broken_41 : decode cX0_broken 41 = .ok (.iaload, 1) := by decide +kernel
theorem dX0_broken_42 : decode cX0_broken 42 = .ok (.ishr, 1) := by decide +kernel
theorem dX0_broken_43 : decode cX0_broken 43 = .ok (.iconst 1, 1) := by decide +kernel
theorem dX0_broken_44 : decode cX0_broken 44 = .ok (.iand, 1) := by decide +kernel
theorem dX0_broken_45 : decode cX0_broken 45 = .ok (.aload_n 0, 1) := by decide +kernel
theorem dX0_broken_46 : decode cX0_broken 46 = .ok (.getfield 18, 3) := by decide +kernel
theorem dX0_broken_49 : decode cX0_broken 49 = .ok (.iload 4, 2) := by decide +kernel
theorem dX0_broken_51 : decode cX0_broken 51 = .ok (.iaload, 1) := by decide +kernel
theorem dX0_broken_52 : decode cX0_broken 52 = .ok (.if_icmp .eq 6, 3) := by decide +kernel
theorem dX0_broken_55 : decode cX0_broken 55 = .ok (.iinc 3 1, 3) := by decide +kernel
theorem dX0_broken_0 : decode cX0_broken 0 = .ok (.iconst 0, 1) := by decide +kernel
theorem dX0_broken_1 : decode cX0_broken 1 = .ok (.istore_n 3, 1) := by decide +kernel
theorem dX0_broken_2 : decode cX0_broken 2 = .ok (.iconst 0, 1) := by decide +kernel
theorem dX0_broken_3 : decode cX0_broken 3 = .ok (.istore 4, 2) := by decide +kernel
set_option maxHeartbeats 4000000 in
set_option maxRecDepth 100000 in
theorem k_X0_broken (l : Launch) (D : va_G) (K : Nat → ClassId) (t : Nat) (t_q : Nat → Nat) (p1 p2 t_x0 t_x1 t_x2 t_x6 t_x7 t_x8 t_x9 t_x10 t_x11 : Int) (t_3_c : Nat → Int) (t_4_c : Nat → Int) (t_5_c : Nat → Int) (hp1 : (-2147483648) ≤ p1 ∧ p1 ≤ 2147483647) (hp2 : (-2147483648) ≤ p2 ∧ p2 ≤ 2147483647) (hi_t : bX0 t_x0 t_x1 t_x2 t_x6 t_x7 t_x8 t_x9 t_x10 t_x11) (hc_t_3 : ∀ j : Nat, 0 ≤ t_3_c j ∧ t_3_c j ≤ 11) (hc_t_4 : ∀ j : Nat, 0 ≤ t_4_c j ∧ t_4_c j ≤ 11) (hc_t_5 : ∀ j : Nat, 0 ≤ t_5_c j ∧ t_5_c j ≤ 1) : fn_CI (S := (Nat → Int) × (Nat → Nat → Int)) l D K yX0_broken (fn_ws yX0_broken cX0_broken 5 (some .int)) ({ frames := 4, cells := 0, slots := 0, locals := 100 } : Room) [.ref t, .int (iI p1), .int (iI p2)] [(t, .inr (0, oX0 t_q t_x0 t_x1 t_x2 t_x6 t_x7 t_x8 t_x9 t_x10 t_x11)), ((t_q 3), .inl (K 0, 24, .inl (fun j => iI (t_3_c j)))), ((t_q 4), .inl (K 0, 24, .inl (fun j => iI (t_4_c j)))), ((t_q 5), .inl (K 0, 24, .inl (fun j => iI (t_5_c j))))] (fun r u => ∃ k : Int, r = iI k ∧ (0 ≤ k ∧ k ≤ 2147483647) ∧ True) (fun u => [(t, .inr (0, oX0 t_q t_x0 t_x1 t_x2 t_x6 t_x7 t_x8 t_x9 t_x10 t_x11)), ((t_q 3), .inl (K 0, 24, .inl (fun j => iI (t_3_c j)))), ((t_q 4), .inl (K 0, 24, .inl (fun j => iI (t_4_c j)))), ((t_q 5), .inl (K 0, 24, .inl (fun j => iI (t_5_c j))))]) 0 0 := by
  refine g_inI (cc := cX0_broken) (maxL := 5) (ret := (some .int)) (by decide) rfl (Nat.le_of_ble_eq_true rfl) ?_
  intro p e s m below meth c A ls ag Q B hA hP hD hS hl hQ
  obtain ⟨hx, hb, hr, hml, hts, hown, hlocks, hin, hK⟩ := B
  have hown : s.vm.findClass RX0 = some m.cls := hown
  have hts := fun w h => hts w (List.mem_cons_of_mem _ h)
  have J5 : ∀ (n : Nat) (x5_3 : Int) (x5_4 : Int) (H : Heap) (locs : List Loc) (ls : Array Slot), (24 - x5_4).toNat < n → (0 ≤ x5_3 ∧ x5_3 ≤ 2147483647 ∧ 0 ≤ x5_4 ∧ x5_4 ≤ 24) → va_P D vwCl [(t, .inr (0, oX0 t_q t_x0 t_x1 t_x2 t_x6 t_x7 t_x8 t_x9 t_x10 t_x11)), ((t_q 3), .inl (K 0, 24, .inl (fun j => iI (t_3_c j)))), ((t_q 4), .inl (K 0, 24, .inl (fun j => iI (t_4_c j)))), ((t_q 5), .inl (K 0, 24, .inl (fun j => iI (t_5_c j))))] H → va_D A [(t, .inr (0, oX0 t_q t_x0 t_x1 t_x2 t_x6 t_x7 t_x8 t_x9 t_x10 t_x11)), ((t_q 3), .inl (K 0, 24, .inl (fun j => iI (t_3_c j)))), ((t_q 4), .inl (K 0, 24, .inl (fun j => iI (t_4_c j)))), ((t_q 5), .inl (K 0, 24, .inl (fun j => iI (t_5_c j))))] → va_S A s.heap H locs → lv_has ls 5 [(0, .ref t), (1, .int (iI p1)), (2, .int (iI p2)), (3, .int (iI x5_3)), (4, .int (iI x5_4))] → W p l e ({ frames := 4, cells := 0, slots := 0, locals := 100 } : Room) s m ag below meth c H locs 0 0 Q (F0 m 5 ls []) := by
    intro n
    induction n with
    | zero =>
      intro x5_3 x5_4 H locs ls hm5 hf5 hP hD hS hl
      exact absurd hm5 (Nat.not_lt_zero _)
    | succ n ih5 =>
      intro x5_3 x5_4 H locs ls hm5 hf5 hP hD hS hl
      have J58 : ∀ (x58_3 : Int) (H : Heap) (locs : List Loc) (ls : Array Slot), (1 ≤ p2 ∧ p2 ≤ 2147483647 ∧ 0 ≤ x58_3 ∧ x58_3 ≤ 2147483647 ∧ 0 ≤ x5_4 ∧ x5_4 ≤ 23 ∧ 1 ≤ t_x2 ∧ t_x2 ≤ 24) → va_P D vwCl [(t, .inr (0, oX0 t_q t_x0 t_x1 t_x2 t_x6 t_x7 t_x8 t_x9 t_x10 t_x11)), ((t_q 3), .inl (K 0, 24, .inl (fun j => iI (t_3_c j)))), ((t_q 4), .inl (K 0, 24, .inl (fun j => iI (t_4_c j)))), ((t_q 5), .inl (K 0, 24, .inl (fun j => iI (t_5_c j))))] H → va_D A [(t, .inr (0, oX0 t_q t_x0 t_x1 t_x2 t_x6 t_x7 t_x8 t_x9 t_x10 t_x11)), ((t_q 3), .inl (K 0, 24, .inl (fun j => iI (t_3_c j)))), ((t_q 4), .inl (K 0, 24, .inl (fun j => iI (t_4_c j)))), ((t_q 5), .inl (K 0, 24, .inl (fun j => iI (t_5_c j))))] → va_S A s.heap H locs → lv_has ls 5 [(0, .ref t), (1, .int (iI p1)), (2, .int (iI p2)), (3, .int (iI x58_3)), (4, .int (iI x5_4))] → W p l e ({ frames := 4, cells := 0, slots := 0, locals := 100 } : Room) s m ag below meth c H locs 0 0 Q (F0 m 58 ls []) := by
        intro x58_3 H locs ls hf58 hP hD hS hl
        refine lv_iinc (v := iI (x5_4 + 1)) (lv' := [(4, .int (iI (x5_4 + 1))), (0, .ref t), (1, .int (iI p1)), (2, .int (iI p2)), (3, .int (iI x58_3))]) hx hb dX0_broken_58 hl (k := 4) rfl (iI_add _ _) (by decide) rfl (fun ls hl => ?_)
        refine lv_goto (tgt := 5) hx hb dX0_broken_61 (by decide) ?_
        exact ih5 x58_3 (x5_4 + 1) _ _ ls (by omega) (by omega) (hP.sub [0, 1, 2, 3] rfl) (hD.sub [0, 1, 2, 3] (by decide) rfl) hS (lv_sub hl [1, 2, 3, 4, 0] rfl)
      refine lv_iload hx hb dX0_broken_5 (lv_at hl 4 rfl) ?_
      refine lv_aload_n hx hb dX0_broken_7 rfl (lv_at hl 0 rfl) ?_
      refine va_get (D := D) (own := RX0) (ci := 0) (v := .int (iI t_x2)) (C := RX0) (T := TX0) (N := 12) hx hb hts inb_X0 hown hK.1 hP 0 rfl rfl 2 (by decide) (hts _ wd_265) (fun _ h9 => h9) rfl dX0_broken_8 ?_
      have y8_1 : 0 ≤ t_x2 ∧ t_x2 ≤ 24 := hi_t.2.2.1
      refine g_icmp_ge (tgt := 64) hx hb (by omega) (by omega) dX0_broken_11 (by decide) (fun c11 => ?_) (fun c11 => ?_)
      · refine lv_iload_n hx hb dX0_broken_64 rfl (lv_at hl 3 rfl) ?_
        rw [hQ]; exact fn_iret hx hb hr hlocks rfl hP hD hS ((fun _ => 0), (fun _ _ => 0)) ⟨x5_3, rfl, by omega, trivial⟩ [0, 1, 2, 3] (by decide) rfl dX0_broken_65
      · refine lv_iload_n hx hb dX0_broken_14 rfl (lv_at hl 3 rfl) ?_
        refine lv_iload_n hx hb dX0_broken_15 rfl (lv_at hl 2 rfl) ?_
        refine g_icmp_ge (tgt := 64) hx hb (by omega) (by omega) dX0_broken_16 (by decide) (fun c16 => ?_) (fun c16 => ?_)
        · refine lv_iload_n hx hb dX0_broken_64 rfl (lv_at hl 3 rfl) ?_
          rw [hQ]; exact fn_iret hx hb hr hlocks rfl hP hD hS ((fun _ => 0), (fun _ _ => 0)) ⟨x5_3, rfl, by omega, trivial⟩ [0, 1, 2, 3] (by decide) rfl dX0_broken_65
        · refine lv_iload_n hx hb dX0_broken_19 rfl (lv_at hl 1 rfl) ?_
          refine lv_aload_n hx hb dX0_broken_20 rfl (lv_at hl 0 rfl) ?_
          refine va_get (D := D) (own := RX0) (ci := 0) (v := .ref (t_q 3)) (C := RX0) (T := TX0) (N := 12) hx hb hts inb_X0 hown hK.1 hP 0 rfl rfl 3 (by decide) (hts _ wd_266) (fun _ h9 => h9) rfl dX0_broken_21 ?_
          refine lv_iload hx hb dX0_broken_24 (lv_at hl 4 rfl) ?_
          refine g_iald hx hb hK.1 hP 1 0 rfl rfl (by omega) (by omega) (by decide) dX0_broken_26 ?_
          have y26 : 0 ≤ (t_3_c x5_4.toNat) ∧ (t_3_c x5_4.toNat) ≤ 11 := hc_t_3 x5_4.toNat
          refine lv_ishr hx hb dX0_broken_27 ?_
          refine g_any (fun w27 hw27 ew27 => ?_)
          refine lv_iconst (v := iI 1) hx hb dX0_broken_28 rfl ?_
          refine lv_iand hx hb dX0_broken_29 ?_
          obtain ⟨w29, ew29, hw29⟩ := iI_and w27 1 (by omega)
          refine fn_top (iI w29) ew29 ?_
          refine lv_iconst (v := iI 1) hx hb dX0_broken_30 rfl ?_
          refine g_icmp_ne (tgt := 58) hx hb (by omega) (by omega) dX0_broken_31 (by decide) (fun c31 => ?_) (fun c31 => ?_)
          · exact J58 x5_3 _ _ ls (by omega) (hP.sub [0, 1, 2, 3] rfl) (hD.sub [0, 1, 2, 3] (by decide) rfl) hS (lv_sub hl [0, 1, 2, 3, 4] rfl)
          · refine lv_iload_n hx hb dX0_broken_34 rfl (lv_at hl 1 rfl) ?_
            refine lv_aload_n hx hb dX0_broken_35 rfl (lv_at hl 0 rfl) ?_
            refine fn_at 36 rfl ?_
            refine va_get (D := D) (own := RX0) (ci := 0) (v := .ref (t_q 4)) (C := RX0) (T := TX0) (N := 12) hx hb hts inb_X0 hown hK.1 hP 0 rfl rfl 4 (by decide) (hts _ wd_267) (fun _ h9 => h9) rfl dX0_broken_36 ?_
            refine lv_iload hx hb dX0_broken_39 (lv_at hl 4 rfl) ?_
            refine g_iald hx hb hK.1 hP 2 0 rfl rfl (by omega) (by omega) (by decide) dX0_broken_41 ?_
            have y41 : 0 ≤ (t_4_c x5_4.toNat) ∧ (t_4_c x5_4.toNat) ≤ 11 := hc_t_4 x5_4.toNat
            refine lv_ishr hx hb dX0_broken_42 ?_
            refine g_any (fun w42 hw42 ew42 => ?_)
            refine lv_iconst (v := iI 1) hx hb dX0_broken_43 rfl ?_
            refine lv_iand hx hb dX0_broken_44 ?_
            obtain ⟨w44, ew44, hw44⟩ := iI_and w42 1 (by omega)
            refine fn_top (iI w44) ew44 ?_
            refine lv_aload_n hx hb dX0_broken_45 rfl (lv_at hl 0 rfl) ?_
            refine va_get (D := D) (own := RX0) (ci := 0) (v := .ref (t_q 5)) (C := RX0) (T := TX0) (N := 12) hx hb hts inb_X0 hown hK.1 hP 0 rfl rfl 5 (by decide) (hts _ wd_268) (fun _ h9 => h9) rfl dX0_broken_46 ?_
            refine lv_iload hx hb dX0_broken_49 (lv_at hl 4 rfl) ?_
            refine g_iald hx hb hK.1 hP 3 0 rfl rfl (by omega) (by omega) (by decide) dX0_broken_51 ?_
            have y51 : 0 ≤ (t_5_c x5_4.toNat) ∧ (t_5_c x5_4.toNat) ≤ 1 := hc_t_5 x5_4.toNat
            refine g_icmp_eq (tgt := 58) hx hb (by omega) (by omega) dX0_broken_52 (by decide) (fun c52 => ?_) (fun c52 => ?_)
            · exact J58 x5_3 _ _ ls (by omega) (hP.sub [0, 1, 2, 3] rfl) (hD.sub [0, 1, 2, 3] (by decide) rfl) hS (lv_sub hl [0, 1, 2, 3, 4] rfl)
            · refine lv_iinc (v := iI (x5_3 + 1)) (lv' := [(3, .int (iI (x5_3 + 1))), (0, .ref t), (1, .int (iI p1)), (2, .int (iI p2)), (4, .int (iI x5_4))]) hx hb dX0_broken_55 hl (k := 3) rfl (iI_add _ _) (by decide) rfl (fun ls hl => ?_)
              exact J58 (x5_3 + 1) _ _ ls (by omega) (hP.sub [0, 1, 2, 3] rfl) (hD.sub [0, 1, 2, 3] (by decide) rfl) hS (lv_sub hl [1, 2, 3, 0, 4] rfl)
  have hl : lv_has ls 5 [(0, .ref t), (1, .int (iI p1)), (2, .int (iI p2))] := hl
  refine lv_iconst (v := iI 0) hx hb dX0_broken_0 rfl ?_
  refine lv_istore_n (lv' := [(3, .int (iI 0)), (0, .ref t), (1, .int (iI p1)), (2, .int (iI p2))]) hx hb dX0_broken_1 rfl hl (by decide) rfl (fun ls hl => ?_)
  refine lv_iconst (v := iI 0) hx hb dX0_broken_2 rfl ?_
  refine lv_istore (lv' := [(4, .int (iI 0)), (3, .int (iI 0)), (0, .ref t), (1, .int (iI p1)), (2, .int (iI p2))]) hx hb dX0_broken_3 hl (by decide) rfl (fun ls hl => ?_)
  exact J5 _ 0 0 _ _ ls (Nat.lt_succ_self _) (by omega) (hP.sub [0, 1, 2, 3] rfl) (hD.sub [0, 1, 2, 3] (by decide) rfl) hS (lv_sub hl [2, 3, 4, 1, 0] rfl)
theorem wd_883 : Cond.code ⟨"FootNotes$Faith", "broken", "(II)I"⟩ prog_2_method_4_code 5 (Option.some Jvm.ClassFile.FieldType.int) ∈ fn_big := fn_tb (fn_l4 (List.mem_of_getElem? (i := 163) (by decide +kernel))) (by decide +kernel)
theorem wd_7 : Cond.initialized "FootNotes$Faith" ∈ fn_big := fn_tb (fn_l1 (List.mem_of_getElem? (i := 7) (by decide +kernel))) (by decide +kernel)
theorem wd_880 : Cond.methodLink "FootNotes$Faith" 49 ⟨"FootNotes$Faith", "broken", "(II)I"⟩ ∈ fn_big := fn_tb (fn_l4 (List.mem_of_getElem? (i := 160) (by decide +kernel))) (by decide +kernel)
theorem wd_882 : Cond.instanceMethod ⟨"FootNotes$Faith", "broken", "(II)I"⟩ ∈ fn_big := fn_tb (fn_l4 (List.mem_of_getElem? (i := 162) (by decide +kernel))) (by decide +kernel)
theorem wp_48 : Cond.selects "FootNotes$Faith" ⟨"FootNotes$Faith", "broken", "(II)I"⟩ ⟨"FootNotes$Faith", "broken", "(II)I"⟩ ∈ fn_big := fn_sel (q := (⟨"FootNotes$Faith", "broken", "(II)I"⟩, 12)) 48 (by decide +kernel) (by decide +kernel)
theorem dX0_canHold_0 : decode cX0_canHold 0 = .ok (.aload_n 0, 1) := by decide +kernel
theorem dX0_canHold_1 : decode cX0_canHold 1 = .ok (.getfield 33, 3) := by decide +kernel
theorem dX0_canHold_4 : decode cX0_canHold 4 = .ok (.iload_n 1, 1) := by decide +kernel
theorem dX0_canHold_5 : decode cX0_canHold 5 = .ok (.iconst (-1), 1) := by decide +kernel
theorem dX0_canHold_6 : decode cX0_canHold 6 = .ok (.ixor, 1) := by decide +kernel
theorem dX0_canHold_7 : decode cX0_canHold 7 = .ok (.iand, 1) := by decide +kernel
theorem dX0_canHold_8 : decode cX0_canHold 8 = .ok (.ifCond .ne 16, 3) := by decide +kernel
theorem dX0_canHold_24 : decode cX0_canHold 24 = .ok (.iconst 0, 1) := by decide +kernel
theorem dX0_canHold_25 : decode cX0_canHold 25 = .ok (.ireturn, 1) := by decide +kernel
theorem dX0_canHold_11 : decode cX0_canHold 11 = .ok (.aload_n 0, 1) := by decide +kernel
theorem dX0_canHold_12 : decode cX0_canHold 12 = .ok (.iload_n 1, 1) := by decide +kernel
theorem dX0_canHold_13 : decode cX0_canHold 13 = .ok (.iconst 1, 1) := by decide +kernel
theorem dX0_canHold_14 : decode cX0_canHold 14 = .ok (.invokevirtual 49, 3) := by decide +kernel
theorem dX0_canHold_17 : decode cX0_canHold 17 = .ok (.ifCond .ne 7, 3) := by decide +kernel
theorem dX0_canHold_20 : decode cX0_canHold 20 = .ok (.iconst 1, 1) := by decide +kernel
theorem dX0_canHold_21 : decode cX0_canHold 21 = .ok (.goto 4, 3) := by decide +kernel
set_option maxHeartbeats 4000000 in
set_option maxRecDepth 100000 in
theorem k_X0_canHold (l : Launch) (D : va_G) (K : Nat → ClassId) (t : Nat) (t_q : Nat → Nat) (p1 t_x0 t_x1 t_x2 t_x6 t_x7 t_x8 t_x9 t_x10 t_x11 : Int) (t_3_c : Nat → Int) (t_4_c : Nat → Int) (t_5_c : Nat → Int) (hp1 : (-2147483648) ≤ p1 ∧ p1 ≤ 2147483647) (hi_t : bX0 t_x0 t_x1 t_x2 t_x6 t_x7 t_x8 t_x9 t_x10 t_x11) (hc_t_3 : ∀ j : Nat, 0 ≤ t_3_c j ∧ t_3_c j ≤ 11) (hc_t_4 : ∀ j : Nat, 0 ≤ t_4_c j ∧ t_4_c j ≤ 11) (hc_t_5 : ∀ j : Nat, 0 ≤ t_5_c j ∧ t_5_c j ≤ 1) : fn_CI (S := (Nat → Int) × (Nat → Nat → Int)) l D K yX0_canHold (fn_ws yX0_canHold cX0_canHold 2 (some .boolean)) ({ frames := 8, cells := 0, slots := 0, locals := 200 } : Room) [.ref t, .int (iI p1)] [(t, .inr (0, oX0 t_q t_x0 t_x1 t_x2 t_x6 t_x7 t_x8 t_x9 t_x10 t_x11)), ((t_q 3), .inl (K 0, 24, .inl (fun j => iI (t_3_c j)))), ((t_q 4), .inl (K 0, 24, .inl (fun j => iI (t_4_c j)))), ((t_q 5), .inl (K 0, 24, .inl (fun j => iI (t_5_c j))))] (fun r u => ∃ k : Int, r = iI k ∧ (0 ≤ k ∧ k ≤ 1) ∧ True) (fun u => [(t, .inr (0, oX0 t_q t_x0 t_x1 t_x2 t_x6 t_x7 t_x8 t_x9 t_x10 t_x11)), ((t_q 3), .inl (K 0, 24, .inl (fun j => iI (t_3_c j)))), ((t_q 4), .inl (K 0, 24, .inl (fun j => iI (t_4_c j)))), ((t_q 5), .inl (K 0, 24, .inl (fun j => iI (t_5_c j))))]) 0 0 := by
  refine g_inI (cc := cX0_canHold) (maxL := 2) (ret := (some .boolean)) (by decide) rfl (Nat.le_of_ble_eq_true rfl) ?_
  intro p e s m below meth c A ls ag Q B hA hP hD hS hl hQ
  obtain ⟨hx, hb, hr, hml, hts, hown, hlocks, hin, hK⟩ := B
  have hown : s.vm.findClass RX0 = some m.cls := hown
  have hts := fun w h => hts w (List.mem_cons_of_mem _ h)
  have hl : lv_has ls 2 [(0, .ref t), (1, .int (iI p1))] := hl
  refine lv_aload_n hx hb dX0_canHold_0 rfl (lv_at hl 0 rfl) ?_
  refine va_get (D := D) (own := RX0) (ci := 0) (v := .int (iI t_x1)) (C := RX0) (T := TX0) (N := 12) hx hb hts inb_X0 hown hK.1 hP 0 rfl rfl 1 (by decide) (hts _ wd_264) (fun _ h9 => h9) rfl dX0_canHold_1 ?_
  have y1_1 : 0 ≤ t_x1 ∧ t_x1 ≤ 4095 := hi_t.2.1
  refine lv_iload_n hx hb dX0_canHold_4 rfl (lv_at hl 1 rfl) ?_
  refine lv_iconst (v := iI (-1)) hx hb dX0_canHold_5 rfl ?_
  refine lv_ixor hx hb dX0_canHold_6 ?_
  obtain ⟨w6, ew6, hw6⟩ := iI_not p1 (by omega)
  refine fn_top (iI w6) ew6 ?_
  refine lv_iand hx hb dX0_canHold_7 ?_
  obtain ⟨w7, ew7, hw7⟩ := iI_and2 t_x1 w6 (by omega)
  refine fn_top (iI w7) ew7 ?_
  refine g_if_ne (tgt := 24) hx hb (by omega) dX0_canHold_8 (by decide) (fun c8 => ?_) (fun c8 => ?_)
  · refine lv_iconst (v := iI 0) hx hb dX0_canHold_24 rfl ?_
    rw [hQ]; exact fn_iret hx hb hr hlocks (iI_nz (by omega)) hP hD hS ((fun _ => 0), (fun _ _ => 0)) ⟨0, rfl, by omega, trivial⟩ [0, 1, 2, 3] (by decide) rfl dX0_canHold_25
  · refine lv_aload_n hx hb dX0_canHold_11 rfl (lv_at hl 0 rfl) ?_
    refine lv_iload_n hx hb dX0_canHold_12 rfl (lv_at hl 1 rfl) ?_
    refine lv_iconst (v := iI 1) hx hb dX0_canHold_13 rfl ?_
    refine fn_goi (wc := [(t, .inr (0, oX0 t_q t_x0 t_x1 t_x2 t_x6 t_x7 t_x8 t_x9 t_x10 t_x11)), ((t_q 3), .inl (K 0, 24, .inl (fun j => iI (t_3_c j)))), ((t_q 4), .inl (K 0, 24, .inl (fun j => iI (t_4_c j)))), ((t_q 5), .inl (K 0, 24, .inl (fun j => iI (t_5_c j))))]) (wr := []) hK hP hD hS hA [0, 1, 2, 3] [] rfl rfl (by decide) (fun hp => va_runV (C := RX0) (As := [.int (iI p1), .int (iI 1)]) (rest := []) ⟨hx, hb, hml, hown, hts⟩ (k_X0_broken (l := l) (D := D) (K := K) (t := t) (p1 := p1) (p2 := 1) (t_q := t_q) (t_x0 := t_x0) (t_x1 := t_x1) (t_x2 := t_x2) (t_x6 := t_x6) (t_x7 := t_x7) (t_x8 := t_x8) (t_x9 := t_x9) (t_x10 := t_x10) (t_x11 := t_x11) (t_3_c := t_3_c) (t_4_c := t_4_c) (t_5_c := t_5_c) (hp1 := (by omega)) (hp2 := (by omega)) (hi_t := hi_t) (hc_t_3 := hc_t_3) (hc_t_4 := hc_t_4) (hc_t_5 := hc_t_5) _) (cwV 2 hts (fn_ginV (fn_gin wd_883) wd_880 wd_882 wp_48 wd_7) rfl rfl rfl (by decide +kernel) ⟨Nat.le_of_ble_eq_true rfl, Nat.le_of_ble_eq_true rfl⟩) ⟨fn_blind, va_recv hK.1 hP (ci := 0) (q0 := 0) rfl rfl, hp⟩ rfl rfl hl.1 rfl (lv_room (Nat.le_of_ble_eq_true rfl)) dX0_canHold_14 ⟨Nat.le_of_ble_eq_true rfl, Nat.le_of_ble_eq_true rfl⟩) (fun r14 u14 H locs hwu14 hP hD hS => ?_)
    obtain ⟨u14a, u14b⟩ := u14
    obtain ⟨kr14, rfl, hkr14, -⟩ := hwu14
    have hP : va_P D vwCl [(t, .inr (0, oX0 t_q t_x0 t_x1 t_x2 t_x6 t_x7 t_x8 t_x9 t_x10 t_x11)), ((t_q 3), .inl (K 0, 24, .inl (fun j => iI (t_3_c j)))), ((t_q 4), .inl (K 0, 24, .inl (fun j => iI (t_4_c j)))), ((t_q 5), .inl (K 0, 24, .inl (fun j => iI (t_5_c j))))] H := hP
    have hD : va_D A [(t, .inr (0, oX0 t_q t_x0 t_x1 t_x2 t_x6 t_x7 t_x8 t_x9 t_x10 t_x11)), ((t_q 3), .inl (K 0, 24, .inl (fun j => iI (t_3_c j)))), ((t_q 4), .inl (K 0, 24, .inl (fun j => iI (t_4_c j)))), ((t_q 5), .inl (K 0, 24, .inl (fun j => iI (t_5_c j))))] := hD
    refine g_if_ne (tgt := 24) hx hb (by omega) dX0_canHold_17 (by decide) (fun c17 => ?_) (fun c17 => ?_)
    · refine lv_iconst (v := iI 0) hx hb dX0_canHold_24 rfl ?_
      rw [hQ]; exact fn_iret hx hb hr hlocks (iI_nz (by omega)) hP hD hS ((fun _ => 0), (fun _ _ => 0)) ⟨0, rfl, by omega, trivial⟩ [0, 1, 2, 3] (by decide) rfl dX0_canHold_25
    · refine lv_iconst (v := iI 1) hx hb dX0_canHold_20 rfl ?_
      refine lv_goto (tgt := 25) hx hb dX0_canHold_21 (by decide) ?_
      rw [hQ]; exact fn_iret hx hb hr hlocks (iI_nz (by omega)) hP hD hS ((fun _ => 0), (fun _ _ => 0)) ⟨1, rfl, by omega, trivial⟩ [0, 1, 2, 3] (by decide) rfl dX0_canHold_25
theorem wd_842 : Cond.constant "java/lang/Integer" 265 (1431655765 : Int32) ∈ fn_big := fn_tb (fn_l4 (List.mem_of_getElem? (i := 122) (by decide +kernel))) (by decide +kernel)
theorem wd_843 : Cond.constant "java/lang/Integer" 266 (858993459 : Int32) ∈ fn_big := fn_tb (fn_l4 (List.mem_of_getElem? (i := 123) (by decide +kernel))) (by decide +kernel)
theorem wd_844 : Cond.constant "java/lang/Integer" 267 (252645135 : Int32) ∈ fn_big := fn_tb (fn_l4 (List.mem_of_getElem? (i := 124) (by decide +kernel))) (by decide +kernel)
theorem dJ6_bitCount_0f7a4_0 : decode cJ6_bitCount_0f7a4 0 = .ok (.iload_n 0, 1) := by decide +kernel
theorem dJ6_bitCount_0f7a4_1 : decode cJ6_bitCount_0f7a4 1 = .ok (.iload_n 0, 1) := by decide +kernel
theorem dJ6_bitCount_0f7a4_2 : decode cJ6_bitCount_0f7a4 2 = .ok (.iconst 1, 1) := by decide +kernel
theorem dJ6_bitCount_0f7a4_3 : decode cJ6_bitCount_0f7a4 3 = .ok (.iushr, 1) := by decide +kernel
theorem dJ6_bitCount_0f7a4_4 : decode cJ6_bitCount_0f7a4 4 = .ok (.ldc_w 265, 3) := by decide +kernel
theorem dJ6_bitCount_0f7a4_7 : decode cJ6_bitCount_0f7a4 7 = .ok (.iand, 1) := by decide +kernel
theorem dJ6_bitCount_0f7a4_8 : decode cJ6_bitCount_0f7a4 8 = .ok (.isub, 1) := by decide +kernel
theorem dJ6_bitCount_0f7a4_9 : decode cJ6_bitCount_0f7a4 9 = .ok (.istore_n 0, 1) := by decide +kernel
theorem dJ6_bitCount_0f7a4_10 : decode cJ6_bitCount_0f7a4 10 = .ok (.iload_n 0, 1) := by decide +kernel
theorem dJ6_bitCount_0f7a4_11 : decode cJ6_bitCount_0f7a4 11 = .ok (.ldc_w 266, 3) := by decide +kernel
theorem dJ6_bitCount_0f7a4_14 : decode cJ6_bitCount_0f7a4 14 = .ok (.iand, 1) := by decide +kernel
theorem dJ6_bitCount_0f7a4_15 : decode cJ6_bitCount_0f7a4 15 = .ok (.iload_n 0, 1) := by decide +kernel
theorem dJ6_bitCount_0f7a4_16 : decode cJ6_bitCount_0f7a4 16 = .ok (.iconst 2, 1) := by decide +kernel
theorem dJ6_bitCount_0f7a4_17 : decode cJ6_bitCount_0f7a4 17 = .ok (.iushr, 1) := by decide +kernel
theorem dJ6_bitCount_0f7a4_18 : decode cJ6_bitCount_0f7a4 18 = .ok (.ldc_w 266, 3) := by decide +kernel
theorem dJ6_bitCount_0f7a4_21 : decode cJ6_bitCount_0f7a4 21 = .ok (.iand, 1) := by decide +kernel
theorem dJ6_bitCount_0f7a4_22 : decode cJ6_bitCount_0f7a4 22 = .ok (.iadd, 1) := by decide +kernel
theorem dJ6_bitCount_0f7a4_23 : decode cJ6_bitCount_0f7a4 23 = .ok (.istore_n 0, 1) := by decide +kernel
theorem dJ6_bitCount_0f7a4_24 : decode cJ6_bitCount_0f7a4 24 = .ok (.iload_n 0, 1) := by decide +kernel
theorem dJ6_bitCount_0f7a4_25 : decode cJ6_bitCount_0f7a4 25 = .ok (.iload_n 0, 1) := by decide +kernel
theorem dJ6_bitCount_0f7a4_26 : decode cJ6_bitCount_0f7a4 26 = .ok (.iconst 4, 1) := by decide +kernel
theorem dJ6_bitCount_0f7a4_27 : decode cJ6_bitCount_0f7a4 27 = .ok (.iushr, 1) := by decide +kernel
theorem dJ6_bitCount_0f7a4_28 : decode cJ6_bitCount_0f7a4 28 = .ok (.iadd, 1) := by decide +kernel
theorem dJ6_bitCount_0f7a4_29 : decode cJ6_bitCount_0f7a4 29 = .ok (.ldc_w 267, 3) := by decide +kernel
theorem dJ6_bitCount_0f7a4_32 : decode cJ6_bitCount_0f7a4 32 = .ok (.iand, 1) := by decide +kernel
theorem dJ6_bitCount_0f7a4_33 : decode cJ6_bitCount_0f7a4 33 = .ok (.istore_n 0, 1) := by decide +kernel
theorem dJ6_bitCount_0f7a4_34 : decode cJ6_bitCount_0f7a4 34 = .ok (.iload_n 0, 1) := by decide +kernel
theorem dJ6_bitCount_0f7a4_35 : decode cJ6_bitCount_0f7a4 35 = .ok (.iload_n 0, 1) := by decide +kernel
theorem dJ6_bitCount_0f7a4_36 : decode cJ6_bitCount_0f7a4 36 = .ok (.bipush 8, 2) := by decide +kernel
theorem dJ6_bitCount_0f7a4_38 : decode cJ6_bitCount_0f7a4 38 = .ok (.iushr, 1) := by decide +kernel
theorem dJ6_bitCount_0f7a4_39 : decode cJ6_bitCount_0f7a4 39 = .ok (.iadd, 1) := by decide +kernel
theorem dJ6_bitCount_0f7a4_40 : decode cJ6_bitCount_0f7a4 40 = .ok (.istore_n 0, 1) := by decide +kernel
theorem dJ6_bitCount_0f7a4_41 : decode cJ6_bitCount_0f7a4 41 = .ok (.iload_n 0, 1) := by decide +kernel
theorem dJ6_bitCount_0f7a4_42 : decode cJ6_bitCount_0f7a4 42 = .ok (.iload_n 0, 1) := by decide +kernel
theorem dJ6_bitCount_0f7a4_43 : decode cJ6_bitCount_0f7a4 43 = .ok (.bipush 16, 2) := by decide +kernel
theorem dJ6_bitCount_0f7a4_45 : decode cJ6_bitCount_0f7a4 45 = .ok (.iushr, 1) := by decide +kernel
theorem dJ6_bitCount_0f7a4_46 : decode cJ6_bitCount_0f7a4 46 = .ok (.iadd, 1) := by decide +kernel
theorem dJ6_bitCount_0f7a4_47 : decode cJ6_bitCount_0f7a4 47 = .ok (.istore_n 0, 1) := by decide +kernel
theorem dJ6_bitCount_0f7a4_48 : decode cJ6_bitCount_0f7a4 48 = .ok (.iload_n 0, 1) := by decide +kernel
theorem dJ6_bitCount_0f7a4_49 : decode cJ6_bitCount_0f7a4 49 = .ok (.bipush 63, 2) := by decide +kernel
theorem dJ6_bitCount_0f7a4_51 : decode cJ6_bitCount_0f7a4 51 = .ok (.iand, 1) := by decide +kernel
theorem dJ6_bitCount_0f7a4_52 : decode cJ6_bitCount_0f7a4 52 = .ok (.ireturn, 1) := by decide +kernel
set_option maxHeartbeats 4000000 in
set_option maxRecDepth 100000 in
theorem k_J6_bitCount_0f7a4 (l : Launch) (D : va_G) (K : Nat → ClassId) (p1 : Int) (hp1 : (-2147483648) ≤ p1 ∧ p1 ≤ 2147483647) : fn_CI (S := (Nat → Int) × (Nat → Nat → Int)) l D K yJ6_bitCount_0f7a4 (fn_ws yJ6_bitCount_0f7a4 cJ6_bitCount_0f7a4 1 (some .int)) ({ frames := 4, cells := 0, slots := 0, locals := 100 } : Room) [.int (iI p1)] [] (fun r u => ∃ k : Int, r = iI k ∧ (0 ≤ k ∧ k ≤ 63) ∧ True) (fun u => []) 0 0 := by
  refine g_inI (cc := cJ6_bitCount_0f7a4) (maxL := 1) (ret := (some .int)) (by decide) rfl (Nat.le_of_ble_eq_true rfl) ?_
  intro p e s m below meth c A ls ag Q B hA hP hD hS hl hQ
  obtain ⟨hx, hb, hr, hml, hts, hown, hlocks, hin, hK⟩ := B
  have hown : s.vm.findClass RJ6 = some m.cls := hown
  have hts := fun w h => hts w (List.mem_cons_of_mem _ h)
  have hl : lv_has ls 1 [(0, .int (iI p1))] := hl
  refine lv_iload_n hx hb dJ6_bitCount_0f7a4_0 rfl (lv_at hl 0 rfl) ?_
  refine lv_iload_n hx hb dJ6_bitCount_0f7a4_1 rfl (lv_at hl 0 rfl) ?_
  refine lv_iconst (v := iI 1) hx hb dJ6_bitCount_0f7a4_2 rfl ?_
  refine lv_iushr hx hb dJ6_bitCount_0f7a4_3 rfl ?_
  refine g_any (fun w3 hw3 ew3 => ?_)
  refine lv_ldcw (own := RJ6) (v := 1431655765) hx hb hown (hts _ wd_842) dJ6_bitCount_0f7a4_4 ?_
  refine fn_top (iI 1431655765) (by decide) ?_
  refine lv_iand hx hb dJ6_bitCount_0f7a4_7 ?_
  obtain ⟨w7, ew7, hw7⟩ := iI_and w3 1431655765 (by omega)
  refine fn_top (iI w7) ew7 ?_
  refine g_isub hx hb dJ6_bitCount_0f7a4_8 ?_
  refine g_any (fun w8 hw8 ew8 => ?_)
  refine lv_istore_n (lv' := [(0, .int (iI w8))]) hx hb dJ6_bitCount_0f7a4_9 rfl hl (by decide) rfl (fun ls hl => ?_)
  refine lv_iload_n hx hb dJ6_bitCount_0f7a4_10 rfl (lv_at hl 0 rfl) ?_
  refine lv_ldcw (own := RJ6) (v := 858993459) hx hb hown (hts _ wd_843) dJ6_bitCount_0f7a4_11 ?_
  refine fn_top (iI 858993459) (by decide) ?_
  refine lv_iand hx hb dJ6_bitCount_0f7a4_14 ?_
  obtain ⟨w14, ew14, hw14⟩ := iI_and w8 858993459 (by omega)
  refine fn_top (iI w14) ew14 ?_
  refine lv_iload_n hx hb dJ6_bitCount_0f7a4_15 rfl (lv_at hl 0 rfl) ?_
  refine lv_iconst (v := iI 2) hx hb dJ6_bitCount_0f7a4_16 rfl ?_
  refine lv_iushr hx hb dJ6_bitCount_0f7a4_17 rfl ?_
  refine g_any (fun w17 hw17 ew17 => ?_)
  refine lv_ldcw (own := RJ6) (v := 858993459) hx hb hown (hts _ wd_843) dJ6_bitCount_0f7a4_18 ?_
  refine fn_top (iI 858993459) (by decide) ?_
  refine lv_iand hx hb dJ6_bitCount_0f7a4_21 ?_
  obtain ⟨w21, ew21, hw21⟩ := iI_and w17 858993459 (by omega)
  refine fn_top (iI w21) ew21 ?_
  refine g_iadd hx hb dJ6_bitCount_0f7a4_22 ?_
  refine lv_istore_n (lv' := [(0, .int (iI (w14 + w21)))]) hx hb dJ6_bitCount_0f7a4_23 rfl hl (by decide) rfl (fun ls hl => ?_)
  refine lv_iload_n hx hb dJ6_bitCount_0f7a4_24 rfl (lv_at hl 0 rfl) ?_
  refine fn_at 25 rfl ?_
  refine lv_iload_n hx hb dJ6_bitCount_0f7a4_25 rfl (lv_at hl 0 rfl) ?_
  refine lv_iconst (v := iI 4) hx hb dJ6_bitCount_0f7a4_26 rfl ?_
  refine lv_iushr hx hb dJ6_bitCount_0f7a4_27 rfl ?_
  refine g_any (fun w27 hw27 ew27 => ?_)
  refine g_iadd hx hb dJ6_bitCount_0f7a4_28 ?_
  refine g_any (fun w28 hw28 ew28 => ?_)
  refine lv_ldcw (own := RJ6) (v := 252645135) hx hb hown (hts _ wd_844) dJ6_bitCount_0f7a4_29 ?_
  refine fn_top (iI 252645135) (by decide) ?_
  refine lv_iand hx hb dJ6_bitCount_0f7a4_32 ?_
  obtain ⟨w32, ew32, hw32⟩ := iI_and w28 252645135 (by omega)
  refine fn_top (iI w32) ew32 ?_
  refine lv_istore_n (lv' := [(0, .int (iI w32))]) hx hb dJ6_bitCount_0f7a4_33 rfl hl (by decide) rfl (fun ls hl => ?_)
  refine lv_iload_n hx hb dJ6_bitCount_0f7a4_34 rfl (lv_at hl 0 rfl) ?_
  refine lv_iload_n hx hb dJ6_bitCount_0f7a4_35 rfl (lv_at hl 0 rfl) ?_
  refine lv_bipush (v := iI 8) hx hb dJ6_bitCount_0f7a4_36 (by decide) ?_
  refine lv_iushr hx hb dJ6_bitCount_0f7a4_38 rfl ?_
  refine g_any (fun w38 hw38 ew38 => ?_)
  refine g_iadd hx hb dJ6_bitCount_0f7a4_39 ?_
  refine g_any (fun w39 hw39 ew39 => ?_)
  refine lv_istore_n (lv' := [(0, .int (iI w39))]) hx hb dJ6_bitCount_0f7a4_40 rfl hl (by decide) rfl (fun ls hl => ?_)
  refine lv_iload_n hx hb dJ6_bitCount_0f7a4_41 rfl (lv_at hl 0 rfl) ?_
  refine lv_iload_n hx hb dJ6_bitCount_0f7a4_42 rfl (lv_at hl 0 rfl) ?_
  refine lv_bipush (v := iI 16) hx hb dJ6_bitCount_0f7a4_43 (by decide) ?_
  refine lv_iushr hx hb dJ6_bitCount_0f7a4_45 rfl ?_
  refine g_any (fun w45 hw45 ew45 => ?_)
  refine g_iadd hx hb dJ6_bitCount_0f7a4_46 ?_
  refine g_any (fun w46 hw46 ew46 => ?_)
  refine lv_istore_n (lv' := [(0, .int (iI w46))]) hx hb dJ6_bitCount_0f7a4_47 rfl hl (by decide) rfl (fun ls hl => ?_)
  refine lv_iload_n hx hb dJ6_bitCount_0f7a4_48 rfl (lv_at hl 0 rfl) ?_
  refine fn_at 49 rfl ?_
  refine lv_bipush (v := iI 63) hx hb dJ6_bitCount_0f7a4_49 (by decide) ?_
  refine lv_iand hx hb dJ6_bitCount_0f7a4_51 ?_
  obtain ⟨w51, ew51, hw51⟩ := iI_and w46 63 (by omega)
  refine fn_top (iI w51) ew51 ?_
  rw [hQ]; exact fn_iret hx hb hr hlocks rfl hP hD hS ((fun _ => 0), (fun _ _ => 0)) ⟨w51, rfl, by omega, trivial⟩ [] (by decide) rfl dJ6_bitCount_0f7a4_52
theorem wd_269 : Cond.fieldLink "FootNotes$Faith" 53 "FootNotes$Faith" "found" "I" ∈ fn_big := fn_tb (fn_l2 (List.mem_of_getElem? (i := 29) (by decide +kernel))) (by decide +kernel)
theorem wd_271 : Cond.fieldLink "FootNotes$Faith" 56 "FootNotes$Faith" "largest" "I" ∈ fn_big := fn_tb (fn_l2 (List.mem_of_getElem? (i := 31) (by decide +kernel))) (by decide +kernel)
theorem wd_273 : Cond.fieldLink "FootNotes$Faith" 59 "FootNotes$Faith" "inAll" "I" ∈ fn_big := fn_tb (fn_l2 (List.mem_of_getElem? (i := 33) (by decide +kernel))) (by decide +kernel)
theorem wd_275 : Cond.fieldLink "FootNotes$Faith" 62 "FootNotes$Faith" "inNone" "I" ∈ fn_big := fn_tb (fn_l2 (List.mem_of_getElem? (i := 35) (by decide +kernel))) (by decide +kernel)
theorem wd_841 : Cond.code ⟨"java/lang/Integer", "bitCount", "(I)I"⟩ prog_15_method_49_code 1 (Option.some Jvm.ClassFile.FieldType.int) ∈ fn_big := fn_tb (fn_l4 (List.mem_of_getElem? (i := 121) (by decide +kernel))) (by decide +kernel)
theorem wd_21 : Cond.initialized "java/lang/Integer" ∈ fn_big := fn_tb (fn_l1 (List.mem_of_getElem? (i := 21) (by decide +kernel))) (by decide +kernel)
theorem wd_892 : Cond.methodLink "FootNotes$Faith" 65 ⟨"java/lang/Integer", "bitCount", "(I)I"⟩ ∈ fn_big := fn_tb (fn_l4 (List.mem_of_getElem? (i := 172) (by decide +kernel))) (by decide +kernel)
theorem wd_840 : Cond.static ⟨"java/lang/Integer", "bitCount", "(I)I"⟩ ∈ fn_big := fn_tb (fn_l4 (List.mem_of_getElem? (i := 120) (by decide +kernel))) (by decide +kernel)
theorem dX0_searchWays_106 : decode cX0_searchWays 106 = .ok (.iload_n 1, 1) := by decide +kernel
theorem dX0_searchWays_107 : decode cX0_searchWays 107 = .ok (.iconst 1, 1) := by decide +kernel
theorem dX0_searchWays_108 : decode cX0_searchWays 108 = .ok (.iadd, 1) := by decide +kernel
theorem dX0_searchWays_109 : decode cX0_searchWays 109 = .ok (.aload_n 0, 1) := by decide +kernel
theorem dX0_searchWays_110 : decode cX0_searchWays 110 = .ok (.getfield 33, 3) := by decide +kernel
theorem dX0_searchWays_113 : decode cX0_searchWays 113 = .ok (.ior, 1) := by decide +kernel
theorem dX0_searchWays_114 : decode cX0_searchWays 114 = .ok (.istore_n 1, 1) := by decide +kernel
theorem dX0_searchWays_115 : decode cX0_searchWays 115 = .ok (.goto (-84), 3) := by decide +kernel
theorem dX0_searchWays_101 : decode cX0_searchWays 101 = .ok (.aload_n 0, 1) := by decide +kernel
theorem dX0_searchWays_102 : decode cX0_searchWays 102 = .ok (.iload_n 1, 1) := by decide +kernel
theorem dX0_searchWays_103 : decode cX0_searchWays 103 = .ok (.putfield 56, 3) := by decide +kernel
theorem dX0_searchWays_31 : decode cX0_searchWays 31 = .ok (.iload_n 1, 1) := by decide +kernel
theorem dX0_searchWays_32 : decode cX0_searchWays 32 = .ok (.aload_n 0, 1) := by decide +kernel
theorem dX0_searchWays_33 : decode cX0_searchWays 33 = .ok (.getfield 27, 3) := by decide +kernel
theorem dX0_searchWays_36 : decode cX0_searchWays 36 = .ok (.if_icmp .gt 82, 3) := by decide +kernel
theorem dX0_searchWays_118 : decode cX0_searchWays 118 = .ok (.return_, 1) := by decide +kernel
theorem dX0_searchWays_39 : decode cX0_searchWays 39 = .ok (.aload_n 0, 1) := by decide +kernel
theorem dX0_searchWays_40 : decode cX0_searchWays 40 = .ok (.iload_n 1, 1) := by decide +kernel
theorem dX0_searchWays_41 : decode cX0_searchWays 41 = .ok (.iconst 1, 1) := by decide +kernel
theorem dX0_searchWays_42 : decode cX0_searchWays 42 = .ok (.invokevirtual 49, 3) := by decide +kernel
theorem dX0_searchWays_45 : decode cX0_searchWays 45 = .ok (.ifCond .ne 61, 3) := by decide +kernel
theorem dX0_searchWays_48 : decode cX0_searchWays 48 = .ok (.aload_n 0, 1) := by decide +kernel
theorem dX0_searchWays_49 : decode cX0_searchWays 49 = .ok (.dup, 1) := by decide +kernel
theorem dX0_searchWays_50 : decode cX0_searchWays 50 = .ok (.getfield 53, 3) := by decide +kernel
theorem dX0_searchWays_53 : decode cX0_searchWays 53 = .ok (.iconst 1, 1) := by decide +kernel
theorem dX0_searchWays_54 : decode cX0_searchWays 54 = .ok (.iadd, 1) := by decide +kernel
theorem dX0_searchWays_55 : decode cX0_searchWays 55 = .ok (.putfield 53, 3) := by decide +kernel
theorem dX0_searchWays_58 : decode cX0_searchWays 58 = .ok (.aload_n 0, 1) := by decide +kernel
theorem dX0_searchWays_59 : decode cX0_searchWays 59 = .ok (.dup, 1) := by decide +kernel
theorem dX0_searchWays_60 : decode cX0_searchWays 60 = .ok (.getfield 59, 3) := by decide +kernel
theorem dX0_searchWays_63 : decode cX0_searchWays 63 = .ok (.iload_n 1, 1) := by decide +kernel
theorem dX0_searchWays_64 : decode cX0_searchWays 64 = .ok (.iand, 1) := by decide +kernel
theorem dX0_searchWays_65 : decode cX0_searchWays 65 = .ok (.putfield 59, 3) := by decide +kernel
theorem dX0_searchWays_68 : decode cX0_searchWays 68 = .ok (.aload_n 0, 1) := by decide +kernel
theorem dX0_searchWays_69 : decode cX0_searchWays 69 = .ok (.dup, 1) := by decide +kernel
theorem dX0_searchWays_70 : decode cX0_searchWays 70 = .ok (.getfield 62, 3) := by decide +kernel
theorem dX0_searchWays_73 : decode cX0_searchWays 73 = .ok (.iload_n 1, 1) := by decide +kernel
theorem dX0_searchWays_74 : decode cX0_searchWays 74 = .ok (.iconst (-1), 1) := by decide +kernel
theorem dX0_searchWays_75 : decode cX0_searchWays 75 = .ok (.ixor, 1) := by decide +kernel
theorem dX0_searchWays_76 : decode cX0_searchWays 76 = .ok (.iand, 1) := by decide +kernel
theorem dX0_searchWays_77 : decode cX0_searchWays 77 = .ok (.putfield 62, 3) := by decide +kernel
theorem dX0_searchWays_80 : decode cX0_searchWays 80 = .ok (.aload_n 0, 1) := by decide +kernel
theorem dX0_searchWays_81 : decode cX0_searchWays 81 = .ok (.getfield 56, 3) := by decide +kernel
theorem dX0_searchWays_84 : decode cX0_searchWays 84 = .ok (.ifCond .lt 17, 3) := by decide +kernel
theorem dX0_searchWays_87 : decode cX0_searchWays 87 = .ok (.iload_n 1, 1) := by decide +kernel
theorem dX0_searchWays_88 : decode cX0_searchWays 88 = .ok (.invokestatic 65, 3) := by decide +kernel
theorem dX0_searchWays_91 : decode cX0_searchWays 91 = .ok (.aload_n 0, 1) := by decide +kernel
theorem dX0_searchWays_92 : decode cX0_searchWays 92 = .ok (.getfield 56, 3) := by decide +kernel
theorem dX0_searchWays_95 : decode cX0_searchWays 95 = .ok (.invokestatic 65, 3) := by decide +kernel
theorem dX0_searchWays_98 : decode cX0_searchWays 98 = .ok (.if_icmp .le 8, 3) := by decide +kernel
theorem dX0_searchWays_0 : decode cX0_searchWays 0 = .ok (.aload_n 0, 1) := by decide +kernel
theorem dX0_searchWays_1 : decode cX0_searchWays 1 = .ok (.iconst 0, 1) := by decide +kernel
theorem dX0_searchWays_2 : decode cX0_searchWays 2 = .ok (.putfield 53, 3) := by decide +kernel
theorem dX0_searchWays_5 : decode cX0_searchWays 5 = .ok (.aload_n 0, 1) := by decide +kernel
theorem dX0_searchWays_6 : decode cX0_searchWays 6 = .ok (.iconst (-1), 1) := by decide +kernel
theorem dX0_searchWays_7 : decode cX0_searchWays 7 = .ok (.putfield 56, 3) := by decide +kernel
theorem dX0_searchWays_10 : decode cX0_searchWays 10 = .ok (.aload_n 0, 1) := by decide +kernel
theorem dX0_searchWays_11 : decode cX0_searchWays 11 = .ok (.aload_n 0, 1) := by decide +kernel
theorem dX0_searchWays_12 : decode cX0_searchWays 12 = .ok (.getfield 27, 3) := by decide +kernel
theorem dX0_searchWays_15 : decode cX0_searchWays 15 = .ok (.putfield 59, 3) := by decide +kernel
theorem dX0_searchWays_18 : decode cX0_searchWays 18 = .ok (.aload_n 0, 1) := by decide +kernel
theorem dX0_searchWays_19 : decode cX0_searchWays 19 = .ok (.aload_n 0, 1) := by decide +kernel
theorem dX0_searchWays_20 : decode cX0_searchWays 20 = .ok (.getfield 27, 3) := by decide +kernel
theorem dX0_searchWays_23 : decode cX0_searchWays 23 = .ok (.putfield 62, 3) := by decide +kernel
theorem dX0_searchWays_26 : decode cX0_searchWays 26 = .ok (.aload_n 0, 1) := by decide +kernel
theorem dX0_searchWays_27 : decode cX0_searchWays 27 = .ok (.getfield 33, 3) := by decide +kernel
theorem dX0_searchWays_30 : decode cX0_searchWays 30 = .ok (.istore_n 1, 1) := by decide +kernel
set_option maxHeartbeats 4000000 in
set_option maxRecDepth 100000 in
theorem k_X0_searchWays (l : Launch) (D : va_G) (K : Nat → ClassId) (t : Nat) (t_q : Nat → Nat) (t_x0 t_x1 t_x2 t_x6 t_x7 t_x8 t_x9 t_x10 t_x11 : Int) (t_3_c : Nat → Int) (t_4_c : Nat → Int) (t_5_c : Nat → Int) (hi_t : bX0 t_x0 t_x1 t_x2 t_x6 t_x7 t_x8 t_x9 t_x10 t_x11) (hc_t_3 : ∀ j : Nat, 0 ≤ t_3_c j ∧ t_3_c j ≤ 11) (hc_t_4 : ∀ j : Nat, 0 ≤ t_4_c j ∧ t_4_c j ≤ 11) (hc_t_5 : ∀ j : Nat, 0 ≤ t_5_c j ∧ t_5_c j ≤ 1) : fn_CV (S := (Nat → Int) × (Nat → Nat → Int)) l D K yX0_searchWays (fn_ws yX0_searchWays cX0_searchWays 2 none) ({ frames := 8, cells := 0, slots := 0, locals := 200 } : Room) [.ref t] [(t, .inr (0, oX0 t_q t_x0 t_x1 t_x2 t_x6 t_x7 t_x8 t_x9 t_x10 t_x11)), ((t_q 3), .inl (K 0, 24, .inl (fun j => iI (t_3_c j)))), ((t_q 4), .inl (K 0, 24, .inl (fun j => iI (t_4_c j)))), ((t_q 5), .inl (K 0, 24, .inl (fun j => iI (t_5_c j))))] (fun u => ((-2147483648) ≤ (u.1 0) ∧ (u.1 0) ≤ 2147483647 ∧ (-1) ≤ (u.1 1) ∧ (u.1 1) ≤ 4095 ∧ 0 ≤ (u.1 2) ∧ (u.1 2) ≤ 4095 ∧ 0 ≤ (u.1 3) ∧ (u.1 3) ≤ 4095) ∧ True) (fun u => [(t, .inr (0, oX0 t_q t_x0 t_x1 t_x2 (u.1 0) (u.1 1) (u.1 2) (u.1 3) t_x10 t_x11)), ((t_q 3), .inl (K 0, 24, .inl (fun j => iI (t_3_c j)))), ((t_q 4), .inl (K 0, 24, .inl (fun j => iI (t_4_c j)))), ((t_q 5), .inl (K 0, 24, .inl (fun j => iI (t_5_c j))))]) 0 0 := by
  refine g_inV (cc := cX0_searchWays) (maxL := 2) (ret := none) (by decide) rfl (Nat.le_of_ble_eq_true rfl) ?_
  intro p e s m below meth c A ls ag Q B hA hP hD hS hl hQ
  obtain ⟨hx, hb, hr, hml, hts, hown, hlocks, hin, hK⟩ := B
  have hown : s.vm.findClass RX0 = some m.cls := hown
  have hts := fun w h => hts w (List.mem_cons_of_mem _ h)
  have J31 : ∀ (n : Nat) (x31_1 : Int) (f31_t_6 : Int) (f31_t_7 : Int) (f31_t_8 : Int) (f31_t_9 : Int) (H : Heap) (locs : List Loc) (ls : Array Slot), (8192 - x31_1).toNat < n → (0 ≤ x31_1 ∧ x31_1 ≤ 8191 ∧ (-2147483648) ≤ f31_t_6 ∧ f31_t_6 ≤ 2147483647 ∧ (-1) ≤ f31_t_7 ∧ f31_t_7 ≤ 4095 ∧ 0 ≤ f31_t_8 ∧ f31_t_8 ≤ 4095 ∧ 0 ≤ f31_t_9 ∧ f31_t_9 ≤ 4095) → va_P D vwCl [(t, .inr (0, oX0 t_q t_x0 t_x1 t_x2 f31_t_6 f31_t_7 f31_t_8 f31_t_9 t_x10 t_x11)), ((t_q 3), .inl (K 0, 24, .inl (fun j => iI (t_3_c j)))), ((t_q 4), .inl (K 0, 24, .inl (fun j => iI (t_4_c j)))), ((t_q 5), .inl (K 0, 24, .inl (fun j => iI (t_5_c j))))] H → va_D A [(t, .inr (0, oX0 t_q t_x0 t_x1 t_x2 f31_t_6 f31_t_7 f31_t_8 f31_t_9 t_x10 t_x11)), ((t_q 3), .inl (K 0, 24, .inl (fun j => iI (t_3_c j)))), ((t_q 4), .inl (K 0, 24, .inl (fun j => iI (t_4_c j)))), ((t_q 5), .inl (K 0, 24, .inl (fun j => iI (t_5_c j))))] → va_S A s.heap H locs → lv_has ls 2 [(0, .ref t), (1, .int (iI x31_1))] → W p l e ({ frames := 8, cells := 0, slots := 0, locals := 200 } : Room) s m ag below meth c H locs 0 0 Q (F0 m 31 ls []) := by
    intro n
    induction n with
    | zero =>
      intro x31_1 f31_t_6 f31_t_7 f31_t_8 f31_t_9 H locs ls hm31 hf31 hP hD hS hl
      exact absurd hm31 (Nat.not_lt_zero _)
    | succ n ih31 =>
      intro x31_1 f31_t_6 f31_t_7 f31_t_8 f31_t_9 H locs ls hm31 hf31 hP hD hS hl
      have J106 : ∀ (f106_t_6 : Int) (f106_t_7 : Int) (f106_t_8 : Int) (f106_t_9 : Int) (H : Heap) (locs : List Loc) (ls : Array Slot), (0 ≤ x31_1 ∧ x31_1 ≤ 4095 ∧ (-2147483648) ≤ f106_t_6 ∧ f106_t_6 ≤ 2147483647 ∧ (-1) ≤ f106_t_7 ∧ f106_t_7 ≤ 4095 ∧ 0 ≤ f106_t_8 ∧ f106_t_8 ≤ 4095 ∧ 0 ≤ f106_t_9 ∧ f106_t_9 ≤ 4095) → va_P D vwCl [(t, .inr (0, oX0 t_q t_x0 t_x1 t_x2 f106_t_6 f106_t_7 f106_t_8 f106_t_9 t_x10 t_x11)), ((t_q 3), .inl (K 0, 24, .inl (fun j => iI (t_3_c j)))), ((t_q 4), .inl (K 0, 24, .inl (fun j => iI (t_4_c j)))), ((t_q 5), .inl (K 0, 24, .inl (fun j => iI (t_5_c j))))] H → va_D A [(t, .inr (0, oX0 t_q t_x0 t_x1 t_x2 f106_t_6 f106_t_7 f106_t_8 f106_t_9 t_x10 t_x11)), ((t_q 3), .inl (K 0, 24, .inl (fun j => iI (t_3_c j)))), ((t_q 4), .inl (K 0, 24, .inl (fun j => iI (t_4_c j)))), ((t_q 5), .inl (K 0, 24, .inl (fun j => iI (t_5_c j))))] → va_S A s.heap H locs → lv_has ls 2 [(0, .ref t), (1, .int (iI x31_1))] → W p l e ({ frames := 8, cells := 0, slots := 0, locals := 200 } : Room) s m ag below meth c H locs 0 0 Q (F0 m 106 ls []) := by
        intro f106_t_6 f106_t_7 f106_t_8 f106_t_9 H locs ls hf106 hP hD hS hl
        refine lv_iload_n hx hb dX0_searchWays_106 rfl (lv_at hl 1 rfl) ?_
        refine lv_iconst (v := iI 1) hx hb dX0_searchWays_107 rfl ?_
        refine g_iadd hx hb dX0_searchWays_108 ?_
        refine lv_aload_n hx hb dX0_searchWays_109 rfl (lv_at hl 0 rfl) ?_
        refine va_get (D := D) (own := RX0) (ci := 0) (v := .int (iI t_x1)) (C := RX0) (T := TX0) (N := 12) hx hb hts inb_X0 hown hK.1 hP 0 rfl rfl 1 (by decide) (hts _ wd_264) (fun _ h9 => h9) rfl dX0_searchWays_110 ?_
        have y110_1 : 0 ≤ t_x1 ∧ t_x1 ≤ 4095 := hi_t.2.1
        refine lv_ior hx hb dX0_searchWays_113 ?_
        obtain ⟨w113, ew113, hw113⟩ := iI_or 13 (x31_1 + 1) t_x1 (by omega) (by omega) (by decide)
        refine fn_top (iI w113) ew113 ?_
        refine lv_istore_n (lv' := [(1, .int (iI w113)), (0, .ref t)]) hx hb dX0_searchWays_114 rfl hl (by decide) rfl (fun ls hl => ?_)
        refine lv_goto (tgt := 31) hx hb dX0_searchWays_115 (by decide) ?_
        exact ih31 w113 f106_t_6 f106_t_7 f106_t_8 f106_t_9 _ _ ls (by omega) (by omega) (hP.sub [0, 1, 2, 3] rfl) (hD.sub [0, 1, 2, 3] (by decide) rfl) hS (lv_sub hl [1, 0] rfl)
      have J101 : ∀ (f101_t_6 : Int) (f101_t_8 : Int) (f101_t_9 : Int) (H : Heap) (locs : List Loc) (ls : Array Slot), (0 ≤ x31_1 ∧ x31_1 ≤ 4095 ∧ (-2147483648) ≤ f101_t_6 ∧ f101_t_6 ≤ 2147483647 ∧ 0 ≤ f101_t_8 ∧ f101_t_8 ≤ 4095 ∧ 0 ≤ f101_t_9 ∧ f101_t_9 ≤ 4095) → va_P D vwCl [(t, .inr (0, oX0 t_q t_x0 t_x1 t_x2 f101_t_6 f31_t_7 f101_t_8 f101_t_9 t_x10 t_x11)), ((t_q 3), .inl (K 0, 24, .inl (fun j => iI (t_3_c j)))), ((t_q 4), .inl (K 0, 24, .inl (fun j => iI (t_4_c j)))), ((t_q 5), .inl (K 0, 24, .inl (fun j => iI (t_5_c j))))] H → va_D A [(t, .inr (0, oX0 t_q t_x0 t_x1 t_x2 f101_t_6 f31_t_7 f101_t_8 f101_t_9 t_x10 t_x11)), ((t_q 3), .inl (K 0, 24, .inl (fun j => iI (t_3_c j)))), ((t_q 4), .inl (K 0, 24, .inl (fun j => iI (t_4_c j)))), ((t_q 5), .inl (K 0, 24, .inl (fun j => iI (t_5_c j))))] → va_S A s.heap H locs → lv_has ls 2 [(0, .ref t), (1, .int (iI x31_1))] → W p l e ({ frames := 8, cells := 0, slots := 0, locals := 200 } : Room) s m ag below meth c H locs 0 0 Q (F0 m 101 ls []) := by
        intro f101_t_6 f101_t_8 f101_t_9 H locs ls hf101 hP hD hS hl
        refine lv_aload_n hx hb dX0_searchWays_101 rfl (lv_at hl 0 rfl) ?_
        refine lv_iload_n hx hb dX0_searchWays_102 rfl (lv_at hl 1 rfl) ?_
        refine va_put (D := D) (own := RX0) (ci := 0) (v := .int (iI x31_1)) (ty := .int) (C := RX0) (T := TX0) (N := 12) hx hb hts inb_X0 tyX0 tyX0_ok nmX0 hown hK.1 hP hD hS 0 rfl rfl 7 (by decide) (hts _ wd_271) (fun _ h9 => h9) rfl (by decide +kernel) rfl rfl (Nat.le_of_ble_eq_true rfl) dX0_searchWays_103 (fun H locs hP hD hS => ?_)
        have hP : va_P D vwCl [(t, .inr (0, oX0 t_q t_x0 t_x1 t_x2 f101_t_6 x31_1 f101_t_8 f101_t_9 t_x10 t_x11)), ((t_q 3), .inl (K 0, 24, .inl (fun j => iI (t_3_c j)))), ((t_q 4), .inl (K 0, 24, .inl (fun j => iI (t_4_c j)))), ((t_q 5), .inl (K 0, 24, .inl (fun j => iI (t_5_c j))))] H := hP
        have hD : va_D A [(t, .inr (0, oX0 t_q t_x0 t_x1 t_x2 f101_t_6 x31_1 f101_t_8 f101_t_9 t_x10 t_x11)), ((t_q 3), .inl (K 0, 24, .inl (fun j => iI (t_3_c j)))), ((t_q 4), .inl (K 0, 24, .inl (fun j => iI (t_4_c j)))), ((t_q 5), .inl (K 0, 24, .inl (fun j => iI (t_5_c j))))] := hD
        exact J106 f101_t_6 x31_1 f101_t_8 f101_t_9 _ _ ls (by omega) (hP.sub [0, 1, 2, 3] rfl) (hD.sub [0, 1, 2, 3] (by decide) rfl) hS (lv_sub hl [0, 1] rfl)
      refine lv_iload_n hx hb dX0_searchWays_31 rfl (lv_at hl 1 rfl) ?_
      refine lv_aload_n hx hb dX0_searchWays_32 rfl (lv_at hl 0 rfl) ?_
      refine va_get (D := D) (own := RX0) (ci := 0) (v := .int (iI t_x0)) (C := RX0) (T := TX0) (N := 12) hx hb hts inb_X0 hown hK.1 hP 0 rfl rfl 0 (by decide) (hts _ wd_263) (fun _ h9 => h9) rfl dX0_searchWays_33 ?_
      have y33_1 : 0 ≤ t_x0 ∧ t_x0 ≤ 4095 := hi_t.1
      refine g_icmp_gt (tgt := 118) hx hb (by omega) (by omega) dX0_searchWays_36 (by decide) (fun c36 => ?_) (fun c36 => ?_)
      · rw [hQ]; exact fn_vret hx hb hr hlocks hP hD hS ((fun k => ([f31_t_6, f31_t_7, f31_t_8, f31_t_9] : List Int).getD k 0), (fun _ _ => 0)) ⟨(by show (-2147483648) ≤ f31_t_6 ∧ f31_t_6 ≤ 2147483647 ∧ (-1) ≤ f31_t_7 ∧ f31_t_7 ≤ 4095 ∧ 0 ≤ f31_t_8 ∧ f31_t_8 ≤ 4095 ∧ 0 ≤ f31_t_9 ∧ f31_t_9 ≤ 4095; omega), trivial⟩ [0, 1, 2, 3] (by decide) rfl dX0_searchWays_118
      · refine lv_aload_n hx hb dX0_searchWays_39 rfl (lv_at hl 0 rfl) ?_
        refine lv_iload_n hx hb dX0_searchWays_40 rfl (lv_at hl 1 rfl) ?_
        refine lv_iconst (v := iI 1) hx hb dX0_searchWays_41 rfl ?_
        refine fn_goi (wc := [(t, .inr (0, oX0 t_q t_x0 t_x1 t_x2 f31_t_6 f31_t_7 f31_t_8 f31_t_9 t_x10 t_x11)), ((t_q 3), .inl (K 0, 24, .inl (fun j => iI (t_3_c j)))), ((t_q 4), .inl (K 0, 24, .inl (fun j => iI (t_4_c j)))), ((t_q 5), .inl (K 0, 24, .inl (fun j => iI (t_5_c j))))]) (wr := []) hK hP hD hS hA [0, 1, 2, 3] [] rfl rfl (by decide) (fun hp => va_runV (C := RX0) (As := [.int (iI x31_1), .int (iI 1)]) (rest := []) ⟨hx, hb, hml, hown, hts⟩ (k_X0_broken (l := l) (D := D) (K := K) (t := t) (p1 := x31_1) (p2 := 1) (t_q := t_q) (t_x0 := t_x0) (t_x1 := t_x1) (t_x2 := t_x2) (t_x6 := f31_t_6) (t_x7 := f31_t_7) (t_x8 := f31_t_8) (t_x9 := f31_t_9) (t_x10 := t_x10) (t_x11 := t_x11) (t_3_c := t_3_c) (t_4_c := t_4_c) (t_5_c := t_5_c) (hp1 := (by omega)) (hp2 := (by omega)) (hi_t := ⟨hi_t.1, hi_t.2.1, hi_t.2.2.1, (by omega), (by omega), (by omega), (by omega), hi_t.2.2.2.2.2.2.2.1, hi_t.2.2.2.2.2.2.2.2⟩) (hc_t_3 := hc_t_3) (hc_t_4 := hc_t_4) (hc_t_5 := hc_t_5) _) (cwV 2 hts (fn_ginV (fn_gin wd_883) wd_880 wd_882 wp_48 wd_7) rfl rfl rfl (by decide +kernel) ⟨Nat.le_of_ble_eq_true rfl, Nat.le_of_ble_eq_true rfl⟩) ⟨fn_blind, va_recv hK.1 hP (ci := 0) (q0 := 0) rfl rfl, hp⟩ rfl rfl hl.1 rfl (lv_room (Nat.le_of_ble_eq_true rfl)) dX0_searchWays_42 ⟨Nat.le_of_ble_eq_true rfl, Nat.le_of_ble_eq_true rfl⟩) (fun r42 u42 H locs hwu42 hP hD hS => ?_)
        obtain ⟨u42a, u42b⟩ := u42
        obtain ⟨kr42, rfl, hkr42, -⟩ := hwu42
        have hP : va_P D vwCl [(t, .inr (0, oX0 t_q t_x0 t_x1 t_x2 f31_t_6 f31_t_7 f31_t_8 f31_t_9 t_x10 t_x11)), ((t_q 3), .inl (K 0, 24, .inl (fun j => iI (t_3_c j)))), ((t_q 4), .inl (K 0, 24, .inl (fun j => iI (t_4_c j)))), ((t_q 5), .inl (K 0, 24, .inl (fun j => iI (t_5_c j))))] H := hP
        have hD : va_D A [(t, .inr (0, oX0 t_q t_x0 t_x1 t_x2 f31_t_6 f31_t_7 f31_t_8 f31_t_9 t_x10 t_x11)), ((t_q 3), .inl (K 0, 24, .inl (fun j => iI (t_3_c j)))), ((t_q 4), .inl (K 0, 24, .inl (fun j => iI (t_4_c j)))), ((t_q 5), .inl (K 0, 24, .inl (fun j => iI (t_5_c j))))] := hD
        refine g_if_ne (tgt := 106) hx hb (by omega) dX0_searchWays_45 (by decide) (fun c45 => ?_) (fun c45 => ?_)
        · exact J106 f31_t_6 f31_t_7 f31_t_8 f31_t_9 _ _ ls (by omega) (hP.sub [0, 1, 2, 3] rfl) (hD.sub [0, 1, 2, 3] (by decide) rfl) hS (lv_sub hl [0, 1] rfl)
        · refine lv_aload_n hx hb dX0_searchWays_48 rfl (lv_at hl 0 rfl) ?_
          refine lv_dup hx hb dX0_searchWays_49 rfl ?_
          refine va_get (D := D) (own := RX0) (ci := 0) (v := .int (iI f31_t_6)) (C := RX0) (T := TX0) (N := 12) hx hb hts inb_X0 hown hK.1 hP 0 rfl rfl 6 (by decide) (hts _ wd_269) (fun _ h9 => h9) rfl dX0_searchWays_50 ?_
          refine lv_iconst (v := iI 1) hx hb dX0_searchWays_53 rfl ?_
          refine g_iadd hx hb dX0_searchWays_54 ?_
          refine g_any (fun w54 hw54 ew54 => ?_)
          refine va_put (D := D) (own := RX0) (ci := 0) (v := .int (iI w54)) (ty := .int) (C := RX0) (T := TX0) (N := 12) hx hb hts inb_X0 tyX0 tyX0_ok nmX0 hown hK.1 hP hD hS 0 rfl rfl 6 (by decide) (hts _ wd_269) (fun _ h9 => h9) rfl (by decide +kernel) rfl rfl (Nat.le_of_ble_eq_true rfl) dX0_searchWays_55 (fun H locs hP hD hS => ?_)
          have hP : va_P D vwCl [(t, .inr (0, oX0 t_q t_x0 t_x1 t_x2 w54 f31_t_7 f31_t_8 f31_t_9 t_x10 t_x11)), ((t_q 3), .inl (K 0, 24, .inl (fun j => iI (t_3_c j)))), ((t_q 4), .inl (K 0, 24, .inl (fun j => iI (t_4_c j)))), ((t_q 5), .inl (K 0, 24, .inl (fun j => iI (t_5_c j))))] H := hP
          have hD : va_D A [(t, .inr (0, oX0 t_q t_x0 t_x1 t_x2 w54 f31_t_7 f31_t_8 f31_t_9 t_x10 t_x11)), ((t_q 3), .inl (K 0, 24, .inl (fun j => iI (t_3_c j)))), ((t_q 4), .inl (K 0, 24, .inl (fun j => iI (t_4_c j)))), ((t_q 5), .inl (K 0, 24, .inl (fun j => iI (t_5_c j))))] := hD
          refine lv_aload_n hx hb dX0_searchWays_58 rfl (lv_at hl 0 rfl) ?_
          refine lv_dup hx hb dX0_searchWays_59 rfl ?_
          refine va_get (D := D) (own := RX0) (ci := 0) (v := .int (iI f31_t_8)) (C := RX0) (T := TX0) (N := 12) hx hb hts inb_X0 hown hK.1 hP 0 rfl rfl 8 (by decide) (hts _ wd_273) (fun _ h9 => h9) rfl dX0_searchWays_60 ?_
          refine lv_iload_n hx hb dX0_searchWays_63 rfl (lv_at hl 1 rfl) ?_
          refine fn_at 64 rfl ?_
          refine lv_iand hx hb dX0_searchWays_64 ?_
          obtain ⟨w64, ew64, hw64⟩ := iI_and f31_t_8 x31_1 (by omega)
          refine fn_top (iI w64) ew64 ?_
          refine va_put (D := D) (own := RX0) (ci := 0) (v := .int (iI w64)) (ty := .int) (C := RX0) (T := TX0) (N := 12) hx hb hts inb_X0 tyX0 tyX0_ok nmX0 hown hK.1 hP hD hS 0 rfl rfl 8 (by decide) (hts _ wd_273) (fun _ h9 => h9) rfl (by decide +kernel) rfl rfl (Nat.le_of_ble_eq_true rfl) dX0_searchWays_65 (fun H locs hP hD hS => ?_)
          have hP : va_P D vwCl [(t, .inr (0, oX0 t_q t_x0 t_x1 t_x2 w54 f31_t_7 w64 f31_t_9 t_x10 t_x11)), ((t_q 3), .inl (K 0, 24, .inl (fun j => iI (t_3_c j)))), ((t_q 4), .inl (K 0, 24, .inl (fun j => iI (t_4_c j)))), ((t_q 5), .inl (K 0, 24, .inl (fun j => iI (t_5_c j))))] H := hP
          have hD : va_D A [(t, .inr (0, oX0 t_q t_x0 t_x1 t_x2 w54 f31_t_7 w64 f31_t_9 t_x10 t_x11)), ((t_q 3), .inl (K 0, 24, .inl (fun j => iI (t_3_c j)))), ((t_q 4), .inl (K 0, 24, .inl (fun j => iI (t_4_c j)))), ((t_q 5), .inl (K 0, 24, .inl (fun j => iI (t_5_c j))))] := hD
          refine lv_aload_n hx hb dX0_searchWays_68 rfl (lv_at hl 0 rfl) ?_
          refine lv_dup hx hb dX0_searchWays_69 rfl ?_
          refine va_get (D := D) (own := RX0) (ci := 0) (v := .int (iI f31_t_9)) (C := RX0) (T := TX0) (N := 12) hx hb hts inb_X0 hown hK.1 hP 0 rfl rfl 9 (by decide) (hts _ wd_275) (fun _ h9 => h9) rfl dX0_searchWays_70 ?_
          refine lv_iload_n hx hb dX0_searchWays_73 rfl (lv_at hl 1 rfl) ?_
          refine lv_iconst (v := iI (-1)) hx hb dX0_searchWays_74 rfl ?_
          refine lv_ixor hx hb dX0_searchWays_75 ?_
          obtain ⟨w75, ew75, hw75⟩ := iI_not x31_1 (by omega)
          refine fn_top (iI w75) ew75 ?_
          refine lv_iand hx hb dX0_searchWays_76 ?_
          obtain ⟨w76, ew76, hw76⟩ := iI_and2 f31_t_9 w75 (by omega)
          refine fn_top (iI w76) ew76 ?_
          refine va_put (D := D) (own := RX0) (ci := 0) (v := .int (iI w76)) (ty := .int) (C := RX0) (T := TX0) (N := 12) hx hb hts inb_X0 tyX0 tyX0_ok nmX0 hown hK.1 hP hD hS 0 rfl rfl 9 (by decide) (hts _ wd_275) (fun _ h9 => h9) rfl (by decide +kernel) rfl rfl (Nat.le_of_ble_eq_true rfl) dX0_searchWays_77 (fun H locs hP hD hS => ?_)
          have hP : va_P D vwCl [(t, .inr (0, oX0 t_q t_x0 t_x1 t_x2 w54 f31_t_7 w64 w76 t_x10 t_x11)), ((t_q 3), .inl (K 0, 24, .inl (fun j => iI (t_3_c j)))), ((t_q 4), .inl (K 0, 24, .inl (fun j => iI (t_4_c j)))), ((t_q 5), .inl (K 0, 24, .inl (fun j => iI (t_5_c j))))] H := hP
          have hD : va_D A [(t, .inr (0, oX0 t_q t_x0 t_x1 t_x2 w54 f31_t_7 w64 w76 t_x10 t_x11)), ((t_q 3), .inl (K 0, 24, .inl (fun j => iI (t_3_c j)))), ((t_q 4), .inl (K 0, 24, .inl (fun j => iI (t_4_c j)))), ((t_q 5), .inl (K 0, 24, .inl (fun j => iI (t_5_c j))))] := hD
          refine lv_aload_n hx hb dX0_searchWays_80 rfl (lv_at hl 0 rfl) ?_
          refine va_get (D := D) (own := RX0) (ci := 0) (v := .int (iI f31_t_7)) (C := RX0) (T := TX0) (N := 12) hx hb hts inb_X0 hown hK.1 hP 0 rfl rfl 7 (by decide) (hts _ wd_271) (fun _ h9 => h9) rfl dX0_searchWays_81 ?_
          refine g_if_lt (tgt := 101) hx hb (by omega) dX0_searchWays_84 (by decide) (fun c84 => ?_) (fun c84 => ?_)
          · exact J101 w54 w64 w76 _ _ ls (by omega) (hP.sub [0, 1, 2, 3] rfl) (hD.sub [0, 1, 2, 3] (by decide) rfl) hS (lv_sub hl [0, 1] rfl)
          · refine lv_iload_n hx hb dX0_searchWays_87 rfl (lv_at hl 1 rfl) ?_
            refine fn_goi (wc := []) (wr := [(t, .inr (0, oX0 t_q t_x0 t_x1 t_x2 w54 f31_t_7 w64 w76 t_x10 t_x11)), ((t_q 3), .inl (K 0, 24, .inl (fun j => iI (t_3_c j)))), ((t_q 4), .inl (K 0, 24, .inl (fun j => iI (t_4_c j)))), ((t_q 5), .inl (K 0, 24, .inl (fun j => iI (t_5_c j))))]) hK hP hD hS hA [] [0, 1, 2, 3] rfl rfl (by decide) (fun hp => va_runS (As := [.int (iI x31_1)]) (rest := []) ⟨hx, hb, hml, hown, hts⟩ (k_J6_bitCount_0f7a4 (l := l) (D := D) (K := K) (p1 := x31_1) (hp1 := (by omega)) _) (va_cwS 1 hts (fn_ginS (fn_gin wd_841) wd_892 wd_840 wd_21) rfl rfl rfl (by decide +kernel) ⟨Nat.le_of_ble_eq_true rfl, Nat.le_of_ble_eq_true rfl⟩) ⟨fn_blind, hp⟩ rfl rfl hl.1 rfl (lv_room (Nat.le_of_ble_eq_true rfl)) dX0_searchWays_88 ⟨Nat.le_of_ble_eq_true rfl, Nat.le_of_ble_eq_true rfl⟩) (fun r88 u88 H locs hwu88 hP hD hS => ?_)
            obtain ⟨u88a, u88b⟩ := u88
            obtain ⟨kr88, rfl, hkr88, -⟩ := hwu88
            have hP : va_P D vwCl [(t, .inr (0, oX0 t_q t_x0 t_x1 t_x2 w54 f31_t_7 w64 w76 t_x10 t_x11)), ((t_q 3), .inl (K 0, 24, .inl (fun j => iI (t_3_c j)))), ((t_q 4), .inl (K 0, 24, .inl (fun j => iI (t_4_c j)))), ((t_q 5), .inl (K 0, 24, .inl (fun j => iI (t_5_c j))))] H := hP
            have hD : va_D A [(t, .inr (0, oX0 t_q t_x0 t_x1 t_x2 w54 f31_t_7 w64 w76 t_x10 t_x11)), ((t_q 3), .inl (K 0, 24, .inl (fun j => iI (t_3_c j)))), ((t_q 4), .inl (K 0, 24, .inl (fun j => iI (t_4_c j)))), ((t_q 5), .inl (K 0, 24, .inl (fun j => iI (t_5_c j))))] := hD
            refine lv_aload_n hx hb dX0_searchWays_91 rfl (lv_at hl 0 rfl) ?_
            refine va_get (D := D) (own := RX0) (ci := 0) (v := .int (iI f31_t_7)) (C := RX0) (T := TX0) (N := 12) hx hb hts inb_X0 hown hK.1 hP 0 rfl rfl 7 (by decide) (hts _ wd_271) (fun _ h9 => h9) rfl dX0_searchWays_92 ?_
            refine fn_goi (wc := []) (wr := [(t, .inr (0, oX0 t_q t_x0 t_x1 t_x2 w54 f31_t_7 w64 w76 t_x10 t_x11)), ((t_q 3), .inl (K 0, 24, .inl (fun j => iI (t_3_c j)))), ((t_q 4), .inl (K 0, 24, .inl (fun j => iI (t_4_c j)))), ((t_q 5), .inl (K 0, 24, .inl (fun j => iI (t_5_c j))))]) hK hP hD hS hA [] [0, 1, 2, 3] rfl rfl (by decide) (fun hp => va_runS (As := [.int (iI f31_t_7)]) (rest := [.int (iI kr88)]) ⟨hx, hb, hml, hown, hts⟩ (k_J6_bitCount_0f7a4 (l := l) (D := D) (K := K) (p1 := f31_t_7) (hp1 := (by omega)) _) (va_cwS 1 hts (fn_ginS (fn_gin wd_841) wd_892 wd_840 wd_21) rfl rfl rfl (by decide +kernel) ⟨Nat.le_of_ble_eq_true rfl, Nat.le_of_ble_eq_true rfl⟩) ⟨fn_blind, hp⟩ rfl rfl hl.1 rfl (lv_room (Nat.le_of_ble_eq_true rfl)) dX0_searchWays_95 ⟨Nat.le_of_ble_eq_true rfl, Nat.le_of_ble_eq_true rfl⟩) (fun r95 u95 H locs hwu95 hP hD hS => ?_)
            obtain ⟨u95a, u95b⟩ := u95
            obtain ⟨kr95, rfl, hkr95, -⟩ := hwu95
            have hP : va_P D vwCl [(t, .inr (0, oX0 t_q t_x0 t_x1 t_x2 w54 f31_t_7 w64 w76 t_x10 t_x11)), ((t_q 3), .inl (K 0, 24, .inl (fun j => iI (t_3_c j)))), ((t_q 4), .inl (K 0, 24, .inl (fun j => iI (t_4_c j)))), ((t_q 5), .inl (K 0, 24, .inl (fun j => iI (t_5_c j))))] H := hP
            have hD : va_D A [(t, .inr (0, oX0 t_q t_x0 t_x1 t_x2 w54 f31_t_7 w64 w76 t_x10 t_x11)), ((t_q 3), .inl (K 0, 24, .inl (fun j => iI (t_3_c j)))), ((t_q 4), .inl (K 0, 24, .inl (fun j => iI (t_4_c j)))), ((t_q 5), .inl (K 0, 24, .inl (fun j => iI (t_5_c j))))] := hD
            refine g_icmp_le (tgt := 106) hx hb (by omega) (by omega) dX0_searchWays_98 (by decide) (fun c98 => ?_) (fun c98 => ?_)
            · exact J106 w54 f31_t_7 w64 w76 _ _ ls (by omega) (hP.sub [0, 1, 2, 3] rfl) (hD.sub [0, 1, 2, 3] (by decide) rfl) hS (lv_sub hl [0, 1] rfl)
            · exact J101 w54 w64 w76 _ _ ls (by omega) (hP.sub [0, 1, 2, 3] rfl) (hD.sub [0, 1, 2, 3] (by decide) rfl) hS (lv_sub hl [0, 1] rfl)
  have hl : lv_has ls 2 [(0, .ref t)] := hl
  refine lv_aload_n hx hb dX0_searchWays_0 rfl (lv_at hl 0 rfl) ?_
  refine lv_iconst (v := iI 0) hx hb dX0_searchWays_1 rfl ?_
  refine va_put (D := D) (own := RX0) (ci := 0) (v := .int (iI 0)) (ty := .int) (C := RX0) (T := TX0) (N := 12) hx hb hts inb_X0 tyX0 tyX0_ok nmX0 hown hK.1 hP hD hS 0 rfl rfl 6 (by decide) (hts _ wd_269) (fun _ h9 => h9) rfl (by decide +kernel) rfl rfl (Nat.le_of_ble_eq_true rfl) dX0_searchWays_2 (fun H locs hP hD hS => ?_)
  have hP : va_P D vwCl [(t, .inr (0, oX0 t_q t_x0 t_x1 t_x2 0 t_x7 t_x8 t_x9 t_x10 t_x11)), ((t_q 3), .inl (K 0, 24, .inl (fun j => iI (t_3_c j)))), ((t_q 4), .inl (K 0, 24, .inl (fun j => iI (t_4_c j)))), ((t_q 5), .inl (K 0, 24, .inl (fun j => iI (t_5_c j))))] H := hP
  have hD : va_D A [(t, .inr (0, oX0 t_q t_x0 t_x1 t_x2 0 t_x7 t_x8 t_x9 t_x10 t_x11)), ((t_q 3), .inl (K 0, 24, .inl (fun j => iI (t_3_c j)))), ((t_q 4), .inl (K 0, 24, .inl (fun j => iI (t_4_c j)))), ((t_q 5), .inl (K 0, 24, .inl (fun j => iI (t_5_c j))))] := hD
  refine lv_aload_n hx hb dX0_searchWays_5 rfl (lv_at hl 0 rfl) ?_
  refine lv_iconst (v := iI (-1)) hx hb dX0_searchWays_6 rfl ?_
  refine va_put (D := D) (own := RX0) (ci := 0) (v := .int (iI (-1))) (ty := .int) (C := RX0) (T := TX0) (N := 12) hx hb hts inb_X0 tyX0 tyX0_ok nmX0 hown hK.1 hP hD hS 0 rfl rfl 7 (by decide) (hts _ wd_271) (fun _ h9 => h9) rfl (by decide +kernel) rfl rfl (Nat.le_of_ble_eq_true rfl) dX0_searchWays_7 (fun H locs hP hD hS => ?_)
  have hP : va_P D vwCl [(t, .inr (0, oX0 t_q t_x0 t_x1 t_x2 0 (-1) t_x8 t_x9 t_x10 t_x11)), ((t_q 3), .inl (K 0, 24, .inl (fun j => iI (t_3_c j)))), ((t_q 4), .inl (K 0, 24, .inl (fun j => iI (t_4_c j)))), ((t_q 5), .inl (K 0, 24, .inl (fun j => iI (t_5_c j))))] H := hP
  have hD : va_D A [(t, .inr (0, oX0 t_q t_x0 t_x1 t_x2 0 (-1) t_x8 t_x9 t_x10 t_x11)), ((t_q 3), .inl (K 0, 24, .inl (fun j => iI (t_3_c j)))), ((t_q 4), .inl (K 0, 24, .inl (fun j => iI (t_4_c j)))), ((t_q 5), .inl (K 0, 24, .inl (fun j => iI (t_5_c j))))] := hD
  refine lv_aload_n hx hb dX0_searchWays_10 rfl (lv_at hl 0 rfl) ?_
  refine lv_aload_n hx hb dX0_searchWays_11 rfl (lv_at hl 0 rfl) ?_
  refine va_get (D := D) (own := RX0) (ci := 0) (v := .int (iI t_x0)) (C := RX0) (T := TX0) (N := 12) hx hb hts inb_X0 hown hK.1 hP 0 rfl rfl 0 (by decide) (hts _ wd_263) (fun _ h9 => h9) rfl dX0_searchWays_12 ?_
  have y12_1 : 0 ≤ t_x0 ∧ t_x0 ≤ 4095 := hi_t.1
  refine va_put (D := D) (own := RX0) (ci := 0) (v := .int (iI t_x0)) (ty := .int) (C := RX0) (T := TX0) (N := 12) hx hb hts inb_X0 tyX0 tyX0_ok nmX0 hown hK.1 hP hD hS 0 rfl rfl 8 (by decide) (hts _ wd_273) (fun _ h9 => h9) rfl (by decide +kernel) rfl rfl (Nat.le_of_ble_eq_true rfl) dX0_searchWays_15 (fun H locs hP hD hS => ?_)
  have hP : va_P D vwCl [(t, .inr (0, oX0 t_q t_x0 t_x1 t_x2 0 (-1) t_x0 t_x9 t_x10 t_x11)), ((t_q 3), .inl (K 0, 24, .inl (fun j => iI (t_3_c j)))), ((t_q 4), .inl (K 0, 24, .inl (fun j => iI (t_4_c j)))), ((t_q 5), .inl (K 0, 24, .inl (fun j => iI (t_5_c j))))] H := hP
  have hD : va_D A [(t, .inr (0, oX0 t_q t_x0 t_x1 t_x2 0 (-1) t_x0 t_x9 t_x10 t_x11)), ((t_q 3), .inl (K 0, 24, .inl (fun j => iI (t_3_c j)))), ((t_q 4), .inl (K 0, 24, .inl (fun j => iI (t_4_c j)))), ((t_q 5), .inl (K 0, 24, .inl (fun j => iI (t_5_c j))))] := hD
  refine lv_aload_n hx hb dX0_searchWays_18 rfl (lv_at hl 0 rfl) ?_
  refine lv_aload_n hx hb dX0_searchWays_19 rfl (lv_at hl 0 rfl) ?_
  refine va_get (D := D) (own := RX0) (ci := 0) (v := .int (iI t_x0)) (C := RX0) (T := TX0) (N := 12) hx hb hts inb_X0 hown hK.1 hP 0 rfl rfl 0 (by decide) (hts _ wd_263) (fun _ h9 => h9) rfl dX0_searchWays_20 ?_
  refine va_put (D := D) (own := RX0) (ci := 0) (v := .int (iI t_x0)) (ty := .int) (C := RX0) (T := TX0) (N := 12) hx hb hts inb_X0 tyX0 tyX0_ok nmX0 hown hK.1 hP hD hS 0 rfl rfl 9 (by decide) (hts _ wd_275) (fun _ h9 => h9) rfl (by decide +kernel) rfl rfl (Nat.le_of_ble_eq_true rfl) dX0_searchWays_23 (fun H locs hP hD hS => ?_)
  have hP : va_P D vwCl [(t, .inr (0, oX0 t_q t_x0 t_x1 t_x2 0 (-1) t_x0 t_x0 t_x10 t_x11)), ((t_q 3), .inl (K 0, 24, .inl (fun j => iI (t_3_c j)))), ((t_q 4), .inl (K 0, 24, .inl (fun j => iI (t_4_c j)))), ((t_q 5), .inl (K 0, 24, .inl (fun j => iI (t_5_c j))))] H := hP
  have hD : va_D A [(t, .inr (0, oX0 t_q t_x0 t_x1 t_x2 0 (-1) t_x0 t_x0 t_x10 t_x11)), ((t_q 3), .inl (K 0, 24, .inl (fun j => iI (t_3_c j)))), ((t_q 4), .inl (K 0, 24, .inl (fun j => iI (t_4_c j)))), ((t_q 5), .inl (K 0, 24, .inl (fun j => iI (t_5_c j))))] := hD
  refine lv_aload_n hx hb dX0_searchWays_26 rfl (lv_at hl 0 rfl) ?_
  refine va_get (D := D) (own := RX0) (ci := 0) (v := .int (iI t_x1)) (C := RX0) (T := TX0) (N := 12) hx hb hts inb_X0 hown hK.1 hP 0 rfl rfl 1 (by decide) (hts _ wd_264) (fun _ h9 => h9) rfl dX0_searchWays_27 ?_
  have y27_2 : 0 ≤ t_x1 ∧ t_x1 ≤ 4095 := hi_t.2.1
  refine lv_istore_n (lv' := [(1, .int (iI t_x1)), (0, .ref t)]) hx hb dX0_searchWays_30 rfl hl (by decide) rfl (fun ls hl => ?_)
  exact J31 _ t_x1 0 (-1) t_x0 t_x0 _ _ ls (Nat.lt_succ_self _) (by omega) (hP.sub [0, 1, 2, 3] rfl) (hD.sub [0, 1, 2, 3] (by decide) rfl) hS (lv_sub hl [1, 0] rfl)
theorem wd_277 : Cond.fieldLink "FootNotes$Faith" 71 "FootNotes$Faith" "fewestDropped" "I" ∈ fn_big := fn_tb (fn_l2 (List.mem_of_getElem? (i := 37) (by decide +kernel))) (by decide +kernel)
theorem wd_279 : Cond.fieldLink "FootNotes$Faith" 74 "FootNotes$Faith" "loosestSet" "I" ∈ fn_big := fn_tb (fn_l2 (List.mem_of_getElem? (i := 39) (by decide +kernel))) (by decide +kernel)
theorem dX0_searchLoosest_70 : decode cX0_searchLoosest 70 = .ok (.iload_n 3, 1) := by decide +kernel
theorem dX0_searchLoosest_71 : decode cX0_searchLoosest 71 = .ok (.iconst 1, 1) := by decide +kernel
theorem dX0_searchLoosest_72 : decode cX0_searchLoosest 72 = .ok (.iadd, 1) := by decide +kernel
theorem dX0_searchLoosest_73 : decode cX0_searchLoosest 73 = .ok (.iload_n 2, 1) := by decide +kernel
theorem dX0_searchLoosest_74 : decode cX0_searchLoosest 74 = .ok (.ior, 1) := by decide +kernel
theorem dX0_searchLoosest_75 : decode cX0_searchLoosest 75 = .ok (.istore_n 3, 1) := by decide +kernel
theorem dX0_searchLoosest_76 : decode cX0_searchLoosest 76 = .ok (.goto (-52), 3) := by decide +kernel
theorem dX0_searchLoosest_24 : decode cX0_searchLoosest 24 = .ok (.iload_n 3, 1) := by decide +kernel
theorem dX0_searchLoosest_25 : decode cX0_searchLoosest 25 = .ok (.aload_n 0, 1) := by decide +kernel
theorem dX0_searchLoosest_26 : decode cX0_searchLoosest 26 = .ok (.getfield 27, 3) := by decide +kernel
theorem dX0_searchLoosest_29 : decode cX0_searchLoosest 29 = .ok (.if_icmp .gt 50, 3) := by decide +kernel
theorem dX0_searchLoosest_79 : decode cX0_searchLoosest 79 = .ok (.return_, 1) := by decide +kernel
theorem dX0_searchLoosest_32 : decode cX0_searchLoosest 32 = .ok (.aload_n 0, 1) := by decide +kernel
theorem dX0_searchLoosest_33 : decode cX0_searchLoosest 33 = .ok (.getfield 71, 3) := by decide +kernel
theorem dX0_searchLoosest_36 : decode cX0_searchLoosest 36 = .ok (.ifCond .le 43, 3) := by decide +kernel
theorem dX0_searchLoosest_39 : decode cX0_searchLoosest 39 = .ok (.aload_n 0, 1) := by decide +kernel
theorem dX0_searchLoosest_40 : decode cX0_searchLoosest 40 = .ok (.iload_n 3, 1) := by decide +kernel
theorem dX0_searchLoosest_41 : decode cX0_searchLoosest 41 = .ok (.aload_n 0, 1) := by decide +kernel
theorem dX0_searchLoosest_42 : decode cX0_searchLoosest 42 = .ok (.getfield 71, 3) := by decide +kernel
theorem dX0_searchLoosest_45 : decode cX0_searchLoosest 45 = .ok (.invokevirtual 49, 3) := by decide +kernel
theorem dX0_searchLoosest_48 : decode cX0_searchLoosest 48 = .ok (.istore 4, 2) := by decide +kernel
theorem dX0_searchLoosest_50 : decode cX0_searchLoosest 50 = .ok (.iload 4, 2) := by decide +kernel
theorem dX0_searchLoosest_52 : decode cX0_searchLoosest 52 = .ok (.aload_n 0, 1) := by decide +kernel
theorem dX0_searchLoosest_53 : decode cX0_searchLoosest 53 = .ok (.getfield 71, 3) := by decide +kernel
theorem dX0_searchLoosest_56 : decode cX0_searchLoosest 56 = .ok (.if_icmp .ge 14, 3) := by decide +kernel
theorem dX0_searchLoosest_59 : decode cX0_searchLoosest 59 = .ok (.aload_n 0, 1) := by decide +kernel
theorem dX0_searchLoosest_60 : decode cX0_searchLoosest 60 = .ok (.iload 4, 2) := by decide +kernel
theorem dX0_searchLoosest_62 : decode cX0_searchLoosest 62 = .ok (.putfield 71, 3) := by decide +kernel
theorem dX0_searchLoosest_65 : decode cX0_searchLoosest 65 = .ok (.aload_n 0, 1) := by decide +kernel
theorem dX0_searchLoosest_66 : decode cX0_searchLoosest 66 = .ok (.iload_n 3, 1) := by decide +kernel
theorem dX0_searchLoosest_67 : decode cX0_searchLoosest 67 = .ok (.putfield 74, 3) := by decide +kernel
theorem dX0_searchLoosest_0 : decode cX0_searchLoosest 0 = .ok (.iload_n 1, 1) := by decide +kernel
theorem dX0_searchLoosest_1 : decode cX0_searchLoosest 1 = .ok (.aload_n 0, 1) := by decide +kernel
theorem dX0_searchLoosest_2 : decode cX0_searchLoosest 2 = .ok (.getfield 33, 3) := by decide +kernel
theorem dX0_searchLoosest_5 : decode cX0_searchLoosest 5 = .ok (.ior, 1) := by decide +kernel
theorem dX0_searchLoosest_6 : decode cX0_searchLoosest 6 = .ok (.istore_n 2, 1) := by decide +kernel
theorem dX0_searchLoosest_7 : decode cX0_searchLoosest 7 = .ok (.aload_n 0, 1) := by decide +kernel
theorem dX0_searchLoosest_8 : decode cX0_searchLoosest 8 = .ok (.aload_n 0, 1) := by decide +kernel
theorem dX0_searchLoosest_9 : decode cX0_searchLoosest 9 = .ok (.getfield 34, 3) := by decide +kernel
theorem dX0_searchLoosest_12 : decode cX0_searchLoosest 12 = .ok (.iconst 1, 1) := by decide +kernel
theorem dX0_searchLoosest_13 : decode cX0_searchLoosest 13 = .ok (.iadd, 1) := by decide +kernel
theorem dX0_searchLoosest_14 : decode cX0_searchLoosest 14 = .ok (.putfield 71, 3) := by decide +kernel
theorem dX0_searchLoosest_17 : decode cX0_searchLoosest 17 = .ok (.aload_n 0, 1) := by decide +kernel
theorem dX0_searchLoosest_18 : decode cX0_searchLoosest 18 = .ok (.iload_n 2, 1) := by decide +kernel
theorem dX0_searchLoosest_19 : decode cX0_searchLoosest 19 = .ok (.putfield 74, 3) := by decide +kernel
theorem dX0_searchLoosest_22 : decode cX0_searchLoosest 22 = .ok (.iload_n 2, 1) := by decide +kernel
theorem dX0_searchLoosest_23 : decode cX0_searchLoosest 23 = .ok (.istore_n 3, 1) := by decide +kernel
set_option maxHeartbeats 4000000 in
set_option maxRecDepth 100000 in
theorem k_X0_searchLoosest (l : Launch) (D : va_G) (K : Nat → ClassId) (t : Nat) (t_q : Nat → Nat) (p1 t_x0 t_x1 t_x2 t_x6 t_x7 t_x8 t_x9 t_x10 t_x11 : Int) (t_3_c : Nat → Int) (t_4_c : Nat → Int) (t_5_c : Nat → Int) (hp1 : 0 ≤ p1 ∧ p1 ≤ 4095) (hi_t : bX0 t_x0 t_x1 t_x2 t_x6 t_x7 t_x8 t_x9 t_x10 t_x11) (hc_t_3 : ∀ j : Nat, 0 ≤ t_3_c j ∧ t_3_c j ≤ 11) (hc_t_4 : ∀ j : Nat, 0 ≤ t_4_c j ∧ t_4_c j ≤ 11) (hc_t_5 : ∀ j : Nat, 0 ≤ t_5_c j ∧ t_5_c j ≤ 1) : fn_CV (S := (Nat → Int) × (Nat → Nat → Int)) l D K yX0_searchLoosest (fn_ws yX0_searchLoosest cX0_searchLoosest 5 none) ({ frames := 8, cells := 0, slots := 0, locals := 200 } : Room) [.ref t, .int (iI p1)] [(t, .inr (0, oX0 t_q t_x0 t_x1 t_x2 t_x6 t_x7 t_x8 t_x9 t_x10 t_x11)), ((t_q 3), .inl (K 0, 24, .inl (fun j => iI (t_3_c j)))), ((t_q 4), .inl (K 0, 24, .inl (fun j => iI (t_4_c j)))), ((t_q 5), .inl (K 0, 24, .inl (fun j => iI (t_5_c j))))] (fun u => (0 ≤ (u.1 0) ∧ (u.1 0) ≤ 25 ∧ 0 ≤ (u.1 1) ∧ (u.1 1) ≤ 4095) ∧ True) (fun u => [(t, .inr (0, oX0 t_q t_x0 t_x1 t_x2 t_x6 t_x7 t_x8 t_x9 (u.1 0) (u.1 1))), ((t_q 3), .inl (K 0, 24, .inl (fun j => iI (t_3_c j)))), ((t_q 4), .inl (K 0, 24, .inl (fun j => iI (t_4_c j)))), ((t_q 5), .inl (K 0, 24, .inl (fun j => iI (t_5_c j))))]) 0 0 := by
  refine g_inV (cc := cX0_searchLoosest) (maxL := 5) (ret := none) (by decide) rfl (Nat.le_of_ble_eq_true rfl) ?_
  intro p e s m below meth c A ls ag Q B hA hP hD hS hl hQ
  obtain ⟨hx, hb, hr, hml, hts, hown, hlocks, hin, hK⟩ := B
  have hown : s.vm.findClass RX0 = some m.cls := hown
  have hts := fun w h => hts w (List.mem_cons_of_mem _ h)
  have J24 : ∀ (n : Nat) (x24_2 : Int) (x24_3 : Int) (f24_t_10 : Int) (f24_t_11 : Int) (H : Heap) (locs : List Loc) (ls : Array Slot), (8192 - x24_3).toNat < n → (0 ≤ x24_2 ∧ x24_2 ≤ 4095 ∧ 0 ≤ x24_3 ∧ x24_3 ≤ 8191 ∧ 0 ≤ f24_t_10 ∧ f24_t_10 ≤ 25 ∧ 0 ≤ f24_t_11 ∧ f24_t_11 ≤ 4095) → va_P D vwCl [(t, .inr (0, oX0 t_q t_x0 t_x1 t_x2 t_x6 t_x7 t_x8 t_x9 f24_t_10 f24_t_11)), ((t_q 3), .inl (K 0, 24, .inl (fun j => iI (t_3_c j)))), ((t_q 4), .inl (K 0, 24, .inl (fun j => iI (t_4_c j)))), ((t_q 5), .inl (K 0, 24, .inl (fun j => iI (t_5_c j))))] H → va_D A [(t, .inr (0, oX0 t_q t_x0 t_x1 t_x2 t_x6 t_x7 t_x8 t_x9 f24_t_10 f24_t_11)), ((t_q 3), .inl (K 0, 24, .inl (fun j => iI (t_3_c j)))), ((t_q 4), .inl (K 0, 24, .inl (fun j => iI (t_4_c j)))), ((t_q 5), .inl (K 0, 24, .inl (fun j => iI (t_5_c j))))] → va_S A s.heap H locs → lv_has ls 5 [(0, .ref t), (1, .int (iI p1)), (2, .int (iI x24_2)), (3, .int (iI x24_3))] → W p l e ({ frames := 8, cells := 0, slots := 0, locals := 200 } : Room) s m ag below meth c H locs 0 0 Q (F0 m 24 ls []) := by
    intro n
    induction n with
    | zero =>
      intro x24_2 x24_3 f24_t_10 f24_t_11 H locs ls hm24 hf24 hP hD hS hl
      exact absurd hm24 (Nat.not_lt_zero _)
    | succ n ih24 =>
      intro x24_2 x24_3 f24_t_10 f24_t_11 H locs ls hm24 hf24 hP hD hS hl
      have J70 : ∀ (x70_4 : Int) (f70_t_10 : Int) (f70_t_11 : Int) (H : Heap) (locs : List Loc) (ls : Array Slot), (0 ≤ x24_3 ∧ x24_3 ≤ 4095 ∧ 0 ≤ x70_4 ∧ x70_4 ≤ 2147483647 ∧ 0 ≤ f70_t_10 ∧ f70_t_10 ≤ 25 ∧ 0 ≤ f70_t_11 ∧ f70_t_11 ≤ 4095) → va_P D vwCl [(t, .inr (0, oX0 t_q t_x0 t_x1 t_x2 t_x6 t_x7 t_x8 t_x9 f70_t_10 f70_t_11)), ((t_q 3), .inl (K 0, 24, .inl (fun j => iI (t_3_c j)))), ((t_q 4), .inl (K 0, 24, .inl (fun j => iI (t_4_c j)))), ((t_q 5), .inl (K 0, 24, .inl (fun j => iI (t_5_c j))))] H → va_D A [(t, .inr (0, oX0 t_q t_x0 t_x1 t_x2 t_x6 t_x7 t_x8 t_x9 f70_t_10 f70_t_11)), ((t_q 3), .inl (K 0, 24, .inl (fun j => iI (t_3_c j)))), ((t_q 4), .inl (K 0, 24, .inl (fun j => iI (t_4_c j)))), ((t_q 5), .inl (K 0, 24, .inl (fun j => iI (t_5_c j))))] → va_S A s.heap H locs → lv_has ls 5 [(0, .ref t), (1, .int (iI p1)), (2, .int (iI x24_2)), (3, .int (iI x24_3)), (4, .int (iI x70_4))] → W p l e ({ frames := 8, cells := 0, slots := 0, locals := 200 } : Room) s m ag below meth c H locs 0 0 Q (F0 m 70 ls []) := by
        intro x70_4 f70_t_10 f70_t_11 H locs ls hf70 hP hD hS hl
        refine lv_iload_n hx hb dX0_searchLoosest_70 rfl (lv_at hl 3 rfl) ?_
        refine lv_iconst (v := iI 1) hx hb dX0_searchLoosest_71 rfl ?_
        refine g_iadd hx hb dX0_searchLoosest_72 ?_
        refine lv_iload_n hx hb dX0_searchLoosest_73 rfl (lv_at hl 2 rfl) ?_
        refine lv_ior hx hb dX0_searchLoosest_74 ?_
        obtain ⟨w74, ew74, hw74⟩ := iI_or 13 (x24_3 + 1) x24_2 (by omega) (by omega) (by decide)
        refine fn_top (iI w74) ew74 ?_
        refine lv_istore_n (lv' := [(3, .int (iI w74)), (0, .ref t), (1, .int (iI p1)), (2, .int (iI x24_2)), (4, .int (iI x70_4))]) hx hb dX0_searchLoosest_75 rfl hl (by decide) rfl (fun ls hl => ?_)
        refine lv_goto (tgt := 24) hx hb dX0_searchLoosest_76 (by decide) ?_
        exact ih24 x24_2 w74 f70_t_10 f70_t_11 _ _ ls (by omega) (by omega) (hP.sub [0, 1, 2, 3] rfl) (hD.sub [0, 1, 2, 3] (by decide) rfl) hS (lv_sub hl [1, 2, 3, 0] rfl)
      refine lv_iload_n hx hb dX0_searchLoosest_24 rfl (lv_at hl 3 rfl) ?_
      refine lv_aload_n hx hb dX0_searchLoosest_25 rfl (lv_at hl 0 rfl) ?_
      refine va_get (D := D) (own := RX0) (ci := 0) (v := .int (iI t_x0)) (C := RX0) (T := TX0) (N := 12) hx hb hts inb_X0 hown hK.1 hP 0 rfl rfl 0 (by decide) (hts _ wd_263) (fun _ h9 => h9) rfl dX0_searchLoosest_26 ?_
      have y26_1 : 0 ≤ t_x0 ∧ t_x0 ≤ 4095 := hi_t.1
      refine g_icmp_gt (tgt := 79) hx hb (by omega) (by omega) dX0_searchLoosest_29 (by decide) (fun c29 => ?_) (fun c29 => ?_)
      · rw [hQ]; exact fn_vret hx hb hr hlocks hP hD hS ((fun k => ([f24_t_10, f24_t_11] : List Int).getD k 0), (fun _ _ => 0)) ⟨(by show 0 ≤ f24_t_10 ∧ f24_t_10 ≤ 25 ∧ 0 ≤ f24_t_11 ∧ f24_t_11 ≤ 4095; omega), trivial⟩ [0, 1, 2, 3] (by decide) rfl dX0_searchLoosest_79
      · refine lv_aload_n hx hb dX0_searchLoosest_32 rfl (lv_at hl 0 rfl) ?_
        refine va_get (D := D) (own := RX0) (ci := 0) (v := .int (iI f24_t_10)) (C := RX0) (T := TX0) (N := 12) hx hb hts inb_X0 hown hK.1 hP 0 rfl rfl 10 (by decide) (hts _ wd_277) (fun _ h9 => h9) rfl dX0_searchLoosest_33 ?_
        refine g_if_le (tgt := 79) hx hb (by omega) dX0_searchLoosest_36 (by decide) (fun c36 => ?_) (fun c36 => ?_)
        · rw [hQ]; exact fn_vret hx hb hr hlocks hP hD hS ((fun k => ([f24_t_10, f24_t_11] : List Int).getD k 0), (fun _ _ => 0)) ⟨(by show 0 ≤ f24_t_10 ∧ f24_t_10 ≤ 25 ∧ 0 ≤ f24_t_11 ∧ f24_t_11 ≤ 4095; omega), trivial⟩ [0, 1, 2, 3] (by decide) rfl dX0_searchLoosest_79
        · refine lv_aload_n hx hb dX0_searchLoosest_39 rfl (lv_at hl 0 rfl) ?_
          refine lv_iload_n hx hb dX0_searchLoosest_40 rfl (lv_at hl 3 rfl) ?_
          refine lv_aload_n hx hb dX0_searchLoosest_41 rfl (lv_at hl 0 rfl) ?_
          refine va_get (D := D) (own := RX0) (ci := 0) (v := .int (iI f24_t_10)) (C := RX0) (T := TX0) (N := 12) hx hb hts inb_X0 hown hK.1 hP 0 rfl rfl 10 (by decide) (hts _ wd_277) (fun _ h9 => h9) rfl dX0_searchLoosest_42 ?_
          refine fn_goi (wc := [(t, .inr (0, oX0 t_q t_x0 t_x1 t_x2 t_x6 t_x7 t_x8 t_x9 f24_t_10 f24_t_11)), ((t_q 3), .inl (K 0, 24, .inl (fun j => iI (t_3_c j)))), ((t_q 4), .inl (K 0, 24, .inl (fun j => iI (t_4_c j)))), ((t_q 5), .inl (K 0, 24, .inl (fun j => iI (t_5_c j))))]) (wr := []) hK hP hD hS hA [0, 1, 2, 3] [] rfl rfl (by decide) (fun hp => va_runV (C := RX0) (As := [.int (iI x24_3), .int (iI f24_t_10)]) (rest := []) ⟨hx, hb, hml, hown, hts⟩ (k_X0_broken (l := l) (D := D) (K := K) (t := t) (p1 := x24_3) (p2 := f24_t_10) (t_q := t_q) (t_x0 := t_x0) (t_x1 := t_x1) (t_x2 := t_x2) (t_x6 := t_x6) (t_x7 := t_x7) (t_x8 := t_x8) (t_x9 := t_x9) (t_x10 := f24_t_10) (t_x11 := f24_t_11) (t_3_c := t_3_c) (t_4_c := t_4_c) (t_5_c := t_5_c) (hp1 := (by omega)) (hp2 := (by omega)) (hi_t := ⟨hi_t.1, hi_t.2.1, hi_t.2.2.1, hi_t.2.2.2.1, hi_t.2.2.2.2.1, hi_t.2.2.2.2.2.1, hi_t.2.2.2.2.2.2.1, (by omega), (by omega)⟩) (hc_t_3 := hc_t_3) (hc_t_4 := hc_t_4) (hc_t_5 := hc_t_5) _) (cwV 2 hts (fn_ginV (fn_gin wd_883) wd_880 wd_882 wp_48 wd_7) rfl rfl rfl (by decide +kernel) ⟨Nat.le_of_ble_eq_true rfl, Nat.le_of_ble_eq_true rfl⟩) ⟨fn_blind, va_recv hK.1 hP (ci := 0) (q0 := 0) rfl rfl, hp⟩ rfl rfl hl.1 rfl (lv_room (Nat.le_of_ble_eq_true rfl)) dX0_searchLoosest_45 ⟨Nat.le_of_ble_eq_true rfl, Nat.le_of_ble_eq_true rfl⟩) (fun r45 u45 H locs hwu45 hP hD hS => ?_)
          obtain ⟨u45a, u45b⟩ := u45
          obtain ⟨kr45, rfl, hkr45, -⟩ := hwu45
          have hP : va_P D vwCl [(t, .inr (0, oX0 t_q t_x0 t_x1 t_x2 t_x6 t_x7 t_x8 t_x9 f24_t_10 f24_t_11)), ((t_q 3), .inl (K 0, 24, .inl (fun j => iI (t_3_c j)))), ((t_q 4), .inl (K 0, 24, .inl (fun j => iI (t_4_c j)))), ((t_q 5), .inl (K 0, 24, .inl (fun j => iI (t_5_c j))))] H := hP
          have hD : va_D A [(t, .inr (0, oX0 t_q t_x0 t_x1 t_x2 t_x6 t_x7 t_x8 t_x9 f24_t_10 f24_t_11)), ((t_q 3), .inl (K 0, 24, .inl (fun j => iI (t_3_c j)))), ((t_q 4), .inl (K 0, 24, .inl (fun j => iI (t_4_c j)))), ((t_q 5), .inl (K 0, 24, .inl (fun j => iI (t_5_c j))))] := hD
          refine lv_istore (lv' := [(4, .int (iI kr45)), (0, .ref t), (1, .int (iI p1)), (2, .int (iI x24_2)), (3, .int (iI x24_3))]) hx hb dX0_searchLoosest_48 hl (by decide) rfl (fun ls hl => ?_)
          refine lv_iload hx hb dX0_searchLoosest_50 (lv_at hl 0 rfl) ?_
          refine lv_aload_n hx hb dX0_searchLoosest_52 rfl (lv_at hl 1 rfl) ?_
          refine va_get (D := D) (own := RX0) (ci := 0) (v := .int (iI f24_t_10)) (C := RX0) (T := TX0) (N := 12) hx hb hts inb_X0 hown hK.1 hP 0 rfl rfl 10 (by decide) (hts _ wd_277) (fun _ h9 => h9) rfl dX0_searchLoosest_53 ?_
          refine g_icmp_ge (tgt := 70) hx hb (by omega) (by omega) dX0_searchLoosest_56 (by decide) (fun c56 => ?_) (fun c56 => ?_)
          · exact J70 kr45 f24_t_10 f24_t_11 _ _ ls (by omega) (hP.sub [0, 1, 2, 3] rfl) (hD.sub [0, 1, 2, 3] (by decide) rfl) hS (lv_sub hl [1, 2, 3, 4, 0] rfl)
          · refine lv_aload_n hx hb dX0_searchLoosest_59 rfl (lv_at hl 1 rfl) ?_
            refine lv_iload hx hb dX0_searchLoosest_60 (lv_at hl 0 rfl) ?_
            refine fn_at 62 rfl ?_
            refine va_put (D := D) (own := RX0) (ci := 0) (v := .int (iI kr45)) (ty := .int) (C := RX0) (T := TX0) (N := 12) hx hb hts inb_X0 tyX0 tyX0_ok nmX0 hown hK.1 hP hD hS 0 rfl rfl 10 (by decide) (hts _ wd_277) (fun _ h9 => h9) rfl (by decide +kernel) rfl rfl (Nat.le_of_ble_eq_true rfl) dX0_searchLoosest_62 (fun H locs hP hD hS => ?_)
            have hP : va_P D vwCl [(t, .inr (0, oX0 t_q t_x0 t_x1 t_x2 t_x6 t_x7 t_x8 t_x9 kr45 f24_t_11)), ((t_q 3), .inl (K 0, 24, .inl (fun j => iI (t_3_c j)))), ((t_q 4), .inl (K 0, 24, .inl (fun j => iI (t_4_c j)))), ((t_q 5), .inl (K 0, 24, .inl (fun j => iI (t_5_c j))))] H := hP
            have hD : va_D A [(t, .inr (0, oX0 t_q t_x0 t_x1 t_x2 t_x6 t_x7 t_x8 t_x9 kr45 f24_t_11)), ((t_q 3), .inl (K 0, 24, .inl (fun j => iI (t_3_c j)))), ((t_q 4), .inl (K 0, 24, .inl (fun j => iI (t_4_c j)))), ((t_q 5), .inl (K 0, 24, .inl (fun j => iI (t_5_c j))))] := hD
            refine lv_aload_n hx hb dX0_searchLoosest_65 rfl (lv_at hl 1 rfl) ?_
            refine lv_iload_n hx hb dX0_searchLoosest_66 rfl (lv_at hl 4 rfl) ?_
            refine va_put (D := D) (own := RX0) (ci := 0) (v := .int (iI x24_3)) (ty := .int) (C := RX0) (T := TX0) (N := 12) hx hb hts inb_X0 tyX0 tyX0_ok nmX0 hown hK.1 hP hD hS 0 rfl rfl 11 (by decide) (hts _ wd_279) (fun _ h9 => h9) rfl (by decide +kernel) rfl rfl (Nat.le_of_ble_eq_true rfl) dX0_searchLoosest_67 (fun H locs hP hD hS => ?_)
            have hP : va_P D vwCl [(t, .inr (0, oX0 t_q t_x0 t_x1 t_x2 t_x6 t_x7 t_x8 t_x9 kr45 x24_3)), ((t_q 3), .inl (K 0, 24, .inl (fun j => iI (t_3_c j)))), ((t_q 4), .inl (K 0, 24, .inl (fun j => iI (t_4_c j)))), ((t_q 5), .inl (K 0, 24, .inl (fun j => iI (t_5_c j))))] H := hP
            have hD : va_D A [(t, .inr (0, oX0 t_q t_x0 t_x1 t_x2 t_x6 t_x7 t_x8 t_x9 kr45 x24_3)), ((t_q 3), .inl (K 0, 24, .inl (fun j => iI (t_3_c j)))), ((t_q 4), .inl (K 0, 24, .inl (fun j => iI (t_4_c j)))), ((t_q 5), .inl (K 0, 24, .inl (fun j => iI (t_5_c j))))] := hD
            exact J70 kr45 kr45 x24_3 _ _ ls (by omega) (hP.sub [0, 1, 2, 3] rfl) (hD.sub [0, 1, 2, 3] (by decide) rfl) hS (lv_sub hl [1, 2, 3, 4, 0] rfl)
  have hl : lv_has ls 5 [(0, .ref t), (1, .int (iI p1))] := hl
  refine lv_iload_n hx hb dX0_searchLoosest_0 rfl (lv_at hl 1 rfl) ?_
  refine lv_aload_n hx hb dX0_searchLoosest_1 rfl (lv_at hl 0 rfl) ?_
  refine va_get (D := D) (own := RX0) (ci := 0) (v := .int (iI t_x1)) (C := RX0) (T := TX0) (N := 12) hx hb hts inb_X0 hown hK.1 hP 0 rfl rfl 1 (by decide) (hts _ wd_264) (fun _ h9 => h9) rfl dX0_searchLoosest_2 ?_
  have y2_1 : 0 ≤ t_x1 ∧ t_x1 ≤ 4095 := hi_t.2.1
  refine lv_ior hx hb dX0_searchLoosest_5 ?_
  obtain ⟨w5, ew5, hw5⟩ := iI_or 12 p1 t_x1 (by omega) (by omega) (by decide)
  refine fn_top (iI w5) ew5 ?_
  refine lv_istore_n (lv' := [(2, .int (iI w5)), (0, .ref t), (1, .int (iI p1))]) hx hb dX0_searchLoosest_6 rfl hl (by decide) rfl (fun ls hl => ?_)
  refine lv_aload_n hx hb dX0_searchLoosest_7 rfl (lv_at hl 1 rfl) ?_
  refine lv_aload_n hx hb dX0_searchLoosest_8 rfl (lv_at hl 1 rfl) ?_
  refine va_get (D := D) (own := RX0) (ci := 0) (v := .int (iI t_x2)) (C := RX0) (T := TX0) (N := 12) hx hb hts inb_X0 hown hK.1 hP 0 rfl rfl 2 (by decide) (hts _ wd_265) (fun _ h9 => h9) rfl dX0_searchLoosest_9 ?_
  have y9_2 : 0 ≤ t_x2 ∧ t_x2 ≤ 24 := hi_t.2.2.1
  refine lv_iconst (v := iI 1) hx hb dX0_searchLoosest_12 rfl ?_
  refine g_iadd hx hb dX0_searchLoosest_13 ?_
  refine va_put (D := D) (own := RX0) (ci := 0) (v := .int (iI (t_x2 + 1))) (ty := .int) (C := RX0) (T := TX0) (N := 12) hx hb hts inb_X0 tyX0 tyX0_ok nmX0 hown hK.1 hP hD hS 0 rfl rfl 10 (by decide) (hts _ wd_277) (fun _ h9 => h9) rfl (by decide +kernel) rfl rfl (Nat.le_of_ble_eq_true rfl) dX0_searchLoosest_14 (fun H locs hP hD hS => ?_)
  have hP : va_P D vwCl [(t, .inr (0, oX0 t_q t_x0 t_x1 t_x2 t_x6 t_x7 t_x8 t_x9 (t_x2 + 1) t_x11)), ((t_q 3), .inl (K 0, 24, .inl (fun j => iI (t_3_c j)))), ((t_q 4), .inl (K 0, 24, .inl (fun j => iI (t_4_c j)))), ((t_q 5), .inl (K 0, 24, .inl (fun j => iI (t_5_c j))))] H := hP
  have hD : va_D A [(t, .inr (0, oX0 t_q t_x0 t_x1 t_x2 t_x6 t_x7 t_x8 t_x9 (t_x2 + 1) t_x11)), ((t_q 3), .inl (K 0, 24, .inl (fun j => iI (t_3_c j)))), ((t_q 4), .inl (K 0, 24, .inl (fun j => iI (t_4_c j)))), ((t_q 5), .inl (K 0, 24, .inl (fun j => iI (t_5_c j))))] := hD
  refine lv_aload_n hx hb dX0_searchLoosest_17 rfl (lv_at hl 1 rfl) ?_
  refine lv_iload_n hx hb dX0_searchLoosest_18 rfl (lv_at hl 0 rfl) ?_
  refine va_put (D := D) (own := RX0) (ci := 0) (v := .int (iI w5)) (ty := .int) (C := RX0) (T := TX0) (N := 12) hx hb hts inb_X0 tyX0 tyX0_ok nmX0 hown hK.1 hP hD hS 0 rfl rfl 11 (by decide) (hts _ wd_279) (fun _ h9 => h9) rfl (by decide +kernel) rfl rfl (Nat.le_of_ble_eq_true rfl) dX0_searchLoosest_19 (fun H locs hP hD hS => ?_)
  have hP : va_P D vwCl [(t, .inr (0, oX0 t_q t_x0 t_x1 t_x2 t_x6 t_x7 t_x8 t_x9 (t_x2 + 1) w5)), ((t_q 3), .inl (K 0, 24, .inl (fun j => iI (t_3_c j)))), ((t_q 4), .inl (K 0, 24, .inl (fun j => iI (t_4_c j)))), ((t_q 5), .inl (K 0, 24, .inl (fun j => iI (t_5_c j))))] H := hP
  have hD : va_D A [(t, .inr (0, oX0 t_q t_x0 t_x1 t_x2 t_x6 t_x7 t_x8 t_x9 (t_x2 + 1) w5)), ((t_q 3), .inl (K 0, 24, .inl (fun j => iI (t_3_c j)))), ((t_q 4), .inl (K 0, 24, .inl (fun j => iI (t_4_c j)))), ((t_q 5), .inl (K 0, 24, .inl (fun j => iI (t_5_c j))))] := hD
  refine lv_iload_n hx hb dX0_searchLoosest_22 rfl (lv_at hl 0 rfl) ?_
  refine lv_istore_n (lv' := [(3, .int (iI w5)), (2, .int (iI w5)), (0, .ref t), (1, .int (iI p1))]) hx hb dX0_searchLoosest_23 rfl hl (by decide) rfl (fun ls hl => ?_)
  exact J24 _ w5 w5 (t_x2 + 1) w5 _ _ ls (Nat.lt_succ_self _) (by omega) (hP.sub [0, 1, 2, 3] rfl) (hD.sub [0, 1, 2, 3] (by decide) rfl) hS (lv_sub hl [2, 3, 1, 0] rfl)
theorem dJ7_fill_53178_5 : decode cJ7_fill_53178 5 = .ok (.iload_n 2, 1) := by decide +kernel
theorem dJ7_fill_53178_6 : decode cJ7_fill_53178 6 = .ok (.iload_n 3, 1) := by decide +kernel
theorem dJ7_fill_53178_7 : decode cJ7_fill_53178 7 = .ok (.if_icmp .ge 13, 3) := by decide +kernel
theorem dJ7_fill_53178_20 : decode cJ7_fill_53178 20 = .ok (.return_, 1) := by decide +kernel
theorem dJ7_fill_53178_10 : decode cJ7_fill_53178 10 = .ok (.aload_n 0, 1) := by decide +kernel
theorem dJ7_fill_53178_11 : decode cJ7_fill_53178 11 = .ok (.iload_n 2, 1) := by decide +kernel
theorem dJ7_fill_53178_12 : decode cJ7_fill_53178 12 = .ok (.iload_n 1, 1) := by decide +kernel
theorem dJ7_fill_53178_13 : decode cJ7_fill_53178 13 = .ok (.iastore, 1) := by decide +kernel
theorem dJ7_fill_53178_14 : decode cJ7_fill_53178 14 = .ok (.iinc 2 1, 3) := by decide +kernel
theorem dJ7_fill_53178_17 : decode cJ7_fill_53178 17 = .ok (.goto (-12), 3) := by decide +kernel
theorem dJ7_fill_53178_0 : decode cJ7_fill_53178 0 = .ok (.iconst 0, 1) := by decide +kernel
theorem dJ7_fill_53178_1 : decode cJ7_fill_53178 1 = .ok (.istore_n 2, 1) := by decide +kernel
theorem dJ7_fill_53178_2 : decode cJ7_fill_53178 2 = .ok (.aload_n 0, 1) := by decide +kernel
theorem dJ7_fill_53178_3 : decode cJ7_fill_53178 3 = .ok (.arraylength, 1) := by decide +kernel
theorem dJ7_fill_53178_4 : decode cJ7_fill_53178 4 = .ok (.istore_n 3, 1) := by decide +kernel
set_option maxHeartbeats 4000000 in
set_option maxRecDepth 100000 in
theorem k_J7_fill_53178 (l : Launch) (D : va_G) (K : Nat → ClassId) (a1 a1_n : Nat) (p2 : Int) (a1_c : Nat → Int) (hp2 : (-2147483648) ≤ p2 ∧ p2 ≤ 2147483647) (hc_a1 : ∀ j : Nat, (-2147483648) ≤ a1_c j ∧ a1_c j ≤ 2147483647) (hn_a1 : a1_n < 2147483648) : fn_CV (S := (Nat → Int) × (Nat → Nat → Int)) l D K yJ7_fill_53178 (fn_ws yJ7_fill_53178 cJ7_fill_53178 4 none) ({ frames := 4, cells := 0, slots := 0, locals := 100 } : Room) [.ref a1, .int (iI p2)] [(a1, .inl (K 0, a1_n, .inl (fun j => iI (a1_c j))))] (fun u => (∀ j : Nat, (u.2 0) j = p2 ∨ (u.2 0) j = a1_c j) ∧ (∀ j : Nat, (-2147483648) ≤ (u.2 0) j ∧ (u.2 0) j ≤ 2147483647) ∧ True) (fun u => [(a1, .inl (K 0, a1_n, .inl (fun j => iI ((u.2 0) j))))]) 0 0 := by
  refine g_inV (cc := cJ7_fill_53178) (maxL := 4) (ret := none) (by decide) rfl (Nat.le_of_ble_eq_true rfl) ?_
  intro p e s m below meth c A ls ag Q B hA hP hD hS hl hQ
  obtain ⟨hx, hb, hr, hml, hts, hown, hlocks, hin, hK⟩ := B
  have hown : s.vm.findClass RJ7 = some m.cls := hown
  have hts := fun w h => hts w (List.mem_cons_of_mem _ h)
  have J5 : ∀ (n : Nat) (x5_2 : Int) (c5_a1 : Nat → Int) (H : Heap) (locs : List Loc) (ls : Array Slot), ((a1_n : Int) - x5_2).toNat < n → (0 ≤ x5_2 ∧ x5_2 ≤ 2147483647 ∧ x5_2 ≤ (a1_n : Int)) → (∀ j : Nat, c5_a1 j = p2 ∨ c5_a1 j = a1_c j) → (∀ j : Nat, (-2147483648) ≤ c5_a1 j ∧ c5_a1 j ≤ 2147483647) → va_P D vwCl [(a1, .inl (K 0, a1_n, .inl (fun j => iI (c5_a1 j))))] H → va_D A [(a1, .inl (K 0, a1_n, .inl (fun j => iI (c5_a1 j))))] → va_S A s.heap H locs → lv_has ls 4 [(0, .ref a1), (1, .int (iI p2)), (2, .int (iI x5_2)), (3, .int (iI (a1_n : Int)))] → W p l e ({ frames := 4, cells := 0, slots := 0, locals := 100 } : Room) s m ag below meth c H locs 0 0 Q (F0 m 5 ls []) := by
    intro n
    induction n with
    | zero =>
      intro x5_2 c5_a1 H locs ls hm5 hf5 f hc5_a1 hP hD hS hl
      exact absurd hm5 (Nat.not_lt_zero _)
    | succ n ih5 =>
      intro x5_2 c5_a1 H locs ls hm5 hf5 f hc5_a1 hP hD hS hl
      refine lv_iload_n hx hb dJ7_fill_53178_5 rfl (lv_at hl 2 rfl) ?_
      refine lv_iload_n hx hb dJ7_fill_53178_6 rfl (lv_at hl 3 rfl) ?_
      refine g_icmp_ge (tgt := 20) hx hb (by omega) (by omega) dJ7_fill_53178_7 (by decide) (fun c7 => ?_) (fun c7 => ?_)
      · rw [hQ]; exact fn_vret hx hb hr hlocks hP hD hS ((fun _ => 0), (fun k => ([c5_a1] : List (Nat → Int)).getD k (fun _ => 0))) ⟨(show ∀ j : Nat, c5_a1 j = p2 ∨ c5_a1 j = a1_c j from by assumption), (hc5_a1), trivial⟩ [0] (by decide) rfl dJ7_fill_53178_20
      · refine lv_aload_n hx hb dJ7_fill_53178_10 rfl (lv_at hl 0 rfl) ?_
        refine lv_iload_n hx hb dJ7_fill_53178_11 rfl (lv_at hl 2 rfl) ?_
        refine lv_iload_n hx hb dJ7_fill_53178_12 rfl (lv_at hl 1 rfl) ?_
        refine g_iast hx hb hK.1 hP hD hS 0 0 rfl rfl (by omega) (by omega) hn_a1 dJ7_fill_53178_13 (fun H locs g13 eg13 hP hD hS => ?_)
        have hg13 : ∀ j : Nat, (-2147483648) ≤ g13 j ∧ g13 j ≤ 2147483647 := by rw [eg13]; exact uI_all hc5_a1 (by omega)
        have hP : va_P D vwCl [(a1, .inl (K 0, a1_n, .inl (fun j => iI (g13 j))))] H := hP
        have hD : va_D A [(a1, .inl (K 0, a1_n, .inl (fun j => iI (g13 j))))] := hD
        refine lv_iinc (v := iI (x5_2 + 1)) (lv' := [(2, .int (iI (x5_2 + 1))), (0, .ref a1), (1, .int (iI p2)), (3, .int (iI (a1_n : Int)))]) hx hb dJ7_fill_53178_14 hl (k := 2) rfl (iI_add _ _) (by decide) rfl (fun ls hl => ?_)
        refine lv_goto (tgt := 5) hx hb dJ7_fill_53178_17 (by decide) ?_
        exact ih5 (x5_2 + 1) g13 _ _ ls (by omega) (by omega) (show ∀ j : Nat, g13 j = p2 ∨ g13 j = a1_c j from by first | assumption | exact fun j => Or.inr rfl | (intro j; rw [eg13]; unfold uI; split; exact Or.inl rfl; exact f j)) hg13 (hP.sub [0] rfl) (hD.sub [0] (by decide) rfl) hS (lv_sub hl [1, 2, 0, 3] rfl)
  have hl : lv_has ls 4 [(0, .ref a1), (1, .int (iI p2))] := hl
  refine lv_iconst (v := iI 0) hx hb dJ7_fill_53178_0 rfl ?_
  refine lv_istore_n (lv' := [(2, .int (iI 0)), (0, .ref a1), (1, .int (iI p2))]) hx hb dJ7_fill_53178_1 rfl hl (by decide) rfl (fun ls hl => ?_)
  refine lv_aload_n hx hb dJ7_fill_53178_2 rfl (lv_at hl 1 rfl) ?_
  refine va_alen (v := iI (a1_n : Int)) hx hb hK.1 hP 0 0 rfl rfl (iI_nat hn_a1) dJ7_fill_53178_3 ?_
  refine lv_istore_n (lv' := [(3, .int (iI (a1_n : Int))), (2, .int (iI 0)), (0, .ref a1), (1, .int (iI p2))]) hx hb dJ7_fill_53178_4 rfl hl (by decide) rfl (fun ls hl => ?_)
  exact J5 _ 0 a1_c _ _ ls (Nat.lt_succ_self _) (by omega) (show ∀ j : Nat, a1_c j = p2 ∨ a1_c j = a1_c j from by first | assumption | exact fun j => Or.inr rfl | (intro j; rw [eg13]; unfold uI; split; exact Or.inl rfl; exact f j)) hc_a1 (hP.sub [0] rfl) (hD.sub [0] (by decide) rfl) hS (lv_sub hl [2, 3, 1, 0] rfl)
theorem wd_385 : Cond.fieldLink "FootNotes$Ledger" 9 "FootNotes$Ledger" "purse" "[I" ∈ fn_big := fn_tb (fn_l2 (List.mem_of_getElem? (i := 145) (by decide +kernel))) (by decide +kernel)
theorem wd_387 : Cond.fieldLink "FootNotes$Ledger" 15 "FootNotes$Ledger" "parts" "[I" ∈ fn_big := fn_tb (fn_l2 (List.mem_of_getElem? (i := 147) (by decide +kernel))) (by decide +kernel)
theorem wd_646 : Cond.code ⟨"java/util/Arrays", "fill", "([II)V"⟩ prog_21_method_103_code 4 (Option.none : Option Jvm.ClassFile.FieldType) ∈ fn_big := fn_tb (fn_l3 (List.mem_of_getElem? (i := 166) (by decide +kernel))) (by decide +kernel)
theorem wd_20 : Cond.initialized "java/util/Arrays" ∈ fn_big := fn_tb (fn_l1 (List.mem_of_getElem? (i := 20) (by decide +kernel))) (by decide +kernel)
theorem wd_1078 : Cond.methodLink "FootNotes$Ledger" 24 ⟨"java/util/Arrays", "fill", "([II)V"⟩ ∈ fn_big := fn_tb (fn_l5 (List.mem_of_getElem? (i := 118) (by decide +kernel))) (by decide +kernel)
theorem wd_645 : Cond.static ⟨"java/util/Arrays", "fill", "([II)V"⟩ ∈ fn_big := fn_tb (fn_l3 (List.mem_of_getElem? (i := 165) (by decide +kernel))) (by decide +kernel)
theorem dX1_open_52 : decode cX1_open 52 = .ok (.iinc 3 1, 3) := by decide +kernel
theorem dX1_open_55 : decode cX1_open 55 = .ok (.goto (-35), 3) := by decide +kernel
theorem dX1_open_20 : decode cX1_open 20 = .ok (.iload_n 3, 1) := by decide +kernel
theorem dX1_open_21 : decode cX1_open 21 = .ok (.aload_n 1, 1) := by decide +kernel
theorem dX1_open_22 : decode cX1_open 22 = .ok (.getfield 30, 3) := by decide +kernel
theorem dX1_open_25 : decode cX1_open 25 = .ok (.if_icmp .ge 33, 3) := by decide +kernel
theorem dX1_open_58 : decode cX1_open 58 = .ok (.return_, 1) := by decide +kernel
theorem dX1_open_28 : decode cX1_open 28 = .ok (.aload_n 2, 1) := by decide +kernel
theorem dX1_open_29 : decode cX1_open 29 = .ok (.getfield 36, 3) := by decide +kernel
theorem dX1_open_32 : decode cX1_open 32 = .ok (.iload_n 3, 1) := by decide +kernel
theorem dX1_open_33 : decode cX1_open 33 = .ok (.iaload, 1) := by decide +kernel
theorem dX1_open_34 : decode cX1_open 34 = .ok (.ifCond .lt 18, 3) := by decide +kernel
theorem dX1_open_37 : decode cX1_open 37 = .ok (.aload_n 0, 1) := by decide +kernel
theorem dX1_open_38 : decode cX1_open 38 = .ok (.getfield 15, 3) := by decide +kernel
theorem dX1_open_41 : decode cX1_open 41 = .ok (.aload_n 1, 1) := by decide +kernel
theorem dX1_open_42 : decode cX1_open 42 = .ok (.getfield 41, 3) := by decide +kernel
theorem dX1_open_45 : decode cX1_open 45 = .ok (.iload_n 3, 1) := by decide +kernel
theorem dX1_open_46 : decode cX1_open 46 = .ok (.iaload, 1) := by decide +kernel
theorem dX1_open_47 : decode cX1_open 47 = .ok (.dup2, 1) := by decide +kernel
theorem dX1_open_48 : decode cX1_open 48 = .ok (.iaload, 1) := by decide +kernel
theorem dX1_open_49 : decode cX1_open 49 = .ok (.iconst 1, 1) := by decide +kernel
theorem dX1_open_50 : decode cX1_open 50 = .ok (.iadd, 1) := by decide +kernel
theorem dX1_open_51 : decode cX1_open 51 = .ok (.iastore, 1) := by decide +kernel
theorem dX1_open_0 : decode cX1_open 0 = .ok (.aload_n 0, 1) := by decide +kernel
theorem dX1_open_1 : decode cX1_open 1 = .ok (.getfield 9, 3) := by decide +kernel
theorem dX1_open_4 : decode cX1_open 4 = .ok (.sipush 1000, 3) := by decide +kernel
theorem dX1_open_7 : decode cX1_open 7 = .ok (.invokestatic 24, 3) := by decide +kernel
theorem dX1_open_10 : decode cX1_open 10 = .ok (.aload_n 0, 1) := by decide +kernel
theorem dX1_open_11 : decode cX1_open 11 = .ok (.getfield 15, 3) := by decide +kernel
theorem dX1_open_14 : decode cX1_open 14 = .ok (.iconst 0, 1) := by decide +kernel
theorem dX1_open_15 : decode cX1_open 15 = .ok (.invokestatic 24, 3) := by decide +kernel
theorem dX1_open_18 : decode cX1_open 18 = .ok (.iconst 0, 1) := by decide +kernel
theorem dX1_open_19 : decode cX1_open 19 = .ok (.istore_n 3, 1) := by decide +kernel
set_option maxHeartbeats 4000000 in
set_option maxRecDepth 100000 in
theorem k_X1_open (l : Launch) (D : va_G) (K : Nat → ClassId) (t a1 a2 : Nat) (t_q a1_q a2_q : Nat → Nat) (a1_x0 a1_x1 a1_x2 a1_x3 a1_x4 a1_x5 a1_x6 a1_x7 a1_x8 a2_x0 a2_x1 a2_x6 : Int) (t_0_c : Nat → Int) (t_1_c : Nat → Int) (a2_3_c : Nat → Int) (a1_12_c : Nat → Int) (hc_t_0 : ∀ j : Nat, (-2147483648) ≤ t_0_c j ∧ t_0_c j ≤ 2147483647) (hc_t_1 : ∀ j : Nat, (-2147483648) ≤ t_1_c j ∧ t_1_c j ≤ 2147483647) (hi_a1 : bX7 a1_x0 a1_x1 a1_x2 a1_x3 a1_x4 a1_x5 a1_x6 a1_x7 a1_x8) (hi_a2 : bX10 a2_x0 a2_x1 a2_x6) (hc_a2_3 : ∀ j : Nat, (-1) ≤ a2_3_c j ∧ a2_3_c j ≤ 11) (hc_a1_12 : ∀ j : Nat, 0 ≤ a1_12_c j ∧ a1_12_c j ≤ 11) : fn_CV (S := (Nat → Int) × (Nat → Nat → Int)) l D K yX1_open (fn_ws yX1_open cX1_open 4 none) ({ frames := 8, cells := 0, slots := 0, locals := 200 } : Room) [.ref t, .ref a1, .ref a2] [(t, .inr (1, oX1 t_q)), ((t_q 0), .inl (K 0, 12, .inl (fun j => iI (t_0_c j)))), ((t_q 1), .inl (K 0, 12, .inl (fun j => iI (t_1_c j)))), (a1, .inr (7, oX7 a1_q a1_x0 a1_x1 a1_x2 a1_x3 a1_x4 a1_x5 a1_x6 a1_x7 a1_x8)), (a2, .inr (10, oX10 a2_q a2_x0 a2_x1 a2_x6)), ((a2_q 3), .inl (K 0, 24, .inl (fun j => iI (a2_3_c j)))), ((a1_q 12), .inl (K 0, 24, .inl (fun j => iI (a1_12_c j))))] (fun u => (∀ j : Nat, (-2147483648) ≤ (u.2 0) j ∧ (u.2 0) j ≤ 2147483647) ∧ (∀ j : Nat, (-2147483648) ≤ (u.2 1) j ∧ (u.2 1) j ≤ 2147483647) ∧ True) (fun u => [(t, .inr (1, oX1 t_q)), ((t_q 0), .inl (K 0, 12, .inl (fun j => iI ((u.2 0) j)))), ((t_q 1), .inl (K 0, 12, .inl (fun j => iI ((u.2 1) j)))), (a1, .inr (7, oX7 a1_q a1_x0 a1_x1 a1_x2 a1_x3 a1_x4 a1_x5 a1_x6 a1_x7 a1_x8)), (a2, .inr (10, oX10 a2_q a2_x0 a2_x1 a2_x6)), ((a2_q 3), .inl (K 0, 24, .inl (fun j => iI (a2_3_c j)))), ((a1_q 12), .inl (K 0, 24, .inl (fun j => iI (a1_12_c j))))]) 0 0 := by
  refine g_inV (cc := cX1_open) (maxL := 4) (ret := none) (by decide) rfl (Nat.le_of_ble_eq_true rfl) ?_
  intro p e s m below meth c A ls ag Q B hA hP hD hS hl hQ
  obtain ⟨hx, hb, hr, hml, hts, hown, hlocks, hin, hK⟩ := B
  have hown : s.vm.findClass RX1 = some m.cls := hown
  have hts := fun w h => hts w (List.mem_cons_of_mem _ h)
  have J20 : ∀ (n : Nat) (x20_3 : Int) (c20_t_0 : Nat → Int) (c20_t_1 : Nat → Int) (H : Heap) (locs : List Loc) (ls : Array Slot), (24 - x20_3).toNat < n → (0 ≤ x20_3 ∧ x20_3 ≤ 24) → (∀ j : Nat, (-2147483648) ≤ c20_t_0 j ∧ c20_t_0 j ≤ 2147483647) → (∀ j : Nat, (-2147483648) ≤ c20_t_1 j ∧ c20_t_1 j ≤ 2147483647) → va_P D vwCl [(t, .inr (1, oX1 t_q)), ((t_q 0), .inl (K 0, 12, .inl (fun j => iI (c20_t_0 j)))), ((t_q 1), .inl (K 0, 12, .inl (fun j => iI (c20_t_1 j)))), (a1, .inr (7, oX7 a1_q a1_x0 a1_x1 a1_x2 a1_x3 a1_x4 a1_x5 a1_x6 a1_x7 a1_x8)), (a2, .inr (10, oX10 a2_q a2_x0 a2_x1 a2_x6)), ((a2_q 3), .inl (K 0, 24, .inl (fun j => iI (a2_3_c j)))), ((a1_q 12), .inl (K 0, 24, .inl (fun j => iI (a1_12_c j))))] H → va_D A [(t, .inr (1, oX1 t_q)), ((t_q 0), .inl (K 0, 12, .inl (fun j => iI (c20_t_0 j)))), ((t_q 1), .inl (K 0, 12, .inl (fun j => iI (c20_t_1 j)))), (a1, .inr (7, oX7 a1_q a1_x0 a1_x1 a1_x2 a1_x3 a1_x4 a1_x5 a1_x6 a1_x7 a1_x8)), (a2, .inr (10, oX10 a2_q a2_x0 a2_x1 a2_x6)), ((a2_q 3), .inl (K 0, 24, .inl (fun j => iI (a2_3_c j)))), ((a1_q 12), .inl (K 0, 24, .inl (fun j => iI (a1_12_c j))))] → va_S A s.heap H locs → lv_has ls 4 [(0, .ref t), (1, .ref a1), (2, .ref a2), (3, .int (iI x20_3))] → W p l e ({ frames := 8, cells := 0, slots := 0, locals := 200 } : Room) s m ag below meth c H locs 0 0 Q (F0 m 20 ls []) := by
    intro n
    induction n with
    | zero =>
      intro x20_3 c20_t_0 c20_t_1 H locs ls hm20 hf20 hc20_t_0 hc20_t_1 hP hD hS hl
      exact absurd hm20 (Nat.not_lt_zero _)
    | succ n ih20 =>
      intro x20_3 c20_t_0 c20_t_1 H locs ls hm20 hf20 hc20_t_0 hc20_t_1 hP hD hS hl
      have J52 : ∀ (c52_t_1 : Nat → Int) (H : Heap) (locs : List Loc) (ls : Array Slot), (0 ≤ x20_3 ∧ x20_3 ≤ 23 ∧ 1 ≤ a1_x5 ∧ a1_x5 ≤ 24) → (∀ j : Nat, (-2147483648) ≤ c52_t_1 j ∧ c52_t_1 j ≤ 2147483647) → va_P D vwCl [(t, .inr (1, oX1 t_q)), ((t_q 0), .inl (K 0, 12, .inl (fun j => iI (c20_t_0 j)))), ((t_q 1), .inl (K 0, 12, .inl (fun j => iI (c52_t_1 j)))), (a1, .inr (7, oX7 a1_q a1_x0 a1_x1 a1_x2 a1_x3 a1_x4 a1_x5 a1_x6 a1_x7 a1_x8)), (a2, .inr (10, oX10 a2_q a2_x0 a2_x1 a2_x6)), ((a2_q 3), .inl (K 0, 24, .inl (fun j => iI (a2_3_c j)))), ((a1_q 12), .inl (K 0, 24, .inl (fun j => iI (a1_12_c j))))] H → va_D A [(t, .inr (1, oX1 t_q)), ((t_q 0), .inl (K 0, 12, .inl (fun j => iI (c20_t_0 j)))), ((t_q 1), .inl (K 0, 12, .inl (fun j => iI (c52_t_1 j)))), (a1, .inr (7, oX7 a1_q a1_x0 a1_x1 a1_x2 a1_x3 a1_x4 a1_x5 a1_x6 a1_x7 a1_x8)), (a2, .inr (10, oX10 a2_q a2_x0 a2_x1 a2_x6)), ((a2_q 3), .inl (K 0, 24, .inl (fun j => iI (a2_3_c j)))), ((a1_q 12), .inl (K 0, 24, .inl (fun j => iI (a1_12_c j))))] → va_S A s.heap H locs → lv_has ls 4 [(0, .ref t), (1, .ref a1), (2, .ref a2), (3, .int (iI x20_3))] → W p l e ({ frames := 8, cells := 0, slots := 0, locals := 200 } : Room) s m ag below meth c H locs 0 0 Q (F0 m 52 ls []) := by
        intro c52_t_1 H locs ls hf52 hc52_t_1 hP hD hS hl
        refine lv_iinc (v := iI (x20_3 + 1)) (lv' := [(3, .int (iI (x20_3 + 1))), (0, .ref t), (1, .ref a1), (2, .ref a2)]) hx hb dX1_open_52 hl (k := 3) rfl (iI_add _ _) (by decide) rfl (fun ls hl => ?_)
        refine lv_goto (tgt := 20) hx hb dX1_open_55 (by decide) ?_
        exact ih20 (x20_3 + 1) c20_t_0 c52_t_1 _ _ ls (by omega) (by omega) hc20_t_0 hc52_t_1 (hP.sub [0, 1, 2, 3, 4, 5, 6] rfl) (hD.sub [0, 1, 2, 3, 4, 5, 6] (by decide) rfl) hS (lv_sub hl [1, 2, 3, 0] rfl)
      refine lv_iload_n hx hb dX1_open_20 rfl (lv_at hl 3 rfl) ?_
      refine lv_aload_n hx hb dX1_open_21 rfl (lv_at hl 1 rfl) ?_
      refine va_getN (D := D) (own := RX1) (ci := 7) (v := .int (iI a1_x5)) (C := RX7) (T := TX7) (N := 15) hx hb hts inb_X7 hown hK.1 hP 3 rfl rfl 5 (by decide) (hK.nf 24 rfl) (fun _ h9 => h9) rfl dX1_open_22 ?_
      have y22_1 : 0 ≤ a1_x5 ∧ a1_x5 ≤ 24 := hi_a1.2.2.2.2.2.1
      refine g_icmp_ge (tgt := 58) hx hb (by omega) (by omega) dX1_open_25 (by decide) (fun c25 => ?_) (fun c25 => ?_)
      · rw [hQ]; exact fn_vret hx hb hr hlocks hP hD hS ((fun _ => 0), (fun k => ([c20_t_0, c20_t_1] : List (Nat → Int)).getD k (fun _ => 0))) ⟨(hc20_t_0), (hc20_t_1), trivial⟩ [0, 1, 2, 3, 4, 5, 6] (by decide) rfl dX1_open_58
      · refine lv_aload_n hx hb dX1_open_28 rfl (lv_at hl 2 rfl) ?_
        refine va_getN (D := D) (own := RX1) (ci := 10) (v := .ref (a2_q 3)) (C := RX10) (T := TX10) (N := 7) hx hb hts inb_X10 hown hK.1 hP 4 rfl rfl 3 (by decide) (hK.nf 66 rfl) (fun _ h9 => h9) rfl dX1_open_29 ?_
        refine lv_iload_n hx hb dX1_open_32 rfl (lv_at hl 3 rfl) ?_
        refine g_iald hx hb hK.1 hP 5 0 rfl rfl (by omega) (by omega) (by decide) dX1_open_33 ?_
        have y33 : (-1) ≤ (a2_3_c x20_3.toNat) ∧ (a2_3_c x20_3.toNat) ≤ 11 := hc_a2_3 x20_3.toNat
        refine g_if_lt (tgt := 52) hx hb (by omega) dX1_open_34 (by decide) (fun c34 => ?_) (fun c34 => ?_)
        · exact J52 c20_t_1 _ _ ls (by omega) hc20_t_1 (hP.sub [0, 1, 2, 3, 4, 5, 6] rfl) (hD.sub [0, 1, 2, 3, 4, 5, 6] (by decide) rfl) hS (lv_sub hl [0, 1, 2, 3] rfl)
        · refine lv_aload_n hx hb dX1_open_37 rfl (lv_at hl 0 rfl) ?_
          refine va_get (D := D) (own := RX1) (ci := 1) (v := .ref (t_q 1)) (C := RX1) (T := TX1) (N := 4) hx hb hts inb_X1 hown hK.1 hP 0 rfl rfl 1 (by decide) (hts _ wd_387) (fun _ h9 => h9) rfl dX1_open_38 ?_
          refine lv_aload_n hx hb dX1_open_41 rfl (lv_at hl 1 rfl) ?_
          refine va_getN (D := D) (own := RX1) (ci := 7) (v := .ref (a1_q 12)) (C := RX7) (T := TX7) (N := 15) hx hb hts inb_X7 hown hK.1 hP 3 rfl rfl 12 (by decide) (hK.nf 43 rfl) (fun _ h9 => h9) rfl dX1_open_42 ?_
          refine lv_iload_n hx hb dX1_open_45 rfl (lv_at hl 3 rfl) ?_
          refine g_iald hx hb hK.1 hP 6 0 rfl rfl (by omega) (by omega) (by decide) dX1_open_46 ?_
          have y46 : 0 ≤ (a1_12_c x20_3.toNat) ∧ (a1_12_c x20_3.toNat) ≤ 11 := hc_a1_12 x20_3.toNat
          refine lv_dup2_11 hx hb dX1_open_47 rfl rfl ?_
          refine g_iald hx hb hK.1 hP 2 0 rfl rfl (by omega) (by omega) (by decide) dX1_open_48 ?_
          have y48 : (-2147483648) ≤ (c20_t_1 ((a1_12_c x20_3.toNat).toNat)) ∧ (c20_t_1 ((a1_12_c x20_3.toNat).toNat)) ≤ 2147483647 := hc20_t_1 ((a1_12_c x20_3.toNat).toNat)
          refine lv_iconst (v := iI 1) hx hb dX1_open_49 rfl ?_
          refine g_iadd hx hb dX1_open_50 ?_
          refine g_any (fun w50 hw50 ew50 => ?_)
          refine fn_at 51 rfl ?_
          refine g_iast hx hb hK.1 hP hD hS 2 0 rfl rfl (by omega) (by omega) (by decide) dX1_open_51 (fun H locs g51 eg51 hP hD hS => ?_)
          have hg51 : ∀ j : Nat, (-2147483648) ≤ g51 j ∧ g51 j ≤ 2147483647 := by rw [eg51]; exact uI_all hc20_t_1 (by omega)
          have hP : va_P D vwCl [(t, .inr (1, oX1 t_q)), ((t_q 0), .inl (K 0, 12, .inl (fun j => iI (c20_t_0 j)))), ((t_q 1), .inl (K 0, 12, .inl (fun j => iI (g51 j)))), (a1, .inr (7, oX7 a1_q a1_x0 a1_x1 a1_x2 a1_x3 a1_x4 a1_x5 a1_x6 a1_x7 a1_x8)), (a2, .inr (10, oX10 a2_q a2_x0 a2_x1 a2_x6)), ((a2_q 3), .inl (K 0, 24, .inl (fun j => iI (a2_3_c j)))), ((a1_q 12), .inl (K 0, 24, .inl (fun j => iI (a1_12_c j))))] H := hP
          have hD : va_D A [(t, .inr (1, oX1 t_q)), ((t_q 0), .inl (K 0, 12, .inl (fun j => iI (c20_t_0 j)))), ((t_q 1), .inl (K 0, 12, .inl (fun j => iI (g51 j)))), (a1, .inr (7, oX7 a1_q a1_x0 a1_x1 a1_x2 a1_x3 a1_x4 a1_x5 a1_x6 a1_x7 a1_x8)), (a2, .inr (10, oX10 a2_q a2_x0 a2_x1 a2_x6)), ((a2_q 3), .inl (K 0, 24, .inl (fun j => iI (a2_3_c j)))), ((a1_q 12), .inl (K 0, 24, .inl (fun j => iI (a1_12_c j))))] := hD
          exact J52 g51 _ _ ls (by omega) hg51 (hP.sub [0, 1, 2, 3, 4, 5, 6] rfl) (hD.sub [0, 1, 2, 3, 4, 5, 6] (by decide) rfl) hS (lv_sub hl [0, 1, 2, 3] rfl)
  have hl : lv_has ls 4 [(0, .ref t), (1, .ref a1), (2, .ref a2)] := hl
  refine lv_aload_n hx hb dX1_open_0 rfl (lv_at hl 0 rfl) ?_
  refine va_get (D := D) (own := RX1) (ci := 1) (v := .ref (t_q 0)) (C := RX1) (T := TX1) (N := 4) hx hb hts inb_X1 hown hK.1 hP 0 rfl rfl 0 (by decide) (hts _ wd_385) (fun _ h9 => h9) rfl dX1_open_1 ?_
  refine lv_sipush (v := iI 1000) hx hb dX1_open_4 (by decide) ?_
  refine fn_gov (wc := [((t_q 0), .inl (K 0, 12, .inl (fun j => iI (t_0_c j))))]) (wr := [(t, .inr (1, oX1 t_q)), ((t_q 1), .inl (K 0, 12, .inl (fun j => iI (t_1_c j)))), (a1, .inr (7, oX7 a1_q a1_x0 a1_x1 a1_x2 a1_x3 a1_x4 a1_x5 a1_x6 a1_x7 a1_x8)), (a2, .inr (10, oX10 a2_q a2_x0 a2_x1 a2_x6)), ((a2_q 3), .inl (K 0, 24, .inl (fun j => iI (a2_3_c j)))), ((a1_q 12), .inl (K 0, 24, .inl (fun j => iI (a1_12_c j))))]) hK hP hD hS hA [1] [0, 2, 3, 4, 5, 6] rfl rfl (by decide) (fun hp => va_runS (As := [.ref (t_q 0), .int (iI 1000)]) (rest := []) ⟨hx, hb, hml, hown, hts⟩ (k_J7_fill_53178 (l := l) (D := D) (K := K) (a1 := (t_q 0)) (p2 := 1000) (a1_c := t_0_c) (a1_n := 12) (hp2 := (by omega)) (hn_a1 := (by decide)) (hc_a1 := hc_t_0) _) (va_cwS 2 hts (fn_ginS (fn_gin wd_646) wd_1078 wd_645 wd_20) rfl rfl rfl (by decide +kernel) ⟨Nat.le_of_ble_eq_true rfl, Nat.le_of_ble_eq_true rfl⟩) ⟨fn_blind, hp⟩ rfl rfl hl.1 rfl (lv_room (Nat.le_of_ble_eq_true rfl)) dX1_open_7 ⟨Nat.le_of_ble_eq_true rfl, Nat.le_of_ble_eq_true rfl⟩) (fun u7 H locs hwu7 hP hD hS => ?_)
  obtain ⟨u7a, u7b⟩ := u7
  obtain ⟨hqu7_f0, hu7_00, -⟩ := hwu7
  have hqu7_f : ∀ j : Nat, (u7b 0) j = (1000 : Int) ∨ (u7b 0) j = t_0_c j := hqu7_f0
  have hu7_0 : ∀ j : Nat, (-2147483648) ≤ (u7b 0) j ∧ (u7b 0) j ≤ 2147483647 := hu7_00
  clear hqu7_f0 hu7_00
  have hu7_0 : ∀ j : Nat, (-2147483648) ≤ (u7b 0) j ∧ (u7b 0) j ≤ 2147483647 := (fun j => by have h9 := hqu7_f j; have h8 := hc_t_0 j; omega)
  have hP : va_P D vwCl [(t, .inr (1, oX1 t_q)), ((t_q 1), .inl (K 0, 12, .inl (fun j => iI (t_1_c j)))), (a1, .inr (7, oX7 a1_q a1_x0 a1_x1 a1_x2 a1_x3 a1_x4 a1_x5 a1_x6 a1_x7 a1_x8)), (a2, .inr (10, oX10 a2_q a2_x0 a2_x1 a2_x6)), ((a2_q 3), .inl (K 0, 24, .inl (fun j => iI (a2_3_c j)))), ((a1_q 12), .inl (K 0, 24, .inl (fun j => iI (a1_12_c j)))), ((t_q 0), .inl (K 0, 12, .inl (fun j => iI ((u7b 0) j))))] H := hP
  have hD : va_D A [(t, .inr (1, oX1 t_q)), ((t_q 1), .inl (K 0, 12, .inl (fun j => iI (t_1_c j)))), (a1, .inr (7, oX7 a1_q a1_x0 a1_x1 a1_x2 a1_x3 a1_x4 a1_x5 a1_x6 a1_x7 a1_x8)), (a2, .inr (10, oX10 a2_q a2_x0 a2_x1 a2_x6)), ((a2_q 3), .inl (K 0, 24, .inl (fun j => iI (a2_3_c j)))), ((a1_q 12), .inl (K 0, 24, .inl (fun j => iI (a1_12_c j)))), ((t_q 0), .inl (K 0, 12, .inl (fun j => iI ((u7b 0) j))))] := hD
  refine lv_aload_n hx hb dX1_open_10 rfl (lv_at hl 0 rfl) ?_
  refine va_get (D := D) (own := RX1) (ci := 1) (v := .ref (t_q 1)) (C := RX1) (T := TX1) (N := 4) hx hb hts inb_X1 hown hK.1 hP 0 rfl rfl 1 (by decide) (hts _ wd_387) (fun _ h9 => h9) rfl dX1_open_11 ?_
  refine lv_iconst (v := iI 0) hx hb dX1_open_14 rfl ?_
  refine fn_gov (wc := [((t_q 1), .inl (K 0, 12, .inl (fun j => iI (t_1_c j))))]) (wr := [(t, .inr (1, oX1 t_q)), (a1, .inr (7, oX7 a1_q a1_x0 a1_x1 a1_x2 a1_x3 a1_x4 a1_x5 a1_x6 a1_x7 a1_x8)), (a2, .inr (10, oX10 a2_q a2_x0 a2_x1 a2_x6)), ((a2_q 3), .inl (K 0, 24, .inl (fun j => iI (a2_3_c j)))), ((a1_q 12), .inl (K 0, 24, .inl (fun j => iI (a1_12_c j)))), ((t_q 0), .inl (K 0, 12, .inl (fun j => iI ((u7b 0) j))))]) hK hP hD hS hA [1] [0, 2, 3, 4, 5, 6] rfl rfl (by decide) (fun hp => va_runS (As := [.ref (t_q 1), .int (iI 0)]) (rest := []) ⟨hx, hb, hml, hown, hts⟩ (k_J7_fill_53178 (l := l) (D := D) (K := K) (a1 := (t_q 1)) (p2 := 0) (a1_c := t_1_c) (a1_n := 12) (hp2 := (by omega)) (hn_a1 := (by decide)) (hc_a1 := hc_t_1) _) (va_cwS 2 hts (fn_ginS (fn_gin wd_646) wd_1078 wd_645 wd_20) rfl rfl rfl (by decide +kernel) ⟨Nat.le_of_ble_eq_true rfl, Nat.le_of_ble_eq_true rfl⟩) ⟨fn_blind, hp⟩ rfl rfl hl.1 rfl (lv_room (Nat.le_of_ble_eq_true rfl)) dX1_open_15 ⟨Nat.le_of_ble_eq_true rfl, Nat.le_of_ble_eq_true rfl⟩) (fun u15 H locs hwu15 hP hD hS => ?_)
  obtain ⟨u15a, u15b⟩ := u15
  obtain ⟨hqu15_f0, hu15_00, -⟩ := hwu15
  have hqu15_f : ∀ j : Nat, (u15b 0) j = (0 : Int) ∨ (u15b 0) j = t_1_c j := hqu15_f0
  have hu15_0 : ∀ j : Nat, (-2147483648) ≤ (u15b 0) j ∧ (u15b 0) j ≤ 2147483647 := hu15_00
  clear hqu15_f0 hu15_00
  have hu15_0 : ∀ j : Nat, (-2147483648) ≤ (u15b 0) j ∧ (u15b 0) j ≤ 2147483647 := (fun j => by have h9 := hqu15_f j; have h8 := hc_t_1 j; omega)
  have hP : va_P D vwCl [(t, .inr (1, oX1 t_q)), (a1, .inr (7, oX7 a1_q a1_x0 a1_x1 a1_x2 a1_x3 a1_x4 a1_x5 a1_x6 a1_x7 a1_x8)), (a2, .inr (10, oX10 a2_q a2_x0 a2_x1 a2_x6)), ((a2_q 3), .inl (K 0, 24, .inl (fun j => iI (a2_3_c j)))), ((a1_q 12), .inl (K 0, 24, .inl (fun j => iI (a1_12_c j)))), ((t_q 0), .inl (K 0, 12, .inl (fun j => iI ((u7b 0) j)))), ((t_q 1), .inl (K 0, 12, .inl (fun j => iI ((u15b 0) j))))] H := hP
  have hD : va_D A [(t, .inr (1, oX1 t_q)), (a1, .inr (7, oX7 a1_q a1_x0 a1_x1 a1_x2 a1_x3 a1_x4 a1_x5 a1_x6 a1_x7 a1_x8)), (a2, .inr (10, oX10 a2_q a2_x0 a2_x1 a2_x6)), ((a2_q 3), .inl (K 0, 24, .inl (fun j => iI (a2_3_c j)))), ((a1_q 12), .inl (K 0, 24, .inl (fun j => iI (a1_12_c j)))), ((t_q 0), .inl (K 0, 12, .inl (fun j => iI ((u7b 0) j)))), ((t_q 1), .inl (K 0, 12, .inl (fun j => iI ((u15b 0) j))))] := hD
  refine lv_iconst (v := iI 0) hx hb dX1_open_18 rfl ?_
  refine lv_istore_n (lv' := [(3, .int (iI 0)), (0, .ref t), (1, .ref a1), (2, .ref a2)]) hx hb dX1_open_19 rfl hl (by decide) rfl (fun ls hl => ?_)
  exact J20 _ 0 (u7b 0) (u15b 0) _ _ ls (Nat.lt_succ_self _) (by omega) hu7_0 hu15_0 (hP.sub [0, 5, 6, 1, 2, 3, 4] rfl) (hD.sub [0, 5, 6, 1, 2, 3, 4] (by decide) rfl) hS (lv_sub hl [1, 2, 3, 0] rfl)
theorem wd_388 : Cond.fieldLink "FootNotes$Ledger" 18 "FootNotes$Ledger" "share" "[I" ∈ fn_big := fn_tb (fn_l2 (List.mem_of_getElem? (i := 148) (by decide +kernel))) (by decide +kernel)
theorem wd_389 : Cond.fieldLink "FootNotes$Ledger" 21 "FootNotes$Ledger" "gain" "[I" ∈ fn_big := fn_tb (fn_l2 (List.mem_of_getElem? (i := 149) (by decide +kernel))) (by decide +kernel)
theorem dX1_roundChanges_165 : decode cX1_roundChanges 165 = .ok (.ior, 1) := by decide +kernel
theorem dX1_roundChanges_166 : decode cX1_roundChanges 166 = .ok (.istore_n 3, 1) := by decide +kernel
theorem dX1_roundChanges_167 : decode cX1_roundChanges 167 = .ok (.iinc 4 1, 3) := by decide +kernel
theorem dX1_roundChanges_170 : decode cX1_roundChanges 170 = .ok (.goto (-47), 3) := by decide +kernel
theorem dX1_roundChanges_123 : decode cX1_roundChanges 123 = .ok (.iload 4, 2) := by decide +kernel
theorem dX1_roundChanges_125 : decode cX1_roundChanges 125 = .ok (.aload_n 1, 1) := by decide +kernel
theorem dX1_roundChanges_126 : decode cX1_roundChanges 126 = .ok (.getfield 52, 3) := by decide +kernel
theorem dX1_roundChanges_129 : decode cX1_roundChanges 129 = .ok (.if_icmp .ge 44, 3) := by decide +kernel
theorem dX1_roundChanges_173 : decode cX1_roundChanges 173 = .ok (.iload_n 3, 1) := by decide +kernel
theorem dX1_roundChanges_174 : decode cX1_roundChanges 174 = .ok (.ireturn, 1) := by decide +kernel
theorem dX1_roundChanges_132 : decode cX1_roundChanges 132 = .ok (.aload_n 0, 1) := by decide +kernel
theorem dX1_roundChanges_133 : decode cX1_roundChanges 133 = .ok (.getfield 9, 3) := by decide +kernel
theorem dX1_roundChanges_136 : decode cX1_roundChanges 136 = .ok (.iload 4, 2) := by decide +kernel
theorem dX1_roundChanges_138 : decode cX1_roundChanges 138 = .ok (.dup2, 1) := by decide +kernel
theorem dX1_roundChanges_139 : decode cX1_roundChanges 139 = .ok (.iaload, 1) := by decide +kernel
theorem dX1_roundChanges_140 : decode cX1_roundChanges 140 = .ok (.aload_n 0, 1) := by decide +kernel
theorem dX1_roundChanges_141 : decode cX1_roundChanges 141 = .ok (.getfield 21, 3) := by decide +kernel
theorem dX1_roundChanges_144 : decode cX1_roundChanges 144 = .ok (.iload 4, 2) := by decide +kernel
theorem dX1_roundChanges_146 : decode cX1_roundChanges 146 = .ok (.iaload, 1) := by decide +kernel
theorem dX1_roundChanges_147 : decode cX1_roundChanges 147 = .ok (.iadd, 1) := by decide +kernel
theorem dX1_roundChanges_148 : decode cX1_roundChanges 148 = .ok (.iastore, 1) := by decide +kernel
theorem dX1_roundChanges_149 : decode cX1_roundChanges 149 = .ok (.iload_n 3, 1) := by decide +kernel
theorem dX1_roundChanges_150 : decode cX1_roundChanges 150 = .ok (.aload_n 0, 1) := by decide +kernel
theorem dX1_roundChanges_151 : decode cX1_roundChanges 151 = .ok (.getfield 21, 3) := by decide +kernel
theorem dX1_roundChanges_154 : decode cX1_roundChanges 154 = .ok (.iload 4, 2) := by decide +kernel
theorem dX1_roundChanges_156 : decode cX1_roundChanges 156 = .ok (.iaload, 1) := by decide +kernel
theorem dX1_roundChanges_157 : decode cX1_roundChanges 157 = .ok (.ifCond .eq 7, 3) := by decide +kernel
theorem dX1_roundChanges_164 : decode cX1_roundChanges 164 = .ok (.iconst 0, 1) := by decide +kernel
theorem dX1_roundChanges_160 : decode cX1_roundChanges 160 = .ok (.iconst 1, 1) := by decide +kernel
theorem dX1_roundChanges_161 : decode cX1_roundChanges 161 = .ok (.goto 4, 3) := by decide +kernel
theorem dX1_roundChanges_112 : decode cX1_roundChanges 112 = .ok (.iinc 3 1, 3) := by decide +kernel
theorem dX1_roundChanges_115 : decode cX1_roundChanges 115 = .ok (.goto (-45), 3) := by decide +kernel
theorem dX1_roundChanges_70 : decode cX1_roundChanges 70 = .ok (.iload_n 3, 1) := by decide +kernel
theorem dX1_roundChanges_71 : decode cX1_roundChanges 71 = .ok (.aload_n 1, 1) := by decide +kernel
theorem dX1_roundChanges_72 : decode cX1_roundChanges 72 = .ok (.getfield 30, 3) := by decide +kernel
theorem dX1_roundChanges_75 : decode cX1_roundChanges 75 = .ok (.if_icmp .ge 43, 3) := by decide +kernel
theorem dX1_roundChanges_118 : decode cX1_roundChanges 118 = .ok (.iconst 0, 1) := by decide +kernel
theorem dX1_roundChanges_119 : decode cX1_roundChanges 119 = .ok (.istore_n 3, 1) := by decide +kernel
theorem dX1_roundChanges_120 : decode cX1_roundChanges 120 = .ok (.iconst 0, 1) := by decide +kernel
theorem dX1_roundChanges_121 : decode cX1_roundChanges 121 = .ok (.istore 4, 2) := by decide +kernel
theorem dX1_roundChanges_78 : decode cX1_roundChanges 78 = .ok (.aload_n 2, 1) := by decide +kernel
theorem dX1_roundChanges_79 : decode cX1_roundChanges 79 = .ok (.getfield 36, 3) := by decide +kernel
theorem dX1_roundChanges_82 : decode cX1_roundChanges 82 = .ok (.iload_n 3, 1) := by decide +kernel
theorem dX1_roundChanges_83 : decode cX1_roundChanges 83 = .ok (.iaload, 1) := by decide +kernel
theorem dX1_roundChanges_84 : decode cX1_roundChanges 84 = .ok (.ifCond .lt 28, 3) := by decide +kernel
theorem dX1_roundChanges_87 : decode cX1_roundChanges 87 = .ok (.aload_n 0, 1) := by decide +kernel
theorem dX1_roundChanges_88 : decode cX1_roundChanges 88 = .ok (.getfield 21, 3) := by decide +kernel
theorem dX1_roundChanges_91 : decode cX1_roundChanges 91 = .ok (.aload_n 2, 1) := by decide +kernel
theorem dX1_roundChanges_92 : decode cX1_roundChanges 92 = .ok (.getfield 36, 3) := by decide +kernel
theorem dX1_roundChanges_95 : decode cX1_roundChanges 95 = .ok (.iload_n 3, 1) := by decide +kernel
theorem dX1_roundChanges_96 : decode cX1_roundChanges 96 = .ok (.iaload, 1) := by decide +kernel
theorem dX1_roundChanges_97 : decode cX1_roundChanges 97 = .ok (.dup2, 1) := by decide +kernel
theorem dX1_roundChanges_98 : decode cX1_roundChanges 98 = .ok (.iaload, 1) := by decide +kernel
theorem dX1_roundChanges_99 : decode cX1_roundChanges 99 = .ok (.aload_n 0, 1) := by decide +kernel
theorem dX1_roundChanges_100 : decode cX1_roundChanges 100 = .ok (.getfield 18, 3) := by decide +kernel
theorem dX1_roundChanges_103 : decode cX1_roundChanges 103 = .ok (.aload_n 1, 1) := by decide +kernel
theorem dX1_roundChanges_104 : decode cX1_roundChanges 104 = .ok (.getfield 41, 3) := by decide +kernel
theorem dX1_roundChanges_107 : decode cX1_roundChanges 107 = .ok (.iload_n 3, 1) := by decide +kernel
theorem dX1_roundChanges_108 : decode cX1_roundChanges 108 = .ok (.iaload, 1) := by decide +kernel
theorem dX1_roundChanges_109 : decode cX1_roundChanges 109 = .ok (.iaload, 1) := by decide +kernel
theorem dX1_roundChanges_110 : decode cX1_roundChanges 110 = .ok (.iadd, 1) := by decide +kernel
theorem dX1_roundChanges_111 : decode cX1_roundChanges 111 = .ok (.iastore, 1) := by decide +kernel
theorem dX1_roundChanges_41 : decode cX1_roundChanges 41 = .ok (.iastore, 1) := by decide +kernel
theorem dX1_roundChanges_42 : decode cX1_roundChanges 42 = .ok (.aload_n 0, 1) := by decide +kernel
theorem dX1_roundChanges_43 : decode cX1_roundChanges 43 = .ok (.getfield 21, 3) := by decide +kernel
theorem dX1_roundChanges_46 : decode cX1_roundChanges 46 = .ok (.iload_n 3, 1) := by decide +kernel
theorem dX1_roundChanges_47 : decode cX1_roundChanges 47 = .ok (.aload_n 0, 1) := by decide +kernel
theorem dX1_roundChanges_48 : decode cX1_roundChanges 48 = .ok (.getfield 18, 3) := by decide +kernel
theorem dX1_roundChanges_51 : decode cX1_roundChanges 51 = .ok (.iload_n 3, 1) := by decide +kernel
theorem dX1_roundChanges_52 : decode cX1_roundChanges 52 = .ok (.iaload, 1) := by decide +kernel
theorem dX1_roundChanges_53 : decode cX1_roundChanges 53 = .ok (.ineg, 1) := by decide +kernel
theorem dX1_roundChanges_54 : decode cX1_roundChanges 54 = .ok (.aload_n 0, 1) := by decide +kernel
theorem dX1_roundChanges_55 : decode cX1_roundChanges 55 = .ok (.getfield 15, 3) := by decide +kernel
theorem dX1_roundChanges_58 : decode cX1_roundChanges 58 = .ok (.iload_n 3, 1) := by decide +kernel
theorem dX1_roundChanges_59 : decode cX1_roundChanges 59 = .ok (.iaload, 1) := by decide +kernel
theorem dX1_roundChanges_60 : decode cX1_roundChanges 60 = .ok (.imul, 1) := by decide +kernel
theorem dX1_roundChanges_61 : decode cX1_roundChanges 61 = .ok (.iastore, 1) := by decide +kernel
theorem dX1_roundChanges_62 : decode cX1_roundChanges 62 = .ok (.iinc 3 1, 3) := by decide +kernel
theorem dX1_roundChanges_65 : decode cX1_roundChanges 65 = .ok (.goto (-63), 3) := by decide +kernel
theorem dX1_roundChanges_2 : decode cX1_roundChanges 2 = .ok (.iload_n 3, 1) := by decide +kernel
theorem dX1_roundChanges_3 : decode cX1_roundChanges 3 = .ok (.aload_n 1, 1) := by decide +kernel
theorem dX1_roundChanges_4 : decode cX1_roundChanges 4 = .ok (.getfield 52, 3) := by decide +kernel
theorem dX1_roundChanges_7 : decode cX1_roundChanges 7 = .ok (.if_icmp .ge 61, 3) := by decide +kernel
theorem dX1_roundChanges_68 : decode cX1_roundChanges 68 = .ok (.iconst 0, 1) := by decide +kernel
theorem dX1_roundChanges_69 : decode cX1_roundChanges 69 = .ok (.istore_n 3, 1) := by decide +kernel
theorem dX1_roundChanges_10 : decode cX1_roundChanges 10 = .ok (.aload_n 0, 1) := by decide +kernel
theorem dX1_roundChanges_11 : decode cX1_roundChanges 11 = .ok (.getfield 18, 3) := by decide +kernel
theorem dX1_roundChanges_14 : decode cX1_roundChanges 14 = .ok (.iload_n 3, 1) := by decide +kernel
theorem dX1_roundChanges_15 : decode cX1_roundChanges 15 = .ok (.aload_n 0, 1) := by decide +kernel
theorem dX1_roundChanges_16 : decode cX1_roundChanges 16 = .ok (.getfield 15, 3) := by decide +kernel
theorem dX1_roundChanges_19 : decode cX1_roundChanges 19 = .ok (.iload_n 3, 1) := by decide +kernel
theorem dX1_roundChanges_20 : decode cX1_roundChanges 20 = .ok (.iaload, 1) := by decide +kernel
theorem dX1_roundChanges_21 : decode cX1_roundChanges 21 = .ok (.ifCond .ne 7, 3) := by decide +kernel
theorem dX1_roundChanges_28 : decode cX1_roundChanges 28 = .ok (.aload_n 0, 1) := by decide +kernel
theorem dX1_roundChanges_29 : decode cX1_roundChanges 29 = .ok (.getfield 9, 3) := by decide +kernel
theorem dX1_roundChanges_32 : decode cX1_roundChanges 32 = .ok (.iload_n 3, 1) := by decide +kernel
theorem dX1_roundChanges_33 : decode cX1_roundChanges 33 = .ok (.iaload, 1) := by decide +kernel
theorem dX1_roundChanges_34 : decode cX1_roundChanges 34 = .ok (.aload_n 0, 1) := by decide +kernel
theorem dX1_roundChanges_35 : decode cX1_roundChanges 35 = .ok (.getfield 15, 3) := by decide +kernel
theorem dX1_roundChanges_38 : decode cX1_roundChanges 38 = .ok (.iload_n 3, 1) := by decide +kernel
theorem dX1_roundChanges_39 : decode cX1_roundChanges 39 = .ok (.iaload, 1) := by decide +kernel
theorem dX1_roundChanges_40 : decode cX1_roundChanges 40 = .ok (.idiv, 1) := by decide +kernel
theorem dX1_roundChanges_24 : decode cX1_roundChanges 24 = .ok (.iconst 0, 1) := by decide +kernel
theorem dX1_roundChanges_25 : decode cX1_roundChanges 25 = .ok (.goto 16, 3) := by decide +kernel
theorem dX1_roundChanges_0 : decode cX1_roundChanges 0 = .ok (.iconst 0, 1) := by decide +kernel
theorem dX1_roundChanges_1 : decode cX1_roundChanges 1 = .ok (.istore_n 3, 1) := by decide +kernel
set_option maxHeartbeats 4000000 in
set_option maxRecDepth 100000 in
theorem k_X1_roundChanges (l : Launch) (D : va_G) (K : Nat → ClassId) (t a1 a2 : Nat) (a1_q t_q a2_q : Nat → Nat) (a1_x0 a1_x1 a1_x2 a1_x3 a1_x4 a1_x5 a1_x6 a1_x7 a1_x8 a2_x0 a2_x1 a2_x6 : Int) (t_1_c : Nat → Int) (t_0_c : Nat → Int) (a2_3_c : Nat → Int) (t_3_c : Nat → Int) (a1_12_c : Nat → Int) (t_2_c : Nat → Int) (hi_a1 : bX7 a1_x0 a1_x1 a1_x2 a1_x3 a1_x4 a1_x5 a1_x6 a1_x7 a1_x8) (hc_t_1 : ∀ j : Nat, (-2147483648) ≤ t_1_c j ∧ t_1_c j ≤ 2147483647) (hc_t_0 : ∀ j : Nat, (-2147483648) ≤ t_0_c j ∧ t_0_c j ≤ 2147483647) (hi_a2 : bX10 a2_x0 a2_x1 a2_x6) (hc_a2_3 : ∀ j : Nat, (-1) ≤ a2_3_c j ∧ a2_3_c j ≤ 11) (hc_t_3 : ∀ j : Nat, (-2147483648) ≤ t_3_c j ∧ t_3_c j ≤ 2147483647) (hc_a1_12 : ∀ j : Nat, 0 ≤ a1_12_c j ∧ a1_12_c j ≤ 11) (hc_t_2 : ∀ j : Nat, (-2147483648) ≤ t_2_c j ∧ t_2_c j ≤ 2147483647) : fn_CI (S := (Nat → Int) × (Nat → Nat → Int)) l D K yX1_roundChanges (fn_ws yX1_roundChanges cX1_roundChanges 5 (some .boolean)) ({ frames := 4, cells := 0, slots := 0, locals := 100 } : Room) [.ref t, .ref a1, .ref a2] [(a1, .inr (7, oX7 a1_q a1_x0 a1_x1 a1_x2 a1_x3 a1_x4 a1_x5 a1_x6 a1_x7 a1_x8)), (t, .inr (1, oX1 t_q)), ((t_q 1), .inl (K 0, 12, .inl (fun j => iI (t_1_c j)))), ((t_q 0), .inl (K 0, 12, .inl (fun j => iI (t_0_c j)))), (a2, .inr (10, oX10 a2_q a2_x0 a2_x1 a2_x6)), ((a2_q 3), .inl (K 0, 24, .inl (fun j => iI (a2_3_c j)))), ((t_q 3), .inl (K 0, 12, .inl (fun j => iI (t_3_c j)))), ((a1_q 12), .inl (K 0, 24, .inl (fun j => iI (a1_12_c j)))), ((t_q 2), .inl (K 0, 12, .inl (fun j => iI (t_2_c j))))] (fun r u => ∃ k : Int, r = iI k ∧ (0 ≤ k ∧ k ≤ 1) ∧ (∀ j : Nat, (-2147483648) ≤ (u.2 0) j ∧ (u.2 0) j ≤ 2147483647) ∧ (∀ j : Nat, (-2147483648) ≤ (u.2 1) j ∧ (u.2 1) j ≤ 2147483647) ∧ (∀ j : Nat, (-2147483648) ≤ (u.2 2) j ∧ (u.2 2) j ≤ 2147483647) ∧ True) (fun u => [(a1, .inr (7, oX7 a1_q a1_x0 a1_x1 a1_x2 a1_x3 a1_x4 a1_x5 a1_x6 a1_x7 a1_x8)), (t, .inr (1, oX1 t_q)), ((t_q 1), .inl (K 0, 12, .inl (fun j => iI (t_1_c j)))), ((t_q 0), .inl (K 0, 12, .inl (fun j => iI ((u.2 0) j)))), (a2, .inr (10, oX10 a2_q a2_x0 a2_x1 a2_x6)), ((a2_q 3), .inl (K 0, 24, .inl (fun j => iI (a2_3_c j)))), ((t_q 3), .inl (K 0, 12, .inl (fun j => iI ((u.2 2) j)))), ((a1_q 12), .inl (K 0, 24, .inl (fun j => iI (a1_12_c j)))), ((t_q 2), .inl (K 0, 12, .inl (fun j => iI ((u.2 1) j))))]) 0 0 := by
  refine g_inI (cc := cX1_roundChanges) (maxL := 5) (ret := (some .boolean)) (by decide) rfl (Nat.le_of_ble_eq_true rfl) ?_
  intro p e s m below meth c A ls ag Q B hA hP hD hS hl hQ
  obtain ⟨hx, hb, hr, hml, hts, hown, hlocks, hin, hK⟩ := B
  have hown : s.vm.findClass RX1 = some m.cls := hown
  have hts := fun w h => hts w (List.mem_cons_of_mem _ h)
  have J123 : ∀ (n : Nat) (x123_3 : Int) (x123_4 : Int) (c123_t_0 : Nat → Int) (c123_t_3 : Nat → Int) (c123_t_2 : Nat → Int) (H : Heap) (locs : List Loc) (ls : Array Slot), (12 - x123_4).toNat < n → (0 ≤ x123_3 ∧ x123_3 ≤ 1 ∧ 0 ≤ x123_4 ∧ x123_4 ≤ 12) → (∀ j : Nat, (-2147483648) ≤ c123_t_0 j ∧ c123_t_0 j ≤ 2147483647) → (∀ j : Nat, (-2147483648) ≤ c123_t_3 j ∧ c123_t_3 j ≤ 2147483647) → (∀ j : Nat, (-2147483648) ≤ c123_t_2 j ∧ c123_t_2 j ≤ 2147483647) → va_P D vwCl [(a1, .inr (7, oX7 a1_q a1_x0 a1_x1 a1_x2 a1_x3 a1_x4 a1_x5 a1_x6 a1_x7 a1_x8)), (t, .inr (1, oX1 t_q)), ((t_q 1), .inl (K 0, 12, .inl (fun j => iI (t_1_c j)))), ((t_q 0), .inl (K 0, 12, .inl (fun j => iI (c123_t_0 j)))), (a2, .inr (10, oX10 a2_q a2_x0 a2_x1 a2_x6)), ((a2_q 3), .inl (K 0, 24, .inl (fun j => iI (a2_3_c j)))), ((t_q 3), .inl (K 0, 12, .inl (fun j => iI (c123_t_3 j)))), ((a1_q 12), .inl (K 0, 24, .inl (fun j => iI (a1_12_c j)))), ((t_q 2), .inl (K 0, 12, .inl (fun j => iI (c123_t_2 j))))] H → va_D A [(a1, .inr (7, oX7 a1_q a1_x0 a1_x1 a1_x2 a1_x3 a1_x4 a1_x5 a1_x6 a1_x7 a1_x8)), (t, .inr (1, oX1 t_q)), ((t_q 1), .inl (K 0, 12, .inl (fun j => iI (t_1_c j)))), ((t_q 0), .inl (K 0, 12, .inl (fun j => iI (c123_t_0 j)))), (a2, .inr (10, oX10 a2_q a2_x0 a2_x1 a2_x6)), ((a2_q 3), .inl (K 0, 24, .inl (fun j => iI (a2_3_c j)))), ((t_q 3), .inl (K 0, 12, .inl (fun j => iI (c123_t_3 j)))), ((a1_q 12), .inl (K 0, 24, .inl (fun j => iI (a1_12_c j)))), ((t_q 2), .inl (K 0, 12, .inl (fun j => iI (c123_t_2 j))))] → va_S A s.heap H locs → lv_has ls 5 [(0, .ref t), (1, .ref a1), (2, .ref a2), (3, .int (iI x123_3)), (4, .int (iI x123_4))] → W p l e ({ frames := 4, cells := 0, slots := 0, locals := 100 } : Room) s m ag below meth c H locs 0 0 Q (F0 m 123 ls []) := by
    intro n
    induction n with
    | zero =>
      intro x123_3 x123_4 c123_t_0 c123_t_3 c123_t_2 H locs ls hm123 hf123 hc123_t_0 hc123_t_3 hc123_t_2 hP hD hS hl
      exact absurd hm123 (Nat.not_lt_zero _)
    | succ n ih123 =>
      intro x123_3 x123_4 c123_t_0 c123_t_3 c123_t_2 H locs ls hm123 hf123 hc123_t_0 hc123_t_3 hc123_t_2 hP hD hS hl
      have J165 : ∀ (z165_1 : Int) (c165_t_0 : Nat → Int) (H : Heap) (locs : List Loc) (ls : Array Slot), (0 ≤ x123_4 ∧ x123_4 ≤ 11 ∧ 0 ≤ z165_1 ∧ z165_1 ≤ 1 ∧ 1 ≤ a1_x4 ∧ a1_x4 ≤ 12) → (∀ j : Nat, (-2147483648) ≤ c165_t_0 j ∧ c165_t_0 j ≤ 2147483647) → va_P D vwCl [(a1, .inr (7, oX7 a1_q a1_x0 a1_x1 a1_x2 a1_x3 a1_x4 a1_x5 a1_x6 a1_x7 a1_x8)), (t, .inr (1, oX1 t_q)), ((t_q 1), .inl (K 0, 12, .inl (fun j => iI (t_1_c j)))), ((t_q 0), .inl (K 0, 12, .inl (fun j => iI (c165_t_0 j)))), (a2, .inr (10, oX10 a2_q a2_x0 a2_x1 a2_x6)), ((a2_q 3), .inl (K 0, 24, .inl (fun j => iI (a2_3_c j)))), ((t_q 3), .inl (K 0, 12, .inl (fun j => iI (c123_t_3 j)))), ((a1_q 12), .inl (K 0, 24, .inl (fun j => iI (a1_12_c j)))), ((t_q 2), .inl (K 0, 12, .inl (fun j => iI (c123_t_2 j))))] H → va_D A [(a1, .inr (7, oX7 a1_q a1_x0 a1_x1 a1_x2 a1_x3 a1_x4 a1_x5 a1_x6 a1_x7 a1_x8)), (t, .inr (1, oX1 t_q)), ((t_q 1), .inl (K 0, 12, .inl (fun j => iI (t_1_c j)))), ((t_q 0), .inl (K 0, 12, .inl (fun j => iI (c165_t_0 j)))), (a2, .inr (10, oX10 a2_q a2_x0 a2_x1 a2_x6)), ((a2_q 3), .inl (K 0, 24, .inl (fun j => iI (a2_3_c j)))), ((t_q 3), .inl (K 0, 12, .inl (fun j => iI (c123_t_3 j)))), ((a1_q 12), .inl (K 0, 24, .inl (fun j => iI (a1_12_c j)))), ((t_q 2), .inl (K 0, 12, .inl (fun j => iI (c123_t_2 j))))] → va_S A s.heap H locs → lv_has ls 5 [(0, .ref t), (1, .ref a1), (2, .ref a2), (3, .int (iI x123_3)), (4, .int (iI x123_4))] → W p l e ({ frames := 4, cells := 0, slots := 0, locals := 100 } : Room) s m ag below meth c H locs 0 0 Q (F0 m 165 ls [.int (iI z165_1), .int (iI x123_3)]) := by
        intro z165_1 c165_t_0 H locs ls hf165 hc165_t_0 hP hD hS hl
        refine lv_ior hx hb dX1_roundChanges_165 ?_
        obtain ⟨w165, ew165, hw165⟩ := iI_or1 x123_3 z165_1 (by omega) (by omega)
        refine fn_top (iI w165) ew165 ?_
        refine lv_istore_n (lv' := [(3, .int (iI w165)), (0, .ref t), (1, .ref a1), (2, .ref a2), (4, .int (iI x123_4))]) hx hb dX1_roundChanges_166 rfl hl (by decide) rfl (fun ls hl => ?_)
        refine lv_iinc (v := iI (x123_4 + 1)) (lv' := [(4, .int (iI (x123_4 + 1))), (3, .int (iI w165)), (0, .ref t), (1, .ref a1), (2, .ref a2)]) hx hb dX1_roundChanges_167 hl (k := 4) rfl (iI_add _ _) (by decide) rfl (fun ls hl => ?_)
        refine lv_goto (tgt := 123) hx hb dX1_roundChanges_170 (by decide) ?_
        exact ih123 w165 (x123_4 + 1) c165_t_0 c123_t_3 c123_t_2 _ _ ls (by omega) (by omega) hc165_t_0 hc123_t_3 hc123_t_2 (hP.sub [0, 1, 2, 3, 4, 5, 6, 7, 8] rfl) (hD.sub [0, 1, 2, 3, 4, 5, 6, 7, 8] (by decide) rfl) hS (lv_sub hl [2, 3, 4, 1, 0] rfl)
      refine lv_iload hx hb dX1_roundChanges_123 (lv_at hl 4 rfl) ?_
      refine lv_aload_n hx hb dX1_roundChanges_125 rfl (lv_at hl 1 rfl) ?_
      refine va_getN (D := D) (own := RX1) (ci := 7) (v := .int (iI a1_x4)) (C := RX7) (T := TX7) (N := 15) hx hb hts inb_X7 hown hK.1 hP 0 rfl rfl 4 (by decide) (hK.nf 22 rfl) (fun _ h9 => h9) rfl dX1_roundChanges_126 ?_
      have y126_1 : 0 ≤ a1_x4 ∧ a1_x4 ≤ 12 := hi_a1.2.2.2.2.1
      refine g_icmp_ge (tgt := 173) hx hb (by omega) (by omega) dX1_roundChanges_129 (by decide) (fun c129 => ?_) (fun c129 => ?_)
      · refine lv_iload_n hx hb dX1_roundChanges_173 rfl (lv_at hl 3 rfl) ?_
        rw [hQ]; exact fn_iret hx hb hr hlocks (iI_nz (by omega)) hP hD hS ((fun _ => 0), (fun k => ([c123_t_0, c123_t_2, c123_t_3] : List (Nat → Int)).getD k (fun _ => 0))) ⟨x123_3, rfl, by omega, (hc123_t_0), (hc123_t_2), (hc123_t_3), trivial⟩ [0, 1, 2, 3, 4, 5, 6, 7, 8] (by decide) rfl dX1_roundChanges_174
      · refine lv_aload_n hx hb dX1_roundChanges_132 rfl (lv_at hl 0 rfl) ?_
        refine va_get (D := D) (own := RX1) (ci := 1) (v := .ref (t_q 0)) (C := RX1) (T := TX1) (N := 4) hx hb hts inb_X1 hown hK.1 hP 1 rfl rfl 0 (by decide) (hts _ wd_385) (fun _ h9 => h9) rfl dX1_roundChanges_133 ?_
        refine lv_iload hx hb dX1_roundChanges_136 (lv_at hl 4 rfl) ?_
        refine lv_dup2_11 hx hb dX1_roundChanges_138 rfl rfl ?_
        refine g_iald hx hb hK.1 hP 3 0 rfl rfl (by omega) (by omega) (by decide) dX1_roundChanges_139 ?_
        have y139 : (-2147483648) ≤ (c123_t_0 x123_4.toNat) ∧ (c123_t_0 x123_4.toNat) ≤ 2147483647 := hc123_t_0 x123_4.toNat
        refine lv_aload_n hx hb dX1_roundChanges_140 rfl (lv_at hl 0 rfl) ?_
        refine va_get (D := D) (own := RX1) (ci := 1) (v := .ref (t_q 3)) (C := RX1) (T := TX1) (N := 4) hx hb hts inb_X1 hown hK.1 hP 1 rfl rfl 3 (by decide) (hts _ wd_389) (fun _ h9 => h9) rfl dX1_roundChanges_141 ?_
        refine lv_iload hx hb dX1_roundChanges_144 (lv_at hl 4 rfl) ?_
        refine g_iald hx hb hK.1 hP 6 0 rfl rfl (by omega) (by omega) (by decide) dX1_roundChanges_146 ?_
        have y146 : (-2147483648) ≤ (c123_t_3 x123_4.toNat) ∧ (c123_t_3 x123_4.toNat) ≤ 2147483647 := hc123_t_3 x123_4.toNat
        refine g_iadd hx hb dX1_roundChanges_147 ?_
        refine g_any (fun w147 hw147 ew147 => ?_)
        refine g_iast hx hb hK.1 hP hD hS 3 0 rfl rfl (by omega) (by omega) (by decide) dX1_roundChanges_148 (fun H locs g148 eg148 hP hD hS => ?_)
        have hg148 : ∀ j : Nat, (-2147483648) ≤ g148 j ∧ g148 j ≤ 2147483647 := by rw [eg148]; exact uI_all hc123_t_0 (by omega)
        have hP : va_P D vwCl [(a1, .inr (7, oX7 a1_q a1_x0 a1_x1 a1_x2 a1_x3 a1_x4 a1_x5 a1_x6 a1_x7 a1_x8)), (t, .inr (1, oX1 t_q)), ((t_q 1), .inl (K 0, 12, .inl (fun j => iI (t_1_c j)))), ((t_q 0), .inl (K 0, 12, .inl (fun j => iI (g148 j)))), (a2, .inr (10, oX10 a2_q a2_x0 a2_x1 a2_x6)), ((a2_q 3), .inl (K 0, 24, .inl (fun j => iI (a2_3_c j)))), ((t_q 3), .inl (K 0, 12, .inl (fun j => iI (c123_t_3 j)))), ((a1_q 12), .inl (K 0, 24, .inl (fun j => iI (a1_12_c j)))), ((t_q 2), .inl (K 0, 12, .inl (fun j => iI (c123_t_2 j))))] H := hP
        have hD : va_D A [(a1, .inr (7, oX7 a1_q a1_x0 a1_x1 a1_x2 a1_x3 a1_x4 a1_x5 a1_x6 a1_x7 a1_x8)), (t, .inr (1, oX1 t_q)), ((t_q 1), .inl (K 0, 12, .inl (fun j => iI (t_1_c j)))), ((t_q 0), .inl (K 0, 12, .inl (fun j => iI (g148 j)))), (a2, .inr (10, oX10 a2_q a2_x0 a2_x1 a2_x6)), ((a2_q 3), .inl (K 0, 24, .inl (fun j => iI (a2_3_c j)))), ((t_q 3), .inl (K 0, 12, .inl (fun j => iI (c123_t_3 j)))), ((a1_q 12), .inl (K 0, 24, .inl (fun j => iI (a1_12_c j)))), ((t_q 2), .inl (K 0, 12, .inl (fun j => iI (c123_t_2 j))))] := hD
        refine lv_iload_n hx hb dX1_roundChanges_149 rfl (lv_at hl 3 rfl) ?_
        refine lv_aload_n hx hb dX1_roundChanges_150 rfl (lv_at hl 0 rfl) ?_
        refine va_get (D := D) (own := RX1) (ci := 1) (v := .ref (t_q 3)) (C := RX1) (T := TX1) (N := 4) hx hb hts inb_X1 hown hK.1 hP 1 rfl rfl 3 (by decide) (hts _ wd_389) (fun _ h9 => h9) rfl dX1_roundChanges_151 ?_
        refine lv_iload hx hb dX1_roundChanges_154 (lv_at hl 4 rfl) ?_
        refine fn_at 156 rfl ?_
        refine g_iald hx hb hK.1 hP 6 0 rfl rfl (by omega) (by omega) (by decide) dX1_roundChanges_156 ?_
        refine g_if_eq (tgt := 164) hx hb (by omega) dX1_roundChanges_157 (by decide) (fun c157 => ?_) (fun c157 => ?_)
        · refine lv_iconst (v := iI 0) hx hb dX1_roundChanges_164 rfl ?_
          exact J165 0 g148 _ _ ls (by omega) hg148 (hP.sub [0, 1, 2, 3, 4, 5, 6, 7, 8] rfl) (hD.sub [0, 1, 2, 3, 4, 5, 6, 7, 8] (by decide) rfl) hS (lv_sub hl [0, 1, 2, 3, 4] rfl)
        · refine lv_iconst (v := iI 1) hx hb dX1_roundChanges_160 rfl ?_
          refine lv_goto (tgt := 165) hx hb dX1_roundChanges_161 (by decide) ?_
          exact J165 1 g148 _ _ ls (by omega) hg148 (hP.sub [0, 1, 2, 3, 4, 5, 6, 7, 8] rfl) (hD.sub [0, 1, 2, 3, 4, 5, 6, 7, 8] (by decide) rfl) hS (lv_sub hl [0, 1, 2, 3, 4] rfl)
  have J70 : ∀ (n : Nat) (x70_3 : Int) (c70_t_3 : Nat → Int) (c70_t_2 : Nat → Int) (H : Heap) (locs : List Loc) (ls : Array Slot), (24 - x70_3).toNat < n → (0 ≤ x70_3 ∧ x70_3 ≤ 24) → (∀ j : Nat, (-2147483648) ≤ c70_t_3 j ∧ c70_t_3 j ≤ 2147483647) → (∀ j : Nat, (-2147483648) ≤ c70_t_2 j ∧ c70_t_2 j ≤ 2147483647) → va_P D vwCl [(a1, .inr (7, oX7 a1_q a1_x0 a1_x1 a1_x2 a1_x3 a1_x4 a1_x5 a1_x6 a1_x7 a1_x8)), (t, .inr (1, oX1 t_q)), ((t_q 1), .inl (K 0, 12, .inl (fun j => iI (t_1_c j)))), ((t_q 0), .inl (K 0, 12, .inl (fun j => iI (t_0_c j)))), (a2, .inr (10, oX10 a2_q a2_x0 a2_x1 a2_x6)), ((a2_q 3), .inl (K 0, 24, .inl (fun j => iI (a2_3_c j)))), ((t_q 3), .inl (K 0, 12, .inl (fun j => iI (c70_t_3 j)))), ((a1_q 12), .inl (K 0, 24, .inl (fun j => iI (a1_12_c j)))), ((t_q 2), .inl (K 0, 12, .inl (fun j => iI (c70_t_2 j))))] H → va_D A [(a1, .inr (7, oX7 a1_q a1_x0 a1_x1 a1_x2 a1_x3 a1_x4 a1_x5 a1_x6 a1_x7 a1_x8)), (t, .inr (1, oX1 t_q)), ((t_q 1), .inl (K 0, 12, .inl (fun j => iI (t_1_c j)))), ((t_q 0), .inl (K 0, 12, .inl (fun j => iI (t_0_c j)))), (a2, .inr (10, oX10 a2_q a2_x0 a2_x1 a2_x6)), ((a2_q 3), .inl (K 0, 24, .inl (fun j => iI (a2_3_c j)))), ((t_q 3), .inl (K 0, 12, .inl (fun j => iI (c70_t_3 j)))), ((a1_q 12), .inl (K 0, 24, .inl (fun j => iI (a1_12_c j)))), ((t_q 2), .inl (K 0, 12, .inl (fun j => iI (c70_t_2 j))))] → va_S A s.heap H locs → lv_has ls 5 [(0, .ref t), (1, .ref a1), (2, .ref a2), (3, .int (iI x70_3))] → W p l e ({ frames := 4, cells := 0, slots := 0, locals := 100 } : Room) s m ag below meth c H locs 0 0 Q (F0 m 70 ls []) := by
    intro n
    induction n with
    | zero =>
      intro x70_3 c70_t_3 c70_t_2 H locs ls hm70 hf70 hc70_t_3 hc70_t_2 hP hD hS hl
      exact absurd hm70 (Nat.not_lt_zero _)
    | succ n ih70 =>
      intro x70_3 c70_t_3 c70_t_2 H locs ls hm70 hf70 hc70_t_3 hc70_t_2 hP hD hS hl
      have J112 : ∀ (c112_t_3 : Nat → Int) (H : Heap) (locs : List Loc) (ls : Array Slot), (0 ≤ x70_3 ∧ x70_3 ≤ 23 ∧ 1 ≤ a1_x5 ∧ a1_x5 ≤ 24) → (∀ j : Nat, (-2147483648) ≤ c112_t_3 j ∧ c112_t_3 j ≤ 2147483647) → va_P D vwCl [(a1, .inr (7, oX7 a1_q a1_x0 a1_x1 a1_x2 a1_x3 a1_x4 a1_x5 a1_x6 a1_x7 a1_x8)), (t, .inr (1, oX1 t_q)), ((t_q 1), .inl (K 0, 12, .inl (fun j => iI (t_1_c j)))), ((t_q 0), .inl (K 0, 12, .inl (fun j => iI (t_0_c j)))), (a2, .inr (10, oX10 a2_q a2_x0 a2_x1 a2_x6)), ((a2_q 3), .inl (K 0, 24, .inl (fun j => iI (a2_3_c j)))), ((t_q 3), .inl (K 0, 12, .inl (fun j => iI (c112_t_3 j)))), ((a1_q 12), .inl (K 0, 24, .inl (fun j => iI (a1_12_c j)))), ((t_q 2), .inl (K 0, 12, .inl (fun j => iI (c70_t_2 j))))] H → va_D A [(a1, .inr (7, oX7 a1_q a1_x0 a1_x1 a1_x2 a1_x3 a1_x4 a1_x5 a1_x6 a1_x7 a1_x8)), (t, .inr (1, oX1 t_q)), ((t_q 1), .inl (K 0, 12, .inl (fun j => iI (t_1_c j)))), ((t_q 0), .inl (K 0, 12, .inl (fun j => iI (t_0_c j)))), (a2, .inr (10, oX10 a2_q a2_x0 a2_x1 a2_x6)), ((a2_q 3), .inl (K 0, 24, .inl (fun j => iI (a2_3_c j)))), ((t_q 3), .inl (K 0, 12, .inl (fun j => iI (c112_t_3 j)))), ((a1_q 12), .inl (K 0, 24, .inl (fun j => iI (a1_12_c j)))), ((t_q 2), .inl (K 0, 12, .inl (fun j => iI (c70_t_2 j))))] → va_S A s.heap H locs → lv_has ls 5 [(0, .ref t), (1, .ref a1), (2, .ref a2), (3, .int (iI x70_3))] → W p l e ({ frames := 4, cells := 0, slots := 0, locals := 100 } : Room) s m ag below meth c H locs 0 0 Q (F0 m 112 ls []) := by
        intro c112_t_3 H locs ls hf112 hc112_t_3 hP hD hS hl
        refine lv_iinc (v := iI (x70_3 + 1)) (lv' := [(3, .int (iI (x70_3 + 1))), (0, .ref t), (1, .ref a1), (2, .ref a2)]) hx hb dX1_roundChanges_112 hl (k := 3) rfl (iI_add _ _) (by decide) rfl (fun ls hl => ?_)
        refine lv_goto (tgt := 70) hx hb dX1_roundChanges_115 (by decide) ?_
        exact ih70 (x70_3 + 1) c112_t_3 c70_t_2 _ _ ls (by omega) (by omega) hc112_t_3 hc70_t_2 (hP.sub [0, 1, 2, 3, 4, 5, 6, 7, 8] rfl) (hD.sub [0, 1, 2, 3, 4, 5, 6, 7, 8] (by decide) rfl) hS (lv_sub hl [1, 2, 3, 0] rfl)
      refine lv_iload_n hx hb dX1_roundChanges_70 rfl (lv_at hl 3 rfl) ?_
      refine lv_aload_n hx hb dX1_roundChanges_71 rfl (lv_at hl 1 rfl) ?_
      refine va_getN (D := D) (own := RX1) (ci := 7) (v := .int (iI a1_x5)) (C := RX7) (T := TX7) (N := 15) hx hb hts inb_X7 hown hK.1 hP 0 rfl rfl 5 (by decide) (hK.nf 24 rfl) (fun _ h9 => h9) rfl dX1_roundChanges_72 ?_
      have y72_1 : 0 ≤ a1_x5 ∧ a1_x5 ≤ 24 := hi_a1.2.2.2.2.2.1
      refine g_icmp_ge (tgt := 118) hx hb (by omega) (by omega) dX1_roundChanges_75 (by decide) (fun c75 => ?_) (fun c75 => ?_)
      · refine lv_iconst (v := iI 0) hx hb dX1_roundChanges_118 rfl ?_
        refine lv_istore_n (lv' := [(3, .int (iI 0)), (0, .ref t), (1, .ref a1), (2, .ref a2)]) hx hb dX1_roundChanges_119 rfl hl (by decide) rfl (fun ls hl => ?_)
        refine lv_iconst (v := iI 0) hx hb dX1_roundChanges_120 rfl ?_
        refine lv_istore (lv' := [(4, .int (iI 0)), (3, .int (iI 0)), (0, .ref t), (1, .ref a1), (2, .ref a2)]) hx hb dX1_roundChanges_121 hl (by decide) rfl (fun ls hl => ?_)
        exact J123 _ 0 0 t_0_c c70_t_3 c70_t_2 _ _ ls (Nat.lt_succ_self _) (by omega) hc_t_0 hc70_t_3 hc70_t_2 (hP.sub [0, 1, 2, 3, 4, 5, 6, 7, 8] rfl) (hD.sub [0, 1, 2, 3, 4, 5, 6, 7, 8] (by decide) rfl) hS (lv_sub hl [2, 3, 4, 1, 0] rfl)
      · refine lv_aload_n hx hb dX1_roundChanges_78 rfl (lv_at hl 2 rfl) ?_
        refine va_getN (D := D) (own := RX1) (ci := 10) (v := .ref (a2_q 3)) (C := RX10) (T := TX10) (N := 7) hx hb hts inb_X10 hown hK.1 hP 4 rfl rfl 3 (by decide) (hK.nf 66 rfl) (fun _ h9 => h9) rfl dX1_roundChanges_79 ?_
        refine lv_iload_n hx hb dX1_roundChanges_82 rfl (lv_at hl 3 rfl) ?_
        refine g_iald hx hb hK.1 hP 5 0 rfl rfl (by omega) (by omega) (by decide) dX1_roundChanges_83 ?_
        have y83 : (-1) ≤ (a2_3_c x70_3.toNat) ∧ (a2_3_c x70_3.toNat) ≤ 11 := hc_a2_3 x70_3.toNat
        refine g_if_lt (tgt := 112) hx hb (by omega) dX1_roundChanges_84 (by decide) (fun c84 => ?_) (fun c84 => ?_)
        · exact J112 c70_t_3 _ _ ls (by omega) hc70_t_3 (hP.sub [0, 1, 2, 3, 4, 5, 6, 7, 8] rfl) (hD.sub [0, 1, 2, 3, 4, 5, 6, 7, 8] (by decide) rfl) hS (lv_sub hl [0, 1, 2, 3] rfl)
        · refine lv_aload_n hx hb dX1_roundChanges_87 rfl (lv_at hl 0 rfl) ?_
          refine va_get (D := D) (own := RX1) (ci := 1) (v := .ref (t_q 3)) (C := RX1) (T := TX1) (N := 4) hx hb hts inb_X1 hown hK.1 hP 1 rfl rfl 3 (by decide) (hts _ wd_389) (fun _ h9 => h9) rfl dX1_roundChanges_88 ?_
          refine lv_aload_n hx hb dX1_roundChanges_91 rfl (lv_at hl 2 rfl) ?_
          refine va_getN (D := D) (own := RX1) (ci := 10) (v := .ref (a2_q 3)) (C := RX10) (T := TX10) (N := 7) hx hb hts inb_X10 hown hK.1 hP 4 rfl rfl 3 (by decide) (hK.nf 66 rfl) (fun _ h9 => h9) rfl dX1_roundChanges_92 ?_
          refine lv_iload_n hx hb dX1_roundChanges_95 rfl (lv_at hl 3 rfl) ?_
          refine g_iald hx hb hK.1 hP 5 0 rfl rfl (by omega) (by omega) (by decide) dX1_roundChanges_96 ?_
          refine lv_dup2_11 hx hb dX1_roundChanges_97 rfl rfl ?_
          refine g_iald hx hb hK.1 hP 6 0 rfl rfl (by omega) (by omega) (by decide) dX1_roundChanges_98 ?_
          have y98 : (-2147483648) ≤ (c70_t_3 ((a2_3_c x70_3.toNat).toNat)) ∧ (c70_t_3 ((a2_3_c x70_3.toNat).toNat)) ≤ 2147483647 := hc70_t_3 ((a2_3_c x70_3.toNat).toNat)
          refine lv_aload_n hx hb dX1_roundChanges_99 rfl (lv_at hl 0 rfl) ?_
          refine va_get (D := D) (own := RX1) (ci := 1) (v := .ref (t_q 2)) (C := RX1) (T := TX1) (N := 4) hx hb hts inb_X1 hown hK.1 hP 1 rfl rfl 2 (by decide) (hts _ wd_388) (fun _ h9 => h9) rfl dX1_roundChanges_100 ?_
          refine fn_at 103 rfl ?_
          refine lv_aload_n hx hb dX1_roundChanges_103 rfl (lv_at hl 1 rfl) ?_
          refine va_getN (D := D) (own := RX1) (ci := 7) (v := .ref (a1_q 12)) (C := RX7) (T := TX7) (N := 15) hx hb hts inb_X7 hown hK.1 hP 0 rfl rfl 12 (by decide) (hK.nf 43 rfl) (fun _ h9 => h9) rfl dX1_roundChanges_104 ?_
          refine lv_iload_n hx hb dX1_roundChanges_107 rfl (lv_at hl 3 rfl) ?_
          refine g_iald hx hb hK.1 hP 7 0 rfl rfl (by omega) (by omega) (by decide) dX1_roundChanges_108 ?_
          have y108 : 0 ≤ (a1_12_c x70_3.toNat) ∧ (a1_12_c x70_3.toNat) ≤ 11 := hc_a1_12 x70_3.toNat
          refine g_iald hx hb hK.1 hP 8 0 rfl rfl (by omega) (by omega) (by decide) dX1_roundChanges_109 ?_
          have y109 : (-2147483648) ≤ (c70_t_2 ((a1_12_c x70_3.toNat).toNat)) ∧ (c70_t_2 ((a1_12_c x70_3.toNat).toNat)) ≤ 2147483647 := hc70_t_2 ((a1_12_c x70_3.toNat).toNat)
          refine g_iadd hx hb dX1_roundChanges_110 ?_
          refine g_any (fun w110 hw110 ew110 => ?_)
          refine g_iast hx hb hK.1 hP hD hS 6 0 rfl rfl (by omega) (by omega) (by decide) dX1_roundChanges_111 (fun H locs g111 eg111 hP hD hS => ?_)
          have hg111 : ∀ j : Nat, (-2147483648) ≤ g111 j ∧ g111 j ≤ 2147483647 := by rw [eg111]; exact uI_all hc70_t_3 (by omega)
          have hP : va_P D vwCl [(a1, .inr (7, oX7 a1_q a1_x0 a1_x1 a1_x2 a1_x3 a1_x4 a1_x5 a1_x6 a1_x7 a1_x8)), (t, .inr (1, oX1 t_q)), ((t_q 1), .inl (K 0, 12, .inl (fun j => iI (t_1_c j)))), ((t_q 0), .inl (K 0, 12, .inl (fun j => iI (t_0_c j)))), (a2, .inr (10, oX10 a2_q a2_x0 a2_x1 a2_x6)), ((a2_q 3), .inl (K 0, 24, .inl (fun j => iI (a2_3_c j)))), ((t_q 3), .inl (K 0, 12, .inl (fun j => iI (g111 j)))), ((a1_q 12), .inl (K 0, 24, .inl (fun j => iI (a1_12_c j)))), ((t_q 2), .inl (K 0, 12, .inl (fun j => iI (c70_t_2 j))))] H := hP
          have hD : va_D A [(a1, .inr (7, oX7 a1_q a1_x0 a1_x1 a1_x2 a1_x3 a1_x4 a1_x5 a1_x6 a1_x7 a1_x8)), (t, .inr (1, oX1 t_q)), ((t_q 1), .inl (K 0, 12, .inl (fun j => iI (t_1_c j)))), ((t_q 0), .inl (K 0, 12, .inl (fun j => iI (t_0_c j)))), (a2, .inr (10, oX10 a2_q a2_x0 a2_x1 a2_x6)), ((a2_q 3), .inl (K 0, 24, .inl (fun j => iI (a2_3_c j)))), ((t_q 3), .inl (K 0, 12, .inl (fun j => iI (g111 j)))), ((a1_q 12), .inl (K 0, 24, .inl (fun j => iI (a1_12_c j)))), ((t_q 2), .inl (K 0, 12, .inl (fun j => iI (c70_t_2 j))))] := hD
          exact J112 g111 _ _ ls (by omega) hg111 (hP.sub [0, 1, 2, 3, 4, 5, 6, 7, 8] rfl) (hD.sub [0, 1, 2, 3, 4, 5, 6, 7, 8] (by decide) rfl) hS (lv_sub hl [0, 1, 2, 3] rfl)
  have J2 : ∀ (n : Nat) (x2_3 : Int) (c2_t_3 : Nat → Int) (c2_t_2 : Nat → Int) (H : Heap) (locs : List Loc) (ls : Array Slot), (12 - x2_3).toNat < n → (0 ≤ x2_3 ∧ x2_3 ≤ 12) → (∀ j : Nat, (-2147483648) ≤ c2_t_3 j ∧ c2_t_3 j ≤ 2147483647) → (∀ j : Nat, (-2147483648) ≤ c2_t_2 j ∧ c2_t_2 j ≤ 2147483647) → va_P D vwCl [(a1, .inr (7, oX7 a1_q a1_x0 a1_x1 a1_x2 a1_x3 a1_x4 a1_x5 a1_x6 a1_x7 a1_x8)), (t, .inr (1, oX1 t_q)), ((t_q 1), .inl (K 0, 12, .inl (fun j => iI (t_1_c j)))), ((t_q 0), .inl (K 0, 12, .inl (fun j => iI (t_0_c j)))), (a2, .inr (10, oX10 a2_q a2_x0 a2_x1 a2_x6)), ((a2_q 3), .inl (K 0, 24, .inl (fun j => iI (a2_3_c j)))), ((t_q 3), .inl (K 0, 12, .inl (fun j => iI (c2_t_3 j)))), ((a1_q 12), .inl (K 0, 24, .inl (fun j => iI (a1_12_c j)))), ((t_q 2), .inl (K 0, 12, .inl (fun j => iI (c2_t_2 j))))] H → va_D A [(a1, .inr (7, oX7 a1_q a1_x0 a1_x1 a1_x2 a1_x3 a1_x4 a1_x5 a1_x6 a1_x7 a1_x8)), (t, .inr (1, oX1 t_q)), ((t_q 1), .inl (K 0, 12, .inl (fun j => iI (t_1_c j)))), ((t_q 0), .inl (K 0, 12, .inl (fun j => iI (t_0_c j)))), (a2, .inr (10, oX10 a2_q a2_x0 a2_x1 a2_x6)), ((a2_q 3), .inl (K 0, 24, .inl (fun j => iI (a2_3_c j)))), ((t_q 3), .inl (K 0, 12, .inl (fun j => iI (c2_t_3 j)))), ((a1_q 12), .inl (K 0, 24, .inl (fun j => iI (a1_12_c j)))), ((t_q 2), .inl (K 0, 12, .inl (fun j => iI (c2_t_2 j))))] → va_S A s.heap H locs → lv_has ls 5 [(0, .ref t), (1, .ref a1), (2, .ref a2), (3, .int (iI x2_3))] → W p l e ({ frames := 4, cells := 0, slots := 0, locals := 100 } : Room) s m ag below meth c H locs 0 0 Q (F0 m 2 ls []) := by
    intro n
    induction n with
    | zero =>
      intro x2_3 c2_t_3 c2_t_2 H locs ls hm2 hf2 hc2_t_3 hc2_t_2 hP hD hS hl
      exact absurd hm2 (Nat.not_lt_zero _)
    | succ n ih2 =>
      intro x2_3 c2_t_3 c2_t_2 H locs ls hm2 hf2 hc2_t_3 hc2_t_2 hP hD hS hl
      have J41 : ∀ (z41_2 : Int) (H : Heap) (locs : List Loc) (ls : Array Slot), (0 ≤ x2_3 ∧ x2_3 ≤ 11 ∧ (-2147483648) ≤ z41_2 ∧ z41_2 ≤ 2147483647 ∧ 0 ≤ x2_3 ∧ x2_3 ≤ 11 ∧ 1 ≤ a1_x4 ∧ a1_x4 ≤ 12) → va_P D vwCl [(a1, .inr (7, oX7 a1_q a1_x0 a1_x1 a1_x2 a1_x3 a1_x4 a1_x5 a1_x6 a1_x7 a1_x8)), (t, .inr (1, oX1 t_q)), ((t_q 1), .inl (K 0, 12, .inl (fun j => iI (t_1_c j)))), ((t_q 0), .inl (K 0, 12, .inl (fun j => iI (t_0_c j)))), (a2, .inr (10, oX10 a2_q a2_x0 a2_x1 a2_x6)), ((a2_q 3), .inl (K 0, 24, .inl (fun j => iI (a2_3_c j)))), ((t_q 3), .inl (K 0, 12, .inl (fun j => iI (c2_t_3 j)))), ((a1_q 12), .inl (K 0, 24, .inl (fun j => iI (a1_12_c j)))), ((t_q 2), .inl (K 0, 12, .inl (fun j => iI (c2_t_2 j))))] H → va_D A [(a1, .inr (7, oX7 a1_q a1_x0 a1_x1 a1_x2 a1_x3 a1_x4 a1_x5 a1_x6 a1_x7 a1_x8)), (t, .inr (1, oX1 t_q)), ((t_q 1), .inl (K 0, 12, .inl (fun j => iI (t_1_c j)))), ((t_q 0), .inl (K 0, 12, .inl (fun j => iI (t_0_c j)))), (a2, .inr (10, oX10 a2_q a2_x0 a2_x1 a2_x6)), ((a2_q 3), .inl (K 0, 24, .inl (fun j => iI (a2_3_c j)))), ((t_q 3), .inl (K 0, 12, .inl (fun j => iI (c2_t_3 j)))), ((a1_q 12), .inl (K 0, 24, .inl (fun j => iI (a1_12_c j)))), ((t_q 2), .inl (K 0, 12, .inl (fun j => iI (c2_t_2 j))))] → va_S A s.heap H locs → lv_has ls 5 [(0, .ref t), (1, .ref a1), (2, .ref a2), (3, .int (iI x2_3))] → W p l e ({ frames := 4, cells := 0, slots := 0, locals := 100 } : Room) s m ag below meth c H locs 0 0 Q (F0 m 41 ls [.int (iI z41_2), .int (iI x2_3), .ref (t_q 2)]) := by
        intro z41_2 H locs ls hf41 hP hD hS hl
        refine g_iast hx hb hK.1 hP hD hS 8 0 rfl rfl (by omega) (by omega) (by decide) dX1_roundChanges_41 (fun H locs g41 eg41 hP hD hS => ?_)
        have hg41 : ∀ j : Nat, (-2147483648) ≤ g41 j ∧ g41 j ≤ 2147483647 := by rw [eg41]; exact uI_all hc2_t_2 (by omega)
        have hP : va_P D vwCl [(a1, .inr (7, oX7 a1_q a1_x0 a1_x1 a1_x2 a1_x3 a1_x4 a1_x5 a1_x6 a1_x7 a1_x8)), (t, .inr (1, oX1 t_q)), ((t_q 1), .inl (K 0, 12, .inl (fun j => iI (t_1_c j)))), ((t_q 0), .inl (K 0, 12, .inl (fun j => iI (t_0_c j)))), (a2, .inr (10, oX10 a2_q a2_x0 a2_x1 a2_x6)), ((a2_q 3), .inl (K 0, 24, .inl (fun j => iI (a2_3_c j)))), ((t_q 3), .inl (K 0, 12, .inl (fun j => iI (c2_t_3 j)))), ((a1_q 12), .inl (K 0, 24, .inl (fun j => iI (a1_12_c j)))), ((t_q 2), .inl (K 0, 12, .inl (fun j => iI (g41 j))))] H := hP
        have hD : va_D A [(a1, .inr (7, oX7 a1_q a1_x0 a1_x1 a1_x2 a1_x3 a1_x4 a1_x5 a1_x6 a1_x7 a1_x8)), (t, .inr (1, oX1 t_q)), ((t_q 1), .inl (K 0, 12, .inl (fun j => iI (t_1_c j)))), ((t_q 0), .inl (K 0, 12, .inl (fun j => iI (t_0_c j)))), (a2, .inr (10, oX10 a2_q a2_x0 a2_x1 a2_x6)), ((a2_q 3), .inl (K 0, 24, .inl (fun j => iI (a2_3_c j)))), ((t_q 3), .inl (K 0, 12, .inl (fun j => iI (c2_t_3 j)))), ((a1_q 12), .inl (K 0, 24, .inl (fun j => iI (a1_12_c j)))), ((t_q 2), .inl (K 0, 12, .inl (fun j => iI (g41 j))))] := hD
        refine lv_aload_n hx hb dX1_roundChanges_42 rfl (lv_at hl 0 rfl) ?_
        refine va_get (D := D) (own := RX1) (ci := 1) (v := .ref (t_q 3)) (C := RX1) (T := TX1) (N := 4) hx hb hts inb_X1 hown hK.1 hP 1 rfl rfl 3 (by decide) (hts _ wd_389) (fun _ h9 => h9) rfl dX1_roundChanges_43 ?_
        refine lv_iload_n hx hb dX1_roundChanges_46 rfl (lv_at hl 3 rfl) ?_
        refine lv_aload_n hx hb dX1_roundChanges_47 rfl (lv_at hl 0 rfl) ?_
        refine va_get (D := D) (own := RX1) (ci := 1) (v := .ref (t_q 2)) (C := RX1) (T := TX1) (N := 4) hx hb hts inb_X1 hown hK.1 hP 1 rfl rfl 2 (by decide) (hts _ wd_388) (fun _ h9 => h9) rfl dX1_roundChanges_48 ?_
        refine lv_iload_n hx hb dX1_roundChanges_51 rfl (lv_at hl 3 rfl) ?_
        refine g_iald hx hb hK.1 hP 8 0 rfl rfl (by omega) (by omega) (by decide) dX1_roundChanges_52 ?_
        have y52 : (-2147483648) ≤ (g41 x2_3.toNat) ∧ (g41 x2_3.toNat) ≤ 2147483647 := hg41 x2_3.toNat
        refine g_ineg hx hb dX1_roundChanges_53 ?_
        refine g_any (fun w53 hw53 ew53 => ?_)
        refine lv_aload_n hx hb dX1_roundChanges_54 rfl (lv_at hl 0 rfl) ?_
        refine va_get (D := D) (own := RX1) (ci := 1) (v := .ref (t_q 1)) (C := RX1) (T := TX1) (N := 4) hx hb hts inb_X1 hown hK.1 hP 1 rfl rfl 1 (by decide) (hts _ wd_387) (fun _ h9 => h9) rfl dX1_roundChanges_55 ?_
        refine lv_iload_n hx hb dX1_roundChanges_58 rfl (lv_at hl 3 rfl) ?_
        refine g_iald hx hb hK.1 hP 2 0 rfl rfl (by omega) (by omega) (by decide) dX1_roundChanges_59 ?_
        have y59 : (-2147483648) ≤ (t_1_c x2_3.toNat) ∧ (t_1_c x2_3.toNat) ≤ 2147483647 := hc_t_1 x2_3.toNat
        refine g_imul hx hb dX1_roundChanges_60 ?_
        refine g_any (fun w60 hw60 ew60 => ?_)
        refine g_iast hx hb hK.1 hP hD hS 6 0 rfl rfl (by omega) (by omega) (by decide) dX1_roundChanges_61 (fun H locs g61 eg61 hP hD hS => ?_)
        have hg61 : ∀ j : Nat, (-2147483648) ≤ g61 j ∧ g61 j ≤ 2147483647 := by rw [eg61]; exact uI_all hc2_t_3 (by omega)
        have hP : va_P D vwCl [(a1, .inr (7, oX7 a1_q a1_x0 a1_x1 a1_x2 a1_x3 a1_x4 a1_x5 a1_x6 a1_x7 a1_x8)), (t, .inr (1, oX1 t_q)), ((t_q 1), .inl (K 0, 12, .inl (fun j => iI (t_1_c j)))), ((t_q 0), .inl (K 0, 12, .inl (fun j => iI (t_0_c j)))), (a2, .inr (10, oX10 a2_q a2_x0 a2_x1 a2_x6)), ((a2_q 3), .inl (K 0, 24, .inl (fun j => iI (a2_3_c j)))), ((t_q 3), .inl (K 0, 12, .inl (fun j => iI (g61 j)))), ((a1_q 12), .inl (K 0, 24, .inl (fun j => iI (a1_12_c j)))), ((t_q 2), .inl (K 0, 12, .inl (fun j => iI (g41 j))))] H := hP
        have hD : va_D A [(a1, .inr (7, oX7 a1_q a1_x0 a1_x1 a1_x2 a1_x3 a1_x4 a1_x5 a1_x6 a1_x7 a1_x8)), (t, .inr (1, oX1 t_q)), ((t_q 1), .inl (K 0, 12, .inl (fun j => iI (t_1_c j)))), ((t_q 0), .inl (K 0, 12, .inl (fun j => iI (t_0_c j)))), (a2, .inr (10, oX10 a2_q a2_x0 a2_x1 a2_x6)), ((a2_q 3), .inl (K 0, 24, .inl (fun j => iI (a2_3_c j)))), ((t_q 3), .inl (K 0, 12, .inl (fun j => iI (g61 j)))), ((a1_q 12), .inl (K 0, 24, .inl (fun j => iI (a1_12_c j)))), ((t_q 2), .inl (K 0, 12, .inl (fun j => iI (g41 j))))] := hD
        refine lv_iinc (v := iI (x2_3 + 1)) (lv' := [(3, .int (iI (x2_3 + 1))), (0, .ref t), (1, .ref a1), (2, .ref a2)]) hx hb dX1_roundChanges_62 hl (k := 3) rfl (iI_add _ _) (by decide) rfl (fun ls hl => ?_)
        refine lv_goto (tgt := 2) hx hb dX1_roundChanges_65 (by decide) ?_
        exact ih2 (x2_3 + 1) g61 g41 _ _ ls (by omega) (by omega) hg61 hg41 (hP.sub [0, 1, 2, 3, 4, 5, 6, 7, 8] rfl) (hD.sub [0, 1, 2, 3, 4, 5, 6, 7, 8] (by decide) rfl) hS (lv_sub hl [1, 2, 3, 0] rfl)
      refine lv_iload_n hx hb dX1_roundChanges_2 rfl (lv_at hl 3 rfl) ?_
      refine lv_aload_n hx hb dX1_roundChanges_3 rfl (lv_at hl 1 rfl) ?_
      refine va_getN (D := D) (own := RX1) (ci := 7) (v := .int (iI a1_x4)) (C := RX7) (T := TX7) (N := 15) hx hb hts inb_X7 hown hK.1 hP 0 rfl rfl 4 (by decide) (hK.nf 22 rfl) (fun _ h9 => h9) rfl dX1_roundChanges_4 ?_
      have y4_1 : 0 ≤ a1_x4 ∧ a1_x4 ≤ 12 := hi_a1.2.2.2.2.1
      refine g_icmp_ge (tgt := 68) hx hb (by omega) (by omega) dX1_roundChanges_7 (by decide) (fun c7 => ?_) (fun c7 => ?_)
      · refine lv_iconst (v := iI 0) hx hb dX1_roundChanges_68 rfl ?_
        refine lv_istore_n (lv' := [(3, .int (iI 0)), (0, .ref t), (1, .ref a1), (2, .ref a2)]) hx hb dX1_roundChanges_69 rfl hl (by decide) rfl (fun ls hl => ?_)
        exact J70 _ 0 c2_t_3 c2_t_2 _ _ ls (Nat.lt_succ_self _) (by omega) hc2_t_3 hc2_t_2 (hP.sub [0, 1, 2, 3, 4, 5, 6, 7, 8] rfl) (hD.sub [0, 1, 2, 3, 4, 5, 6, 7, 8] (by decide) rfl) hS (lv_sub hl [1, 2, 3, 0] rfl)
      · refine lv_aload_n hx hb dX1_roundChanges_10 rfl (lv_at hl 0 rfl) ?_
        refine va_get (D := D) (own := RX1) (ci := 1) (v := .ref (t_q 2)) (C := RX1) (T := TX1) (N := 4) hx hb hts inb_X1 hown hK.1 hP 1 rfl rfl 2 (by decide) (hts _ wd_388) (fun _ h9 => h9) rfl dX1_roundChanges_11 ?_
        refine lv_iload_n hx hb dX1_roundChanges_14 rfl (lv_at hl 3 rfl) ?_
        refine lv_aload_n hx hb dX1_roundChanges_15 rfl (lv_at hl 0 rfl) ?_
        refine va_get (D := D) (own := RX1) (ci := 1) (v := .ref (t_q 1)) (C := RX1) (T := TX1) (N := 4) hx hb hts inb_X1 hown hK.1 hP 1 rfl rfl 1 (by decide) (hts _ wd_387) (fun _ h9 => h9) rfl dX1_roundChanges_16 ?_
        refine lv_iload_n hx hb dX1_roundChanges_19 rfl (lv_at hl 3 rfl) ?_
        refine g_iald hx hb hK.1 hP 2 0 rfl rfl (by omega) (by omega) (by decide) dX1_roundChanges_20 ?_
        have y20 : (-2147483648) ≤ (t_1_c x2_3.toNat) ∧ (t_1_c x2_3.toNat) ≤ 2147483647 := hc_t_1 x2_3.toNat
        refine g_if_ne (tgt := 28) hx hb (by omega) dX1_roundChanges_21 (by decide) (fun c21 => ?_) (fun c21 => ?_)
        · refine lv_aload_n hx hb dX1_roundChanges_28 rfl (lv_at hl 0 rfl) ?_
          refine va_get (D := D) (own := RX1) (ci := 1) (v := .ref (t_q 0)) (C := RX1) (T := TX1) (N := 4) hx hb hts inb_X1 hown hK.1 hP 1 rfl rfl 0 (by decide) (hts _ wd_385) (fun _ h9 => h9) rfl dX1_roundChanges_29 ?_
          refine lv_iload_n hx hb dX1_roundChanges_32 rfl (lv_at hl 3 rfl) ?_
          refine g_iald hx hb hK.1 hP 3 0 rfl rfl (by omega) (by omega) (by decide) dX1_roundChanges_33 ?_
          have y33 : (-2147483648) ≤ (t_0_c x2_3.toNat) ∧ (t_0_c x2_3.toNat) ≤ 2147483647 := hc_t_0 x2_3.toNat
          refine lv_aload_n hx hb dX1_roundChanges_34 rfl (lv_at hl 0 rfl) ?_
          refine va_get (D := D) (own := RX1) (ci := 1) (v := .ref (t_q 1)) (C := RX1) (T := TX1) (N := 4) hx hb hts inb_X1 hown hK.1 hP 1 rfl rfl 1 (by decide) (hts _ wd_387) (fun _ h9 => h9) rfl dX1_roundChanges_35 ?_
          refine lv_iload_n hx hb dX1_roundChanges_38 rfl (lv_at hl 3 rfl) ?_
          refine fn_at 39 rfl ?_
          refine g_iald hx hb hK.1 hP 2 0 rfl rfl (by omega) (by omega) (by decide) dX1_roundChanges_39 ?_
          refine lv_idiv hx hb dX1_roundChanges_40 (iI_n0 (by omega) (by omega)) ?_
          refine g_any (fun w40 hw40 ew40 => ?_)
          exact J41 w40 _ _ ls (by omega) (hP.sub [0, 1, 2, 3, 4, 5, 6, 7, 8] rfl) (hD.sub [0, 1, 2, 3, 4, 5, 6, 7, 8] (by decide) rfl) hS (lv_sub hl [0, 1, 2, 3] rfl)
        · refine lv_iconst (v := iI 0) hx hb dX1_roundChanges_24 rfl ?_
          refine lv_goto (tgt := 41) hx hb dX1_roundChanges_25 (by decide) ?_
          exact J41 0 _ _ ls (by omega) (hP.sub [0, 1, 2, 3, 4, 5, 6, 7, 8] rfl) (hD.sub [0, 1, 2, 3, 4, 5, 6, 7, 8] (by decide) rfl) hS (lv_sub hl [0, 1, 2, 3] rfl)
  have hl : lv_has ls 5 [(0, .ref t), (1, .ref a1), (2, .ref a2)] := hl
  refine lv_iconst (v := iI 0) hx hb dX1_roundChanges_0 rfl ?_
  refine lv_istore_n (lv' := [(3, .int (iI 0)), (0, .ref t), (1, .ref a1), (2, .ref a2)]) hx hb dX1_roundChanges_1 rfl hl (by decide) rfl (fun ls hl => ?_)
  exact J2 _ 0 t_3_c t_2_c _ _ ls (Nat.lt_succ_self _) (by omega) hc_t_3 hc_t_2 (hP.sub [0, 1, 2, 3, 4, 5, 6, 7, 8] rfl) (hD.sub [0, 1, 2, 3, 4, 5, 6, 7, 8] (by decide) rfl) hS (lv_sub hl [1, 2, 3, 0] rfl)
theorem wd_1082 : Cond.code ⟨"FootNotes$Ledger", "roundChanges", "(LFootNotes$Text;LFootNotes$Web;)Z"⟩ prog_3_method_4_code 5 (Option.some Jvm.ClassFile.FieldType.boolean) ∈ fn_big := fn_tb (fn_l5 (List.mem_of_getElem? (i := 122) (by decide +kernel))) (by decide +kernel)
theorem wd_11 : Cond.initialized "FootNotes$Ledger" ∈ fn_big := fn_tb (fn_l1 (List.mem_of_getElem? (i := 11) (by decide +kernel))) (by decide +kernel)
theorem wd_1079 : Cond.methodLink "FootNotes$Ledger" 48 ⟨"FootNotes$Ledger", "roundChanges", "(LFootNotes$Text;LFootNotes$Web;)Z"⟩ ∈ fn_big := fn_tb (fn_l5 (List.mem_of_getElem? (i := 119) (by decide +kernel))) (by decide +kernel)
theorem wd_1081 : Cond.instanceMethod ⟨"FootNotes$Ledger", "roundChanges", "(LFootNotes$Text;LFootNotes$Web;)Z"⟩ ∈ fn_big := fn_tb (fn_l5 (List.mem_of_getElem? (i := 121) (by decide +kernel))) (by decide +kernel)
theorem wp_78 : Cond.selects "FootNotes$Ledger" ⟨"FootNotes$Ledger", "roundChanges", "(LFootNotes$Text;LFootNotes$Web;)Z"⟩ ⟨"FootNotes$Ledger", "roundChanges", "(LFootNotes$Text;LFootNotes$Web;)Z"⟩ ∈ fn_big := fn_sel (q := (⟨"FootNotes$Ledger", "roundChanges", "(LFootNotes$Text;LFootNotes$Web;)Z"⟩, 4)) 78 (by decide +kernel) (by decide +kernel)
theorem wd_1077 : Cond.code ⟨"FootNotes$Ledger", "open", "(LFootNotes$Text;LFootNotes$Web;)V"⟩ prog_3_method_2_code 4 (Option.none : Option Jvm.ClassFile.FieldType) ∈ fn_big := fn_tb (fn_l5 (List.mem_of_getElem? (i := 117) (by decide +kernel))) (by decide +kernel)
theorem wd_1074 : Cond.methodLink "FootNotes$Ledger" 44 ⟨"FootNotes$Ledger", "open", "(LFootNotes$Text;LFootNotes$Web;)V"⟩ ∈ fn_big := fn_tb (fn_l5 (List.mem_of_getElem? (i := 114) (by decide +kernel))) (by decide +kernel)
theorem wd_1076 : Cond.instanceMethod ⟨"FootNotes$Ledger", "open", "(LFootNotes$Text;LFootNotes$Web;)V"⟩ ∈ fn_big := fn_tb (fn_l5 (List.mem_of_getElem? (i := 116) (by decide +kernel))) (by decide +kernel)
theorem wp_77 : Cond.selects "FootNotes$Ledger" ⟨"FootNotes$Ledger", "open", "(LFootNotes$Text;LFootNotes$Web;)V"⟩ ⟨"FootNotes$Ledger", "open", "(LFootNotes$Text;LFootNotes$Web;)V"⟩ ∈ fn_big := fn_sel (q := (⟨"FootNotes$Ledger", "open", "(LFootNotes$Text;LFootNotes$Web;)V"⟩, 4)) 77 (by decide +kernel) (by decide +kernel)
theorem dX1_runRounds_12 : decode cX1_runRounds 12 = .ok (.iload 5, 2) := by decide +kernel
theorem dX1_runRounds_14 : decode cX1_runRounds 14 = .ok (.iload_n 3, 1) := by decide +kernel
theorem dX1_runRounds_15 : decode cX1_runRounds 15 = .ok (.if_icmp .ge 22, 3) := by decide +kernel
theorem dX1_runRounds_37 : decode cX1_runRounds 37 = .ok (.return_, 1) := by decide +kernel
theorem dX1_runRounds_18 : decode cX1_runRounds 18 = .ok (.iload 4, 2) := by decide +kernel
theorem dX1_runRounds_20 : decode cX1_runRounds 20 = .ok (.ifCond .eq 17, 3) := by decide +kernel
theorem dX1_runRounds_23 : decode cX1_runRounds 23 = .ok (.aload_n 0, 1) := by decide +kernel
theorem dX1_runRounds_24 : decode cX1_runRounds 24 = .ok (.aload_n 1, 1) := by decide +kernel
theorem dX1_runRounds_25 : decode cX1_runRounds 25 = .ok (.aload_n 2, 1) := by decide +kernel
theorem dX1_runRounds_26 : decode cX1_runRounds 26 = .ok (.invokevirtual 48, 3) := by decide +kernel
theorem dX1_runRounds_29 : decode cX1_runRounds 29 = .ok (.istore 4, 2) := by decide +kernel
theorem dX1_runRounds_31 : decode cX1_runRounds 31 = .ok (.iinc 5 1, 3) := by decide +kernel
theorem dX1_runRounds_34 : decode cX1_runRounds 34 = .ok (.goto (-22), 3) := by decide +kernel
theorem dX1_runRounds_0 : decode cX1_runRounds 0 = .ok (.aload_n 0, 1) := by decide +kernel
theorem dX1_runRounds_1 : decode cX1_runRounds 1 = .ok (.aload_n 1, 1) := by decide +kernel
theorem dX1_runRounds_2 : decode cX1_runRounds 2 = .ok (.aload_n 2, 1) := by decide +kernel
theorem dX1_runRounds_3 : decode cX1_runRounds 3 = .ok (.invokevirtual 44, 3) := by decide +kernel
theorem dX1_runRounds_6 : decode cX1_runRounds 6 = .ok (.iconst 1, 1) := by decide +kernel
theorem dX1_runRounds_7 : decode cX1_runRounds 7 = .ok (.istore 4, 2) := by decide +kernel
theorem dX1_runRounds_9 : decode cX1_runRounds 9 = .ok (.iconst 0, 1) := by decide +kernel
theorem dX1_runRounds_10 : decode cX1_runRounds 10 = .ok (.istore 5, 2) := by decide +kernel
set_option maxHeartbeats 4000000 in
set_option maxRecDepth 100000 in
theorem k_X1_runRounds (l : Launch) (D : va_G) (K : Nat → ClassId) (t a1 a2 : Nat) (t_q a1_q a2_q : Nat → Nat) (p3 a1_x0 a1_x1 a1_x2 a1_x3 a1_x4 a1_x5 a1_x6 a1_x7 a1_x8 a2_x0 a2_x1 a2_x6 : Int) (t_0_c : Nat → Int) (t_1_c : Nat → Int) (a2_3_c : Nat → Int) (a1_12_c : Nat → Int) (t_3_c : Nat → Int) (t_2_c : Nat → Int) (hp3 : 0 ≤ p3 ∧ p3 ≤ 40) (hc_t_0 : ∀ j : Nat, (-2147483648) ≤ t_0_c j ∧ t_0_c j ≤ 2147483647) (hc_t_1 : ∀ j : Nat, (-2147483648) ≤ t_1_c j ∧ t_1_c j ≤ 2147483647) (hi_a1 : bX7 a1_x0 a1_x1 a1_x2 a1_x3 a1_x4 a1_x5 a1_x6 a1_x7 a1_x8) (hi_a2 : bX10 a2_x0 a2_x1 a2_x6) (hc_a2_3 : ∀ j : Nat, (-1) ≤ a2_3_c j ∧ a2_3_c j ≤ 11) (hc_a1_12 : ∀ j : Nat, 0 ≤ a1_12_c j ∧ a1_12_c j ≤ 11) (hc_t_3 : ∀ j : Nat, (-2147483648) ≤ t_3_c j ∧ t_3_c j ≤ 2147483647) (hc_t_2 : ∀ j : Nat, (-2147483648) ≤ t_2_c j ∧ t_2_c j ≤ 2147483647) : fn_CV (S := (Nat → Int) × (Nat → Nat → Int)) l D K yX1_runRounds (fn_ws yX1_runRounds cX1_runRounds 6 none) ({ frames := 12, cells := 0, slots := 0, locals := 300 } : Room) [.ref t, .ref a1, .ref a2, .int (iI p3)] [(t, .inr (1, oX1 t_q)), ((t_q 0), .inl (K 0, 12, .inl (fun j => iI (t_0_c j)))), ((t_q 1), .inl (K 0, 12, .inl (fun j => iI (t_1_c j)))), (a1, .inr (7, oX7 a1_q a1_x0 a1_x1 a1_x2 a1_x3 a1_x4 a1_x5 a1_x6 a1_x7 a1_x8)), (a2, .inr (10, oX10 a2_q a2_x0 a2_x1 a2_x6)), ((a2_q 3), .inl (K 0, 24, .inl (fun j => iI (a2_3_c j)))), ((a1_q 12), .inl (K 0, 24, .inl (fun j => iI (a1_12_c j)))), ((t_q 3), .inl (K 0, 12, .inl (fun j => iI (t_3_c j)))), ((t_q 2), .inl (K 0, 12, .inl (fun j => iI (t_2_c j))))] (fun u => (∀ j : Nat, (-2147483648) ≤ (u.2 0) j ∧ (u.2 0) j ≤ 2147483647) ∧ (∀ j : Nat, (-2147483648) ≤ (u.2 1) j ∧ (u.2 1) j ≤ 2147483647) ∧ (∀ j : Nat, (-2147483648) ≤ (u.2 2) j ∧ (u.2 2) j ≤ 2147483647) ∧ (∀ j : Nat, (-2147483648) ≤ (u.2 3) j ∧ (u.2 3) j ≤ 2147483647) ∧ True) (fun u => [(t, .inr (1, oX1 t_q)), ((t_q 0), .inl (K 0, 12, .inl (fun j => iI ((u.2 0) j)))), ((t_q 1), .inl (K 0, 12, .inl (fun j => iI ((u.2 1) j)))), (a1, .inr (7, oX7 a1_q a1_x0 a1_x1 a1_x2 a1_x3 a1_x4 a1_x5 a1_x6 a1_x7 a1_x8)), (a2, .inr (10, oX10 a2_q a2_x0 a2_x1 a2_x6)), ((a2_q 3), .inl (K 0, 24, .inl (fun j => iI (a2_3_c j)))), ((a1_q 12), .inl (K 0, 24, .inl (fun j => iI (a1_12_c j)))), ((t_q 3), .inl (K 0, 12, .inl (fun j => iI ((u.2 3) j)))), ((t_q 2), .inl (K 0, 12, .inl (fun j => iI ((u.2 2) j))))]) 0 0 := by
  refine g_inV (cc := cX1_runRounds) (maxL := 6) (ret := none) (by decide) rfl (Nat.le_of_ble_eq_true rfl) ?_
  intro p e s m below meth c A ls ag Q B hA hP hD hS hl hQ
  obtain ⟨hx, hb, hr, hml, hts, hown, hlocks, hin, hK⟩ := B
  have hown : s.vm.findClass RX1 = some m.cls := hown
  have hts := fun w h => hts w (List.mem_cons_of_mem _ h)
  have J12 : ∀ (n : Nat) (x12_4 : Int) (x12_5 : Int) (c12_t_0 : Nat → Int) (c12_t_1 : Nat → Int) (c12_t_3 : Nat → Int) (c12_t_2 : Nat → Int) (H : Heap) (locs : List Loc) (ls : Array Slot), (40 - x12_5).toNat < n → (0 ≤ x12_4 ∧ x12_4 ≤ 1 ∧ 0 ≤ x12_5 ∧ x12_5 ≤ 40) → (∀ j : Nat, (-2147483648) ≤ c12_t_0 j ∧ c12_t_0 j ≤ 2147483647) → (∀ j : Nat, (-2147483648) ≤ c12_t_1 j ∧ c12_t_1 j ≤ 2147483647) → (∀ j : Nat, (-2147483648) ≤ c12_t_3 j ∧ c12_t_3 j ≤ 2147483647) → (∀ j : Nat, (-2147483648) ≤ c12_t_2 j ∧ c12_t_2 j ≤ 2147483647) → va_P D vwCl [(t, .inr (1, oX1 t_q)), ((t_q 0), .inl (K 0, 12, .inl (fun j => iI (c12_t_0 j)))), ((t_q 1), .inl (K 0, 12, .inl (fun j => iI (c12_t_1 j)))), (a1, .inr (7, oX7 a1_q a1_x0 a1_x1 a1_x2 a1_x3 a1_x4 a1_x5 a1_x6 a1_x7 a1_x8)), (a2, .inr (10, oX10 a2_q a2_x0 a2_x1 a2_x6)), ((a2_q 3), .inl (K 0, 24, .inl (fun j => iI (a2_3_c j)))), ((a1_q 12), .inl (K 0, 24, .inl (fun j => iI (a1_12_c j)))), ((t_q 3), .inl (K 0, 12, .inl (fun j => iI (c12_t_3 j)))), ((t_q 2), .inl (K 0, 12, .inl (fun j => iI (c12_t_2 j))))] H → va_D A [(t, .inr (1, oX1 t_q)), ((t_q 0), .inl (K 0, 12, .inl (fun j => iI (c12_t_0 j)))), ((t_q 1), .inl (K 0, 12, .inl (fun j => iI (c12_t_1 j)))), (a1, .inr (7, oX7 a1_q a1_x0 a1_x1 a1_x2 a1_x3 a1_x4 a1_x5 a1_x6 a1_x7 a1_x8)), (a2, .inr (10, oX10 a2_q a2_x0 a2_x1 a2_x6)), ((a2_q 3), .inl (K 0, 24, .inl (fun j => iI (a2_3_c j)))), ((a1_q 12), .inl (K 0, 24, .inl (fun j => iI (a1_12_c j)))), ((t_q 3), .inl (K 0, 12, .inl (fun j => iI (c12_t_3 j)))), ((t_q 2), .inl (K 0, 12, .inl (fun j => iI (c12_t_2 j))))] → va_S A s.heap H locs → lv_has ls 6 [(0, .ref t), (1, .ref a1), (2, .ref a2), (3, .int (iI p3)), (4, .int (iI x12_4)), (5, .int (iI x12_5))] → W p l e ({ frames := 12, cells := 0, slots := 0, locals := 300 } : Room) s m ag below meth c H locs 0 0 Q (F0 m 12 ls []) := by
    intro n
    induction n with
    | zero =>
      intro x12_4 x12_5 c12_t_0 c12_t_1 c12_t_3 c12_t_2 H locs ls hm12 hf12 hc12_t_0 hc12_t_1 hc12_t_3 hc12_t_2 hP hD hS hl
      exact absurd hm12 (Nat.not_lt_zero _)
    | succ n ih12 =>
      intro x12_4 x12_5 c12_t_0 c12_t_1 c12_t_3 c12_t_2 H locs ls hm12 hf12 hc12_t_0 hc12_t_1 hc12_t_3 hc12_t_2 hP hD hS hl
      refine lv_iload hx hb dX1_runRounds_12 (lv_at hl 5 rfl) ?_
      refine lv_iload_n hx hb dX1_runRounds_14 rfl (lv_at hl 3 rfl) ?_
      refine g_icmp_ge (tgt := 37) hx hb (by omega) (by omega) dX1_runRounds_15 (by decide) (fun c15 => ?_) (fun c15 => ?_)
      · rw [hQ]; exact fn_vret hx hb hr hlocks hP hD hS ((fun _ => 0), (fun k => ([c12_t_0, c12_t_1, c12_t_2, c12_t_3] : List (Nat → Int)).getD k (fun _ => 0))) ⟨(hc12_t_0), (hc12_t_1), (hc12_t_2), (hc12_t_3), trivial⟩ [0, 1, 2, 3, 4, 5, 6, 7, 8] (by decide) rfl dX1_runRounds_37
      · refine lv_iload hx hb dX1_runRounds_18 (lv_at hl 4 rfl) ?_
        refine g_if_eq (tgt := 37) hx hb (by omega) dX1_runRounds_20 (by decide) (fun c20 => ?_) (fun c20 => ?_)
        · rw [hQ]; exact fn_vret hx hb hr hlocks hP hD hS ((fun _ => 0), (fun k => ([c12_t_0, c12_t_1, c12_t_2, c12_t_3] : List (Nat → Int)).getD k (fun _ => 0))) ⟨(hc12_t_0), (hc12_t_1), (hc12_t_2), (hc12_t_3), trivial⟩ [0, 1, 2, 3, 4, 5, 6, 7, 8] (by decide) rfl dX1_runRounds_37
        · refine lv_aload_n hx hb dX1_runRounds_23 rfl (lv_at hl 0 rfl) ?_
          refine lv_aload_n hx hb dX1_runRounds_24 rfl (lv_at hl 1 rfl) ?_
          refine lv_aload_n hx hb dX1_runRounds_25 rfl (lv_at hl 2 rfl) ?_
          refine fn_goi (wc := [(a1, .inr (7, oX7 a1_q a1_x0 a1_x1 a1_x2 a1_x3 a1_x4 a1_x5 a1_x6 a1_x7 a1_x8)), (t, .inr (1, oX1 t_q)), ((t_q 1), .inl (K 0, 12, .inl (fun j => iI (c12_t_1 j)))), ((t_q 0), .inl (K 0, 12, .inl (fun j => iI (c12_t_0 j)))), (a2, .inr (10, oX10 a2_q a2_x0 a2_x1 a2_x6)), ((a2_q 3), .inl (K 0, 24, .inl (fun j => iI (a2_3_c j)))), ((t_q 3), .inl (K 0, 12, .inl (fun j => iI (c12_t_3 j)))), ((a1_q 12), .inl (K 0, 24, .inl (fun j => iI (a1_12_c j)))), ((t_q 2), .inl (K 0, 12, .inl (fun j => iI (c12_t_2 j))))]) (wr := []) hK hP hD hS hA [3, 0, 2, 1, 4, 5, 7, 6, 8] [] rfl rfl (by decide) (fun hp => va_runV (C := RX1) (As := [.ref a1, .ref a2]) (rest := []) ⟨hx, hb, hml, hown, hts⟩ (k_X1_roundChanges (l := l) (D := D) (K := K) (t := t) (a1 := a1) (a2 := a2) (a1_q := a1_q) (a1_x0 := a1_x0) (a1_x1 := a1_x1) (a1_x2 := a1_x2) (a1_x3 := a1_x3) (a1_x4 := a1_x4) (a1_x5 := a1_x5) (a1_x6 := a1_x6) (a1_x7 := a1_x7) (a1_x8 := a1_x8) (t_q := t_q) (t_1_c := c12_t_1) (t_0_c := c12_t_0) (a2_q := a2_q) (a2_x0 := a2_x0) (a2_x1 := a2_x1) (a2_x6 := a2_x6) (a2_3_c := a2_3_c) (t_3_c := c12_t_3) (a1_12_c := a1_12_c) (t_2_c := c12_t_2) (hi_a1 := hi_a1) (hc_t_1 := hc12_t_1) (hc_t_0 := hc12_t_0) (hi_a2 := hi_a2) (hc_a2_3 := hc_a2_3) (hc_t_3 := hc12_t_3) (hc_a1_12 := hc_a1_12) (hc_t_2 := hc12_t_2) _) (cwV 2 hts (fn_ginV (fn_gin wd_1082) wd_1079 wd_1081 wp_78 wd_11) rfl rfl rfl (by decide +kernel) ⟨Nat.le_of_ble_eq_true rfl, Nat.le_of_ble_eq_true rfl⟩) ⟨fn_blind, va_recv hK.1 hP (ci := 1) (q0 := 0) rfl rfl, hp⟩ rfl rfl hl.1 rfl (lv_room (Nat.le_of_ble_eq_true rfl)) dX1_runRounds_26 ⟨Nat.le_of_ble_eq_true rfl, Nat.le_of_ble_eq_true rfl⟩) (fun r26 u26 H locs hwu26 hP hD hS => ?_)
          obtain ⟨u26a, u26b⟩ := u26
          obtain ⟨kr26, rfl, hkr26, hu26_00, hu26_10, hu26_20, -⟩ := hwu26
          have hu26_0 : ∀ j : Nat, (-2147483648) ≤ (u26b 0) j ∧ (u26b 0) j ≤ 2147483647 := hu26_00
          have hu26_1 : ∀ j : Nat, (-2147483648) ≤ (u26b 1) j ∧ (u26b 1) j ≤ 2147483647 := hu26_10
          have hu26_2 : ∀ j : Nat, (-2147483648) ≤ (u26b 2) j ∧ (u26b 2) j ≤ 2147483647 := hu26_20
          clear hu26_00 hu26_10 hu26_20
          have hP : va_P D vwCl [(a1, .inr (7, oX7 a1_q a1_x0 a1_x1 a1_x2 a1_x3 a1_x4 a1_x5 a1_x6 a1_x7 a1_x8)), (t, .inr (1, oX1 t_q)), ((t_q 1), .inl (K 0, 12, .inl (fun j => iI (c12_t_1 j)))), ((t_q 0), .inl (K 0, 12, .inl (fun j => iI ((u26b 0) j)))), (a2, .inr (10, oX10 a2_q a2_x0 a2_x1 a2_x6)), ((a2_q 3), .inl (K 0, 24, .inl (fun j => iI (a2_3_c j)))), ((t_q 3), .inl (K 0, 12, .inl (fun j => iI ((u26b 2) j)))), ((a1_q 12), .inl (K 0, 24, .inl (fun j => iI (a1_12_c j)))), ((t_q 2), .inl (K 0, 12, .inl (fun j => iI ((u26b 1) j))))] H := hP
          have hD : va_D A [(a1, .inr (7, oX7 a1_q a1_x0 a1_x1 a1_x2 a1_x3 a1_x4 a1_x5 a1_x6 a1_x7 a1_x8)), (t, .inr (1, oX1 t_q)), ((t_q 1), .inl (K 0, 12, .inl (fun j => iI (c12_t_1 j)))), ((t_q 0), .inl (K 0, 12, .inl (fun j => iI ((u26b 0) j)))), (a2, .inr (10, oX10 a2_q a2_x0 a2_x1 a2_x6)), ((a2_q 3), .inl (K 0, 24, .inl (fun j => iI (a2_3_c j)))), ((t_q 3), .inl (K 0, 12, .inl (fun j => iI ((u26b 2) j)))), ((a1_q 12), .inl (K 0, 24, .inl (fun j => iI (a1_12_c j)))), ((t_q 2), .inl (K 0, 12, .inl (fun j => iI ((u26b 1) j))))] := hD
          refine lv_istore (lv' := [(4, .int (iI kr26)), (0, .ref t), (1, .ref a1), (2, .ref a2), (3, .int (iI p3)), (5, .int (iI x12_5))]) hx hb dX1_runRounds_29 hl (by decide) rfl (fun ls hl => ?_)
          refine lv_iinc (v := iI (x12_5 + 1)) (lv' := [(5, .int (iI (x12_5 + 1))), (4, .int (iI kr26)), (0, .ref t), (1, .ref a1), (2, .ref a2), (3, .int (iI p3))]) hx hb dX1_runRounds_31 hl (k := 5) rfl (iI_add _ _) (by decide) rfl (fun ls hl => ?_)
          refine lv_goto (tgt := 12) hx hb dX1_runRounds_34 (by decide) ?_
          exact ih12 kr26 (x12_5 + 1) (u26b 0) c12_t_1 (u26b 2) (u26b 1) _ _ ls (by omega) (by omega) hu26_0 hc12_t_1 hu26_2 hu26_1 (hP.sub [1, 3, 2, 0, 4, 5, 7, 6, 8] rfl) (hD.sub [1, 3, 2, 0, 4, 5, 7, 6, 8] (by decide) rfl) hS (lv_sub hl [2, 3, 4, 5, 1, 0] rfl)
  have hl : lv_has ls 6 [(0, .ref t), (1, .ref a1), (2, .ref a2), (3, .int (iI p3))] := hl
  refine lv_aload_n hx hb dX1_runRounds_0 rfl (lv_at hl 0 rfl) ?_
  refine lv_aload_n hx hb dX1_runRounds_1 rfl (lv_at hl 1 rfl) ?_
  refine lv_aload_n hx hb dX1_runRounds_2 rfl (lv_at hl 2 rfl) ?_
  refine fn_gov (wc := [(t, .inr (1, oX1 t_q)), ((t_q 0), .inl (K 0, 12, .inl (fun j => iI (t_0_c j)))), ((t_q 1), .inl (K 0, 12, .inl (fun j => iI (t_1_c j)))), (a1, .inr (7, oX7 a1_q a1_x0 a1_x1 a1_x2 a1_x3 a1_x4 a1_x5 a1_x6 a1_x7 a1_x8)), (a2, .inr (10, oX10 a2_q a2_x0 a2_x1 a2_x6)), ((a2_q 3), .inl (K 0, 24, .inl (fun j => iI (a2_3_c j)))), ((a1_q 12), .inl (K 0, 24, .inl (fun j => iI (a1_12_c j))))]) (wr := [((t_q 3), .inl (K 0, 12, .inl (fun j => iI (t_3_c j)))), ((t_q 2), .inl (K 0, 12, .inl (fun j => iI (t_2_c j))))]) hK hP hD hS hA [0, 1, 2, 3, 4, 5, 6] [7, 8] rfl rfl (by decide) (fun hp => va_runV (C := RX1) (As := [.ref a1, .ref a2]) (rest := []) ⟨hx, hb, hml, hown, hts⟩ (k_X1_open (l := l) (D := D) (K := K) (t := t) (a1 := a1) (a2 := a2) (t_q := t_q) (t_0_c := t_0_c) (t_1_c := t_1_c) (a1_q := a1_q) (a1_x0 := a1_x0) (a1_x1 := a1_x1) (a1_x2 := a1_x2) (a1_x3 := a1_x3) (a1_x4 := a1_x4) (a1_x5 := a1_x5) (a1_x6 := a1_x6) (a1_x7 := a1_x7) (a1_x8 := a1_x8) (a2_q := a2_q) (a2_x0 := a2_x0) (a2_x1 := a2_x1) (a2_x6 := a2_x6) (a2_3_c := a2_3_c) (a1_12_c := a1_12_c) (hc_t_0 := hc_t_0) (hc_t_1 := hc_t_1) (hi_a1 := hi_a1) (hi_a2 := hi_a2) (hc_a2_3 := hc_a2_3) (hc_a1_12 := hc_a1_12) _) (cwV 2 hts (fn_ginV (fn_gin wd_1077) wd_1074 wd_1076 wp_77 wd_11) rfl rfl rfl (by decide +kernel) ⟨Nat.le_of_ble_eq_true rfl, Nat.le_of_ble_eq_true rfl⟩) ⟨fn_blind, va_recv hK.1 hP (ci := 1) (q0 := 0) rfl rfl, hp⟩ rfl rfl hl.1 rfl (lv_room (Nat.le_of_ble_eq_true rfl)) dX1_runRounds_3 ⟨Nat.le_of_ble_eq_true rfl, Nat.le_of_ble_eq_true rfl⟩) (fun u3 H locs hwu3 hP hD hS => ?_)
  obtain ⟨u3a, u3b⟩ := u3
  obtain ⟨hu3_00, hu3_10, -⟩ := hwu3
  have hu3_0 : ∀ j : Nat, (-2147483648) ≤ (u3b 0) j ∧ (u3b 0) j ≤ 2147483647 := hu3_00
  have hu3_1 : ∀ j : Nat, (-2147483648) ≤ (u3b 1) j ∧ (u3b 1) j ≤ 2147483647 := hu3_10
  clear hu3_00 hu3_10
  have hP : va_P D vwCl [((t_q 3), .inl (K 0, 12, .inl (fun j => iI (t_3_c j)))), ((t_q 2), .inl (K 0, 12, .inl (fun j => iI (t_2_c j)))), (t, .inr (1, oX1 t_q)), ((t_q 0), .inl (K 0, 12, .inl (fun j => iI ((u3b 0) j)))), ((t_q 1), .inl (K 0, 12, .inl (fun j => iI ((u3b 1) j)))), (a1, .inr (7, oX7 a1_q a1_x0 a1_x1 a1_x2 a1_x3 a1_x4 a1_x5 a1_x6 a1_x7 a1_x8)), (a2, .inr (10, oX10 a2_q a2_x0 a2_x1 a2_x6)), ((a2_q 3), .inl (K 0, 24, .inl (fun j => iI (a2_3_c j)))), ((a1_q 12), .inl (K 0, 24, .inl (fun j => iI (a1_12_c j))))] H := hP
  have hD : va_D A [((t_q 3), .inl (K 0, 12, .inl (fun j => iI (t_3_c j)))), ((t_q 2), .inl (K 0, 12, .inl (fun j => iI (t_2_c j)))), (t, .inr (1, oX1 t_q)), ((t_q 0), .inl (K 0, 12, .inl (fun j => iI ((u3b 0) j)))), ((t_q 1), .inl (K 0, 12, .inl (fun j => iI ((u3b 1) j)))), (a1, .inr (7, oX7 a1_q a1_x0 a1_x1 a1_x2 a1_x3 a1_x4 a1_x5 a1_x6 a1_x7 a1_x8)), (a2, .inr (10, oX10 a2_q a2_x0 a2_x1 a2_x6)), ((a2_q 3), .inl (K 0, 24, .inl (fun j => iI (a2_3_c j)))), ((a1_q 12), .inl (K 0, 24, .inl (fun j => iI (a1_12_c j))))] := hD
  refine lv_iconst (v := iI 1) hx hb dX1_runRounds_6 rfl ?_
  refine lv_istore (lv' := [(4, .int (iI 1)), (0, .ref t), (1, .ref a1), (2, .ref a2), (3, .int (iI p3))]) hx hb dX1_runRounds_7 hl (by decide) rfl (fun ls hl => ?_)
  refine lv_iconst (v := iI 0) hx hb dX1_runRounds_9 rfl ?_
  refine lv_istore (lv' := [(5, .int (iI 0)), (4, .int (iI 1)), (0, .ref t), (1, .ref a1), (2, .ref a2), (3, .int (iI p3))]) hx hb dX1_runRounds_10 hl (by decide) rfl (fun ls hl => ?_)
  exact J12 _ 1 0 (u3b 0) (u3b 1) t_3_c t_2_c _ _ ls (Nat.lt_succ_self _) (by omega) hu3_0 hu3_1 hc_t_3 hc_t_2 (hP.sub [2, 3, 4, 5, 6, 7, 8, 0, 1] rfl) (hD.sub [2, 3, 4, 5, 6, 7, 8, 0, 1] (by decide) rfl) hS (lv_sub hl [2, 3, 4, 5, 1, 0] rfl)
theorem wd_359 : Cond.fieldLink "FootNotes$Precedence" 15 "FootNotes$Precedence" "tried" "[I" ∈ fn_big := fn_tb (fn_l2 (List.mem_of_getElem? (i := 119) (by decide +kernel))) (by decide +kernel)
theorem dX2_swap_0 : decode cX2_swap 0 = .ok (.aload_n 0, 1) := by decide +kernel
theorem dX2_swap_1 : decode cX2_swap 1 = .ok (.getfield 15, 3) := by decide +kernel
theorem dX2_swap_4 : decode cX2_swap 4 = .ok (.iload_n 1, 1) := by decide +kernel
theorem dX2_swap_5 : decode cX2_swap 5 = .ok (.iaload, 1) := by decide +kernel
theorem dX2_swap_6 : decode cX2_swap 6 = .ok (.istore_n 3, 1) := by decide +kernel
theorem dX2_swap_7 : decode cX2_swap 7 = .ok (.aload_n 0, 1) := by decide +kernel
theorem dX2_swap_8 : decode cX2_swap 8 = .ok (.getfield 15, 3) := by decide +kernel
theorem dX2_swap_11 : decode cX2_swap 11 = .ok (.iload_n 1, 1) := by decide +kernel
theorem dX2_swap_12 : decode cX2_swap 12 = .ok (.aload_n 0, 1) := by decide +kernel
theorem dX2_swap_13 : decode cX2_swap 13 = .ok (.getfield 15, 3) := by decide +kernel
theorem dX2_swap_16 : decode cX2_swap 16 = .ok (.iload_n 2, 1) := by decide +kernel
theorem dX2_swap_17 : decode cX2_swap 17 = .ok (.iaload, 1) := by decide +kernel
theorem dX2_swap_18 : decode cX2_swap 18 = .ok (.iastore, 1) := by decide +kernel
theorem dX2_swap_19 : decode cX2_swap 19 = .ok (.aload_n 0, 1) := by decide +kernel
theorem dX2_swap_20 : decode cX2_swap 20 = .ok (.getfield 15, 3) := by decide +kernel
theorem dX2_swap_23 : decode cX2_swap 23 = .ok (.iload_n 2, 1) := by decide +kernel
theorem dX2_swap_24 : decode cX2_swap 24 = .ok (.iload_n 3, 1) := by decide +kernel
theorem dX2_swap_25 : decode cX2_swap 25 = .ok (.iastore, 1) := by decide +kernel
theorem dX2_swap_26 : decode cX2_swap 26 = .ok (.return_, 1) := by decide +kernel
set_option maxHeartbeats 4000000 in
set_option maxRecDepth 100000 in
theorem k_X2_swap (l : Launch) (D : va_G) (K : Nat → ClassId) (t : Nat) (t_q : Nat → Nat) (p1 p2 t_x0 t_x4 t_x5 : Int) (t_2_c : Nat → Int) (hp1 : 0 ≤ p1 ∧ p1 ≤ 4) (hp2 : 0 ≤ p2 ∧ p2 ≤ 4) (hi_t : bX2 t_x0 t_x4 t_x5) (hc_t_2 : ∀ j : Nat, 0 ≤ t_2_c j ∧ t_2_c j ≤ 4) : fn_CV (S := (Nat → Int) × (Nat → Nat → Int)) l D K yX2_swap (fn_ws yX2_swap cX2_swap 4 none) ({ frames := 4, cells := 0, slots := 0, locals := 100 } : Room) [.ref t, .int (iI p1), .int (iI p2)] [(t, .inr (2, oX2 t_q t_x0 t_x4 t_x5)), ((t_q 2), .inl (K 0, 5, .inl (fun j => iI (t_2_c j))))] (fun u => (∀ j : Nat, 0 ≤ (u.2 0) j ∧ (u.2 0) j ≤ 4) ∧ True) (fun u => [(t, .inr (2, oX2 t_q t_x0 t_x4 t_x5)), ((t_q 2), .inl (K 0, 5, .inl (fun j => iI ((u.2 0) j))))]) 0 0 := by
  refine g_inV (cc := cX2_swap) (maxL := 4) (ret := none) (by decide) rfl (Nat.le_of_ble_eq_true rfl) ?_
  intro p e s m below meth c A ls ag Q B hA hP hD hS hl hQ
  obtain ⟨hx, hb, hr, hml, hts, hown, hlocks, hin, hK⟩ := B
  have hown : s.vm.findClass RX2 = some m.cls := hown
  have hts := fun w h => hts w (List.mem_cons_of_mem _ h)
  have hl : lv_has ls 4 [(0, .ref t), (1, .int (iI p1)), (2, .int (iI p2))] := hl
  refine lv_aload_n hx hb dX2_swap_0 rfl (lv_at hl 0 rfl) ?_
  refine va_get (D := D) (own := RX2) (ci := 2) (v := .ref (t_q 2)) (C := RX2) (T := TX2) (N := 6) hx hb hts inb_X2 hown hK.1 hP 0 rfl rfl 2 (by decide) (hts _ wd_359) (fun _ h9 => h9) rfl dX2_swap_1 ?_
  refine lv_iload_n hx hb dX2_swap_4 rfl (lv_at hl 1 rfl) ?_
  refine g_iald hx hb hK.1 hP 1 0 rfl rfl (by omega) (by omega) (by decide) dX2_swap_5 ?_
  have y5 : 0 ≤ (t_2_c p1.toNat) ∧ (t_2_c p1.toNat) ≤ 4 := hc_t_2 p1.toNat
  refine lv_istore_n (lv' := [(3, .int (iI (t_2_c p1.toNat))), (0, .ref t), (1, .int (iI p1)), (2, .int (iI p2))]) hx hb dX2_swap_6 rfl hl (by decide) rfl (fun ls hl => ?_)
  refine lv_aload_n hx hb dX2_swap_7 rfl (lv_at hl 1 rfl) ?_
  refine va_get (D := D) (own := RX2) (ci := 2) (v := .ref (t_q 2)) (C := RX2) (T := TX2) (N := 6) hx hb hts inb_X2 hown hK.1 hP 0 rfl rfl 2 (by decide) (hts _ wd_359) (fun _ h9 => h9) rfl dX2_swap_8 ?_
  refine lv_iload_n hx hb dX2_swap_11 rfl (lv_at hl 2 rfl) ?_
  refine lv_aload_n hx hb dX2_swap_12 rfl (lv_at hl 1 rfl) ?_
  refine va_get (D := D) (own := RX2) (ci := 2) (v := .ref (t_q 2)) (C := RX2) (T := TX2) (N := 6) hx hb hts inb_X2 hown hK.1 hP 0 rfl rfl 2 (by decide) (hts _ wd_359) (fun _ h9 => h9) rfl dX2_swap_13 ?_
  refine lv_iload_n hx hb dX2_swap_16 rfl (lv_at hl 3 rfl) ?_
  refine g_iald hx hb hK.1 hP 1 0 rfl rfl (by omega) (by omega) (by decide) dX2_swap_17 ?_
  have y17 : 0 ≤ (t_2_c p2.toNat) ∧ (t_2_c p2.toNat) ≤ 4 := hc_t_2 p2.toNat
  refine g_iast hx hb hK.1 hP hD hS 1 0 rfl rfl (by omega) (by omega) (by decide) dX2_swap_18 (fun H locs g18 eg18 hP hD hS => ?_)
  have hg18 : ∀ j : Nat, 0 ≤ g18 j ∧ g18 j ≤ 4 := by rw [eg18]; exact uI_all hc_t_2 (by omega)
  have hP : va_P D vwCl [(t, .inr (2, oX2 t_q t_x0 t_x4 t_x5)), ((t_q 2), .inl (K 0, 5, .inl (fun j => iI (g18 j))))] H := hP
  have hD : va_D A [(t, .inr (2, oX2 t_q t_x0 t_x4 t_x5)), ((t_q 2), .inl (K 0, 5, .inl (fun j => iI (g18 j))))] := hD
  refine lv_aload_n hx hb dX2_swap_19 rfl (lv_at hl 1 rfl) ?_
  refine va_get (D := D) (own := RX2) (ci := 2) (v := .ref (t_q 2)) (C := RX2) (T := TX2) (N := 6) hx hb hts inb_X2 hown hK.1 hP 0 rfl rfl 2 (by decide) (hts _ wd_359) (fun _ h9 => h9) rfl dX2_swap_20 ?_
  refine lv_iload_n hx hb dX2_swap_23 rfl (lv_at hl 3 rfl) ?_
  refine lv_iload_n hx hb dX2_swap_24 rfl (lv_at hl 0 rfl) ?_
  refine g_iast hx hb hK.1 hP hD hS 1 0 rfl rfl (by omega) (by omega) (by decide) dX2_swap_25 (fun H locs g25 eg25 hP hD hS => ?_)
  have hg25 : ∀ j : Nat, 0 ≤ g25 j ∧ g25 j ≤ 4 := by rw [eg25]; exact uI_all hg18 (by omega)
  have hP : va_P D vwCl [(t, .inr (2, oX2 t_q t_x0 t_x4 t_x5)), ((t_q 2), .inl (K 0, 5, .inl (fun j => iI (g25 j))))] H := hP
  have hD : va_D A [(t, .inr (2, oX2 t_q t_x0 t_x4 t_x5)), ((t_q 2), .inl (K 0, 5, .inl (fun j => iI (g25 j))))] := hD
  rw [hQ]; exact fn_vret hx hb hr hlocks hP hD hS ((fun _ => 0), (fun k => ([g25] : List (Nat → Int)).getD k (fun _ => 0))) ⟨(hg25), trivial⟩ [0, 1] (by decide) rfl dX2_swap_26
