theorem wd_1258 : Cond.fieldLink "FootNotesModel" 56 "FootNotesModel" "many0" "[I" ∈ fn_big := fn_tb (fn_l6 (List.mem_of_getElem? (i := 58) (by decide +kernel))) (by decide +kernel)
theorem wd_1257 : Cond.fieldLink "FootNotesModel" 53 "FootNotesModel" "leaf" "[I" ∈ fn_big := fn_tb (fn_l6 (List.mem_of_getElem? (i := 57) (by decide +kernel))) (by decide +kernel)
theorem wd_1259 : Cond.fieldLink "FootNotesModel" 59 "FootNotesModel" "says" "[I" ∈ fn_big := fn_tb (fn_l6 (List.mem_of_getElem? (i := 59) (by decide +kernel))) (by decide +kernel)
theorem dX12_does_44 : decode cX12_does 44 = .ok (.iload 4, 2) := by decide +kernel
theorem dX12_does_46 : decode cX12_does 46 = .ok (.iload_n 3, 1) := by decide +kernel
theorem dX12_does_47 : decode cX12_does 47 = .ok (.if_icmp .le 35, 3) := by decide +kernel
theorem dX12_does_82 : decode cX12_does 82 = .ok (.aload_n 0, 1) := by decide +kernel
theorem dX12_does_83 : decode cX12_does 83 = .ok (.getfield 53, 3) := by decide +kernel
theorem dX12_does_86 : decode cX12_does 86 = .ok (.bipush 30, 2) := by decide +kernel
theorem dX12_does_88 : decode cX12_does 88 = .ok (.iload_n 2, 1) := by decide +kernel
theorem dX12_does_89 : decode cX12_does 89 = .ok (.imul, 1) := by decide +kernel
theorem dX12_does_90 : decode cX12_does 90 = .ok (.iload_n 3, 1) := by decide +kernel
theorem dX12_does_91 : decode cX12_does 91 = .ok (.iadd, 1) := by decide +kernel
theorem dX12_does_92 : decode cX12_does 92 = .ok (.iconst (-1), 1) := by decide +kernel
theorem dX12_does_93 : decode cX12_does 93 = .ok (.iastore, 1) := by decide +kernel
theorem dX12_does_94 : decode cX12_does 94 = .ok (.aload_n 0, 1) := by decide +kernel
theorem dX12_does_95 : decode cX12_does 95 = .ok (.getfield 56, 3) := by decide +kernel
theorem dX12_does_98 : decode cX12_does 98 = .ok (.iload_n 2, 1) := by decide +kernel
theorem dX12_does_99 : decode cX12_does 99 = .ok (.dup2, 1) := by decide +kernel
theorem dX12_does_100 : decode cX12_does 100 = .ok (.iaload, 1) := by decide +kernel
theorem dX12_does_101 : decode cX12_does 101 = .ok (.iconst 1, 1) := by decide +kernel
theorem dX12_does_102 : decode cX12_does 102 = .ok (.iadd, 1) := by decide +kernel
theorem dX12_does_103 : decode cX12_does 103 = .ok (.iastore, 1) := by decide +kernel
theorem dX12_does_104 : decode cX12_does 104 = .ok (.return_, 1) := by decide +kernel
theorem dX12_does_50 : decode cX12_does 50 = .ok (.aload_n 0, 1) := by decide +kernel
theorem dX12_does_51 : decode cX12_does 51 = .ok (.getfield 53, 3) := by decide +kernel
theorem dX12_does_54 : decode cX12_does 54 = .ok (.bipush 30, 2) := by decide +kernel
theorem dX12_does_56 : decode cX12_does 56 = .ok (.iload_n 2, 1) := by decide +kernel
theorem dX12_does_57 : decode cX12_does 57 = .ok (.imul, 1) := by decide +kernel
theorem dX12_does_58 : decode cX12_does 58 = .ok (.iload 4, 2) := by decide +kernel
theorem dX12_does_60 : decode cX12_does 60 = .ok (.iadd, 1) := by decide +kernel
theorem dX12_does_61 : decode cX12_does 61 = .ok (.aload_n 0, 1) := by decide +kernel
theorem dX12_does_62 : decode cX12_does 62 = .ok (.getfield 53, 3) := by decide +kernel
theorem dX12_does_65 : decode cX12_does 65 = .ok (.bipush 30, 2) := by decide +kernel
theorem dX12_does_67 : decode cX12_does 67 = .ok (.iload_n 2, 1) := by decide +kernel
theorem dX12_does_68 : decode cX12_does 68 = .ok (.imul, 1) := by decide +kernel
theorem dX12_does_69 : decode cX12_does 69 = .ok (.iload 4, 2) := by decide +kernel
theorem dX12_does_71 : decode cX12_does 71 = .ok (.iadd, 1) := by decide +kernel
theorem dX12_does_72 : decode cX12_does 72 = .ok (.iconst 1, 1) := by decide +kernel
theorem dX12_does_73 : decode cX12_does 73 = .ok (.isub, 1) := by decide +kernel
theorem dX12_does_74 : decode cX12_does 74 = .ok (.iaload, 1) := by decide +kernel
theorem dX12_does_75 : decode cX12_does 75 = .ok (.iastore, 1) := by decide +kernel
theorem dX12_does_76 : decode cX12_does 76 = .ok (.iinc 4 (-1), 3) := by decide +kernel
theorem dX12_does_79 : decode cX12_does 79 = .ok (.goto (-35), 3) := by decide +kernel
theorem dX12_does_0 : decode cX12_does 0 = .ok (.iload_n 1, 1) := by decide +kernel
theorem dX12_does_1 : decode cX12_does 1 = .ok (.iconst 2, 1) := by decide +kernel
theorem dX12_does_2 : decode cX12_does 2 = .ok (.if_icmp .ne 13, 3) := by decide +kernel
theorem dX12_does_15 : decode cX12_does 15 = .ok (.iload_n 1, 1) := by decide +kernel
theorem dX12_does_16 : decode cX12_does 16 = .ok (.iconst 1, 1) := by decide +kernel
theorem dX12_does_17 : decode cX12_does 17 = .ok (.if_icmp .ne 19, 3) := by decide +kernel
theorem dX12_does_36 : decode cX12_does 36 = .ok (.aload_n 0, 1) := by decide +kernel
theorem dX12_does_37 : decode cX12_does 37 = .ok (.getfield 56, 3) := by decide +kernel
theorem dX12_does_40 : decode cX12_does 40 = .ok (.iload_n 2, 1) := by decide +kernel
theorem dX12_does_41 : decode cX12_does 41 = .ok (.iaload, 1) := by decide +kernel
theorem dX12_does_42 : decode cX12_does 42 = .ok (.istore 4, 2) := by decide +kernel
theorem dX12_does_20 : decode cX12_does 20 = .ok (.aload_n 0, 1) := by decide +kernel
theorem dX12_does_21 : decode cX12_does 21 = .ok (.getfield 53, 3) := by decide +kernel
theorem dX12_does_24 : decode cX12_does 24 = .ok (.bipush 30, 2) := by decide +kernel
theorem dX12_does_26 : decode cX12_does 26 = .ok (.iload_n 2, 1) := by decide +kernel
theorem dX12_does_27 : decode cX12_does 27 = .ok (.imul, 1) := by decide +kernel
theorem dX12_does_28 : decode cX12_does 28 = .ok (.iload_n 3, 1) := by decide +kernel
theorem dX12_does_29 : decode cX12_does 29 = .ok (.iadd, 1) := by decide +kernel
theorem dX12_does_30 : decode cX12_does 30 = .ok (.bipush (-2), 2) := by decide +kernel
theorem dX12_does_32 : decode cX12_does 32 = .ok (.iastore, 1) := by decide +kernel
theorem dX12_does_33 : decode cX12_does 33 = .ok (.goto 71, 3) := by decide +kernel
theorem dX12_does_5 : decode cX12_does 5 = .ok (.aload_n 0, 1) := by decide +kernel
theorem dX12_does_6 : decode cX12_does 6 = .ok (.getfield 59, 3) := by decide +kernel
theorem dX12_does_9 : decode cX12_does 9 = .ok (.iload_n 2, 1) := by decide +kernel
theorem dX12_does_10 : decode cX12_does 10 = .ok (.iload_n 3, 1) := by decide +kernel
theorem dX12_does_11 : decode cX12_does 11 = .ok (.iastore, 1) := by decide +kernel
theorem dX12_does_12 : decode cX12_does 12 = .ok (.goto 92, 3) := by decide +kernel
set_option maxHeartbeats 4000000 in
set_option maxRecDepth 100000 in
theorem k_X12_does (l : Launch) (D : va_G) (K : Nat → ClassId) (t : Nat) (t_q : Nat → Nat) (p1 p2 p3 t_x0 t_x6 t_x7 t_x8 t_x9 t_x10 t_x11 t_x12 t_x13 t_x14 t_x15 t_x32 t_x33 t_x34 t_x35 t_x39 t_x40 t_x43 t_x44 t_x48 t_x49 t_x50 : Int) (t_23_c : Nat → Int) (t_24_c : Nat → Int) (t_25_c : Nat → Int) (N : Int) (P : Int) (bo : Nat → Int) (hp1 : 0 ≤ p1 ∧ p1 ≤ 2) (hp2 : 0 ≤ p2 ∧ p2 ≤ 23) (hp3 : 0 ≤ p3 ∧ p3 ≤ 29) (hi_t : bM12 t_x0 t_x6 t_x7 t_x8 t_x9 t_x10 t_x11 t_x12 t_x13 t_x14 t_x15 t_x32 t_x33 t_x34 t_x35 t_x39 t_x40 t_x43 t_x44 t_x48 t_x49 t_x50) (hc_t_23 : ∀ j : Nat, (-2) ≤ t_23_c j ∧ t_23_c j ≤ 11) (hc_t_24 : ∀ j : Nat, 0 ≤ t_24_c j ∧ t_24_c j ≤ 30) (hc_t_25 : ∀ j : Nat, 0 ≤ t_25_c j ∧ t_25_c j ≤ 30) (la : LA N P t_23_c t_24_c bo) (dp : p1 = 2 ∨ (p2 ≤ 4 ∧ (p1 = 1 ∨ (t_24_c (Int.toNat p2) ≤ 29 ∧ p3 ≤ t_24_c (Int.toNat p2))))) : fn_CV (S := (Nat → Int) × (Nat → Nat → Int)) l D K yX12_does (fn_ws yX12_does cX12_does 5 none) ({ frames := 4, cells := 0, slots := 0, locals := 100 } : Room) [.ref t, .int (iI p1), .int (iI p2), .int (iI p3)] [(t, .inr (12, oX12 t_q t_x0 t_x6 t_x7 t_x8 t_x9 t_x10 t_x11 t_x12 t_x13 t_x14 t_x15 t_x32 t_x33 t_x34 t_x35 t_x39 t_x40 t_x43 t_x44 t_x48 t_x49 t_x50)), ((t_q 23), .inl (K 0, 150, .inl (fun j => iI (t_23_c j)))), ((t_q 24), .inl (K 0, 5, .inl (fun j => iI (t_24_c j)))), ((t_q 25), .inl (K 0, 24, .inl (fun j => iI (t_25_c j))))] (fun u => (LA N P (u.2 0) (u.2 1) bo) ∧ (∀ b : Nat, (u.2 1) b = t_24_c b + (if p1 ≠ 1 ∧ p1 ≠ 2 ∧ p2 = (b : Int) then 1 else 0)) ∧ (∀ j : Nat, (u.2 2) j = t_25_c j ∨ (u.2 2) j ≤ 29) ∧ (∀ j : Nat, (-2) ≤ (u.2 0) j ∧ (u.2 0) j ≤ 11) ∧ (∀ j : Nat, 0 ≤ (u.2 1) j ∧ (u.2 1) j ≤ 30) ∧ (∀ j : Nat, 0 ≤ (u.2 2) j ∧ (u.2 2) j ≤ 30) ∧ True) (fun u => [(t, .inr (12, oX12 t_q t_x0 t_x6 t_x7 t_x8 t_x9 t_x10 t_x11 t_x12 t_x13 t_x14 t_x15 t_x32 t_x33 t_x34 t_x35 t_x39 t_x40 t_x43 t_x44 t_x48 t_x49 t_x50)), ((t_q 23), .inl (K 0, 150, .inl (fun j => iI ((u.2 0) j)))), ((t_q 24), .inl (K 0, 5, .inl (fun j => iI ((u.2 1) j)))), ((t_q 25), .inl (K 0, 24, .inl (fun j => iI ((u.2 2) j))))]) 0 0 := by
  refine g_inV (cc := cX12_does) (maxL := 5) (ret := none) (by decide) rfl (Nat.le_of_ble_eq_true rfl) ?_
  intro p e s m below meth c A ls ag Q B hA hP hD hS hl hQ
  obtain ⟨hx, hb, hr, hml, hts, hown, hlocks, hin, hK⟩ := B
  have hown : s.vm.findClass RX12 = some m.cls := hown
  have hts := fun w h => hts w (List.mem_cons_of_mem _ h)
  have J44 : ∀ (n : Nat) (x44_4 : Int) (c44_t_23 : Nat → Int) (H : Heap) (locs : List Loc) (ls : Array Slot), (x44_4 - 0).toNat < n → (0 ≤ p1 ∧ p1 ≤ 0 ∧ 0 ≤ x44_4 ∧ x44_4 ≤ 29 ∧ p3 ≤ x44_4 ∧ x44_4 ≤ t_24_c (Int.toNat p2) ∧ t_24_c (Int.toNat p2) ≤ 29 ∧ 0 ≤ t_24_c (Int.toNat p2) ∧ p2 ≤ 4 ∧ p1 ≠ 1 ∧ p1 ≠ 2) → (c44_t_23 = shl_ t_23_c (30 * Int.toNat p2) (Int.toNat x44_4) (Int.toNat (t_24_c (Int.toNat p2)))) → (∀ j : Nat, (-2) ≤ c44_t_23 j ∧ c44_t_23 j ≤ 11) → va_P D vwCl [(t, .inr (12, oX12 t_q t_x0 t_x6 t_x7 t_x8 t_x9 t_x10 t_x11 t_x12 t_x13 t_x14 t_x15 t_x32 t_x33 t_x34 t_x35 t_x39 t_x40 t_x43 t_x44 t_x48 t_x49 t_x50)), ((t_q 23), .inl (K 0, 150, .inl (fun j => iI (c44_t_23 j)))), ((t_q 24), .inl (K 0, 5, .inl (fun j => iI (t_24_c j)))), ((t_q 25), .inl (K 0, 24, .inl (fun j => iI (t_25_c j))))] H → va_D A [(t, .inr (12, oX12 t_q t_x0 t_x6 t_x7 t_x8 t_x9 t_x10 t_x11 t_x12 t_x13 t_x14 t_x15 t_x32 t_x33 t_x34 t_x35 t_x39 t_x40 t_x43 t_x44 t_x48 t_x49 t_x50)), ((t_q 23), .inl (K 0, 150, .inl (fun j => iI (c44_t_23 j)))), ((t_q 24), .inl (K 0, 5, .inl (fun j => iI (t_24_c j)))), ((t_q 25), .inl (K 0, 24, .inl (fun j => iI (t_25_c j))))] → va_S A s.heap H locs → lv_has ls 5 [(0, .ref t), (1, .int (iI p1)), (2, .int (iI p2)), (3, .int (iI p3)), (4, .int (iI x44_4))] → W p l e ({ frames := 4, cells := 0, slots := 0, locals := 100 } : Room) s m ag below meth c H locs 0 0 Q (F0 m 44 ls []) := by
    intro n
    induction n with
    | zero =>
      intro x44_4 c44_t_23 H locs ls hm44 hf44 sh hc44_t_23 hP hD hS hl
      exact absurd hm44 (Nat.not_lt_zero _)
    | succ n ih44 =>
      intro x44_4 c44_t_23 H locs ls hm44 hf44 sh hc44_t_23 hP hD hS hl
      refine lv_iload hx hb dX12_does_44 (lv_at hl 4 rfl) ?_
      refine lv_iload_n hx hb dX12_does_46 rfl (lv_at hl 3 rfl) ?_
      refine g_icmp_le (tgt := 82) hx hb (by omega) (by omega) dX12_does_47 (by decide) (fun c47 => ?_) (fun c47 => ?_)
      · refine lv_aload_n hx hb dX12_does_82 rfl (lv_at hl 0 rfl) ?_
        refine va_get (D := D) (own := RX12) (ci := 12) (v := .ref (t_q 23)) (C := RX12) (T := TX12) (N := 51) hx hb hts inb_X12 hown hK.1 hP 0 rfl rfl 23 (by decide) (hts _ wd_1257) (fun _ h9 => h9) rfl dX12_does_83 ?_
        refine lv_bipush (v := iI 30) hx hb dX12_does_86 (by decide) ?_
        refine lv_iload_n hx hb dX12_does_88 rfl (lv_at hl 2 rfl) ?_
        refine g_imul hx hb dX12_does_89 ?_
        refine lv_iload_n hx hb dX12_does_90 rfl (lv_at hl 3 rfl) ?_
        refine g_iadd hx hb dX12_does_91 ?_
        refine lv_iconst (v := iI (-1)) hx hb dX12_does_92 rfl ?_
        refine g_iast hx hb hK.1 hP hD hS 1 0 rfl rfl (by omega) (by omega) (by decide) dX12_does_93 (fun H locs g93 eg93 hP hD hS => ?_)
        have hg93 : ∀ j : Nat, (-2) ≤ g93 j ∧ g93 j ≤ 11 := by rw [eg93]; exact uI_all hc44_t_23 (by omega)
        have hP : va_P D vwCl [(t, .inr (12, oX12 t_q t_x0 t_x6 t_x7 t_x8 t_x9 t_x10 t_x11 t_x12 t_x13 t_x14 t_x15 t_x32 t_x33 t_x34 t_x35 t_x39 t_x40 t_x43 t_x44 t_x48 t_x49 t_x50)), ((t_q 23), .inl (K 0, 150, .inl (fun j => iI (g93 j)))), ((t_q 24), .inl (K 0, 5, .inl (fun j => iI (t_24_c j)))), ((t_q 25), .inl (K 0, 24, .inl (fun j => iI (t_25_c j))))] H := hP
        have hD : va_D A [(t, .inr (12, oX12 t_q t_x0 t_x6 t_x7 t_x8 t_x9 t_x10 t_x11 t_x12 t_x13 t_x14 t_x15 t_x32 t_x33 t_x34 t_x35 t_x39 t_x40 t_x43 t_x44 t_x48 t_x49 t_x50)), ((t_q 23), .inl (K 0, 150, .inl (fun j => iI (g93 j)))), ((t_q 24), .inl (K 0, 5, .inl (fun j => iI (t_24_c j)))), ((t_q 25), .inl (K 0, 24, .inl (fun j => iI (t_25_c j))))] := hD
        refine lv_aload_n hx hb dX12_does_94 rfl (lv_at hl 0 rfl) ?_
        refine va_get (D := D) (own := RX12) (ci := 12) (v := .ref (t_q 24)) (C := RX12) (T := TX12) (N := 51) hx hb hts inb_X12 hown hK.1 hP 0 rfl rfl 24 (by decide) (hts _ wd_1258) (fun _ h9 => h9) rfl dX12_does_95 ?_
        refine lv_iload_n hx hb dX12_does_98 rfl (lv_at hl 2 rfl) ?_
        refine lv_dup2_11 hx hb dX12_does_99 rfl rfl ?_
        refine g_iald hx hb hK.1 hP 2 0 rfl rfl (by omega) (by omega) (by decide) dX12_does_100 ?_
        have y100 : 0 ≤ (t_24_c p2.toNat) ∧ (t_24_c p2.toNat) ≤ 30 := hc_t_24 p2.toNat
        refine lv_iconst (v := iI 1) hx hb dX12_does_101 rfl ?_
        refine g_iadd hx hb dX12_does_102 ?_
        refine fn_at 103 rfl ?_
        refine g_iast hx hb hK.1 hP hD hS 2 0 rfl rfl (by omega) (by omega) (by decide) dX12_does_103 (fun H locs g103 eg103 hP hD hS => ?_)
        have hg103 : ∀ j : Nat, 0 ≤ g103 j ∧ g103 j ≤ 30 := by rw [eg103]; exact uI_all hc_t_24 (by omega)
        have hP : va_P D vwCl [(t, .inr (12, oX12 t_q t_x0 t_x6 t_x7 t_x8 t_x9 t_x10 t_x11 t_x12 t_x13 t_x14 t_x15 t_x32 t_x33 t_x34 t_x35 t_x39 t_x40 t_x43 t_x44 t_x48 t_x49 t_x50)), ((t_q 23), .inl (K 0, 150, .inl (fun j => iI (g93 j)))), ((t_q 24), .inl (K 0, 5, .inl (fun j => iI (g103 j)))), ((t_q 25), .inl (K 0, 24, .inl (fun j => iI (t_25_c j))))] H := hP
        have hD : va_D A [(t, .inr (12, oX12 t_q t_x0 t_x6 t_x7 t_x8 t_x9 t_x10 t_x11 t_x12 t_x13 t_x14 t_x15 t_x32 t_x33 t_x34 t_x35 t_x39 t_x40 t_x43 t_x44 t_x48 t_x49 t_x50)), ((t_q 23), .inl (K 0, 150, .inl (fun j => iI (g93 j)))), ((t_q 24), .inl (K 0, 5, .inl (fun j => iI (g103 j)))), ((t_q 25), .inl (K 0, 24, .inl (fun j => iI (t_25_c j))))] := hD
        rw [hQ]; exact fn_vret hx hb hr hlocks hP hD hS ((fun _ => 0), (fun k => ([g93, g103, t_25_c] : List (Nat → Int)).getD k (fun _ => 0))) ⟨(show LA N P g93 g103 bo from by first | assumption | (rw [eg32]; exact LA_tear la) | (rw [eg103, eg93, sh, show x44_4 = p3 by omega]; exact LA_putI la (by omega) (by omega) rfl (by omega) (by omega) (by omega) (fun j => (hc_t_24 j).2))), (show ∀ b : Nat, g103 b = t_24_c b + (if p1 ≠ 1 ∧ p1 ≠ 2 ∧ p2 = (b : Int) then 1 else 0) from by first | exact fun b => mn_no (by omega) b | (rw [eg103]; exact fun b => mn_put (by omega) (by omega) (by omega) b)), (show ∀ j : Nat, t_25_c j = t_25_c j ∨ t_25_c j ≤ 29 from by first | exact fun j => Or.inl rfl | (intro j; rw [eg11]; by_cases e9 : j = Int.toNat p2 <;> (first | exact Or.inr (by rw [uI_e e9]; omega) | exact Or.inl (uI_n e9)))), (hg93), (hg103), (hc_t_25), trivial⟩ [0, 1, 2, 3] (by decide) rfl dX12_does_104
      · refine lv_aload_n hx hb dX12_does_50 rfl (lv_at hl 0 rfl) ?_
        refine va_get (D := D) (own := RX12) (ci := 12) (v := .ref (t_q 23)) (C := RX12) (T := TX12) (N := 51) hx hb hts inb_X12 hown hK.1 hP 0 rfl rfl 23 (by decide) (hts _ wd_1257) (fun _ h9 => h9) rfl dX12_does_51 ?_
        refine lv_bipush (v := iI 30) hx hb dX12_does_54 (by decide) ?_
        refine lv_iload_n hx hb dX12_does_56 rfl (lv_at hl 2 rfl) ?_
        refine g_imul hx hb dX12_does_57 ?_
        refine lv_iload hx hb dX12_does_58 (lv_at hl 4 rfl) ?_
        refine g_iadd hx hb dX12_does_60 ?_
        refine lv_aload_n hx hb dX12_does_61 rfl (lv_at hl 0 rfl) ?_
        refine va_get (D := D) (own := RX12) (ci := 12) (v := .ref (t_q 23)) (C := RX12) (T := TX12) (N := 51) hx hb hts inb_X12 hown hK.1 hP 0 rfl rfl 23 (by decide) (hts _ wd_1257) (fun _ h9 => h9) rfl dX12_does_62 ?_
        refine lv_bipush (v := iI 30) hx hb dX12_does_65 (by decide) ?_
        refine lv_iload_n hx hb dX12_does_67 rfl (lv_at hl 2 rfl) ?_
        refine g_imul hx hb dX12_does_68 ?_
        refine lv_iload hx hb dX12_does_69 (lv_at hl 4 rfl) ?_
        refine g_iadd hx hb dX12_does_71 ?_
        refine lv_iconst (v := iI 1) hx hb dX12_does_72 rfl ?_
        refine g_isub hx hb dX12_does_73 ?_
        refine fn_at 74 rfl ?_
        refine g_iald hx hb hK.1 hP 1 0 rfl rfl (by omega) (by omega) (by decide) dX12_does_74 ?_
        have y74 : (-2) ≤ (c44_t_23 ((30 * p2 + x44_4 - 1).toNat)) ∧ (c44_t_23 ((30 * p2 + x44_4 - 1).toNat)) ≤ 11 := hc44_t_23 ((30 * p2 + x44_4 - 1).toNat)
        refine g_iast hx hb hK.1 hP hD hS 1 0 rfl rfl (by omega) (by omega) (by decide) dX12_does_75 (fun H locs g75 eg75 hP hD hS => ?_)
        have hg75 : ∀ j : Nat, (-2) ≤ g75 j ∧ g75 j ≤ 11 := by rw [eg75]; exact uI_all hc44_t_23 (by omega)
        have hP : va_P D vwCl [(t, .inr (12, oX12 t_q t_x0 t_x6 t_x7 t_x8 t_x9 t_x10 t_x11 t_x12 t_x13 t_x14 t_x15 t_x32 t_x33 t_x34 t_x35 t_x39 t_x40 t_x43 t_x44 t_x48 t_x49 t_x50)), ((t_q 23), .inl (K 0, 150, .inl (fun j => iI (g75 j)))), ((t_q 24), .inl (K 0, 5, .inl (fun j => iI (t_24_c j)))), ((t_q 25), .inl (K 0, 24, .inl (fun j => iI (t_25_c j))))] H := hP
        have hD : va_D A [(t, .inr (12, oX12 t_q t_x0 t_x6 t_x7 t_x8 t_x9 t_x10 t_x11 t_x12 t_x13 t_x14 t_x15 t_x32 t_x33 t_x34 t_x35 t_x39 t_x40 t_x43 t_x44 t_x48 t_x49 t_x50)), ((t_q 23), .inl (K 0, 150, .inl (fun j => iI (g75 j)))), ((t_q 24), .inl (K 0, 5, .inl (fun j => iI (t_24_c j)))), ((t_q 25), .inl (K 0, 24, .inl (fun j => iI (t_25_c j))))] := hD
        refine lv_iinc (v := iI (x44_4 + (-1))) (lv' := [(4, .int (iI (x44_4 + (-1)))), (0, .ref t), (1, .int (iI p1)), (2, .int (iI p2)), (3, .int (iI p3))]) hx hb dX12_does_76 hl (k := 4) rfl (iI_add _ _) (by decide) rfl (fun ls hl => ?_)
        refine lv_goto (tgt := 44) hx hb dX12_does_79 (by decide) ?_
        exact ih44 (x44_4 + (-1)) g75 _ _ ls (by omega) (by omega) (show g75 = shl_ t_23_c (30 * Int.toNat p2) (Int.toNat (x44_4 + (-1))) (Int.toNat (t_24_c (Int.toNat p2))) from by rw [eg75, sh]; exact shl_step (by omega) (by omega) (by omega)) hg75 (hP.sub [0, 1, 2, 3] rfl) (hD.sub [0, 1, 2, 3] (by decide) rfl) hS (lv_sub hl [1, 2, 3, 4, 0] rfl)
  have hl : lv_has ls 5 [(0, .ref t), (1, .int (iI p1)), (2, .int (iI p2)), (3, .int (iI p3))] := hl
  refine lv_iload_n hx hb dX12_does_0 rfl (lv_at hl 1 rfl) ?_
  refine lv_iconst (v := iI 2) hx hb dX12_does_1 rfl ?_
  refine g_icmp_ne (tgt := 15) hx hb (by omega) (by omega) dX12_does_2 (by decide) (fun c2 => ?_) (fun c2 => ?_)
  · refine lv_iload_n hx hb dX12_does_15 rfl (lv_at hl 1 rfl) ?_
    refine lv_iconst (v := iI 1) hx hb dX12_does_16 rfl ?_
    refine g_icmp_ne (tgt := 36) hx hb (by omega) (by omega) dX12_does_17 (by decide) (fun c17 => ?_) (fun c17 => ?_)
    · refine lv_aload_n hx hb dX12_does_36 rfl (lv_at hl 0 rfl) ?_
      refine va_get (D := D) (own := RX12) (ci := 12) (v := .ref (t_q 24)) (C := RX12) (T := TX12) (N := 51) hx hb hts inb_X12 hown hK.1 hP 0 rfl rfl 24 (by decide) (hts _ wd_1258) (fun _ h9 => h9) rfl dX12_does_37 ?_
      refine lv_iload_n hx hb dX12_does_40 rfl (lv_at hl 2 rfl) ?_
      refine g_iald hx hb hK.1 hP 2 0 rfl rfl (by omega) (by omega) (by decide) dX12_does_41 ?_
      have y41 : 0 ≤ (t_24_c p2.toNat) ∧ (t_24_c p2.toNat) ≤ 30 := hc_t_24 p2.toNat
      refine lv_istore (lv' := [(4, .int (iI (t_24_c p2.toNat))), (0, .ref t), (1, .int (iI p1)), (2, .int (iI p2)), (3, .int (iI p3))]) hx hb dX12_does_42 hl (by decide) rfl (fun ls hl => ?_)
      exact J44 _ (t_24_c p2.toNat) t_23_c _ _ ls (Nat.lt_succ_self _) (by omega) (show t_23_c = shl_ t_23_c (30 * Int.toNat p2) (Int.toNat (t_24_c p2.toNat)) (Int.toNat (t_24_c (Int.toNat p2))) from shl_0) hc_t_23 (hP.sub [0, 1, 2, 3] rfl) (hD.sub [0, 1, 2, 3] (by decide) rfl) hS (lv_sub hl [1, 2, 3, 4, 0] rfl)
    · refine lv_aload_n hx hb dX12_does_20 rfl (lv_at hl 0 rfl) ?_
      refine va_get (D := D) (own := RX12) (ci := 12) (v := .ref (t_q 23)) (C := RX12) (T := TX12) (N := 51) hx hb hts inb_X12 hown hK.1 hP 0 rfl rfl 23 (by decide) (hts _ wd_1257) (fun _ h9 => h9) rfl dX12_does_21 ?_
      refine lv_bipush (v := iI 30) hx hb dX12_does_24 (by decide) ?_
      refine lv_iload_n hx hb dX12_does_26 rfl (lv_at hl 2 rfl) ?_
      refine g_imul hx hb dX12_does_27 ?_
      refine lv_iload_n hx hb dX12_does_28 rfl (lv_at hl 3 rfl) ?_
      refine g_iadd hx hb dX12_does_29 ?_
      refine lv_bipush (v := iI (-2)) hx hb dX12_does_30 (by decide) ?_
      refine g_iast hx hb hK.1 hP hD hS 1 0 rfl rfl (by omega) (by omega) (by decide) dX12_does_32 (fun H locs g32 eg32 hP hD hS => ?_)
      have hg32 : ∀ j : Nat, (-2) ≤ g32 j ∧ g32 j ≤ 11 := by rw [eg32]; exact uI_all hc_t_23 (by omega)
      have hP : va_P D vwCl [(t, .inr (12, oX12 t_q t_x0 t_x6 t_x7 t_x8 t_x9 t_x10 t_x11 t_x12 t_x13 t_x14 t_x15 t_x32 t_x33 t_x34 t_x35 t_x39 t_x40 t_x43 t_x44 t_x48 t_x49 t_x50)), ((t_q 23), .inl (K 0, 150, .inl (fun j => iI (g32 j)))), ((t_q 24), .inl (K 0, 5, .inl (fun j => iI (t_24_c j)))), ((t_q 25), .inl (K 0, 24, .inl (fun j => iI (t_25_c j))))] H := hP
      have hD : va_D A [(t, .inr (12, oX12 t_q t_x0 t_x6 t_x7 t_x8 t_x9 t_x10 t_x11 t_x12 t_x13 t_x14 t_x15 t_x32 t_x33 t_x34 t_x35 t_x39 t_x40 t_x43 t_x44 t_x48 t_x49 t_x50)), ((t_q 23), .inl (K 0, 150, .inl (fun j => iI (g32 j)))), ((t_q 24), .inl (K 0, 5, .inl (fun j => iI (t_24_c j)))), ((t_q 25), .inl (K 0, 24, .inl (fun j => iI (t_25_c j))))] := hD
      refine lv_goto (tgt := 104) hx hb dX12_does_33 (by decide) ?_
      rw [hQ]; exact fn_vret hx hb hr hlocks hP hD hS ((fun _ => 0), (fun k => ([g32, t_24_c, t_25_c] : List (Nat → Int)).getD k (fun _ => 0))) ⟨(show LA N P g32 t_24_c bo from by first | assumption | (rw [eg32]; exact LA_tear la) | (rw [eg103, eg93, sh, show (0 : Int) = p3 by omega]; exact LA_putI la (by omega) (by omega) rfl (by omega) (by omega) (by omega) (fun j => (hc_t_24 j).2))), (show ∀ b : Nat, t_24_c b = t_24_c b + (if p1 ≠ 1 ∧ p1 ≠ 2 ∧ p2 = (b : Int) then 1 else 0) from by first | exact fun b => mn_no (by omega) b | (rw [eg103]; exact fun b => mn_put (by omega) (by omega) (by omega) b)), (show ∀ j : Nat, t_25_c j = t_25_c j ∨ t_25_c j ≤ 29 from by first | exact fun j => Or.inl rfl | (intro j; rw [eg11]; by_cases e9 : j = Int.toNat p2 <;> (first | exact Or.inr (by rw [uI_e e9]; omega) | exact Or.inl (uI_n e9)))), (hg32), (hc_t_24), (hc_t_25), trivial⟩ [0, 1, 2, 3] (by decide) rfl dX12_does_104
  · refine lv_aload_n hx hb dX12_does_5 rfl (lv_at hl 0 rfl) ?_
    refine va_get (D := D) (own := RX12) (ci := 12) (v := .ref (t_q 25)) (C := RX12) (T := TX12) (N := 51) hx hb hts inb_X12 hown hK.1 hP 0 rfl rfl 25 (by decide) (hts _ wd_1259) (fun _ h9 => h9) rfl dX12_does_6 ?_
    refine lv_iload_n hx hb dX12_does_9 rfl (lv_at hl 2 rfl) ?_
    refine lv_iload_n hx hb dX12_does_10 rfl (lv_at hl 3 rfl) ?_
    refine g_iast hx hb hK.1 hP hD hS 3 0 rfl rfl (by omega) (by omega) (by decide) dX12_does_11 (fun H locs g11 eg11 hP hD hS => ?_)
    have hg11 : ∀ j : Nat, 0 ≤ g11 j ∧ g11 j ≤ 30 := by rw [eg11]; exact uI_all hc_t_25 (by omega)
    have hP : va_P D vwCl [(t, .inr (12, oX12 t_q t_x0 t_x6 t_x7 t_x8 t_x9 t_x10 t_x11 t_x12 t_x13 t_x14 t_x15 t_x32 t_x33 t_x34 t_x35 t_x39 t_x40 t_x43 t_x44 t_x48 t_x49 t_x50)), ((t_q 23), .inl (K 0, 150, .inl (fun j => iI (t_23_c j)))), ((t_q 24), .inl (K 0, 5, .inl (fun j => iI (t_24_c j)))), ((t_q 25), .inl (K 0, 24, .inl (fun j => iI (g11 j))))] H := hP
    have hD : va_D A [(t, .inr (12, oX12 t_q t_x0 t_x6 t_x7 t_x8 t_x9 t_x10 t_x11 t_x12 t_x13 t_x14 t_x15 t_x32 t_x33 t_x34 t_x35 t_x39 t_x40 t_x43 t_x44 t_x48 t_x49 t_x50)), ((t_q 23), .inl (K 0, 150, .inl (fun j => iI (t_23_c j)))), ((t_q 24), .inl (K 0, 5, .inl (fun j => iI (t_24_c j)))), ((t_q 25), .inl (K 0, 24, .inl (fun j => iI (g11 j))))] := hD
    refine lv_goto (tgt := 104) hx hb dX12_does_12 (by decide) ?_
    rw [hQ]; exact fn_vret hx hb hr hlocks hP hD hS ((fun _ => 0), (fun k => ([t_23_c, t_24_c, g11] : List (Nat → Int)).getD k (fun _ => 0))) ⟨(show LA N P t_23_c t_24_c bo from by first | assumption | (rw [eg32]; exact LA_tear la) | (rw [eg103, eg93, sh, show (0 : Int) = p3 by omega]; exact LA_putI la (by omega) (by omega) rfl (by omega) (by omega) (by omega) (fun j => (hc_t_24 j).2))), (show ∀ b : Nat, t_24_c b = t_24_c b + (if p1 ≠ 1 ∧ p1 ≠ 2 ∧ p2 = (b : Int) then 1 else 0) from by first | exact fun b => mn_no (by omega) b | (rw [eg103]; exact fun b => mn_put (by omega) (by omega) (by omega) b)), (show ∀ j : Nat, g11 j = t_25_c j ∨ g11 j ≤ 29 from by first | exact fun j => Or.inl rfl | (intro j; rw [eg11]; by_cases e9 : j = Int.toNat p2 <;> (first | exact Or.inr (by rw [uI_e e9]; omega) | exact Or.inl (uI_n e9)))), (hc_t_23), (hc_t_24), (hg11), trivial⟩ [0, 1, 2, 3] (by decide) rfl dX12_does_104
theorem wd_1262 : Cond.fieldLink "FootNotesModel" 68 "FootNotesModel" "outs" "[I" ∈ fn_big := fn_tb (fn_l6 (List.mem_of_getElem? (i := 62) (by decide +kernel))) (by decide +kernel)
theorem wd_1260 : Cond.fieldLink "FootNotesModel" 62 "FootNotesModel" "leads" "[I" ∈ fn_big := fn_tb (fn_l6 (List.mem_of_getElem? (i := 60) (by decide +kernel))) (by decide +kernel)
theorem dX12_laysOuts_27 : decode cX12_laysOuts 27 = .ok (.iload_n 1, 1) := by decide +kernel
theorem dX12_laysOuts_28 : decode cX12_laysOuts 28 = .ok (.aload_n 0, 1) := by decide +kernel
theorem dX12_laysOuts_29 : decode cX12_laysOuts 29 = .ok (.getfield 34, 3) := by decide +kernel
theorem dX12_laysOuts_32 : decode cX12_laysOuts 32 = .ok (.iconst 4, 1) := by decide +kernel
theorem dX12_laysOuts_33 : decode cX12_laysOuts 33 = .ok (.iaload, 1) := by decide +kernel
theorem dX12_laysOuts_34 : decode cX12_laysOuts 34 = .ok (.if_icmp .ge 43, 3) := by decide +kernel
theorem dX12_laysOuts_77 : decode cX12_laysOuts 77 = .ok (.return_, 1) := by decide +kernel
theorem dX12_laysOuts_37 : decode cX12_laysOuts 37 = .ok (.aload_n 0, 1) := by decide +kernel
theorem dX12_laysOuts_38 : decode cX12_laysOuts 38 = .ok (.getfield 62, 3) := by decide +kernel
theorem dX12_laysOuts_41 : decode cX12_laysOuts 41 = .ok (.iload_n 1, 1) := by decide +kernel
theorem dX12_laysOuts_42 : decode cX12_laysOuts 42 = .ok (.iaload, 1) := by decide +kernel
theorem dX12_laysOuts_43 : decode cX12_laysOuts 43 = .ok (.iconst (-1), 1) := by decide +kernel
theorem dX12_laysOuts_44 : decode cX12_laysOuts 44 = .ok (.if_icmp .eq 27, 3) := by decide +kernel
theorem dX12_laysOuts_71 : decode cX12_laysOuts 71 = .ok (.iinc 1 1, 3) := by decide +kernel
theorem dX12_laysOuts_74 : decode cX12_laysOuts 74 = .ok (.goto (-47), 3) := by decide +kernel
theorem dX12_laysOuts_47 : decode cX12_laysOuts 47 = .ok (.aload_n 0, 1) := by decide +kernel
theorem dX12_laysOuts_48 : decode cX12_laysOuts 48 = .ok (.getfield 68, 3) := by decide +kernel
theorem dX12_laysOuts_51 : decode cX12_laysOuts 51 = .ok (.aload_n 0, 1) := by decide +kernel
theorem dX12_laysOuts_52 : decode cX12_laysOuts 52 = .ok (.getfield 43, 3) := by decide +kernel
theorem dX12_laysOuts_55 : decode cX12_laysOuts 55 = .ok (.iconst 4, 1) := by decide +kernel
theorem dX12_laysOuts_56 : decode cX12_laysOuts 56 = .ok (.iload_n 1, 1) := by decide +kernel
theorem dX12_laysOuts_57 : decode cX12_laysOuts 57 = .ok (.imul, 1) := by decide +kernel
theorem dX12_laysOuts_58 : decode cX12_laysOuts 58 = .ok (.iaload, 1) := by decide +kernel
theorem dX12_laysOuts_59 : decode cX12_laysOuts 59 = .ok (.dup2, 1) := by decide +kernel
theorem dX12_laysOuts_60 : decode cX12_laysOuts 60 = .ok (.iaload, 1) := by decide +kernel
theorem dX12_laysOuts_61 : decode cX12_laysOuts 61 = .ok (.iconst 1, 1) := by decide +kernel
theorem dX12_laysOuts_62 : decode cX12_laysOuts 62 = .ok (.aload_n 0, 1) := by decide +kernel
theorem dX12_laysOuts_63 : decode cX12_laysOuts 63 = .ok (.getfield 62, 3) := by decide +kernel
theorem dX12_laysOuts_66 : decode cX12_laysOuts 66 = .ok (.iload_n 1, 1) := by decide +kernel
theorem dX12_laysOuts_67 : decode cX12_laysOuts 67 = .ok (.iaload, 1) := by decide +kernel
theorem dX12_laysOuts_68 : decode cX12_laysOuts 68 = .ok (.ishl, 1) := by decide +kernel
theorem dX12_laysOuts_69 : decode cX12_laysOuts 69 = .ok (.ior, 1) := by decide +kernel
theorem dX12_laysOuts_70 : decode cX12_laysOuts 70 = .ok (.iastore, 1) := by decide +kernel
theorem dX12_laysOuts_2 : decode cX12_laysOuts 2 = .ok (.iload_n 1, 1) := by decide +kernel
theorem dX12_laysOuts_3 : decode cX12_laysOuts 3 = .ok (.aload_n 0, 1) := by decide +kernel
theorem dX12_laysOuts_4 : decode cX12_laysOuts 4 = .ok (.getfield 34, 3) := by decide +kernel
theorem dX12_laysOuts_7 : decode cX12_laysOuts 7 = .ok (.iconst 3, 1) := by decide +kernel
theorem dX12_laysOuts_8 : decode cX12_laysOuts 8 = .ok (.iaload, 1) := by decide +kernel
theorem dX12_laysOuts_9 : decode cX12_laysOuts 9 = .ok (.if_icmp .ge 16, 3) := by decide +kernel
theorem dX12_laysOuts_25 : decode cX12_laysOuts 25 = .ok (.iconst 0, 1) := by decide +kernel
theorem dX12_laysOuts_26 : decode cX12_laysOuts 26 = .ok (.istore_n 1, 1) := by decide +kernel
theorem dX12_laysOuts_12 : decode cX12_laysOuts 12 = .ok (.aload_n 0, 1) := by decide +kernel
theorem dX12_laysOuts_13 : decode cX12_laysOuts 13 = .ok (.getfield 68, 3) := by decide +kernel
theorem dX12_laysOuts_16 : decode cX12_laysOuts 16 = .ok (.iload_n 1, 1) := by decide +kernel
theorem dX12_laysOuts_17 : decode cX12_laysOuts 17 = .ok (.iconst 0, 1) := by decide +kernel
theorem dX12_laysOuts_18 : decode cX12_laysOuts 18 = .ok (.iastore, 1) := by decide +kernel
theorem dX12_laysOuts_19 : decode cX12_laysOuts 19 = .ok (.iinc 1 1, 3) := by decide +kernel
theorem dX12_laysOuts_22 : decode cX12_laysOuts 22 = .ok (.goto (-20), 3) := by decide +kernel
theorem dX12_laysOuts_0 : decode cX12_laysOuts 0 = .ok (.iconst 0, 1) := by decide +kernel
theorem dX12_laysOuts_1 : decode cX12_laysOuts 1 = .ok (.istore_n 1, 1) := by decide +kernel
set_option maxHeartbeats 4000000 in
set_option maxRecDepth 100000 in
theorem k_X12_laysOuts (l : Launch) (D : va_G) (K : Nat → ClassId) (t : Nat) (t_q : Nat → Nat) (t_x0 t_x6 t_x7 t_x8 t_x9 t_x10 t_x11 t_x12 t_x13 t_x14 t_x15 t_x32 t_x33 t_x34 t_x35 t_x39 t_x40 t_x43 t_x44 t_x48 t_x49 t_x50 : Int) (t_17_c : Nat → Int) (t_18_c : Nat → Int) (t_19_c : Nat → Int) (t_20_c : Nat → Int) (t_21_c : Nat → Int) (t_26_c : Nat → Int) (t_27_c : Nat → Int) (t_28_c : Nat → Int) (hi_t : bM12 t_x0 t_x6 t_x7 t_x8 t_x9 t_x10 t_x11 t_x12 t_x13 t_x14 t_x15 t_x32 t_x33 t_x34 t_x35 t_x39 t_x40 t_x43 t_x44 t_x48 t_x49 t_x50) (hc_t_17 : ∀ j : Nat, (j % 8 = 0 → 0 ≤ t_17_c j ∧ t_17_c j ≤ 20) ∧ (j % 8 = 1 → 0 ≤ t_17_c j ∧ t_17_c j ≤ 100) ∧ (j % 8 = 2 → 0 ≤ t_17_c j ∧ t_17_c j ≤ 5) ∧ (j % 8 = 3 → 0 ≤ t_17_c j ∧ t_17_c j ≤ 12) ∧ (j % 8 = 4 → 0 ≤ t_17_c j ∧ t_17_c j ≤ 24) ∧ (j % 8 = 5 → 0 ≤ t_17_c j ∧ t_17_c j ≤ 4095) ∧ (j % 8 = 6 → 0 ≤ t_17_c j ∧ t_17_c j ≤ 31) ∧ (j % 8 = 7 → 0 ≤ t_17_c j ∧ t_17_c j ≤ 40)) (hc_t_18 : ∀ j : Nat, (j % 2 = 0 → 0 ≤ t_18_c j ∧ t_18_c j ≤ 9) ∧ (j % 2 = 1 → 0 ≤ t_18_c j ∧ t_18_c j ≤ 4)) (hc_t_19 : ∀ j : Nat, 0 ≤ t_19_c j ∧ t_19_c j ≤ 4) (hc_t_20 : ∀ j : Nat, (j % 4 = 0 → 0 ≤ t_20_c j ∧ t_20_c j ≤ 11) ∧ (j % 4 = 1 → 0 ≤ t_20_c j ∧ t_20_c j ≤ 4) ∧ (j % 4 = 2 → 0 ≤ t_20_c j ∧ t_20_c j ≤ 29) ∧ (j % 4 = 3 → 0 ≤ t_20_c j ∧ t_20_c j ≤ 1)) (hc_t_21 : ∀ j : Nat, (j % 3 = 0 → 0 ≤ t_21_c j ∧ t_21_c j ≤ 2) ∧ (j % 3 = 1 → 0 ≤ t_21_c j ∧ t_21_c j ≤ 23) ∧ (j % 3 = 2 → 0 ≤ t_21_c j ∧ t_21_c j ≤ 29)) (hc_t_26 : ∀ j : Nat, (-1) ≤ t_26_c j ∧ t_26_c j ≤ 11) (hc_t_27 : ∀ j : Nat, (-1) ≤ t_27_c j ∧ t_27_c j ≤ 29) (hc_t_28 : ∀ j : Nat, 0 ≤ t_28_c j ∧ t_28_c j ≤ 4095) (ti : TI 0 t_17_c t_18_c t_19_c t_20_c t_21_c) (ld : LD (t_17_c 3) (t_17_c 4) t_26_c t_27_c) : fn_CV (S := (Nat → Int) × (Nat → Nat → Int)) l D K yX12_laysOuts (fn_ws yX12_laysOuts cX12_laysOuts 2 none) ({ frames := 4, cells := 0, slots := 0, locals := 100 } : Room) [.ref t] [(t, .inr (12, oX12 t_q t_x0 t_x6 t_x7 t_x8 t_x9 t_x10 t_x11 t_x12 t_x13 t_x14 t_x15 t_x32 t_x33 t_x34 t_x35 t_x39 t_x40 t_x43 t_x44 t_x48 t_x49 t_x50)), ((t_q 17), .inl (K 0, 40, .inl (fun j => iI (t_17_c j)))), ((t_q 18), .inl (K 0, 50, .inl (fun j => iI (t_18_c j)))), ((t_q 19), .inl (K 0, 60, .inl (fun j => iI (t_19_c j)))), ((t_q 20), .inl (K 0, 480, .inl (fun j => iI (t_20_c j)))), ((t_q 21), .inl (K 0, 600, .inl (fun j => iI (t_21_c j)))), ((t_q 26), .inl (K 0, 24, .inl (fun j => iI (t_26_c j)))), ((t_q 27), .inl (K 0, 12, .inl (fun j => iI (t_27_c j)))), ((t_q 28), .inl (K 0, 12, .inl (fun j => iI (t_28_c j))))] (fun u => (OU (t_17_c 3) (u.2 0) t_27_c) ∧ (∀ j : Nat, 0 ≤ (u.2 0) j ∧ (u.2 0) j ≤ 4095) ∧ True) (fun u => [(t, .inr (12, oX12 t_q t_x0 t_x6 t_x7 t_x8 t_x9 t_x10 t_x11 t_x12 t_x13 t_x14 t_x15 t_x32 t_x33 t_x34 t_x35 t_x39 t_x40 t_x43 t_x44 t_x48 t_x49 t_x50)), ((t_q 17), .inl (K 0, 40, .inl (fun j => iI (t_17_c j)))), ((t_q 18), .inl (K 0, 50, .inl (fun j => iI (t_18_c j)))), ((t_q 19), .inl (K 0, 60, .inl (fun j => iI (t_19_c j)))), ((t_q 20), .inl (K 0, 480, .inl (fun j => iI (t_20_c j)))), ((t_q 21), .inl (K 0, 600, .inl (fun j => iI (t_21_c j)))), ((t_q 26), .inl (K 0, 24, .inl (fun j => iI (t_26_c j)))), ((t_q 27), .inl (K 0, 12, .inl (fun j => iI (t_27_c j)))), ((t_q 28), .inl (K 0, 12, .inl (fun j => iI ((u.2 0) j))))]) 0 0 := by
  refine g_inV (cc := cX12_laysOuts) (maxL := 2) (ret := none) (by decide) rfl (Nat.le_of_ble_eq_true rfl) ?_
  intro p e s m below meth c A ls ag Q B hA hP hD hS hl hQ
  obtain ⟨hx, hb, hr, hml, hts, hown, hlocks, hin, hK⟩ := B
  have hown : s.vm.findClass RX12 = some m.cls := hown
  have hts := fun w h => hts w (List.mem_cons_of_mem _ h)
  have hs3 := (hc_t_17 3).2.2.2.1 (by omega)
  have hs4 := (hc_t_17 4).2.2.2.2.1 (by omega)
  have J27 : ∀ (n : Nat) (x27_1 : Int) (c27_t_28 : Nat → Int) (H : Heap) (locs : List Loc) (ls : Array Slot), (24 - x27_1).toNat < n → (0 ≤ x27_1 ∧ x27_1 ≤ 24) → (OU (t_17_c 3) c27_t_28 t_27_c) → (∀ j : Nat, 0 ≤ c27_t_28 j ∧ c27_t_28 j ≤ 4095) → va_P D vwCl [(t, .inr (12, oX12 t_q t_x0 t_x6 t_x7 t_x8 t_x9 t_x10 t_x11 t_x12 t_x13 t_x14 t_x15 t_x32 t_x33 t_x34 t_x35 t_x39 t_x40 t_x43 t_x44 t_x48 t_x49 t_x50)), ((t_q 17), .inl (K 0, 40, .inl (fun j => iI (t_17_c j)))), ((t_q 18), .inl (K 0, 50, .inl (fun j => iI (t_18_c j)))), ((t_q 19), .inl (K 0, 60, .inl (fun j => iI (t_19_c j)))), ((t_q 20), .inl (K 0, 480, .inl (fun j => iI (t_20_c j)))), ((t_q 21), .inl (K 0, 600, .inl (fun j => iI (t_21_c j)))), ((t_q 26), .inl (K 0, 24, .inl (fun j => iI (t_26_c j)))), ((t_q 27), .inl (K 0, 12, .inl (fun j => iI (t_27_c j)))), ((t_q 28), .inl (K 0, 12, .inl (fun j => iI (c27_t_28 j))))] H → va_D A [(t, .inr (12, oX12 t_q t_x0 t_x6 t_x7 t_x8 t_x9 t_x10 t_x11 t_x12 t_x13 t_x14 t_x15 t_x32 t_x33 t_x34 t_x35 t_x39 t_x40 t_x43 t_x44 t_x48 t_x49 t_x50)), ((t_q 17), .inl (K 0, 40, .inl (fun j => iI (t_17_c j)))), ((t_q 18), .inl (K 0, 50, .inl (fun j => iI (t_18_c j)))), ((t_q 19), .inl (K 0, 60, .inl (fun j => iI (t_19_c j)))), ((t_q 20), .inl (K 0, 480, .inl (fun j => iI (t_20_c j)))), ((t_q 21), .inl (K 0, 600, .inl (fun j => iI (t_21_c j)))), ((t_q 26), .inl (K 0, 24, .inl (fun j => iI (t_26_c j)))), ((t_q 27), .inl (K 0, 12, .inl (fun j => iI (t_27_c j)))), ((t_q 28), .inl (K 0, 12, .inl (fun j => iI (c27_t_28 j))))] → va_S A s.heap H locs → lv_has ls 2 [(0, .ref t), (1, .int (iI x27_1))] → W p l e ({ frames := 4, cells := 0, slots := 0, locals := 100 } : Room) s m ag below meth c H locs 0 0 Q (F0 m 27 ls []) := by
    intro n
    induction n with
    | zero =>
      intro x27_1 c27_t_28 H locs ls hm27 hf27 ou hc27_t_28 hP hD hS hl
      exact absurd hm27 (Nat.not_lt_zero _)
    | succ n ih27 =>
      intro x27_1 c27_t_28 H locs ls hm27 hf27 ou hc27_t_28 hP hD hS hl
      refine lv_iload_n hx hb dX12_laysOuts_27 rfl (lv_at hl 1 rfl) ?_
      refine lv_aload_n hx hb dX12_laysOuts_28 rfl (lv_at hl 0 rfl) ?_
      refine va_get (D := D) (own := RX12) (ci := 12) (v := .ref (t_q 17)) (C := RX12) (T := TX12) (N := 51) hx hb hts inb_X12 hown hK.1 hP 0 rfl rfl 17 (by decide) (hts _ wd_1251) (fun _ h9 => h9) rfl dX12_laysOuts_29 ?_
      refine lv_iconst (v := iI 4) hx hb dX12_laysOuts_32 rfl ?_
      refine g_iald hx hb hK.1 hP 1 0 rfl rfl (by omega) (by omega) (by decide) dX12_laysOuts_33 ?_
      refine fn_top (iI (t_17_c 4)) rfl ?_
      have y33 : 0 ≤ (t_17_c 4) ∧ (t_17_c 4) ≤ 24 := (hc_t_17 4).2.2.2.2.1 (by omega)
      refine g_icmp_ge (tgt := 77) hx hb (by omega) (by omega) dX12_laysOuts_34 (by decide) (fun c34 => ?_) (fun c34 => ?_)
      · rw [hQ]; exact fn_vret hx hb hr hlocks hP hD hS ((fun _ => 0), (fun k => ([c27_t_28] : List (Nat → Int)).getD k (fun _ => 0))) ⟨(show OU (t_17_c 3) c27_t_28 t_27_c from by assumption), (hc27_t_28), trivial⟩ [0, 1, 2, 3, 4, 5, 6, 7, 8] (by decide) rfl dX12_laysOuts_77
      · refine lv_aload_n hx hb dX12_laysOuts_37 rfl (lv_at hl 0 rfl) ?_
        refine va_get (D := D) (own := RX12) (ci := 12) (v := .ref (t_q 26)) (C := RX12) (T := TX12) (N := 51) hx hb hts inb_X12 hown hK.1 hP 0 rfl rfl 26 (by decide) (hts _ wd_1260) (fun _ h9 => h9) rfl dX12_laysOuts_38 ?_
        refine lv_iload_n hx hb dX12_laysOuts_41 rfl (lv_at hl 1 rfl) ?_
        refine g_iald hx hb hK.1 hP 6 0 rfl rfl (by omega) (by omega) (by decide) dX12_laysOuts_42 ?_
        have y42 : (-1) ≤ (t_26_c x27_1.toNat) ∧ (t_26_c x27_1.toNat) ≤ 11 := hc_t_26 x27_1.toNat
        refine lv_iconst (v := iI (-1)) hx hb dX12_laysOuts_43 rfl ?_
        refine g_icmp_eq (tgt := 71) hx hb (by omega) (by omega) dX12_laysOuts_44 (by decide) (fun c44 => ?_) (fun c44 => ?_)
        · refine lv_iinc (v := iI (x27_1 + 1)) (lv' := [(1, .int (iI (x27_1 + 1))), (0, .ref t)]) hx hb dX12_laysOuts_71 hl (k := 1) rfl (iI_add _ _) (by decide) rfl (fun ls hl => ?_)
          refine lv_goto (tgt := 27) hx hb dX12_laysOuts_74 (by decide) ?_
          exact ih27 (x27_1 + 1) c27_t_28 _ _ ls (by omega) (by omega) (show OU (t_17_c 3) c27_t_28 t_27_c from by first | assumption | (rw [eg70]; exact OU_set ou (by omega) (by omega) hw68.2.2 tw69)) hc27_t_28 (hP.sub [0, 1, 2, 3, 4, 5, 6, 7, 8] rfl) (hD.sub [0, 1, 2, 3, 4, 5, 6, 7, 8] (by decide) rfl) hS (lv_sub hl [1, 0] rfl)
        · have z47 := TI_note ti (n := x27_1) (by omega) (by omega)
          have z48 := ld (Int.toNat x27_1) (by omega)
          refine lv_aload_n hx hb dX12_laysOuts_47 rfl (lv_at hl 0 rfl) ?_
          refine va_get (D := D) (own := RX12) (ci := 12) (v := .ref (t_q 28)) (C := RX12) (T := TX12) (N := 51) hx hb hts inb_X12 hown hK.1 hP 0 rfl rfl 28 (by decide) (hts _ wd_1262) (fun _ h9 => h9) rfl dX12_laysOuts_48 ?_
          refine lv_aload_n hx hb dX12_laysOuts_51 rfl (lv_at hl 0 rfl) ?_
          refine va_get (D := D) (own := RX12) (ci := 12) (v := .ref (t_q 20)) (C := RX12) (T := TX12) (N := 51) hx hb hts inb_X12 hown hK.1 hP 0 rfl rfl 20 (by decide) (hts _ wd_1254) (fun _ h9 => h9) rfl dX12_laysOuts_52 ?_
          refine lv_iconst (v := iI 4) hx hb dX12_laysOuts_55 rfl ?_
          refine lv_iload_n hx hb dX12_laysOuts_56 rfl (lv_at hl 1 rfl) ?_
          refine g_imul hx hb dX12_laysOuts_57 ?_
          refine fn_at 58 rfl ?_
          refine g_iald hx hb hK.1 hP 4 0 rfl rfl (by omega) (by omega) (by decide) dX12_laysOuts_58 ?_
          have y58 : 0 ≤ (t_20_c ((4 * x27_1).toNat)) ∧ (t_20_c ((4 * x27_1).toNat)) ≤ 11 := (hc_t_20 ((4 * x27_1).toNat)).1 (by omega)
          refine lv_dup2_11 hx hb dX12_laysOuts_59 rfl rfl ?_
          refine g_iald hx hb hK.1 hP 8 0 rfl rfl (by omega) (by omega) (by decide) dX12_laysOuts_60 ?_
          have y60 : 0 ≤ (c27_t_28 ((t_20_c ((4 * x27_1).toNat)).toNat)) ∧ (c27_t_28 ((t_20_c ((4 * x27_1).toNat)).toNat)) ≤ 4095 := hc27_t_28 ((t_20_c ((4 * x27_1).toNat)).toNat)
          refine lv_iconst (v := iI 1) hx hb dX12_laysOuts_61 rfl ?_
          refine lv_aload_n hx hb dX12_laysOuts_62 rfl (lv_at hl 0 rfl) ?_
          refine va_get (D := D) (own := RX12) (ci := 12) (v := .ref (t_q 26)) (C := RX12) (T := TX12) (N := 51) hx hb hts inb_X12 hown hK.1 hP 0 rfl rfl 26 (by decide) (hts _ wd_1260) (fun _ h9 => h9) rfl dX12_laysOuts_63 ?_
          refine lv_iload_n hx hb dX12_laysOuts_66 rfl (lv_at hl 1 rfl) ?_
          refine g_iald hx hb hK.1 hP 6 0 rfl rfl (by omega) (by omega) (by decide) dX12_laysOuts_67 ?_
          refine lv_ishl hx hb dX12_laysOuts_68 ?_
          obtain ⟨w68, ew68, hw68⟩ := iI_shl1 11 (t_26_c x27_1.toNat) (by omega) (by omega) (by decide)
          refine fn_top (iI w68) ew68 ?_
          refine lv_ior hx hb dX12_laysOuts_69 ?_
          obtain ⟨w69, ew69, hw69, tw69⟩ := iI_orx 12 (c27_t_28 ((t_20_c ((4 * x27_1).toNat)).toNat)) w68 (by omega) (by omega) (by decide)
          refine fn_top (iI w69) ew69 ?_
          refine g_iast hx hb hK.1 hP hD hS 8 0 rfl rfl (by omega) (by omega) (by decide) dX12_laysOuts_70 (fun H locs g70 eg70 hP hD hS => ?_)
          have hg70 : ∀ j : Nat, 0 ≤ g70 j ∧ g70 j ≤ 4095 := by rw [eg70]; exact uI_all hc27_t_28 (by omega)
          have hP : va_P D vwCl [(t, .inr (12, oX12 t_q t_x0 t_x6 t_x7 t_x8 t_x9 t_x10 t_x11 t_x12 t_x13 t_x14 t_x15 t_x32 t_x33 t_x34 t_x35 t_x39 t_x40 t_x43 t_x44 t_x48 t_x49 t_x50)), ((t_q 17), .inl (K 0, 40, .inl (fun j => iI (t_17_c j)))), ((t_q 18), .inl (K 0, 50, .inl (fun j => iI (t_18_c j)))), ((t_q 19), .inl (K 0, 60, .inl (fun j => iI (t_19_c j)))), ((t_q 20), .inl (K 0, 480, .inl (fun j => iI (t_20_c j)))), ((t_q 21), .inl (K 0, 600, .inl (fun j => iI (t_21_c j)))), ((t_q 26), .inl (K 0, 24, .inl (fun j => iI (t_26_c j)))), ((t_q 27), .inl (K 0, 12, .inl (fun j => iI (t_27_c j)))), ((t_q 28), .inl (K 0, 12, .inl (fun j => iI (g70 j))))] H := hP
          have hD : va_D A [(t, .inr (12, oX12 t_q t_x0 t_x6 t_x7 t_x8 t_x9 t_x10 t_x11 t_x12 t_x13 t_x14 t_x15 t_x32 t_x33 t_x34 t_x35 t_x39 t_x40 t_x43 t_x44 t_x48 t_x49 t_x50)), ((t_q 17), .inl (K 0, 40, .inl (fun j => iI (t_17_c j)))), ((t_q 18), .inl (K 0, 50, .inl (fun j => iI (t_18_c j)))), ((t_q 19), .inl (K 0, 60, .inl (fun j => iI (t_19_c j)))), ((t_q 20), .inl (K 0, 480, .inl (fun j => iI (t_20_c j)))), ((t_q 21), .inl (K 0, 600, .inl (fun j => iI (t_21_c j)))), ((t_q 26), .inl (K 0, 24, .inl (fun j => iI (t_26_c j)))), ((t_q 27), .inl (K 0, 12, .inl (fun j => iI (t_27_c j)))), ((t_q 28), .inl (K 0, 12, .inl (fun j => iI (g70 j))))] := hD
          refine lv_iinc (v := iI (x27_1 + 1)) (lv' := [(1, .int (iI (x27_1 + 1))), (0, .ref t)]) hx hb dX12_laysOuts_71 hl (k := 1) rfl (iI_add _ _) (by decide) rfl (fun ls hl => ?_)
          refine lv_goto (tgt := 27) hx hb dX12_laysOuts_74 (by decide) ?_
          exact ih27 (x27_1 + 1) g70 _ _ ls (by omega) (by omega) (show OU (t_17_c 3) g70 t_27_c from by first | assumption | (rw [eg70]; exact OU_set ou (by omega) (by omega) hw68.2.2 tw69)) hg70 (hP.sub [0, 1, 2, 3, 4, 5, 6, 7, 8] rfl) (hD.sub [0, 1, 2, 3, 4, 5, 6, 7, 8] (by decide) rfl) hS (lv_sub hl [1, 0] rfl)
  have J2 : ∀ (n : Nat) (x2_1 : Int) (c2_t_28 : Nat → Int) (H : Heap) (locs : List Loc) (ls : Array Slot), (12 - x2_1).toNat < n → (0 ≤ x2_1 ∧ x2_1 ≤ 12) → (∀ p : Nat, (p : Int) < x2_1 → c2_t_28 p = 0) → (∀ j : Nat, 0 ≤ c2_t_28 j ∧ c2_t_28 j ≤ 4095) → va_P D vwCl [(t, .inr (12, oX12 t_q t_x0 t_x6 t_x7 t_x8 t_x9 t_x10 t_x11 t_x12 t_x13 t_x14 t_x15 t_x32 t_x33 t_x34 t_x35 t_x39 t_x40 t_x43 t_x44 t_x48 t_x49 t_x50)), ((t_q 17), .inl (K 0, 40, .inl (fun j => iI (t_17_c j)))), ((t_q 18), .inl (K 0, 50, .inl (fun j => iI (t_18_c j)))), ((t_q 19), .inl (K 0, 60, .inl (fun j => iI (t_19_c j)))), ((t_q 20), .inl (K 0, 480, .inl (fun j => iI (t_20_c j)))), ((t_q 21), .inl (K 0, 600, .inl (fun j => iI (t_21_c j)))), ((t_q 26), .inl (K 0, 24, .inl (fun j => iI (t_26_c j)))), ((t_q 27), .inl (K 0, 12, .inl (fun j => iI (t_27_c j)))), ((t_q 28), .inl (K 0, 12, .inl (fun j => iI (c2_t_28 j))))] H → va_D A [(t, .inr (12, oX12 t_q t_x0 t_x6 t_x7 t_x8 t_x9 t_x10 t_x11 t_x12 t_x13 t_x14 t_x15 t_x32 t_x33 t_x34 t_x35 t_x39 t_x40 t_x43 t_x44 t_x48 t_x49 t_x50)), ((t_q 17), .inl (K 0, 40, .inl (fun j => iI (t_17_c j)))), ((t_q 18), .inl (K 0, 50, .inl (fun j => iI (t_18_c j)))), ((t_q 19), .inl (K 0, 60, .inl (fun j => iI (t_19_c j)))), ((t_q 20), .inl (K 0, 480, .inl (fun j => iI (t_20_c j)))), ((t_q 21), .inl (K 0, 600, .inl (fun j => iI (t_21_c j)))), ((t_q 26), .inl (K 0, 24, .inl (fun j => iI (t_26_c j)))), ((t_q 27), .inl (K 0, 12, .inl (fun j => iI (t_27_c j)))), ((t_q 28), .inl (K 0, 12, .inl (fun j => iI (c2_t_28 j))))] → va_S A s.heap H locs → lv_has ls 2 [(0, .ref t), (1, .int (iI x2_1))] → W p l e ({ frames := 4, cells := 0, slots := 0, locals := 100 } : Room) s m ag below meth c H locs 0 0 Q (F0 m 2 ls []) := by
    intro n
    induction n with
    | zero =>
      intro x2_1 c2_t_28 H locs ls hm2 hf2 q0 hc2_t_28 hP hD hS hl
      exact absurd hm2 (Nat.not_lt_zero _)
    | succ n ih2 =>
      intro x2_1 c2_t_28 H locs ls hm2 hf2 q0 hc2_t_28 hP hD hS hl
      refine lv_iload_n hx hb dX12_laysOuts_2 rfl (lv_at hl 1 rfl) ?_
      refine lv_aload_n hx hb dX12_laysOuts_3 rfl (lv_at hl 0 rfl) ?_
      refine va_get (D := D) (own := RX12) (ci := 12) (v := .ref (t_q 17)) (C := RX12) (T := TX12) (N := 51) hx hb hts inb_X12 hown hK.1 hP 0 rfl rfl 17 (by decide) (hts _ wd_1251) (fun _ h9 => h9) rfl dX12_laysOuts_4 ?_
      refine lv_iconst (v := iI 3) hx hb dX12_laysOuts_7 rfl ?_
      refine g_iald hx hb hK.1 hP 1 0 rfl rfl (by omega) (by omega) (by decide) dX12_laysOuts_8 ?_
      refine fn_top (iI (t_17_c 3)) rfl ?_
      have y8 : 0 ≤ (t_17_c 3) ∧ (t_17_c 3) ≤ 12 := (hc_t_17 3).2.2.2.1 (by omega)
      refine g_icmp_ge (tgt := 25) hx hb (by omega) (by omega) dX12_laysOuts_9 (by decide) (fun c9 => ?_) (fun c9 => ?_)
      · refine lv_iconst (v := iI 0) hx hb dX12_laysOuts_25 rfl ?_
        refine lv_istore_n (lv' := [(1, .int (iI 0)), (0, .ref t)]) hx hb dX12_laysOuts_26 rfl hl (by decide) rfl (fun ls hl => ?_)
        exact J27 _ 0 c2_t_28 _ _ ls (Nat.lt_succ_self _) (by omega) (show OU (t_17_c 3) c2_t_28 t_27_c from OU_0 (fun p hp => q0 p (by omega))) hc2_t_28 (hP.sub [0, 1, 2, 3, 4, 5, 6, 7, 8] rfl) (hD.sub [0, 1, 2, 3, 4, 5, 6, 7, 8] (by decide) rfl) hS (lv_sub hl [1, 0] rfl)
      · refine lv_aload_n hx hb dX12_laysOuts_12 rfl (lv_at hl 0 rfl) ?_
        refine va_get (D := D) (own := RX12) (ci := 12) (v := .ref (t_q 28)) (C := RX12) (T := TX12) (N := 51) hx hb hts inb_X12 hown hK.1 hP 0 rfl rfl 28 (by decide) (hts _ wd_1262) (fun _ h9 => h9) rfl dX12_laysOuts_13 ?_
        refine lv_iload_n hx hb dX12_laysOuts_16 rfl (lv_at hl 1 rfl) ?_
        refine lv_iconst (v := iI 0) hx hb dX12_laysOuts_17 rfl ?_
        refine g_iast hx hb hK.1 hP hD hS 8 0 rfl rfl (by omega) (by omega) (by decide) dX12_laysOuts_18 (fun H locs g18 eg18 hP hD hS => ?_)
        have hg18 : ∀ j : Nat, 0 ≤ g18 j ∧ g18 j ≤ 4095 := by rw [eg18]; exact uI_all hc2_t_28 (by omega)
        have hP : va_P D vwCl [(t, .inr (12, oX12 t_q t_x0 t_x6 t_x7 t_x8 t_x9 t_x10 t_x11 t_x12 t_x13 t_x14 t_x15 t_x32 t_x33 t_x34 t_x35 t_x39 t_x40 t_x43 t_x44 t_x48 t_x49 t_x50)), ((t_q 17), .inl (K 0, 40, .inl (fun j => iI (t_17_c j)))), ((t_q 18), .inl (K 0, 50, .inl (fun j => iI (t_18_c j)))), ((t_q 19), .inl (K 0, 60, .inl (fun j => iI (t_19_c j)))), ((t_q 20), .inl (K 0, 480, .inl (fun j => iI (t_20_c j)))), ((t_q 21), .inl (K 0, 600, .inl (fun j => iI (t_21_c j)))), ((t_q 26), .inl (K 0, 24, .inl (fun j => iI (t_26_c j)))), ((t_q 27), .inl (K 0, 12, .inl (fun j => iI (t_27_c j)))), ((t_q 28), .inl (K 0, 12, .inl (fun j => iI (g18 j))))] H := hP
        have hD : va_D A [(t, .inr (12, oX12 t_q t_x0 t_x6 t_x7 t_x8 t_x9 t_x10 t_x11 t_x12 t_x13 t_x14 t_x15 t_x32 t_x33 t_x34 t_x35 t_x39 t_x40 t_x43 t_x44 t_x48 t_x49 t_x50)), ((t_q 17), .inl (K 0, 40, .inl (fun j => iI (t_17_c j)))), ((t_q 18), .inl (K 0, 50, .inl (fun j => iI (t_18_c j)))), ((t_q 19), .inl (K 0, 60, .inl (fun j => iI (t_19_c j)))), ((t_q 20), .inl (K 0, 480, .inl (fun j => iI (t_20_c j)))), ((t_q 21), .inl (K 0, 600, .inl (fun j => iI (t_21_c j)))), ((t_q 26), .inl (K 0, 24, .inl (fun j => iI (t_26_c j)))), ((t_q 27), .inl (K 0, 12, .inl (fun j => iI (t_27_c j)))), ((t_q 28), .inl (K 0, 12, .inl (fun j => iI (g18 j))))] := hD
        refine lv_iinc (v := iI (x2_1 + 1)) (lv' := [(1, .int (iI (x2_1 + 1))), (0, .ref t)]) hx hb dX12_laysOuts_19 hl (k := 1) rfl (iI_add _ _) (by decide) rfl (fun ls hl => ?_)
        refine lv_goto (tgt := 2) hx hb dX12_laysOuts_22 (by decide) ?_
        exact ih2 (x2_1 + 1) g18 _ _ ls (by omega) (by omega) (show ∀ p : Nat, (p : Int) < (x2_1 + 1) → g18 p = 0 from by rw [eg18]; exact all_set q0 (by omega)) hg18 (hP.sub [0, 1, 2, 3, 4, 5, 6, 7, 8] rfl) (hD.sub [0, 1, 2, 3, 4, 5, 6, 7, 8] (by decide) rfl) hS (lv_sub hl [1, 0] rfl)
  have hl : lv_has ls 2 [(0, .ref t)] := hl
  refine lv_iconst (v := iI 0) hx hb dX12_laysOuts_0 rfl ?_
  refine lv_istore_n (lv' := [(1, .int (iI 0)), (0, .ref t)]) hx hb dX12_laysOuts_1 rfl hl (by decide) rfl (fun ls hl => ?_)
  exact J2 _ 0 t_28_c _ _ ls (Nat.lt_succ_self _) (by omega) (show ∀ p : Nat, (p : Int) < (0 : Int) → t_28_c p = 0 from fun p hp => by omega) hc_t_28 (hP.sub [0, 1, 2, 3, 4, 5, 6, 7, 8] rfl) (hD.sub [0, 1, 2, 3, 4, 5, 6, 7, 8] (by decide) rfl) hS (lv_sub hl [1, 0] rfl)
theorem wd_1261 : Cond.fieldLink "FootNotesModel" 65 "FootNotesModel" "leafOf" "[I" ∈ fn_big := fn_tb (fn_l6 (List.mem_of_getElem? (i := 61) (by decide +kernel))) (by decide +kernel)
theorem wd_1563 : Cond.code ⟨"FootNotesModel", "laysOuts", "()V"⟩ prog_14_method_49_code 2 (Option.none : Option Jvm.ClassFile.FieldType) ∈ fn_big := fn_tb (fn_l7 (List.mem_of_getElem? (i := 123) (by decide +kernel))) (by decide +kernel)
theorem wd_1560 : Cond.methodLink "FootNotesModel" 280 ⟨"FootNotesModel", "laysOuts", "()V"⟩ ∈ fn_big := fn_tb (fn_l7 (List.mem_of_getElem? (i := 120) (by decide +kernel))) (by decide +kernel)
theorem wd_1562 : Cond.instanceMethod ⟨"FootNotesModel", "laysOuts", "()V"⟩ ∈ fn_big := fn_tb (fn_l7 (List.mem_of_getElem? (i := 122) (by decide +kernel))) (by decide +kernel)
theorem wp_121 : Cond.selects "FootNotesModel" ⟨"FootNotesModel", "laysOuts", "()V"⟩ ⟨"FootNotesModel", "laysOuts", "()V"⟩ ∈ fn_big := fn_sel (q := (⟨"FootNotesModel", "laysOuts", "()V"⟩, 51)) 121 (by decide +kernel) (by decide +kernel)
theorem dX12_laysLeads_150 : decode cX12_laysLeads 150 = .ok (.istore_n 3, 1) := by decide +kernel
theorem dX12_laysLeads_151 : decode cX12_laysLeads 151 = .ok (.aload_n 0, 1) := by decide +kernel
theorem dX12_laysLeads_152 : decode cX12_laysLeads 152 = .ok (.getfield 62, 3) := by decide +kernel
theorem dX12_laysLeads_155 : decode cX12_laysLeads 155 = .ok (.iload_n 1, 1) := by decide +kernel
theorem dX12_laysLeads_156 : decode cX12_laysLeads 156 = .ok (.aload_n 0, 1) := by decide +kernel
theorem dX12_laysLeads_157 : decode cX12_laysLeads 157 = .ok (.getfield 65, 3) := by decide +kernel
theorem dX12_laysLeads_160 : decode cX12_laysLeads 160 = .ok (.aload_n 0, 1) := by decide +kernel
theorem dX12_laysLeads_161 : decode cX12_laysLeads 161 = .ok (.getfield 43, 3) := by decide +kernel
theorem dX12_laysLeads_164 : decode cX12_laysLeads 164 = .ok (.iconst 4, 1) := by decide +kernel
theorem dX12_laysLeads_165 : decode cX12_laysLeads 165 = .ok (.iload_n 1, 1) := by decide +kernel
theorem dX12_laysLeads_166 : decode cX12_laysLeads 166 = .ok (.imul, 1) := by decide +kernel
theorem dX12_laysLeads_167 : decode cX12_laysLeads 167 = .ok (.iaload, 1) := by decide +kernel
theorem dX12_laysLeads_168 : decode cX12_laysLeads 168 = .ok (.iaload, 1) := by decide +kernel
theorem dX12_laysLeads_169 : decode cX12_laysLeads 169 = .ok (.iconst (-1), 1) := by decide +kernel
theorem dX12_laysLeads_170 : decode cX12_laysLeads 170 = .ok (.if_icmp .eq 7, 3) := by decide +kernel
theorem dX12_laysLeads_177 : decode cX12_laysLeads 177 = .ok (.iconst (-1), 1) := by decide +kernel
theorem dX12_laysLeads_178 : decode cX12_laysLeads 178 = .ok (.goto 4, 3) := by decide +kernel
theorem dX12_laysLeads_182 : decode cX12_laysLeads 182 = .ok (.iastore, 1) := by decide +kernel
theorem dX12_laysLeads_183 : decode cX12_laysLeads 183 = .ok (.iinc 1 1, 3) := by decide +kernel
theorem dX12_laysLeads_186 : decode cX12_laysLeads 186 = .ok (.goto (-92), 3) := by decide +kernel
theorem dX12_laysLeads_173 : decode cX12_laysLeads 173 = .ok (.iload_n 3, 1) := by decide +kernel
theorem dX12_laysLeads_174 : decode cX12_laysLeads 174 = .ok (.ifCond .ge 7, 3) := by decide +kernel
theorem dX12_laysLeads_181 : decode cX12_laysLeads 181 = .ok (.iload_n 3, 1) := by decide +kernel
theorem dX12_laysLeads_94 : decode cX12_laysLeads 94 = .ok (.iload_n 1, 1) := by decide +kernel
theorem dX12_laysLeads_95 : decode cX12_laysLeads 95 = .ok (.aload_n 0, 1) := by decide +kernel
theorem dX12_laysLeads_96 : decode cX12_laysLeads 96 = .ok (.getfield 34, 3) := by decide +kernel
theorem dX12_laysLeads_99 : decode cX12_laysLeads 99 = .ok (.iconst 4, 1) := by decide +kernel
theorem dX12_laysLeads_100 : decode cX12_laysLeads 100 = .ok (.iaload, 1) := by decide +kernel
theorem dX12_laysLeads_101 : decode cX12_laysLeads 101 = .ok (.if_icmp .ge 88, 3) := by decide +kernel
theorem dX12_laysLeads_189 : decode cX12_laysLeads 189 = .ok (.aload_n 0, 1) := by decide +kernel
theorem dX12_laysLeads_190 : decode cX12_laysLeads 190 = .ok (.invokevirtual 280, 3) := by decide +kernel
theorem dX12_laysLeads_193 : decode cX12_laysLeads 193 = .ok (.return_, 1) := by decide +kernel
theorem dX12_laysLeads_104 : decode cX12_laysLeads 104 = .ok (.aload_n 0, 1) := by decide +kernel
theorem dX12_laysLeads_105 : decode cX12_laysLeads 105 = .ok (.getfield 43, 3) := by decide +kernel
theorem dX12_laysLeads_108 : decode cX12_laysLeads 108 = .ok (.iconst 4, 1) := by decide +kernel
theorem dX12_laysLeads_109 : decode cX12_laysLeads 109 = .ok (.iload_n 1, 1) := by decide +kernel
theorem dX12_laysLeads_110 : decode cX12_laysLeads 110 = .ok (.imul, 1) := by decide +kernel
theorem dX12_laysLeads_111 : decode cX12_laysLeads 111 = .ok (.iconst 1, 1) := by decide +kernel
theorem dX12_laysLeads_112 : decode cX12_laysLeads 112 = .ok (.iadd, 1) := by decide +kernel
theorem dX12_laysLeads_113 : decode cX12_laysLeads 113 = .ok (.iaload, 1) := by decide +kernel
theorem dX12_laysLeads_114 : decode cX12_laysLeads 114 = .ok (.istore_n 2, 1) := by decide +kernel
theorem dX12_laysLeads_115 : decode cX12_laysLeads 115 = .ok (.aload_n 0, 1) := by decide +kernel
theorem dX12_laysLeads_116 : decode cX12_laysLeads 116 = .ok (.getfield 59, 3) := by decide +kernel
theorem dX12_laysLeads_119 : decode cX12_laysLeads 119 = .ok (.iload_n 1, 1) := by decide +kernel
theorem dX12_laysLeads_120 : decode cX12_laysLeads 120 = .ok (.iaload, 1) := by decide +kernel
theorem dX12_laysLeads_121 : decode cX12_laysLeads 121 = .ok (.aload_n 0, 1) := by decide +kernel
theorem dX12_laysLeads_122 : decode cX12_laysLeads 122 = .ok (.getfield 56, 3) := by decide +kernel
theorem dX12_laysLeads_125 : decode cX12_laysLeads 125 = .ok (.iload_n 2, 1) := by decide +kernel
theorem dX12_laysLeads_126 : decode cX12_laysLeads 126 = .ok (.iaload, 1) := by decide +kernel
theorem dX12_laysLeads_127 : decode cX12_laysLeads 127 = .ok (.if_icmp .ge 22, 3) := by decide +kernel
theorem dX12_laysLeads_149 : decode cX12_laysLeads 149 = .ok (.iconst (-1), 1) := by decide +kernel
theorem dX12_laysLeads_130 : decode cX12_laysLeads 130 = .ok (.aload_n 0, 1) := by decide +kernel
theorem dX12_laysLeads_131 : decode cX12_laysLeads 131 = .ok (.getfield 53, 3) := by decide +kernel
theorem dX12_laysLeads_134 : decode cX12_laysLeads 134 = .ok (.bipush 30, 2) := by decide +kernel
theorem dX12_laysLeads_136 : decode cX12_laysLeads 136 = .ok (.iload_n 2, 1) := by decide +kernel
theorem dX12_laysLeads_137 : decode cX12_laysLeads 137 = .ok (.imul, 1) := by decide +kernel
theorem dX12_laysLeads_138 : decode cX12_laysLeads 138 = .ok (.aload_n 0, 1) := by decide +kernel
theorem dX12_laysLeads_139 : decode cX12_laysLeads 139 = .ok (.getfield 59, 3) := by decide +kernel
theorem dX12_laysLeads_142 : decode cX12_laysLeads 142 = .ok (.iload_n 1, 1) := by decide +kernel
theorem dX12_laysLeads_143 : decode cX12_laysLeads 143 = .ok (.iaload, 1) := by decide +kernel
theorem dX12_laysLeads_144 : decode cX12_laysLeads 144 = .ok (.iadd, 1) := by decide +kernel
theorem dX12_laysLeads_145 : decode cX12_laysLeads 145 = .ok (.iaload, 1) := by decide +kernel
theorem dX12_laysLeads_146 : decode cX12_laysLeads 146 = .ok (.goto 4, 3) := by decide +kernel
theorem dX12_laysLeads_80 : decode cX12_laysLeads 80 = .ok (.iinc 2 1, 3) := by decide +kernel
theorem dX12_laysLeads_83 : decode cX12_laysLeads 83 = .ok (.goto (-44), 3) := by decide +kernel
theorem dX12_laysLeads_39 : decode cX12_laysLeads 39 = .ok (.iload_n 2, 1) := by decide +kernel
theorem dX12_laysLeads_40 : decode cX12_laysLeads 40 = .ok (.aload_n 0, 1) := by decide +kernel
theorem dX12_laysLeads_41 : decode cX12_laysLeads 41 = .ok (.getfield 56, 3) := by decide +kernel
theorem dX12_laysLeads_44 : decode cX12_laysLeads 44 = .ok (.iload_n 1, 1) := by decide +kernel
theorem dX12_laysLeads_45 : decode cX12_laysLeads 45 = .ok (.iaload, 1) := by decide +kernel
theorem dX12_laysLeads_46 : decode cX12_laysLeads 46 = .ok (.if_icmp .ge 40, 3) := by decide +kernel
theorem dX12_laysLeads_86 : decode cX12_laysLeads 86 = .ok (.iinc 1 1, 3) := by decide +kernel
theorem dX12_laysLeads_89 : decode cX12_laysLeads 89 = .ok (.goto (-62), 3) := by decide +kernel
theorem dX12_laysLeads_49 : decode cX12_laysLeads 49 = .ok (.aload_n 0, 1) := by decide +kernel
theorem dX12_laysLeads_50 : decode cX12_laysLeads 50 = .ok (.getfield 53, 3) := by decide +kernel
theorem dX12_laysLeads_53 : decode cX12_laysLeads 53 = .ok (.bipush 30, 2) := by decide +kernel
theorem dX12_laysLeads_55 : decode cX12_laysLeads 55 = .ok (.iload_n 1, 1) := by decide +kernel
theorem dX12_laysLeads_56 : decode cX12_laysLeads 56 = .ok (.imul, 1) := by decide +kernel
theorem dX12_laysLeads_57 : decode cX12_laysLeads 57 = .ok (.iload_n 2, 1) := by decide +kernel
theorem dX12_laysLeads_58 : decode cX12_laysLeads 58 = .ok (.iadd, 1) := by decide +kernel
theorem dX12_laysLeads_59 : decode cX12_laysLeads 59 = .ok (.iaload, 1) := by decide +kernel
theorem dX12_laysLeads_60 : decode cX12_laysLeads 60 = .ok (.ifCond .lt 20, 3) := by decide +kernel
theorem dX12_laysLeads_63 : decode cX12_laysLeads 63 = .ok (.aload_n 0, 1) := by decide +kernel
theorem dX12_laysLeads_64 : decode cX12_laysLeads 64 = .ok (.getfield 65, 3) := by decide +kernel
theorem dX12_laysLeads_67 : decode cX12_laysLeads 67 = .ok (.aload_n 0, 1) := by decide +kernel
theorem dX12_laysLeads_68 : decode cX12_laysLeads 68 = .ok (.getfield 53, 3) := by decide +kernel
theorem dX12_laysLeads_71 : decode cX12_laysLeads 71 = .ok (.bipush 30, 2) := by decide +kernel
theorem dX12_laysLeads_73 : decode cX12_laysLeads 73 = .ok (.iload_n 1, 1) := by decide +kernel
theorem dX12_laysLeads_74 : decode cX12_laysLeads 74 = .ok (.imul, 1) := by decide +kernel
theorem dX12_laysLeads_75 : decode cX12_laysLeads 75 = .ok (.iload_n 2, 1) := by decide +kernel
theorem dX12_laysLeads_76 : decode cX12_laysLeads 76 = .ok (.iadd, 1) := by decide +kernel
theorem dX12_laysLeads_77 : decode cX12_laysLeads 77 = .ok (.iaload, 1) := by decide +kernel
theorem dX12_laysLeads_78 : decode cX12_laysLeads 78 = .ok (.iload_n 2, 1) := by decide +kernel
theorem dX12_laysLeads_79 : decode cX12_laysLeads 79 = .ok (.iastore, 1) := by decide +kernel
theorem dX12_laysLeads_27 : decode cX12_laysLeads 27 = .ok (.iload_n 1, 1) := by decide +kernel
theorem dX12_laysLeads_28 : decode cX12_laysLeads 28 = .ok (.aload_n 0, 1) := by decide +kernel
theorem dX12_laysLeads_29 : decode cX12_laysLeads 29 = .ok (.getfield 34, 3) := by decide +kernel
theorem dX12_laysLeads_32 : decode cX12_laysLeads 32 = .ok (.iconst 2, 1) := by decide +kernel
theorem dX12_laysLeads_33 : decode cX12_laysLeads 33 = .ok (.iaload, 1) := by decide +kernel
theorem dX12_laysLeads_34 : decode cX12_laysLeads 34 = .ok (.if_icmp .ge 58, 3) := by decide +kernel
theorem dX12_laysLeads_92 : decode cX12_laysLeads 92 = .ok (.iconst 0, 1) := by decide +kernel
theorem dX12_laysLeads_93 : decode cX12_laysLeads 93 = .ok (.istore_n 1, 1) := by decide +kernel
theorem dX12_laysLeads_37 : decode cX12_laysLeads 37 = .ok (.iconst 0, 1) := by decide +kernel
theorem dX12_laysLeads_38 : decode cX12_laysLeads 38 = .ok (.istore_n 2, 1) := by decide +kernel
theorem dX12_laysLeads_2 : decode cX12_laysLeads 2 = .ok (.iload_n 1, 1) := by decide +kernel
theorem dX12_laysLeads_3 : decode cX12_laysLeads 3 = .ok (.aload_n 0, 1) := by decide +kernel
theorem dX12_laysLeads_4 : decode cX12_laysLeads 4 = .ok (.getfield 34, 3) := by decide +kernel
theorem dX12_laysLeads_7 : decode cX12_laysLeads 7 = .ok (.iconst 3, 1) := by decide +kernel
theorem dX12_laysLeads_8 : decode cX12_laysLeads 8 = .ok (.iaload, 1) := by decide +kernel
theorem dX12_laysLeads_9 : decode cX12_laysLeads 9 = .ok (.if_icmp .ge 16, 3) := by decide +kernel
theorem dX12_laysLeads_25 : decode cX12_laysLeads 25 = .ok (.iconst 0, 1) := by decide +kernel
theorem dX12_laysLeads_26 : decode cX12_laysLeads 26 = .ok (.istore_n 1, 1) := by decide +kernel
theorem dX12_laysLeads_12 : decode cX12_laysLeads 12 = .ok (.aload_n 0, 1) := by decide +kernel
theorem dX12_laysLeads_13 : decode cX12_laysLeads 13 = .ok (.getfield 65, 3) := by decide +kernel
theorem dX12_laysLeads_16 : decode cX12_laysLeads 16 = .ok (.iload_n 1, 1) := by decide +kernel
theorem dX12_laysLeads_17 : decode cX12_laysLeads 17 = .ok (.iconst (-1), 1) := by decide +kernel
theorem dX12_laysLeads_18 : decode cX12_laysLeads 18 = .ok (.iastore, 1) := by decide +kernel
theorem dX12_laysLeads_19 : decode cX12_laysLeads 19 = .ok (.iinc 1 1, 3) := by decide +kernel
theorem dX12_laysLeads_22 : decode cX12_laysLeads 22 = .ok (.goto (-20), 3) := by decide +kernel
theorem dX12_laysLeads_0 : decode cX12_laysLeads 0 = .ok (.iconst 0, 1) := by decide +kernel
theorem dX12_laysLeads_1 : decode cX12_laysLeads 1 = .ok (.istore_n 1, 1) := by decide +kernel
set_option maxHeartbeats 4000000 in
set_option maxRecDepth 100000 in
theorem k_X12_laysLeads (l : Launch) (D : va_G) (K : Nat → ClassId) (t : Nat) (t_q : Nat → Nat) (t_x0 t_x6 t_x7 t_x8 t_x9 t_x10 t_x11 t_x12 t_x13 t_x14 t_x15 t_x32 t_x33 t_x34 t_x35 t_x39 t_x40 t_x43 t_x44 t_x48 t_x49 t_x50 : Int) (t_17_c : Nat → Int) (t_18_c : Nat → Int) (t_19_c : Nat → Int) (t_20_c : Nat → Int) (t_21_c : Nat → Int) (t_23_c : Nat → Int) (t_24_c : Nat → Int) (t_25_c : Nat → Int) (t_26_c : Nat → Int) (t_27_c : Nat → Int) (t_28_c : Nat → Int) (hi_t : bM12 t_x0 t_x6 t_x7 t_x8 t_x9 t_x10 t_x11 t_x12 t_x13 t_x14 t_x15 t_x32 t_x33 t_x34 t_x35 t_x39 t_x40 t_x43 t_x44 t_x48 t_x49 t_x50) (hc_t_17 : ∀ j : Nat, (j % 8 = 0 → 0 ≤ t_17_c j ∧ t_17_c j ≤ 20) ∧ (j % 8 = 1 → 0 ≤ t_17_c j ∧ t_17_c j ≤ 100) ∧ (j % 8 = 2 → 0 ≤ t_17_c j ∧ t_17_c j ≤ 5) ∧ (j % 8 = 3 → 0 ≤ t_17_c j ∧ t_17_c j ≤ 12) ∧ (j % 8 = 4 → 0 ≤ t_17_c j ∧ t_17_c j ≤ 24) ∧ (j % 8 = 5 → 0 ≤ t_17_c j ∧ t_17_c j ≤ 4095) ∧ (j % 8 = 6 → 0 ≤ t_17_c j ∧ t_17_c j ≤ 31) ∧ (j % 8 = 7 → 0 ≤ t_17_c j ∧ t_17_c j ≤ 40)) (hc_t_18 : ∀ j : Nat, (j % 2 = 0 → 0 ≤ t_18_c j ∧ t_18_c j ≤ 9) ∧ (j % 2 = 1 → 0 ≤ t_18_c j ∧ t_18_c j ≤ 4)) (hc_t_19 : ∀ j : Nat, 0 ≤ t_19_c j ∧ t_19_c j ≤ 4) (hc_t_20 : ∀ j : Nat, (j % 4 = 0 → 0 ≤ t_20_c j ∧ t_20_c j ≤ 11) ∧ (j % 4 = 1 → 0 ≤ t_20_c j ∧ t_20_c j ≤ 4) ∧ (j % 4 = 2 → 0 ≤ t_20_c j ∧ t_20_c j ≤ 29) ∧ (j % 4 = 3 → 0 ≤ t_20_c j ∧ t_20_c j ≤ 1)) (hc_t_21 : ∀ j : Nat, (j % 3 = 0 → 0 ≤ t_21_c j ∧ t_21_c j ≤ 2) ∧ (j % 3 = 1 → 0 ≤ t_21_c j ∧ t_21_c j ≤ 23) ∧ (j % 3 = 2 → 0 ≤ t_21_c j ∧ t_21_c j ≤ 29)) (hc_t_23 : ∀ j : Nat, (-2) ≤ t_23_c j ∧ t_23_c j ≤ 11) (hc_t_24 : ∀ j : Nat, 0 ≤ t_24_c j ∧ t_24_c j ≤ 30) (hc_t_25 : ∀ j : Nat, 0 ≤ t_25_c j ∧ t_25_c j ≤ 30) (hc_t_26 : ∀ j : Nat, (-1) ≤ t_26_c j ∧ t_26_c j ≤ 11) (hc_t_27 : ∀ j : Nat, (-1) ≤ t_27_c j ∧ t_27_c j ≤ 29) (hc_t_28 : ∀ j : Nat, 0 ≤ t_28_c j ∧ t_28_c j ≤ 4095) (ti : TI 0 t_17_c t_18_c t_19_c t_20_c t_21_c) (la : LA (t_17_c 2) (t_17_c 3) t_23_c t_24_c t_19_c) : fn_CV (S := (Nat → Int) × (Nat → Nat → Int)) l D K yX12_laysLeads (fn_ws yX12_laysLeads cX12_laysLeads 4 none) ({ frames := 8, cells := 0, slots := 0, locals := 200 } : Room) [.ref t] [(t, .inr (12, oX12 t_q t_x0 t_x6 t_x7 t_x8 t_x9 t_x10 t_x11 t_x12 t_x13 t_x14 t_x15 t_x32 t_x33 t_x34 t_x35 t_x39 t_x40 t_x43 t_x44 t_x48 t_x49 t_x50)), ((t_q 17), .inl (K 0, 40, .inl (fun j => iI (t_17_c j)))), ((t_q 18), .inl (K 0, 50, .inl (fun j => iI (t_18_c j)))), ((t_q 19), .inl (K 0, 60, .inl (fun j => iI (t_19_c j)))), ((t_q 20), .inl (K 0, 480, .inl (fun j => iI (t_20_c j)))), ((t_q 21), .inl (K 0, 600, .inl (fun j => iI (t_21_c j)))), ((t_q 23), .inl (K 0, 150, .inl (fun j => iI (t_23_c j)))), ((t_q 24), .inl (K 0, 5, .inl (fun j => iI (t_24_c j)))), ((t_q 25), .inl (K 0, 24, .inl (fun j => iI (t_25_c j)))), ((t_q 26), .inl (K 0, 24, .inl (fun j => iI (t_26_c j)))), ((t_q 27), .inl (K 0, 12, .inl (fun j => iI (t_27_c j)))), ((t_q 28), .inl (K 0, 12, .inl (fun j => iI (t_28_c j))))] (fun u => (LI t_17_c t_19_c t_23_c t_24_c (u.2 0) (u.2 1) (u.2 2)) ∧ (∀ j : Nat, (-1) ≤ (u.2 0) j ∧ (u.2 0) j ≤ 11) ∧ (∀ j : Nat, (-1) ≤ (u.2 1) j ∧ (u.2 1) j ≤ 29) ∧ (∀ j : Nat, 0 ≤ (u.2 2) j ∧ (u.2 2) j ≤ 4095) ∧ True) (fun u => [(t, .inr (12, oX12 t_q t_x0 t_x6 t_x7 t_x8 t_x9 t_x10 t_x11 t_x12 t_x13 t_x14 t_x15 t_x32 t_x33 t_x34 t_x35 t_x39 t_x40 t_x43 t_x44 t_x48 t_x49 t_x50)), ((t_q 17), .inl (K 0, 40, .inl (fun j => iI (t_17_c j)))), ((t_q 18), .inl (K 0, 50, .inl (fun j => iI (t_18_c j)))), ((t_q 19), .inl (K 0, 60, .inl (fun j => iI (t_19_c j)))), ((t_q 20), .inl (K 0, 480, .inl (fun j => iI (t_20_c j)))), ((t_q 21), .inl (K 0, 600, .inl (fun j => iI (t_21_c j)))), ((t_q 23), .inl (K 0, 150, .inl (fun j => iI (t_23_c j)))), ((t_q 24), .inl (K 0, 5, .inl (fun j => iI (t_24_c j)))), ((t_q 25), .inl (K 0, 24, .inl (fun j => iI (t_25_c j)))), ((t_q 26), .inl (K 0, 24, .inl (fun j => iI ((u.2 0) j)))), ((t_q 27), .inl (K 0, 12, .inl (fun j => iI ((u.2 1) j)))), ((t_q 28), .inl (K 0, 12, .inl (fun j => iI ((u.2 2) j))))]) 0 0 := by
  refine g_inV (cc := cX12_laysLeads) (maxL := 4) (ret := none) (by decide) rfl (Nat.le_of_ble_eq_true rfl) ?_
  intro p e s m below meth c A ls ag Q B hA hP hD hS hl hQ
  obtain ⟨hx, hb, hr, hml, hts, hown, hlocks, hin, hK⟩ := B
  have hown : s.vm.findClass RX12 = some m.cls := hown
  have hts := fun w h => hts w (List.mem_cons_of_mem _ h)
  have hB := HB_of (nt := t_20_c) hc_t_17 hc_t_18 hc_t_21
  have hs2 := (hc_t_17 2).2.2.1 (by omega)
  have hs3 := (hc_t_17 3).2.2.2.1 (by omega)
  have hs4 := (hc_t_17 4).2.2.2.2.1 (by omega)
  have J94 : ∀ (n : Nat) (x94_1 : Int) (c94_t_26 : Nat → Int) (c94_t_27 : Nat → Int) (H : Heap) (locs : List Loc) (ls : Array Slot), (24 - x94_1).toNat < n → (0 ≤ x94_1 ∧ x94_1 ≤ 24 ∧ x94_1 ≤ t_17_c 4) → (∀ p : Nat, (p : Int) < t_17_c 3 → c94_t_27 p = -1 ∨ (0 ≤ c94_t_27 p ∧ c94_t_27 p < t_24_c (Int.toNat (t_19_c p)))) → (VW t_23_c t_24_c c94_t_27 (t_17_c 2)) → (LD (t_17_c 3) x94_1 c94_t_26 c94_t_27) → (∀ j : Nat, (-1) ≤ c94_t_26 j ∧ c94_t_26 j ≤ 11) → (∀ j : Nat, (-1) ≤ c94_t_27 j ∧ c94_t_27 j ≤ 29) → va_P D vwCl [(t, .inr (12, oX12 t_q t_x0 t_x6 t_x7 t_x8 t_x9 t_x10 t_x11 t_x12 t_x13 t_x14 t_x15 t_x32 t_x33 t_x34 t_x35 t_x39 t_x40 t_x43 t_x44 t_x48 t_x49 t_x50)), ((t_q 17), .inl (K 0, 40, .inl (fun j => iI (t_17_c j)))), ((t_q 18), .inl (K 0, 50, .inl (fun j => iI (t_18_c j)))), ((t_q 19), .inl (K 0, 60, .inl (fun j => iI (t_19_c j)))), ((t_q 20), .inl (K 0, 480, .inl (fun j => iI (t_20_c j)))), ((t_q 21), .inl (K 0, 600, .inl (fun j => iI (t_21_c j)))), ((t_q 23), .inl (K 0, 150, .inl (fun j => iI (t_23_c j)))), ((t_q 24), .inl (K 0, 5, .inl (fun j => iI (t_24_c j)))), ((t_q 25), .inl (K 0, 24, .inl (fun j => iI (t_25_c j)))), ((t_q 26), .inl (K 0, 24, .inl (fun j => iI (c94_t_26 j)))), ((t_q 27), .inl (K 0, 12, .inl (fun j => iI (c94_t_27 j)))), ((t_q 28), .inl (K 0, 12, .inl (fun j => iI (t_28_c j))))] H → va_D A [(t, .inr (12, oX12 t_q t_x0 t_x6 t_x7 t_x8 t_x9 t_x10 t_x11 t_x12 t_x13 t_x14 t_x15 t_x32 t_x33 t_x34 t_x35 t_x39 t_x40 t_x43 t_x44 t_x48 t_x49 t_x50)), ((t_q 17), .inl (K 0, 40, .inl (fun j => iI (t_17_c j)))), ((t_q 18), .inl (K 0, 50, .inl (fun j => iI (t_18_c j)))), ((t_q 19), .inl (K 0, 60, .inl (fun j => iI (t_19_c j)))), ((t_q 20), .inl (K 0, 480, .inl (fun j => iI (t_20_c j)))), ((t_q 21), .inl (K 0, 600, .inl (fun j => iI (t_21_c j)))), ((t_q 23), .inl (K 0, 150, .inl (fun j => iI (t_23_c j)))), ((t_q 24), .inl (K 0, 5, .inl (fun j => iI (t_24_c j)))), ((t_q 25), .inl (K 0, 24, .inl (fun j => iI (t_25_c j)))), ((t_q 26), .inl (K 0, 24, .inl (fun j => iI (c94_t_26 j)))), ((t_q 27), .inl (K 0, 12, .inl (fun j => iI (c94_t_27 j)))), ((t_q 28), .inl (K 0, 12, .inl (fun j => iI (t_28_c j))))] → va_S A s.heap H locs → lv_has ls 4 [(0, .ref t), (1, .int (iI x94_1))] → W p l e ({ frames := 8, cells := 0, slots := 0, locals := 200 } : Room) s m ag below meth c H locs 0 0 Q (F0 m 94 ls []) := by
    intro n
    induction n with
    | zero =>
      intro x94_1 c94_t_26 c94_t_27 H locs ls hm94 hf94 r1 vw ld hc94_t_26 hc94_t_27 hP hD hS hl
      exact absurd hm94 (Nat.not_lt_zero _)
    | succ n ih94 =>
      intro x94_1 c94_t_26 c94_t_27 H locs ls hm94 hf94 r1 vw ld hc94_t_26 hc94_t_27 hP hD hS hl
      have J150 : ∀ (x150_2 : Int) (z150_0 : Int) (H : Heap) (locs : List Loc) (ls : Array Slot), (0 ≤ x94_1 ∧ x94_1 ≤ 23 ∧ 0 ≤ x150_2 ∧ x150_2 ≤ 4 ∧ (-2) ≤ z150_0 ∧ z150_0 ≤ 11 ∧ x94_1 < t_17_c 4) → (z150_0 < 0 ∨ (z150_0 < t_17_c 3 ∧ 0 ≤ c94_t_27 (Int.toNat z150_0))) → va_P D vwCl [(t, .inr (12, oX12 t_q t_x0 t_x6 t_x7 t_x8 t_x9 t_x10 t_x11 t_x12 t_x13 t_x14 t_x15 t_x32 t_x33 t_x34 t_x35 t_x39 t_x40 t_x43 t_x44 t_x48 t_x49 t_x50)), ((t_q 17), .inl (K 0, 40, .inl (fun j => iI (t_17_c j)))), ((t_q 18), .inl (K 0, 50, .inl (fun j => iI (t_18_c j)))), ((t_q 19), .inl (K 0, 60, .inl (fun j => iI (t_19_c j)))), ((t_q 20), .inl (K 0, 480, .inl (fun j => iI (t_20_c j)))), ((t_q 21), .inl (K 0, 600, .inl (fun j => iI (t_21_c j)))), ((t_q 23), .inl (K 0, 150, .inl (fun j => iI (t_23_c j)))), ((t_q 24), .inl (K 0, 5, .inl (fun j => iI (t_24_c j)))), ((t_q 25), .inl (K 0, 24, .inl (fun j => iI (t_25_c j)))), ((t_q 26), .inl (K 0, 24, .inl (fun j => iI (c94_t_26 j)))), ((t_q 27), .inl (K 0, 12, .inl (fun j => iI (c94_t_27 j)))), ((t_q 28), .inl (K 0, 12, .inl (fun j => iI (t_28_c j))))] H → va_D A [(t, .inr (12, oX12 t_q t_x0 t_x6 t_x7 t_x8 t_x9 t_x10 t_x11 t_x12 t_x13 t_x14 t_x15 t_x32 t_x33 t_x34 t_x35 t_x39 t_x40 t_x43 t_x44 t_x48 t_x49 t_x50)), ((t_q 17), .inl (K 0, 40, .inl (fun j => iI (t_17_c j)))), ((t_q 18), .inl (K 0, 50, .inl (fun j => iI (t_18_c j)))), ((t_q 19), .inl (K 0, 60, .inl (fun j => iI (t_19_c j)))), ((t_q 20), .inl (K 0, 480, .inl (fun j => iI (t_20_c j)))), ((t_q 21), .inl (K 0, 600, .inl (fun j => iI (t_21_c j)))), ((t_q 23), .inl (K 0, 150, .inl (fun j => iI (t_23_c j)))), ((t_q 24), .inl (K 0, 5, .inl (fun j => iI (t_24_c j)))), ((t_q 25), .inl (K 0, 24, .inl (fun j => iI (t_25_c j)))), ((t_q 26), .inl (K 0, 24, .inl (fun j => iI (c94_t_26 j)))), ((t_q 27), .inl (K 0, 12, .inl (fun j => iI (c94_t_27 j)))), ((t_q 28), .inl (K 0, 12, .inl (fun j => iI (t_28_c j))))] → va_S A s.heap H locs → lv_has ls 4 [(0, .ref t), (1, .int (iI x94_1)), (2, .int (iI x150_2))] → W p l e ({ frames := 8, cells := 0, slots := 0, locals := 200 } : Room) s m ag below meth c H locs 0 0 Q (F0 m 150 ls [.int (iI z150_0)]) := by
        intro x150_2 z150_0 H locs ls hf150 iz hP hD hS hl
        refine lv_istore_n (lv' := [(3, .int (iI z150_0)), (0, .ref t), (1, .int (iI x94_1)), (2, .int (iI x150_2))]) hx hb dX12_laysLeads_150 rfl hl (by decide) rfl (fun ls hl => ?_)
        refine lv_aload_n hx hb dX12_laysLeads_151 rfl (lv_at hl 1 rfl) ?_
        refine va_get (D := D) (own := RX12) (ci := 12) (v := .ref (t_q 26)) (C := RX12) (T := TX12) (N := 51) hx hb hts inb_X12 hown hK.1 hP 0 rfl rfl 26 (by decide) (hts _ wd_1260) (fun _ h9 => h9) rfl dX12_laysLeads_152 ?_
        refine lv_iload_n hx hb dX12_laysLeads_155 rfl (lv_at hl 2 rfl) ?_
        refine lv_aload_n hx hb dX12_laysLeads_156 rfl (lv_at hl 1 rfl) ?_
        refine va_get (D := D) (own := RX12) (ci := 12) (v := .ref (t_q 27)) (C := RX12) (T := TX12) (N := 51) hx hb hts inb_X12 hown hK.1 hP 0 rfl rfl 27 (by decide) (hts _ wd_1261) (fun _ h9 => h9) rfl dX12_laysLeads_157 ?_
        refine lv_aload_n hx hb dX12_laysLeads_160 rfl (lv_at hl 1 rfl) ?_
        refine va_get (D := D) (own := RX12) (ci := 12) (v := .ref (t_q 20)) (C := RX12) (T := TX12) (N := 51) hx hb hts inb_X12 hown hK.1 hP 0 rfl rfl 20 (by decide) (hts _ wd_1254) (fun _ h9 => h9) rfl dX12_laysLeads_161 ?_
        refine lv_iconst (v := iI 4) hx hb dX12_laysLeads_164 rfl ?_
        refine lv_iload_n hx hb dX12_laysLeads_165 rfl (lv_at hl 2 rfl) ?_
        refine g_imul hx hb dX12_laysLeads_166 ?_
        refine g_iald hx hb hK.1 hP 4 0 rfl rfl (by omega) (by omega) (by decide) dX12_laysLeads_167 ?_
        have y167 : 0 ≤ (t_20_c ((4 * x94_1).toNat)) ∧ (t_20_c ((4 * x94_1).toNat)) ≤ 11 := (hc_t_20 ((4 * x94_1).toNat)).1 (by omega)
        refine g_iald hx hb hK.1 hP 10 0 rfl rfl (by omega) (by omega) (by decide) dX12_laysLeads_168 ?_
        have y168 : (-1) ≤ (c94_t_27 ((t_20_c ((4 * x94_1).toNat)).toNat)) ∧ (c94_t_27 ((t_20_c ((4 * x94_1).toNat)).toNat)) ≤ 29 := hc94_t_27 ((t_20_c ((4 * x94_1).toNat)).toNat)
        refine lv_iconst (v := iI (-1)) hx hb dX12_laysLeads_169 rfl ?_
        refine g_icmp_eq (tgt := 177) hx hb (by omega) (by omega) dX12_laysLeads_170 (by decide) (fun c170 => ?_) (fun c170 => ?_)
        · refine lv_iconst (v := iI (-1)) hx hb dX12_laysLeads_177 rfl ?_
          refine lv_goto (tgt := 182) hx hb dX12_laysLeads_178 (by decide) ?_
          refine g_iast hx hb hK.1 hP hD hS 9 0 rfl rfl (by omega) (by omega) (by decide) dX12_laysLeads_182 (fun H locs g182 eg182 hP hD hS => ?_)
          have hg182 : ∀ j : Nat, (-1) ≤ g182 j ∧ g182 j ≤ 11 := by rw [eg182]; exact uI_all hc94_t_26 (by omega)
          have hP : va_P D vwCl [(t, .inr (12, oX12 t_q t_x0 t_x6 t_x7 t_x8 t_x9 t_x10 t_x11 t_x12 t_x13 t_x14 t_x15 t_x32 t_x33 t_x34 t_x35 t_x39 t_x40 t_x43 t_x44 t_x48 t_x49 t_x50)), ((t_q 17), .inl (K 0, 40, .inl (fun j => iI (t_17_c j)))), ((t_q 18), .inl (K 0, 50, .inl (fun j => iI (t_18_c j)))), ((t_q 19), .inl (K 0, 60, .inl (fun j => iI (t_19_c j)))), ((t_q 20), .inl (K 0, 480, .inl (fun j => iI (t_20_c j)))), ((t_q 21), .inl (K 0, 600, .inl (fun j => iI (t_21_c j)))), ((t_q 23), .inl (K 0, 150, .inl (fun j => iI (t_23_c j)))), ((t_q 24), .inl (K 0, 5, .inl (fun j => iI (t_24_c j)))), ((t_q 25), .inl (K 0, 24, .inl (fun j => iI (t_25_c j)))), ((t_q 26), .inl (K 0, 24, .inl (fun j => iI (g182 j)))), ((t_q 27), .inl (K 0, 12, .inl (fun j => iI (c94_t_27 j)))), ((t_q 28), .inl (K 0, 12, .inl (fun j => iI (t_28_c j))))] H := hP
          have hD : va_D A [(t, .inr (12, oX12 t_q t_x0 t_x6 t_x7 t_x8 t_x9 t_x10 t_x11 t_x12 t_x13 t_x14 t_x15 t_x32 t_x33 t_x34 t_x35 t_x39 t_x40 t_x43 t_x44 t_x48 t_x49 t_x50)), ((t_q 17), .inl (K 0, 40, .inl (fun j => iI (t_17_c j)))), ((t_q 18), .inl (K 0, 50, .inl (fun j => iI (t_18_c j)))), ((t_q 19), .inl (K 0, 60, .inl (fun j => iI (t_19_c j)))), ((t_q 20), .inl (K 0, 480, .inl (fun j => iI (t_20_c j)))), ((t_q 21), .inl (K 0, 600, .inl (fun j => iI (t_21_c j)))), ((t_q 23), .inl (K 0, 150, .inl (fun j => iI (t_23_c j)))), ((t_q 24), .inl (K 0, 5, .inl (fun j => iI (t_24_c j)))), ((t_q 25), .inl (K 0, 24, .inl (fun j => iI (t_25_c j)))), ((t_q 26), .inl (K 0, 24, .inl (fun j => iI (g182 j)))), ((t_q 27), .inl (K 0, 12, .inl (fun j => iI (c94_t_27 j)))), ((t_q 28), .inl (K 0, 12, .inl (fun j => iI (t_28_c j))))] := hD
          refine lv_iinc (v := iI (x94_1 + 1)) (lv' := [(1, .int (iI (x94_1 + 1))), (3, .int (iI z150_0)), (0, .ref t), (2, .int (iI x150_2))]) hx hb dX12_laysLeads_183 hl (k := 2) rfl (iI_add _ _) (by decide) rfl (fun ls hl => ?_)
          refine lv_goto (tgt := 94) hx hb dX12_laysLeads_186 (by decide) ?_
          exact ih94 (x94_1 + 1) g182 c94_t_27 _ _ ls (by omega) (by omega) (show ∀ p : Nat, (p : Int) < t_17_c 3 → c94_t_27 p = -1 ∨ (0 ≤ c94_t_27 p ∧ c94_t_27 p < t_24_c (Int.toNat (t_19_c p))) from by assumption) (show VW t_23_c t_24_c c94_t_27 (t_17_c 2) from by assumption) (show LD (t_17_c 3) (x94_1 + 1) g182 c94_t_27 from by rw [eg182]; exact LD_set ld (by omega) (by first | exact Or.inl rfl | exact Or.inr ⟨by omega, by omega, by omega⟩)) hg182 hc94_t_27 (hP.sub [0, 1, 2, 3, 4, 5, 6, 7, 8, 9, 10, 11] rfl) (hD.sub [0, 1, 2, 3, 4, 5, 6, 7, 8, 9, 10, 11] (by decide) rfl) hS (lv_sub hl [2, 0] rfl)
        · refine lv_iload_n hx hb dX12_laysLeads_173 rfl (lv_at hl 0 rfl) ?_
          refine g_if_ge (tgt := 181) hx hb (by omega) dX12_laysLeads_174 (by decide) (fun c174 => ?_) (fun c174 => ?_)
          · refine lv_iload_n hx hb dX12_laysLeads_181 rfl (lv_at hl 0 rfl) ?_
            refine g_iast hx hb hK.1 hP hD hS 9 0 rfl rfl (by omega) (by omega) (by decide) dX12_laysLeads_182 (fun H locs g182 eg182 hP hD hS => ?_)
            have hg182 : ∀ j : Nat, (-1) ≤ g182 j ∧ g182 j ≤ 11 := by rw [eg182]; exact uI_all hc94_t_26 (by omega)
            have hP : va_P D vwCl [(t, .inr (12, oX12 t_q t_x0 t_x6 t_x7 t_x8 t_x9 t_x10 t_x11 t_x12 t_x13 t_x14 t_x15 t_x32 t_x33 t_x34 t_x35 t_x39 t_x40 t_x43 t_x44 t_x48 t_x49 t_x50)), ((t_q 17), .inl (K 0, 40, .inl (fun j => iI (t_17_c j)))), ((t_q 18), .inl (K 0, 50, .inl (fun j => iI (t_18_c j)))), ((t_q 19), .inl (K 0, 60, .inl (fun j => iI (t_19_c j)))), ((t_q 20), .inl (K 0, 480, .inl (fun j => iI (t_20_c j)))), ((t_q 21), .inl (K 0, 600, .inl (fun j => iI (t_21_c j)))), ((t_q 23), .inl (K 0, 150, .inl (fun j => iI (t_23_c j)))), ((t_q 24), .inl (K 0, 5, .inl (fun j => iI (t_24_c j)))), ((t_q 25), .inl (K 0, 24, .inl (fun j => iI (t_25_c j)))), ((t_q 26), .inl (K 0, 24, .inl (fun j => iI (g182 j)))), ((t_q 27), .inl (K 0, 12, .inl (fun j => iI (c94_t_27 j)))), ((t_q 28), .inl (K 0, 12, .inl (fun j => iI (t_28_c j))))] H := hP
            have hD : va_D A [(t, .inr (12, oX12 t_q t_x0 t_x6 t_x7 t_x8 t_x9 t_x10 t_x11 t_x12 t_x13 t_x14 t_x15 t_x32 t_x33 t_x34 t_x35 t_x39 t_x40 t_x43 t_x44 t_x48 t_x49 t_x50)), ((t_q 17), .inl (K 0, 40, .inl (fun j => iI (t_17_c j)))), ((t_q 18), .inl (K 0, 50, .inl (fun j => iI (t_18_c j)))), ((t_q 19), .inl (K 0, 60, .inl (fun j => iI (t_19_c j)))), ((t_q 20), .inl (K 0, 480, .inl (fun j => iI (t_20_c j)))), ((t_q 21), .inl (K 0, 600, .inl (fun j => iI (t_21_c j)))), ((t_q 23), .inl (K 0, 150, .inl (fun j => iI (t_23_c j)))), ((t_q 24), .inl (K 0, 5, .inl (fun j => iI (t_24_c j)))), ((t_q 25), .inl (K 0, 24, .inl (fun j => iI (t_25_c j)))), ((t_q 26), .inl (K 0, 24, .inl (fun j => iI (g182 j)))), ((t_q 27), .inl (K 0, 12, .inl (fun j => iI (c94_t_27 j)))), ((t_q 28), .inl (K 0, 12, .inl (fun j => iI (t_28_c j))))] := hD
            refine fn_at 183 rfl ?_
            refine lv_iinc (v := iI (x94_1 + 1)) (lv' := [(1, .int (iI (x94_1 + 1))), (3, .int (iI z150_0)), (0, .ref t), (2, .int (iI x150_2))]) hx hb dX12_laysLeads_183 hl (k := 2) rfl (iI_add _ _) (by decide) rfl (fun ls hl => ?_)
            refine lv_goto (tgt := 94) hx hb dX12_laysLeads_186 (by decide) ?_
            exact ih94 (x94_1 + 1) g182 c94_t_27 _ _ ls (by omega) (by omega) (show ∀ p : Nat, (p : Int) < t_17_c 3 → c94_t_27 p = -1 ∨ (0 ≤ c94_t_27 p ∧ c94_t_27 p < t_24_c (Int.toNat (t_19_c p))) from by assumption) (show VW t_23_c t_24_c c94_t_27 (t_17_c 2) from by assumption) (show LD (t_17_c 3) (x94_1 + 1) g182 c94_t_27 from by rw [eg182]; exact LD_set ld (by omega) (by first | exact Or.inl rfl | exact Or.inr ⟨by omega, by omega, by omega⟩)) hg182 hc94_t_27 (hP.sub [0, 1, 2, 3, 4, 5, 6, 7, 8, 9, 10, 11] rfl) (hD.sub [0, 1, 2, 3, 4, 5, 6, 7, 8, 9, 10, 11] (by decide) rfl) hS (lv_sub hl [2, 0] rfl)
          · refine lv_iconst (v := iI (-1)) hx hb dX12_laysLeads_177 rfl ?_
            refine lv_goto (tgt := 182) hx hb dX12_laysLeads_178 (by decide) ?_
            refine g_iast hx hb hK.1 hP hD hS 9 0 rfl rfl (by omega) (by omega) (by decide) dX12_laysLeads_182 (fun H locs g182 eg182 hP hD hS => ?_)
            have hg182 : ∀ j : Nat, (-1) ≤ g182 j ∧ g182 j ≤ 11 := by rw [eg182]; exact uI_all hc94_t_26 (by omega)
            have hP : va_P D vwCl [(t, .inr (12, oX12 t_q t_x0 t_x6 t_x7 t_x8 t_x9 t_x10 t_x11 t_x12 t_x13 t_x14 t_x15 t_x32 t_x33 t_x34 t_x35 t_x39 t_x40 t_x43 t_x44 t_x48 t_x49 t_x50)), ((t_q 17), .inl (K 0, 40, .inl (fun j => iI (t_17_c j)))), ((t_q 18), .inl (K 0, 50, .inl (fun j => iI (t_18_c j)))), ((t_q 19), .inl (K 0, 60, .inl (fun j => iI (t_19_c j)))), ((t_q 20), .inl (K 0, 480, .inl (fun j => iI (t_20_c j)))), ((t_q 21), .inl (K 0, 600, .inl (fun j => iI (t_21_c j)))), ((t_q 23), .inl (K 0, 150, .inl (fun j => iI (t_23_c j)))), ((t_q 24), .inl (K 0, 5, .inl (fun j => iI (t_24_c j)))), ((t_q 25), .inl (K 0, 24, .inl (fun j => iI (t_25_c j)))), ((t_q 26), .inl (K 0, 24, .inl (fun j => iI (g182 j)))), ((t_q 27), .inl (K 0, 12, .inl (fun j => iI (c94_t_27 j)))), ((t_q 28), .inl (K 0, 12, .inl (fun j => iI (t_28_c j))))] H := hP
            have hD : va_D A [(t, .inr (12, oX12 t_q t_x0 t_x6 t_x7 t_x8 t_x9 t_x10 t_x11 t_x12 t_x13 t_x14 t_x15 t_x32 t_x33 t_x34 t_x35 t_x39 t_x40 t_x43 t_x44 t_x48 t_x49 t_x50)), ((t_q 17), .inl (K 0, 40, .inl (fun j => iI (t_17_c j)))), ((t_q 18), .inl (K 0, 50, .inl (fun j => iI (t_18_c j)))), ((t_q 19), .inl (K 0, 60, .inl (fun j => iI (t_19_c j)))), ((t_q 20), .inl (K 0, 480, .inl (fun j => iI (t_20_c j)))), ((t_q 21), .inl (K 0, 600, .inl (fun j => iI (t_21_c j)))), ((t_q 23), .inl (K 0, 150, .inl (fun j => iI (t_23_c j)))), ((t_q 24), .inl (K 0, 5, .inl (fun j => iI (t_24_c j)))), ((t_q 25), .inl (K 0, 24, .inl (fun j => iI (t_25_c j)))), ((t_q 26), .inl (K 0, 24, .inl (fun j => iI (g182 j)))), ((t_q 27), .inl (K 0, 12, .inl (fun j => iI (c94_t_27 j)))), ((t_q 28), .inl (K 0, 12, .inl (fun j => iI (t_28_c j))))] := hD
            refine lv_iinc (v := iI (x94_1 + 1)) (lv' := [(1, .int (iI (x94_1 + 1))), (3, .int (iI z150_0)), (0, .ref t), (2, .int (iI x150_2))]) hx hb dX12_laysLeads_183 hl (k := 2) rfl (iI_add _ _) (by decide) rfl (fun ls hl => ?_)
            refine lv_goto (tgt := 94) hx hb dX12_laysLeads_186 (by decide) ?_
            exact ih94 (x94_1 + 1) g182 c94_t_27 _ _ ls (by omega) (by omega) (show ∀ p : Nat, (p : Int) < t_17_c 3 → c94_t_27 p = -1 ∨ (0 ≤ c94_t_27 p ∧ c94_t_27 p < t_24_c (Int.toNat (t_19_c p))) from by assumption) (show VW t_23_c t_24_c c94_t_27 (t_17_c 2) from by assumption) (show LD (t_17_c 3) (x94_1 + 1) g182 c94_t_27 from by rw [eg182]; exact LD_set ld (by omega) (by first | exact Or.inl rfl | exact Or.inr ⟨by omega, by omega, by omega⟩)) hg182 hc94_t_27 (hP.sub [0, 1, 2, 3, 4, 5, 6, 7, 8, 9, 10, 11] rfl) (hD.sub [0, 1, 2, 3, 4, 5, 6, 7, 8, 9, 10, 11] (by decide) rfl) hS (lv_sub hl [2, 0] rfl)
      refine lv_iload_n hx hb dX12_laysLeads_94 rfl (lv_at hl 1 rfl) ?_
      refine lv_aload_n hx hb dX12_laysLeads_95 rfl (lv_at hl 0 rfl) ?_
      refine va_get (D := D) (own := RX12) (ci := 12) (v := .ref (t_q 17)) (C := RX12) (T := TX12) (N := 51) hx hb hts inb_X12 hown hK.1 hP 0 rfl rfl 17 (by decide) (hts _ wd_1251) (fun _ h9 => h9) rfl dX12_laysLeads_96 ?_
      refine lv_iconst (v := iI 4) hx hb dX12_laysLeads_99 rfl ?_
      refine g_iald hx hb hK.1 hP 1 0 rfl rfl (by omega) (by omega) (by decide) dX12_laysLeads_100 ?_
      refine fn_top (iI (t_17_c 4)) rfl ?_
      have y100 : 0 ≤ (t_17_c 4) ∧ (t_17_c 4) ≤ 24 := (hc_t_17 4).2.2.2.2.1 (by omega)
      refine g_icmp_ge (tgt := 189) hx hb (by omega) (by omega) dX12_laysLeads_101 (by decide) (fun c101 => ?_) (fun c101 => ?_)
      · refine lv_aload_n hx hb dX12_laysLeads_189 rfl (lv_at hl 0 rfl) ?_
        refine fn_gov (wc := [(t, .inr (12, oX12 t_q t_x0 t_x6 t_x7 t_x8 t_x9 t_x10 t_x11 t_x12 t_x13 t_x14 t_x15 t_x32 t_x33 t_x34 t_x35 t_x39 t_x40 t_x43 t_x44 t_x48 t_x49 t_x50)), ((t_q 17), .inl (K 0, 40, .inl (fun j => iI (t_17_c j)))), ((t_q 18), .inl (K 0, 50, .inl (fun j => iI (t_18_c j)))), ((t_q 19), .inl (K 0, 60, .inl (fun j => iI (t_19_c j)))), ((t_q 20), .inl (K 0, 480, .inl (fun j => iI (t_20_c j)))), ((t_q 21), .inl (K 0, 600, .inl (fun j => iI (t_21_c j)))), ((t_q 26), .inl (K 0, 24, .inl (fun j => iI (c94_t_26 j)))), ((t_q 27), .inl (K 0, 12, .inl (fun j => iI (c94_t_27 j)))), ((t_q 28), .inl (K 0, 12, .inl (fun j => iI (t_28_c j))))]) (wr := [((t_q 23), .inl (K 0, 150, .inl (fun j => iI (t_23_c j)))), ((t_q 24), .inl (K 0, 5, .inl (fun j => iI (t_24_c j)))), ((t_q 25), .inl (K 0, 24, .inl (fun j => iI (t_25_c j))))]) hK hP hD hS hA [0, 1, 2, 3, 4, 5, 9, 10, 11] [6, 7, 8] rfl rfl (by decide) (fun hp => va_runV (C := RX12) (As := []) (rest := []) ⟨hx, hb, hml, hown, hts⟩ (k_X12_laysOuts (l := l) (D := D) (K := K) (t := t) (t_q := t_q) (t_x0 := t_x0) (t_x6 := t_x6) (t_x7 := t_x7) (t_x8 := t_x8) (t_x9 := t_x9) (t_x10 := t_x10) (t_x11 := t_x11) (t_x12 := t_x12) (t_x13 := t_x13) (t_x14 := t_x14) (t_x15 := t_x15) (t_x32 := t_x32) (t_x33 := t_x33) (t_x34 := t_x34) (t_x35 := t_x35) (t_x39 := t_x39) (t_x40 := t_x40) (t_x43 := t_x43) (t_x44 := t_x44) (t_x48 := t_x48) (t_x49 := t_x49) (t_x50 := t_x50) (t_17_c := t_17_c) (t_18_c := t_18_c) (t_19_c := t_19_c) (t_20_c := t_20_c) (t_21_c := t_21_c) (t_26_c := c94_t_26) (t_27_c := c94_t_27) (t_28_c := t_28_c) (hi_t := hi_t) (hc_t_17 := hc_t_17) (hc_t_18 := hc_t_18) (hc_t_19 := hc_t_19) (hc_t_20 := hc_t_20) (hc_t_21 := hc_t_21) (hc_t_26 := hc94_t_26) (hc_t_27 := hc94_t_27) (hc_t_28 := hc_t_28) (ti := (show TI 0 t_17_c t_18_c t_19_c t_20_c t_21_c from by assumption)) (ld := (show LD (t_17_c 3) (t_17_c 4) c94_t_26 c94_t_27 from LD_le ld (by omega))) _) (cwV 0 hts (fn_ginV (fn_gin wd_1563) wd_1560 wd_1562 wp_121 wd_13) rfl rfl rfl (by decide +kernel) ⟨Nat.le_of_ble_eq_true rfl, Nat.le_of_ble_eq_true rfl⟩) ⟨fn_blind, va_recv hK.1 hP (ci := 12) (q0 := 0) rfl rfl, hp⟩ rfl rfl hl.1 rfl (lv_room (Nat.le_of_ble_eq_true rfl)) dX12_laysLeads_190 ⟨Nat.le_of_ble_eq_true rfl, Nat.le_of_ble_eq_true rfl⟩) (fun u190 H locs hwu190 hP hD hS => ?_)
        obtain ⟨u190a, u190b⟩ := u190
        obtain ⟨hqu190_ou0, hu190_00, -⟩ := hwu190
        have hqu190_ou : OU (t_17_c 3) (u190b 0) c94_t_27 := hqu190_ou0
        have hu190_0 : ∀ j : Nat, 0 ≤ (u190b 0) j ∧ (u190b 0) j ≤ 4095 := hu190_00
        clear hqu190_ou0 hu190_00
        have hP : va_P D vwCl [((t_q 23), .inl (K 0, 150, .inl (fun j => iI (t_23_c j)))), ((t_q 24), .inl (K 0, 5, .inl (fun j => iI (t_24_c j)))), ((t_q 25), .inl (K 0, 24, .inl (fun j => iI (t_25_c j)))), (t, .inr (12, oX12 t_q t_x0 t_x6 t_x7 t_x8 t_x9 t_x10 t_x11 t_x12 t_x13 t_x14 t_x15 t_x32 t_x33 t_x34 t_x35 t_x39 t_x40 t_x43 t_x44 t_x48 t_x49 t_x50)), ((t_q 17), .inl (K 0, 40, .inl (fun j => iI (t_17_c j)))), ((t_q 18), .inl (K 0, 50, .inl (fun j => iI (t_18_c j)))), ((t_q 19), .inl (K 0, 60, .inl (fun j => iI (t_19_c j)))), ((t_q 20), .inl (K 0, 480, .inl (fun j => iI (t_20_c j)))), ((t_q 21), .inl (K 0, 600, .inl (fun j => iI (t_21_c j)))), ((t_q 26), .inl (K 0, 24, .inl (fun j => iI (c94_t_26 j)))), ((t_q 27), .inl (K 0, 12, .inl (fun j => iI (c94_t_27 j)))), ((t_q 28), .inl (K 0, 12, .inl (fun j => iI ((u190b 0) j))))] H := hP
        have hD : va_D A [((t_q 23), .inl (K 0, 150, .inl (fun j => iI (t_23_c j)))), ((t_q 24), .inl (K 0, 5, .inl (fun j => iI (t_24_c j)))), ((t_q 25), .inl (K 0, 24, .inl (fun j => iI (t_25_c j)))), (t, .inr (12, oX12 t_q t_x0 t_x6 t_x7 t_x8 t_x9 t_x10 t_x11 t_x12 t_x13 t_x14 t_x15 t_x32 t_x33 t_x34 t_x35 t_x39 t_x40 t_x43 t_x44 t_x48 t_x49 t_x50)), ((t_q 17), .inl (K 0, 40, .inl (fun j => iI (t_17_c j)))), ((t_q 18), .inl (K 0, 50, .inl (fun j => iI (t_18_c j)))), ((t_q 19), .inl (K 0, 60, .inl (fun j => iI (t_19_c j)))), ((t_q 20), .inl (K 0, 480, .inl (fun j => iI (t_20_c j)))), ((t_q 21), .inl (K 0, 600, .inl (fun j => iI (t_21_c j)))), ((t_q 26), .inl (K 0, 24, .inl (fun j => iI (c94_t_26 j)))), ((t_q 27), .inl (K 0, 12, .inl (fun j => iI (c94_t_27 j)))), ((t_q 28), .inl (K 0, 12, .inl (fun j => iI ((u190b 0) j))))] := hD
        rw [hQ]; exact fn_vret hx hb hr hlocks hP hD hS ((fun _ => 0), (fun k => ([c94_t_26, c94_t_27, (u190b 0)] : List (Nat → Int)).getD k (fun _ => 0))) ⟨(show LI t_17_c t_19_c t_23_c t_24_c c94_t_26 c94_t_27 (u190b 0) from ⟨la, r1, LD_le ld (by omega), hqu190_ou⟩), (hc94_t_26), (hc94_t_27), (hu190_0), trivial⟩ [3, 4, 5, 6, 7, 8, 0, 1, 2, 9, 10, 11] (by decide) rfl dX12_laysLeads_193
      · refine lv_aload_n hx hb dX12_laysLeads_104 rfl (lv_at hl 0 rfl) ?_
        refine va_get (D := D) (own := RX12) (ci := 12) (v := .ref (t_q 20)) (C := RX12) (T := TX12) (N := 51) hx hb hts inb_X12 hown hK.1 hP 0 rfl rfl 20 (by decide) (hts _ wd_1254) (fun _ h9 => h9) rfl dX12_laysLeads_105 ?_
        refine lv_iconst (v := iI 4) hx hb dX12_laysLeads_108 rfl ?_
        refine lv_iload_n hx hb dX12_laysLeads_109 rfl (lv_at hl 1 rfl) ?_
        refine g_imul hx hb dX12_laysLeads_110 ?_
        refine lv_iconst (v := iI 1) hx hb dX12_laysLeads_111 rfl ?_
        refine g_iadd hx hb dX12_laysLeads_112 ?_
        refine g_iald hx hb hK.1 hP 4 0 rfl rfl (by omega) (by omega) (by decide) dX12_laysLeads_113 ?_
        have y113 : 0 ≤ (t_20_c ((4 * x94_1 + 1).toNat)) ∧ (t_20_c ((4 * x94_1 + 1).toNat)) ≤ 4 := (hc_t_20 ((4 * x94_1 + 1).toNat)).2.1 (by omega)
        refine lv_istore_n (lv' := [(2, .int (iI (t_20_c ((4 * x94_1 + 1).toNat)))), (0, .ref t), (1, .int (iI x94_1))]) hx hb dX12_laysLeads_114 rfl hl (by decide) rfl (fun ls hl => ?_)
        have z115 := TI_note ti (n := x94_1) (by omega) (by omega)
        refine lv_aload_n hx hb dX12_laysLeads_115 rfl (lv_at hl 1 rfl) ?_
        refine va_get (D := D) (own := RX12) (ci := 12) (v := .ref (t_q 25)) (C := RX12) (T := TX12) (N := 51) hx hb hts inb_X12 hown hK.1 hP 0 rfl rfl 25 (by decide) (hts _ wd_1259) (fun _ h9 => h9) rfl dX12_laysLeads_116 ?_
        refine lv_iload_n hx hb dX12_laysLeads_119 rfl (lv_at hl 2 rfl) ?_
        refine g_iald hx hb hK.1 hP 8 0 rfl rfl (by omega) (by omega) (by decide) dX12_laysLeads_120 ?_
        have y120 : 0 ≤ (t_25_c x94_1.toNat) ∧ (t_25_c x94_1.toNat) ≤ 30 := hc_t_25 x94_1.toNat
        refine fn_at 121 rfl ?_
        refine lv_aload_n hx hb dX12_laysLeads_121 rfl (lv_at hl 1 rfl) ?_
        refine va_get (D := D) (own := RX12) (ci := 12) (v := .ref (t_q 24)) (C := RX12) (T := TX12) (N := 51) hx hb hts inb_X12 hown hK.1 hP 0 rfl rfl 24 (by decide) (hts _ wd_1258) (fun _ h9 => h9) rfl dX12_laysLeads_122 ?_
        refine lv_iload_n hx hb dX12_laysLeads_125 rfl (lv_at hl 0 rfl) ?_
        refine g_iald hx hb hK.1 hP 7 0 rfl rfl (by omega) (by omega) (by decide) dX12_laysLeads_126 ?_
        have y126 : 0 ≤ (t_24_c ((t_20_c ((4 * x94_1 + 1).toNat)).toNat)) ∧ (t_24_c ((t_20_c ((4 * x94_1 + 1).toNat)).toNat)) ≤ 30 := hc_t_24 ((t_20_c ((4 * x94_1 + 1).toNat)).toNat)
        refine g_icmp_ge (tgt := 149) hx hb (by omega) (by omega) dX12_laysLeads_127 (by decide) (fun c127 => ?_) (fun c127 => ?_)
        · refine lv_iconst (v := iI (-1)) hx hb dX12_laysLeads_149 rfl ?_
          exact J150 (t_20_c ((4 * x94_1 + 1).toNat)) (-1) _ _ ls (by omega) (show (-1 : Int) < 0 ∨ ((-1 : Int) < t_17_c 3 ∧ 0 ≤ c94_t_27 (Int.toNat (-1 : Int))) from Or.inl (by decide)) (hP.sub [0, 1, 2, 3, 4, 5, 6, 7, 8, 9, 10, 11] rfl) (hD.sub [0, 1, 2, 3, 4, 5, 6, 7, 8, 9, 10, 11] (by decide) rfl) hS (lv_sub hl [1, 2, 0] rfl)
        · refine lv_aload_n hx hb dX12_laysLeads_130 rfl (lv_at hl 1 rfl) ?_
          refine va_get (D := D) (own := RX12) (ci := 12) (v := .ref (t_q 23)) (C := RX12) (T := TX12) (N := 51) hx hb hts inb_X12 hown hK.1 hP 0 rfl rfl 23 (by decide) (hts _ wd_1257) (fun _ h9 => h9) rfl dX12_laysLeads_131 ?_
          refine lv_bipush (v := iI 30) hx hb dX12_laysLeads_134 (by decide) ?_
          refine lv_iload_n hx hb dX12_laysLeads_136 rfl (lv_at hl 0 rfl) ?_
          refine g_imul hx hb dX12_laysLeads_137 ?_
          refine lv_aload_n hx hb dX12_laysLeads_138 rfl (lv_at hl 1 rfl) ?_
          refine va_get (D := D) (own := RX12) (ci := 12) (v := .ref (t_q 25)) (C := RX12) (T := TX12) (N := 51) hx hb hts inb_X12 hown hK.1 hP 0 rfl rfl 25 (by decide) (hts _ wd_1259) (fun _ h9 => h9) rfl dX12_laysLeads_139 ?_
          refine lv_iload_n hx hb dX12_laysLeads_142 rfl (lv_at hl 2 rfl) ?_
          refine g_iald hx hb hK.1 hP 8 0 rfl rfl (by omega) (by omega) (by decide) dX12_laysLeads_143 ?_
          refine g_iadd hx hb dX12_laysLeads_144 ?_
          refine g_iald hx hb hK.1 hP 6 0 rfl rfl (by omega) (by omega) (by decide) dX12_laysLeads_145 ?_
          have y145 : (-2) ≤ (t_23_c ((30 * (t_20_c ((4 * x94_1 + 1).toNat)) + (t_25_c x94_1.toNat)).toNat)) ∧ (t_23_c ((30 * (t_20_c ((4 * x94_1 + 1).toNat)) + (t_25_c x94_1.toNat)).toNat)) ≤ 11 := hc_t_23 ((30 * (t_20_c ((4 * x94_1 + 1).toNat)) + (t_25_c x94_1.toNat)).toNat)
          refine lv_goto (tgt := 150) hx hb dX12_laysLeads_146 (by decide) ?_
          exact J150 (t_20_c ((4 * x94_1 + 1).toNat)) (t_23_c ((30 * (t_20_c ((4 * x94_1 + 1).toNat)) + (t_25_c x94_1.toNat)).toNat)) _ _ ls (by omega) (show (t_23_c ((30 * (t_20_c ((4 * x94_1 + 1).toNat)) + (t_25_c x94_1.toNat)).toNat)) < 0 ∨ ((t_23_c ((30 * (t_20_c ((4 * x94_1 + 1).toNat)) + (t_25_c x94_1.toNat)).toNat)) < t_17_c 3 ∧ 0 ≤ c94_t_27 (Int.toNat (t_23_c ((30 * (t_20_c ((4 * x94_1 + 1).toNat)) + (t_25_c x94_1.toNat)).toNat)))) from (Int.lt_or_le (t_23_c ((30 * (t_20_c ((4 * x94_1 + 1).toNat)) + (t_25_c x94_1.toNat)).toNat)) 0).elim Or.inl (fun h9 => Or.inr ⟨(LA_at la (by omega) (by omega) (by omega) (by omega) h9).1, VW_at vw (by omega) (by omega) (by omega) (by omega) h9⟩)) (hP.sub [0, 1, 2, 3, 4, 5, 6, 7, 8, 9, 10, 11] rfl) (hD.sub [0, 1, 2, 3, 4, 5, 6, 7, 8, 9, 10, 11] (by decide) rfl) hS (lv_sub hl [1, 2, 0] rfl)
  have J27 : ∀ (n : Nat) (x27_1 : Int) (c27_t_27 : Nat → Int) (H : Heap) (locs : List Loc) (ls : Array Slot), (5 - x27_1).toNat < n → (0 ≤ x27_1 ∧ x27_1 ≤ 5 ∧ x27_1 ≤ t_17_c 2) → (∀ p : Nat, (p : Int) < t_17_c 3 → c27_t_27 p = -1 ∨ (0 ≤ c27_t_27 p ∧ c27_t_27 p < t_24_c (Int.toNat (t_19_c p)))) → (VW t_23_c t_24_c c27_t_27 x27_1) → (∀ j : Nat, (-1) ≤ c27_t_27 j ∧ c27_t_27 j ≤ 29) → va_P D vwCl [(t, .inr (12, oX12 t_q t_x0 t_x6 t_x7 t_x8 t_x9 t_x10 t_x11 t_x12 t_x13 t_x14 t_x15 t_x32 t_x33 t_x34 t_x35 t_x39 t_x40 t_x43 t_x44 t_x48 t_x49 t_x50)), ((t_q 17), .inl (K 0, 40, .inl (fun j => iI (t_17_c j)))), ((t_q 18), .inl (K 0, 50, .inl (fun j => iI (t_18_c j)))), ((t_q 19), .inl (K 0, 60, .inl (fun j => iI (t_19_c j)))), ((t_q 20), .inl (K 0, 480, .inl (fun j => iI (t_20_c j)))), ((t_q 21), .inl (K 0, 600, .inl (fun j => iI (t_21_c j)))), ((t_q 23), .inl (K 0, 150, .inl (fun j => iI (t_23_c j)))), ((t_q 24), .inl (K 0, 5, .inl (fun j => iI (t_24_c j)))), ((t_q 25), .inl (K 0, 24, .inl (fun j => iI (t_25_c j)))), ((t_q 26), .inl (K 0, 24, .inl (fun j => iI (t_26_c j)))), ((t_q 27), .inl (K 0, 12, .inl (fun j => iI (c27_t_27 j)))), ((t_q 28), .inl (K 0, 12, .inl (fun j => iI (t_28_c j))))] H → va_D A [(t, .inr (12, oX12 t_q t_x0 t_x6 t_x7 t_x8 t_x9 t_x10 t_x11 t_x12 t_x13 t_x14 t_x15 t_x32 t_x33 t_x34 t_x35 t_x39 t_x40 t_x43 t_x44 t_x48 t_x49 t_x50)), ((t_q 17), .inl (K 0, 40, .inl (fun j => iI (t_17_c j)))), ((t_q 18), .inl (K 0, 50, .inl (fun j => iI (t_18_c j)))), ((t_q 19), .inl (K 0, 60, .inl (fun j => iI (t_19_c j)))), ((t_q 20), .inl (K 0, 480, .inl (fun j => iI (t_20_c j)))), ((t_q 21), .inl (K 0, 600, .inl (fun j => iI (t_21_c j)))), ((t_q 23), .inl (K 0, 150, .inl (fun j => iI (t_23_c j)))), ((t_q 24), .inl (K 0, 5, .inl (fun j => iI (t_24_c j)))), ((t_q 25), .inl (K 0, 24, .inl (fun j => iI (t_25_c j)))), ((t_q 26), .inl (K 0, 24, .inl (fun j => iI (t_26_c j)))), ((t_q 27), .inl (K 0, 12, .inl (fun j => iI (c27_t_27 j)))), ((t_q 28), .inl (K 0, 12, .inl (fun j => iI (t_28_c j))))] → va_S A s.heap H locs → lv_has ls 4 [(0, .ref t), (1, .int (iI x27_1))] → W p l e ({ frames := 8, cells := 0, slots := 0, locals := 200 } : Room) s m ag below meth c H locs 0 0 Q (F0 m 27 ls []) := by
    intro n
    induction n with
    | zero =>
      intro x27_1 c27_t_27 H locs ls hm27 hf27 r1 vw hc27_t_27 hP hD hS hl
      exact absurd hm27 (Nat.not_lt_zero _)
    | succ n ih27 =>
      intro x27_1 c27_t_27 H locs ls hm27 hf27 r1 vw hc27_t_27 hP hD hS hl
      have J39 : ∀ (n : Nat) (x39_2 : Int) (c39_t_27 : Nat → Int) (H : Heap) (locs : List Loc) (ls : Array Slot), (30 - x39_2).toNat < n → (0 ≤ x27_1 ∧ x27_1 ≤ 4 ∧ 0 ≤ x39_2 ∧ x39_2 ≤ 30 ∧ x27_1 < t_17_c 2) → (∀ p : Nat, (p : Int) < t_17_c 3 → c39_t_27 p = -1 ∨ (0 ≤ c39_t_27 p ∧ c39_t_27 p < t_24_c (Int.toNat (t_19_c p)))) → (VW t_23_c t_24_c c39_t_27 x27_1) → (VI t_23_c c39_t_27 x27_1 x39_2) → (∀ j : Nat, (-1) ≤ c39_t_27 j ∧ c39_t_27 j ≤ 29) → va_P D vwCl [(t, .inr (12, oX12 t_q t_x0 t_x6 t_x7 t_x8 t_x9 t_x10 t_x11 t_x12 t_x13 t_x14 t_x15 t_x32 t_x33 t_x34 t_x35 t_x39 t_x40 t_x43 t_x44 t_x48 t_x49 t_x50)), ((t_q 17), .inl (K 0, 40, .inl (fun j => iI (t_17_c j)))), ((t_q 18), .inl (K 0, 50, .inl (fun j => iI (t_18_c j)))), ((t_q 19), .inl (K 0, 60, .inl (fun j => iI (t_19_c j)))), ((t_q 20), .inl (K 0, 480, .inl (fun j => iI (t_20_c j)))), ((t_q 21), .inl (K 0, 600, .inl (fun j => iI (t_21_c j)))), ((t_q 23), .inl (K 0, 150, .inl (fun j => iI (t_23_c j)))), ((t_q 24), .inl (K 0, 5, .inl (fun j => iI (t_24_c j)))), ((t_q 25), .inl (K 0, 24, .inl (fun j => iI (t_25_c j)))), ((t_q 26), .inl (K 0, 24, .inl (fun j => iI (t_26_c j)))), ((t_q 27), .inl (K 0, 12, .inl (fun j => iI (c39_t_27 j)))), ((t_q 28), .inl (K 0, 12, .inl (fun j => iI (t_28_c j))))] H → va_D A [(t, .inr (12, oX12 t_q t_x0 t_x6 t_x7 t_x8 t_x9 t_x10 t_x11 t_x12 t_x13 t_x14 t_x15 t_x32 t_x33 t_x34 t_x35 t_x39 t_x40 t_x43 t_x44 t_x48 t_x49 t_x50)), ((t_q 17), .inl (K 0, 40, .inl (fun j => iI (t_17_c j)))), ((t_q 18), .inl (K 0, 50, .inl (fun j => iI (t_18_c j)))), ((t_q 19), .inl (K 0, 60, .inl (fun j => iI (t_19_c j)))), ((t_q 20), .inl (K 0, 480, .inl (fun j => iI (t_20_c j)))), ((t_q 21), .inl (K 0, 600, .inl (fun j => iI (t_21_c j)))), ((t_q 23), .inl (K 0, 150, .inl (fun j => iI (t_23_c j)))), ((t_q 24), .inl (K 0, 5, .inl (fun j => iI (t_24_c j)))), ((t_q 25), .inl (K 0, 24, .inl (fun j => iI (t_25_c j)))), ((t_q 26), .inl (K 0, 24, .inl (fun j => iI (t_26_c j)))), ((t_q 27), .inl (K 0, 12, .inl (fun j => iI (c39_t_27 j)))), ((t_q 28), .inl (K 0, 12, .inl (fun j => iI (t_28_c j))))] → va_S A s.heap H locs → lv_has ls 4 [(0, .ref t), (1, .int (iI x27_1)), (2, .int (iI x39_2))] → W p l e ({ frames := 8, cells := 0, slots := 0, locals := 200 } : Room) s m ag below meth c H locs 0 0 Q (F0 m 39 ls []) := by
        intro n
        induction n with
        | zero =>
          intro x39_2 c39_t_27 H locs ls hm39 hf39 r1 vw vi hc39_t_27 hP hD hS hl
          exact absurd hm39 (Nat.not_lt_zero _)
        | succ n ih39 =>
          intro x39_2 c39_t_27 H locs ls hm39 hf39 r1 vw vi hc39_t_27 hP hD hS hl
          have J80 : ∀ (c80_t_27 : Nat → Int) (H : Heap) (locs : List Loc) (ls : Array Slot), (0 ≤ x27_1 ∧ x27_1 ≤ 4 ∧ 0 ≤ x39_2 ∧ x39_2 ≤ 29) → (∀ p : Nat, (p : Int) < t_17_c 3 → c80_t_27 p = -1 ∨ (0 ≤ c80_t_27 p ∧ c80_t_27 p < t_24_c (Int.toNat (t_19_c p)))) → (VW t_23_c t_24_c c80_t_27 x27_1) → (VI t_23_c c80_t_27 x27_1 (x39_2 + 1)) → (∀ j : Nat, (-1) ≤ c80_t_27 j ∧ c80_t_27 j ≤ 29) → va_P D vwCl [(t, .inr (12, oX12 t_q t_x0 t_x6 t_x7 t_x8 t_x9 t_x10 t_x11 t_x12 t_x13 t_x14 t_x15 t_x32 t_x33 t_x34 t_x35 t_x39 t_x40 t_x43 t_x44 t_x48 t_x49 t_x50)), ((t_q 17), .inl (K 0, 40, .inl (fun j => iI (t_17_c j)))), ((t_q 18), .inl (K 0, 50, .inl (fun j => iI (t_18_c j)))), ((t_q 19), .inl (K 0, 60, .inl (fun j => iI (t_19_c j)))), ((t_q 20), .inl (K 0, 480, .inl (fun j => iI (t_20_c j)))), ((t_q 21), .inl (K 0, 600, .inl (fun j => iI (t_21_c j)))), ((t_q 23), .inl (K 0, 150, .inl (fun j => iI (t_23_c j)))), ((t_q 24), .inl (K 0, 5, .inl (fun j => iI (t_24_c j)))), ((t_q 25), .inl (K 0, 24, .inl (fun j => iI (t_25_c j)))), ((t_q 26), .inl (K 0, 24, .inl (fun j => iI (t_26_c j)))), ((t_q 27), .inl (K 0, 12, .inl (fun j => iI (c80_t_27 j)))), ((t_q 28), .inl (K 0, 12, .inl (fun j => iI (t_28_c j))))] H → va_D A [(t, .inr (12, oX12 t_q t_x0 t_x6 t_x7 t_x8 t_x9 t_x10 t_x11 t_x12 t_x13 t_x14 t_x15 t_x32 t_x33 t_x34 t_x35 t_x39 t_x40 t_x43 t_x44 t_x48 t_x49 t_x50)), ((t_q 17), .inl (K 0, 40, .inl (fun j => iI (t_17_c j)))), ((t_q 18), .inl (K 0, 50, .inl (fun j => iI (t_18_c j)))), ((t_q 19), .inl (K 0, 60, .inl (fun j => iI (t_19_c j)))), ((t_q 20), .inl (K 0, 480, .inl (fun j => iI (t_20_c j)))), ((t_q 21), .inl (K 0, 600, .inl (fun j => iI (t_21_c j)))), ((t_q 23), .inl (K 0, 150, .inl (fun j => iI (t_23_c j)))), ((t_q 24), .inl (K 0, 5, .inl (fun j => iI (t_24_c j)))), ((t_q 25), .inl (K 0, 24, .inl (fun j => iI (t_25_c j)))), ((t_q 26), .inl (K 0, 24, .inl (fun j => iI (t_26_c j)))), ((t_q 27), .inl (K 0, 12, .inl (fun j => iI (c80_t_27 j)))), ((t_q 28), .inl (K 0, 12, .inl (fun j => iI (t_28_c j))))] → va_S A s.heap H locs → lv_has ls 4 [(0, .ref t), (1, .int (iI x27_1)), (2, .int (iI x39_2))] → W p l e ({ frames := 8, cells := 0, slots := 0, locals := 200 } : Room) s m ag below meth c H locs 0 0 Q (F0 m 80 ls []) := by
            intro c80_t_27 H locs ls hf80 r1 vw vi hc80_t_27 hP hD hS hl
            refine lv_iinc (v := iI (x39_2 + 1)) (lv' := [(2, .int (iI (x39_2 + 1))), (0, .ref t), (1, .int (iI x27_1))]) hx hb dX12_laysLeads_80 hl (k := 2) rfl (iI_add _ _) (by decide) rfl (fun ls hl => ?_)
            refine lv_goto (tgt := 39) hx hb dX12_laysLeads_83 (by decide) ?_
            exact ih39 (x39_2 + 1) c80_t_27 _ _ ls (by omega) (by omega) (show ∀ p : Nat, (p : Int) < t_17_c 3 → c80_t_27 p = -1 ∨ (0 ≤ c80_t_27 p ∧ c80_t_27 p < t_24_c (Int.toNat (t_19_c p))) from by assumption) (show VW t_23_c t_24_c c80_t_27 x27_1 from by assumption) (show VI t_23_c c80_t_27 x27_1 (x39_2 + 1) from by assumption) hc80_t_27 (hP.sub [0, 1, 2, 3, 4, 5, 6, 7, 8, 9, 10, 11] rfl) (hD.sub [0, 1, 2, 3, 4, 5, 6, 7, 8, 9, 10, 11] (by decide) rfl) hS (lv_sub hl [1, 2, 0] rfl)
          refine lv_iload_n hx hb dX12_laysLeads_39 rfl (lv_at hl 2 rfl) ?_
          refine lv_aload_n hx hb dX12_laysLeads_40 rfl (lv_at hl 0 rfl) ?_
          refine va_get (D := D) (own := RX12) (ci := 12) (v := .ref (t_q 24)) (C := RX12) (T := TX12) (N := 51) hx hb hts inb_X12 hown hK.1 hP 0 rfl rfl 24 (by decide) (hts _ wd_1258) (fun _ h9 => h9) rfl dX12_laysLeads_41 ?_
          refine lv_iload_n hx hb dX12_laysLeads_44 rfl (lv_at hl 1 rfl) ?_
          refine g_iald hx hb hK.1 hP 7 0 rfl rfl (by omega) (by omega) (by decide) dX12_laysLeads_45 ?_
          have y45 : 0 ≤ (t_24_c x27_1.toNat) ∧ (t_24_c x27_1.toNat) ≤ 30 := hc_t_24 x27_1.toNat
          refine g_icmp_ge (tgt := 86) hx hb (by omega) (by omega) dX12_laysLeads_46 (by decide) (fun c46 => ?_) (fun c46 => ?_)
          · refine lv_iinc (v := iI (x27_1 + 1)) (lv' := [(1, .int (iI (x27_1 + 1))), (0, .ref t), (2, .int (iI x39_2))]) hx hb dX12_laysLeads_86 hl (k := 1) rfl (iI_add _ _) (by decide) rfl (fun ls hl => ?_)
            refine lv_goto (tgt := 27) hx hb dX12_laysLeads_89 (by decide) ?_
            exact ih27 (x27_1 + 1) c39_t_27 _ _ ls (by omega) (by omega) (show ∀ p : Nat, (p : Int) < t_17_c 3 → c39_t_27 p = -1 ∨ (0 ≤ c39_t_27 p ∧ c39_t_27 p < t_24_c (Int.toNat (t_19_c p))) from by assumption) (show VW t_23_c t_24_c c39_t_27 (x27_1 + 1) from VW_next vw vi (by omega) (by omega)) hc39_t_27 (hP.sub [0, 1, 2, 3, 4, 5, 6, 7, 8, 9, 10, 11] rfl) (hD.sub [0, 1, 2, 3, 4, 5, 6, 7, 8, 9, 10, 11] (by decide) rfl) hS (lv_sub hl [1, 0] rfl)
          · refine lv_aload_n hx hb dX12_laysLeads_49 rfl (lv_at hl 0 rfl) ?_
            refine va_get (D := D) (own := RX12) (ci := 12) (v := .ref (t_q 23)) (C := RX12) (T := TX12) (N := 51) hx hb hts inb_X12 hown hK.1 hP 0 rfl rfl 23 (by decide) (hts _ wd_1257) (fun _ h9 => h9) rfl dX12_laysLeads_50 ?_
            refine lv_bipush (v := iI 30) hx hb dX12_laysLeads_53 (by decide) ?_
            refine lv_iload_n hx hb dX12_laysLeads_55 rfl (lv_at hl 1 rfl) ?_
            refine g_imul hx hb dX12_laysLeads_56 ?_
            refine lv_iload_n hx hb dX12_laysLeads_57 rfl (lv_at hl 2 rfl) ?_
            refine g_iadd hx hb dX12_laysLeads_58 ?_
            refine g_iald hx hb hK.1 hP 6 0 rfl rfl (by omega) (by omega) (by decide) dX12_laysLeads_59 ?_
            have y59 : (-2) ≤ (t_23_c ((30 * x27_1 + x39_2).toNat)) ∧ (t_23_c ((30 * x27_1 + x39_2).toNat)) ≤ 11 := hc_t_23 ((30 * x27_1 + x39_2).toNat)
            refine g_if_lt (tgt := 80) hx hb (by omega) dX12_laysLeads_60 (by decide) (fun c60 => ?_) (fun c60 => ?_)
            · exact J80 c39_t_27 _ _ ls (by omega) (show ∀ p : Nat, (p : Int) < t_17_c 3 → c39_t_27 p = -1 ∨ (0 ≤ c39_t_27 p ∧ c39_t_27 p < t_24_c (Int.toNat (t_19_c p))) from by assumption) (show VW t_23_c t_24_c c39_t_27 x27_1 from by assumption) (show VI t_23_c c39_t_27 x27_1 (x39_2 + 1) from VI_skip vi (by omega) (by omega) (by omega)) hc39_t_27 (hP.sub [0, 1, 2, 3, 4, 5, 6, 7, 8, 9, 10, 11] rfl) (hD.sub [0, 1, 2, 3, 4, 5, 6, 7, 8, 9, 10, 11] (by decide) rfl) hS (lv_sub hl [0, 1, 2] rfl)
            · refine lv_aload_n hx hb dX12_laysLeads_63 rfl (lv_at hl 0 rfl) ?_
              refine va_get (D := D) (own := RX12) (ci := 12) (v := .ref (t_q 27)) (C := RX12) (T := TX12) (N := 51) hx hb hts inb_X12 hown hK.1 hP 0 rfl rfl 27 (by decide) (hts _ wd_1261) (fun _ h9 => h9) rfl dX12_laysLeads_64 ?_
              refine lv_aload_n hx hb dX12_laysLeads_67 rfl (lv_at hl 0 rfl) ?_
              refine va_get (D := D) (own := RX12) (ci := 12) (v := .ref (t_q 23)) (C := RX12) (T := TX12) (N := 51) hx hb hts inb_X12 hown hK.1 hP 0 rfl rfl 23 (by decide) (hts _ wd_1257) (fun _ h9 => h9) rfl dX12_laysLeads_68 ?_
              refine fn_at 71 rfl ?_
              refine lv_bipush (v := iI 30) hx hb dX12_laysLeads_71 (by decide) ?_
              refine lv_iload_n hx hb dX12_laysLeads_73 rfl (lv_at hl 1 rfl) ?_
              refine g_imul hx hb dX12_laysLeads_74 ?_
              refine lv_iload_n hx hb dX12_laysLeads_75 rfl (lv_at hl 2 rfl) ?_
              refine g_iadd hx hb dX12_laysLeads_76 ?_
              refine g_iald hx hb hK.1 hP 6 0 rfl rfl (by omega) (by omega) (by decide) dX12_laysLeads_77 ?_
              refine lv_iload_n hx hb dX12_laysLeads_78 rfl (lv_at hl 2 rfl) ?_
              have z79 := LA_at la (b := x27_1) (i := x39_2) (by omega) (by omega) (by omega) (by omega) (by omega)
              refine g_iast hx hb hK.1 hP hD hS 10 0 rfl rfl (by omega) (by omega) (by decide) dX12_laysLeads_79 (fun H locs g79 eg79 hP hD hS => ?_)
              have hg79 : ∀ j : Nat, (-1) ≤ g79 j ∧ g79 j ≤ 29 := by rw [eg79]; exact uI_all hc39_t_27 (by omega)
              have hP : va_P D vwCl [(t, .inr (12, oX12 t_q t_x0 t_x6 t_x7 t_x8 t_x9 t_x10 t_x11 t_x12 t_x13 t_x14 t_x15 t_x32 t_x33 t_x34 t_x35 t_x39 t_x40 t_x43 t_x44 t_x48 t_x49 t_x50)), ((t_q 17), .inl (K 0, 40, .inl (fun j => iI (t_17_c j)))), ((t_q 18), .inl (K 0, 50, .inl (fun j => iI (t_18_c j)))), ((t_q 19), .inl (K 0, 60, .inl (fun j => iI (t_19_c j)))), ((t_q 20), .inl (K 0, 480, .inl (fun j => iI (t_20_c j)))), ((t_q 21), .inl (K 0, 600, .inl (fun j => iI (t_21_c j)))), ((t_q 23), .inl (K 0, 150, .inl (fun j => iI (t_23_c j)))), ((t_q 24), .inl (K 0, 5, .inl (fun j => iI (t_24_c j)))), ((t_q 25), .inl (K 0, 24, .inl (fun j => iI (t_25_c j)))), ((t_q 26), .inl (K 0, 24, .inl (fun j => iI (t_26_c j)))), ((t_q 27), .inl (K 0, 12, .inl (fun j => iI (g79 j)))), ((t_q 28), .inl (K 0, 12, .inl (fun j => iI (t_28_c j))))] H := hP
              have hD : va_D A [(t, .inr (12, oX12 t_q t_x0 t_x6 t_x7 t_x8 t_x9 t_x10 t_x11 t_x12 t_x13 t_x14 t_x15 t_x32 t_x33 t_x34 t_x35 t_x39 t_x40 t_x43 t_x44 t_x48 t_x49 t_x50)), ((t_q 17), .inl (K 0, 40, .inl (fun j => iI (t_17_c j)))), ((t_q 18), .inl (K 0, 50, .inl (fun j => iI (t_18_c j)))), ((t_q 19), .inl (K 0, 60, .inl (fun j => iI (t_19_c j)))), ((t_q 20), .inl (K 0, 480, .inl (fun j => iI (t_20_c j)))), ((t_q 21), .inl (K 0, 600, .inl (fun j => iI (t_21_c j)))), ((t_q 23), .inl (K 0, 150, .inl (fun j => iI (t_23_c j)))), ((t_q 24), .inl (K 0, 5, .inl (fun j => iI (t_24_c j)))), ((t_q 25), .inl (K 0, 24, .inl (fun j => iI (t_25_c j)))), ((t_q 26), .inl (K 0, 24, .inl (fun j => iI (t_26_c j)))), ((t_q 27), .inl (K 0, 12, .inl (fun j => iI (g79 j)))), ((t_q 28), .inl (K 0, 12, .inl (fun j => iI (t_28_c j))))] := hD
              exact J80 g79 _ _ ls (by omega) (show ∀ p : Nat, (p : Int) < t_17_c 3 → g79 p = -1 ∨ (0 ≤ g79 p ∧ g79 p < t_24_c (Int.toNat (t_19_c p))) from by rw [eg79]; exact r1_set r1 (by omega) z79.2 (by omega)) (show VW t_23_c t_24_c g79 x27_1 from by rw [eg79]; exact VW_set vw (by omega)) (show VI t_23_c g79 x27_1 (x39_2 + 1) from by rw [eg79]; exact VI_set vi (by omega) (by omega) (by omega)) hg79 (hP.sub [0, 1, 2, 3, 4, 5, 6, 7, 8, 9, 10, 11] rfl) (hD.sub [0, 1, 2, 3, 4, 5, 6, 7, 8, 9, 10, 11] (by decide) rfl) hS (lv_sub hl [0, 1, 2] rfl)
      refine lv_iload_n hx hb dX12_laysLeads_27 rfl (lv_at hl 1 rfl) ?_
      refine lv_aload_n hx hb dX12_laysLeads_28 rfl (lv_at hl 0 rfl) ?_
      refine va_get (D := D) (own := RX12) (ci := 12) (v := .ref (t_q 17)) (C := RX12) (T := TX12) (N := 51) hx hb hts inb_X12 hown hK.1 hP 0 rfl rfl 17 (by decide) (hts _ wd_1251) (fun _ h9 => h9) rfl dX12_laysLeads_29 ?_
      refine lv_iconst (v := iI 2) hx hb dX12_laysLeads_32 rfl ?_
      refine g_iald hx hb hK.1 hP 1 0 rfl rfl (by omega) (by omega) (by decide) dX12_laysLeads_33 ?_
      refine fn_top (iI (t_17_c 2)) rfl ?_
      have y33 : 0 ≤ (t_17_c 2) ∧ (t_17_c 2) ≤ 5 := (hc_t_17 2).2.2.1 (by omega)
      refine g_icmp_ge (tgt := 92) hx hb (by omega) (by omega) dX12_laysLeads_34 (by decide) (fun c34 => ?_) (fun c34 => ?_)
      · refine lv_iconst (v := iI 0) hx hb dX12_laysLeads_92 rfl ?_
        refine lv_istore_n (lv' := [(1, .int (iI 0)), (0, .ref t)]) hx hb dX12_laysLeads_93 rfl hl (by decide) rfl (fun ls hl => ?_)
        exact J94 _ 0 t_26_c c27_t_27 _ _ ls (Nat.lt_succ_self _) (by omega) (show ∀ p : Nat, (p : Int) < t_17_c 3 → c27_t_27 p = -1 ∨ (0 ≤ c27_t_27 p ∧ c27_t_27 p < t_24_c (Int.toNat (t_19_c p))) from by assumption) (show VW t_23_c t_24_c c27_t_27 (t_17_c 2) from VW_le vw (by omega)) (show LD (t_17_c 3) (0 : Int) t_26_c c27_t_27 from LD_0) hc_t_26 hc27_t_27 (hP.sub [0, 1, 2, 3, 4, 5, 6, 7, 8, 9, 10, 11] rfl) (hD.sub [0, 1, 2, 3, 4, 5, 6, 7, 8, 9, 10, 11] (by decide) rfl) hS (lv_sub hl [1, 0] rfl)
      · refine lv_iconst (v := iI 0) hx hb dX12_laysLeads_37 rfl ?_
        refine lv_istore_n (lv' := [(2, .int (iI 0)), (0, .ref t), (1, .int (iI x27_1))]) hx hb dX12_laysLeads_38 rfl hl (by decide) rfl (fun ls hl => ?_)
        exact J39 _ 0 c27_t_27 _ _ ls (Nat.lt_succ_self _) (by omega) (show ∀ p : Nat, (p : Int) < t_17_c 3 → c27_t_27 p = -1 ∨ (0 ≤ c27_t_27 p ∧ c27_t_27 p < t_24_c (Int.toNat (t_19_c p))) from by assumption) (show VW t_23_c t_24_c c27_t_27 x27_1 from by assumption) (show VI t_23_c c27_t_27 x27_1 (0 : Int) from VI_0) hc27_t_27 (hP.sub [0, 1, 2, 3, 4, 5, 6, 7, 8, 9, 10, 11] rfl) (hD.sub [0, 1, 2, 3, 4, 5, 6, 7, 8, 9, 10, 11] (by decide) rfl) hS (lv_sub hl [1, 2, 0] rfl)
  have J2 : ∀ (n : Nat) (x2_1 : Int) (c2_t_27 : Nat → Int) (H : Heap) (locs : List Loc) (ls : Array Slot), (12 - x2_1).toNat < n → (0 ≤ x2_1 ∧ x2_1 ≤ 12) → (∀ p : Nat, (p : Int) < x2_1 → c2_t_27 p = -1) → (∀ j : Nat, (-1) ≤ c2_t_27 j ∧ c2_t_27 j ≤ 29) → va_P D vwCl [(t, .inr (12, oX12 t_q t_x0 t_x6 t_x7 t_x8 t_x9 t_x10 t_x11 t_x12 t_x13 t_x14 t_x15 t_x32 t_x33 t_x34 t_x35 t_x39 t_x40 t_x43 t_x44 t_x48 t_x49 t_x50)), ((t_q 17), .inl (K 0, 40, .inl (fun j => iI (t_17_c j)))), ((t_q 18), .inl (K 0, 50, .inl (fun j => iI (t_18_c j)))), ((t_q 19), .inl (K 0, 60, .inl (fun j => iI (t_19_c j)))), ((t_q 20), .inl (K 0, 480, .inl (fun j => iI (t_20_c j)))), ((t_q 21), .inl (K 0, 600, .inl (fun j => iI (t_21_c j)))), ((t_q 23), .inl (K 0, 150, .inl (fun j => iI (t_23_c j)))), ((t_q 24), .inl (K 0, 5, .inl (fun j => iI (t_24_c j)))), ((t_q 25), .inl (K 0, 24, .inl (fun j => iI (t_25_c j)))), ((t_q 26), .inl (K 0, 24, .inl (fun j => iI (t_26_c j)))), ((t_q 27), .inl (K 0, 12, .inl (fun j => iI (c2_t_27 j)))), ((t_q 28), .inl (K 0, 12, .inl (fun j => iI (t_28_c j))))] H → va_D A [(t, .inr (12, oX12 t_q t_x0 t_x6 t_x7 t_x8 t_x9 t_x10 t_x11 t_x12 t_x13 t_x14 t_x15 t_x32 t_x33 t_x34 t_x35 t_x39 t_x40 t_x43 t_x44 t_x48 t_x49 t_x50)), ((t_q 17), .inl (K 0, 40, .inl (fun j => iI (t_17_c j)))), ((t_q 18), .inl (K 0, 50, .inl (fun j => iI (t_18_c j)))), ((t_q 19), .inl (K 0, 60, .inl (fun j => iI (t_19_c j)))), ((t_q 20), .inl (K 0, 480, .inl (fun j => iI (t_20_c j)))), ((t_q 21), .inl (K 0, 600, .inl (fun j => iI (t_21_c j)))), ((t_q 23), .inl (K 0, 150, .inl (fun j => iI (t_23_c j)))), ((t_q 24), .inl (K 0, 5, .inl (fun j => iI (t_24_c j)))), ((t_q 25), .inl (K 0, 24, .inl (fun j => iI (t_25_c j)))), ((t_q 26), .inl (K 0, 24, .inl (fun j => iI (t_26_c j)))), ((t_q 27), .inl (K 0, 12, .inl (fun j => iI (c2_t_27 j)))), ((t_q 28), .inl (K 0, 12, .inl (fun j => iI (t_28_c j))))] → va_S A s.heap H locs → lv_has ls 4 [(0, .ref t), (1, .int (iI x2_1))] → W p l e ({ frames := 8, cells := 0, slots := 0, locals := 200 } : Room) s m ag below meth c H locs 0 0 Q (F0 m 2 ls []) := by
    intro n
    induction n with
    | zero =>
      intro x2_1 c2_t_27 H locs ls hm2 hf2 q0 hc2_t_27 hP hD hS hl
      exact absurd hm2 (Nat.not_lt_zero _)
    | succ n ih2 =>
      intro x2_1 c2_t_27 H locs ls hm2 hf2 q0 hc2_t_27 hP hD hS hl
      refine lv_iload_n hx hb dX12_laysLeads_2 rfl (lv_at hl 1 rfl) ?_
      refine lv_aload_n hx hb dX12_laysLeads_3 rfl (lv_at hl 0 rfl) ?_
      refine va_get (D := D) (own := RX12) (ci := 12) (v := .ref (t_q 17)) (C := RX12) (T := TX12) (N := 51) hx hb hts inb_X12 hown hK.1 hP 0 rfl rfl 17 (by decide) (hts _ wd_1251) (fun _ h9 => h9) rfl dX12_laysLeads_4 ?_
      refine lv_iconst (v := iI 3) hx hb dX12_laysLeads_7 rfl ?_
      refine g_iald hx hb hK.1 hP 1 0 rfl rfl (by omega) (by omega) (by decide) dX12_laysLeads_8 ?_
      refine fn_top (iI (t_17_c 3)) rfl ?_
      have y8 : 0 ≤ (t_17_c 3) ∧ (t_17_c 3) ≤ 12 := (hc_t_17 3).2.2.2.1 (by omega)
      refine g_icmp_ge (tgt := 25) hx hb (by omega) (by omega) dX12_laysLeads_9 (by decide) (fun c9 => ?_) (fun c9 => ?_)
      · refine lv_iconst (v := iI 0) hx hb dX12_laysLeads_25 rfl ?_
        refine lv_istore_n (lv' := [(1, .int (iI 0)), (0, .ref t)]) hx hb dX12_laysLeads_26 rfl hl (by decide) rfl (fun ls hl => ?_)
        exact J27 _ 0 c2_t_27 _ _ ls (Nat.lt_succ_self _) (by omega) (show ∀ p : Nat, (p : Int) < t_17_c 3 → c2_t_27 p = -1 ∨ (0 ≤ c2_t_27 p ∧ c2_t_27 p < t_24_c (Int.toNat (t_19_c p))) from fun p hp => Or.inl (q0 p (by omega))) (show VW t_23_c t_24_c c2_t_27 (0 : Int) from VW_0) hc2_t_27 (hP.sub [0, 1, 2, 3, 4, 5, 6, 7, 8, 9, 10, 11] rfl) (hD.sub [0, 1, 2, 3, 4, 5, 6, 7, 8, 9, 10, 11] (by decide) rfl) hS (lv_sub hl [1, 0] rfl)
      · refine lv_aload_n hx hb dX12_laysLeads_12 rfl (lv_at hl 0 rfl) ?_
        refine va_get (D := D) (own := RX12) (ci := 12) (v := .ref (t_q 27)) (C := RX12) (T := TX12) (N := 51) hx hb hts inb_X12 hown hK.1 hP 0 rfl rfl 27 (by decide) (hts _ wd_1261) (fun _ h9 => h9) rfl dX12_laysLeads_13 ?_
        refine lv_iload_n hx hb dX12_laysLeads_16 rfl (lv_at hl 1 rfl) ?_
        refine lv_iconst (v := iI (-1)) hx hb dX12_laysLeads_17 rfl ?_
        refine g_iast hx hb hK.1 hP hD hS 10 0 rfl rfl (by omega) (by omega) (by decide) dX12_laysLeads_18 (fun H locs g18 eg18 hP hD hS => ?_)
        have hg18 : ∀ j : Nat, (-1) ≤ g18 j ∧ g18 j ≤ 29 := by rw [eg18]; exact uI_all hc2_t_27 (by omega)
        have hP : va_P D vwCl [(t, .inr (12, oX12 t_q t_x0 t_x6 t_x7 t_x8 t_x9 t_x10 t_x11 t_x12 t_x13 t_x14 t_x15 t_x32 t_x33 t_x34 t_x35 t_x39 t_x40 t_x43 t_x44 t_x48 t_x49 t_x50)), ((t_q 17), .inl (K 0, 40, .inl (fun j => iI (t_17_c j)))), ((t_q 18), .inl (K 0, 50, .inl (fun j => iI (t_18_c j)))), ((t_q 19), .inl (K 0, 60, .inl (fun j => iI (t_19_c j)))), ((t_q 20), .inl (K 0, 480, .inl (fun j => iI (t_20_c j)))), ((t_q 21), .inl (K 0, 600, .inl (fun j => iI (t_21_c j)))), ((t_q 23), .inl (K 0, 150, .inl (fun j => iI (t_23_c j)))), ((t_q 24), .inl (K 0, 5, .inl (fun j => iI (t_24_c j)))), ((t_q 25), .inl (K 0, 24, .inl (fun j => iI (t_25_c j)))), ((t_q 26), .inl (K 0, 24, .inl (fun j => iI (t_26_c j)))), ((t_q 27), .inl (K 0, 12, .inl (fun j => iI (g18 j)))), ((t_q 28), .inl (K 0, 12, .inl (fun j => iI (t_28_c j))))] H := hP
        have hD : va_D A [(t, .inr (12, oX12 t_q t_x0 t_x6 t_x7 t_x8 t_x9 t_x10 t_x11 t_x12 t_x13 t_x14 t_x15 t_x32 t_x33 t_x34 t_x35 t_x39 t_x40 t_x43 t_x44 t_x48 t_x49 t_x50)), ((t_q 17), .inl (K 0, 40, .inl (fun j => iI (t_17_c j)))), ((t_q 18), .inl (K 0, 50, .inl (fun j => iI (t_18_c j)))), ((t_q 19), .inl (K 0, 60, .inl (fun j => iI (t_19_c j)))), ((t_q 20), .inl (K 0, 480, .inl (fun j => iI (t_20_c j)))), ((t_q 21), .inl (K 0, 600, .inl (fun j => iI (t_21_c j)))), ((t_q 23), .inl (K 0, 150, .inl (fun j => iI (t_23_c j)))), ((t_q 24), .inl (K 0, 5, .inl (fun j => iI (t_24_c j)))), ((t_q 25), .inl (K 0, 24, .inl (fun j => iI (t_25_c j)))), ((t_q 26), .inl (K 0, 24, .inl (fun j => iI (t_26_c j)))), ((t_q 27), .inl (K 0, 12, .inl (fun j => iI (g18 j)))), ((t_q 28), .inl (K 0, 12, .inl (fun j => iI (t_28_c j))))] := hD
        refine lv_iinc (v := iI (x2_1 + 1)) (lv' := [(1, .int (iI (x2_1 + 1))), (0, .ref t)]) hx hb dX12_laysLeads_19 hl (k := 1) rfl (iI_add _ _) (by decide) rfl (fun ls hl => ?_)
        refine lv_goto (tgt := 2) hx hb dX12_laysLeads_22 (by decide) ?_
        exact ih2 (x2_1 + 1) g18 _ _ ls (by omega) (by omega) (show ∀ p : Nat, (p : Int) < (x2_1 + 1) → g18 p = -1 from by rw [eg18]; exact all_set q0 (by omega)) hg18 (hP.sub [0, 1, 2, 3, 4, 5, 6, 7, 8, 9, 10, 11] rfl) (hD.sub [0, 1, 2, 3, 4, 5, 6, 7, 8, 9, 10, 11] (by decide) rfl) hS (lv_sub hl [1, 0] rfl)
  have hl : lv_has ls 4 [(0, .ref t)] := hl
  refine lv_iconst (v := iI 0) hx hb dX12_laysLeads_0 rfl ?_
  refine lv_istore_n (lv' := [(1, .int (iI 0)), (0, .ref t)]) hx hb dX12_laysLeads_1 rfl hl (by decide) rfl (fun ls hl => ?_)
  exact J2 _ 0 t_27_c _ _ ls (Nat.lt_succ_self _) (by omega) (show ∀ p : Nat, (p : Int) < (0 : Int) → t_27_c p = -1 from fun p hp => by omega) hc_t_27 (hP.sub [0, 1, 2, 3, 4, 5, 6, 7, 8, 9, 10, 11] rfl) (hD.sub [0, 1, 2, 3, 4, 5, 6, 7, 8, 9, 10, 11] (by decide) rfl) hS (lv_sub hl [1, 0] rfl)
theorem wd_1559 : Cond.code ⟨"FootNotesModel", "laysLeads", "()V"⟩ prog_14_method_48_code 4 (Option.none : Option Jvm.ClassFile.FieldType) ∈ fn_big := fn_tb (fn_l7 (List.mem_of_getElem? (i := 119) (by decide +kernel))) (by decide +kernel)
theorem wd_1556 : Cond.methodLink "FootNotesModel" 277 ⟨"FootNotesModel", "laysLeads", "()V"⟩ ∈ fn_big := fn_tb (fn_l7 (List.mem_of_getElem? (i := 116) (by decide +kernel))) (by decide +kernel)
theorem wd_1558 : Cond.instanceMethod ⟨"FootNotesModel", "laysLeads", "()V"⟩ ∈ fn_big := fn_tb (fn_l7 (List.mem_of_getElem? (i := 118) (by decide +kernel))) (by decide +kernel)
theorem wp_120 : Cond.selects "FootNotesModel" ⟨"FootNotesModel", "laysLeads", "()V"⟩ ⟨"FootNotesModel", "laysLeads", "()V"⟩ ∈ fn_big := fn_sel (q := (⟨"FootNotesModel", "laysLeads", "()V"⟩, 51)) 120 (by decide +kernel) (by decide +kernel)
theorem wd_1555 : Cond.code ⟨"FootNotesModel", "does", "(III)V"⟩ prog_14_method_47_code 5 (Option.none : Option Jvm.ClassFile.FieldType) ∈ fn_big := fn_tb (fn_l7 (List.mem_of_getElem? (i := 115) (by decide +kernel))) (by decide +kernel)
theorem wd_1552 : Cond.methodLink "FootNotesModel" 273 ⟨"FootNotesModel", "does", "(III)V"⟩ ∈ fn_big := fn_tb (fn_l7 (List.mem_of_getElem? (i := 112) (by decide +kernel))) (by decide +kernel)
theorem wd_1554 : Cond.instanceMethod ⟨"FootNotesModel", "does", "(III)V"⟩ ∈ fn_big := fn_tb (fn_l7 (List.mem_of_getElem? (i := 114) (by decide +kernel))) (by decide +kernel)
theorem wp_119 : Cond.selects "FootNotesModel" ⟨"FootNotesModel", "does", "(III)V"⟩ ⟨"FootNotesModel", "does", "(III)V"⟩ ∈ fn_big := fn_sel (q := (⟨"FootNotesModel", "does", "(III)V"⟩, 51)) 119 (by decide +kernel) (by decide +kernel)
theorem dX12_lays_106 : decode cX12_lays 106 = .ok (.iload_n 3, 1) := by decide +kernel
theorem dX12_lays_107 : decode cX12_lays 107 = .ok (.iload_n 1, 1) := by decide +kernel
theorem dX12_lays_108 : decode cX12_lays 108 = .ok (.if_icmp .ge 41, 3) := by decide +kernel
theorem dX12_lays_149 : decode cX12_lays 149 = .ok (.aload_n 0, 1) := by decide +kernel
theorem dX12_lays_150 : decode cX12_lays 150 = .ok (.invokevirtual 277, 3) := by decide +kernel
theorem dX12_lays_153 : decode cX12_lays 153 = .ok (.return_, 1) := by decide +kernel
theorem dX12_lays_111 : decode cX12_lays 111 = .ok (.aload_n 0, 1) := by decide +kernel
theorem dX12_lays_112 : decode cX12_lays 112 = .ok (.aload_n 0, 1) := by decide +kernel
theorem dX12_lays_113 : decode cX12_lays 113 = .ok (.getfield 46, 3) := by decide +kernel
theorem dX12_lays_116 : decode cX12_lays 116 = .ok (.iconst 3, 1) := by decide +kernel
theorem dX12_lays_117 : decode cX12_lays 117 = .ok (.iload_n 3, 1) := by decide +kernel
theorem dX12_lays_118 : decode cX12_lays 118 = .ok (.imul, 1) := by decide +kernel
theorem dX12_lays_119 : decode cX12_lays 119 = .ok (.iaload, 1) := by decide +kernel
theorem dX12_lays_120 : decode cX12_lays 120 = .ok (.aload_n 0, 1) := by decide +kernel
theorem dX12_lays_121 : decode cX12_lays 121 = .ok (.getfield 46, 3) := by decide +kernel
theorem dX12_lays_124 : decode cX12_lays 124 = .ok (.iconst 3, 1) := by decide +kernel
theorem dX12_lays_125 : decode cX12_lays 125 = .ok (.iload_n 3, 1) := by decide +kernel
theorem dX12_lays_126 : decode cX12_lays 126 = .ok (.imul, 1) := by decide +kernel
theorem dX12_lays_127 : decode cX12_lays 127 = .ok (.iconst 1, 1) := by decide +kernel
theorem dX12_lays_128 : decode cX12_lays 128 = .ok (.iadd, 1) := by decide +kernel
theorem dX12_lays_129 : decode cX12_lays 129 = .ok (.iaload, 1) := by decide +kernel
theorem dX12_lays_130 : decode cX12_lays 130 = .ok (.aload_n 0, 1) := by decide +kernel
theorem dX12_lays_131 : decode cX12_lays 131 = .ok (.getfield 46, 3) := by decide +kernel
theorem dX12_lays_134 : decode cX12_lays 134 = .ok (.iconst 3, 1) := by decide +kernel
theorem dX12_lays_135 : decode cX12_lays 135 = .ok (.iload_n 3, 1) := by decide +kernel
theorem dX12_lays_136 : decode cX12_lays 136 = .ok (.imul, 1) := by decide +kernel
theorem dX12_lays_137 : decode cX12_lays 137 = .ok (.iconst 2, 1) := by decide +kernel
theorem dX12_lays_138 : decode cX12_lays 138 = .ok (.iadd, 1) := by decide +kernel
theorem dX12_lays_139 : decode cX12_lays 139 = .ok (.iaload, 1) := by decide +kernel
theorem dX12_lays_140 : decode cX12_lays 140 = .ok (.invokevirtual 273, 3) := by decide +kernel
theorem dX12_lays_143 : decode cX12_lays 143 = .ok (.iinc 3 1, 3) := by decide +kernel
theorem dX12_lays_146 : decode cX12_lays 146 = .ok (.goto (-40), 3) := by decide +kernel
theorem dX12_lays_72 : decode cX12_lays 72 = .ok (.iload_n 3, 1) := by decide +kernel
theorem dX12_lays_73 : decode cX12_lays 73 = .ok (.aload_n 0, 1) := by decide +kernel
theorem dX12_lays_74 : decode cX12_lays 74 = .ok (.getfield 34, 3) := by decide +kernel
theorem dX12_lays_77 : decode cX12_lays 77 = .ok (.iconst 4, 1) := by decide +kernel
theorem dX12_lays_78 : decode cX12_lays 78 = .ok (.iaload, 1) := by decide +kernel
theorem dX12_lays_79 : decode cX12_lays 79 = .ok (.if_icmp .ge 25, 3) := by decide +kernel
theorem dX12_lays_104 : decode cX12_lays 104 = .ok (.iconst 0, 1) := by decide +kernel
theorem dX12_lays_105 : decode cX12_lays 105 = .ok (.istore_n 3, 1) := by decide +kernel
theorem dX12_lays_82 : decode cX12_lays 82 = .ok (.aload_n 0, 1) := by decide +kernel
theorem dX12_lays_83 : decode cX12_lays 83 = .ok (.getfield 59, 3) := by decide +kernel
theorem dX12_lays_86 : decode cX12_lays 86 = .ok (.iload_n 3, 1) := by decide +kernel
theorem dX12_lays_87 : decode cX12_lays 87 = .ok (.aload_n 0, 1) := by decide +kernel
theorem dX12_lays_88 : decode cX12_lays 88 = .ok (.getfield 43, 3) := by decide +kernel
theorem dX12_lays_91 : decode cX12_lays 91 = .ok (.iconst 4, 1) := by decide +kernel
theorem dX12_lays_92 : decode cX12_lays 92 = .ok (.iload_n 3, 1) := by decide +kernel
theorem dX12_lays_93 : decode cX12_lays 93 = .ok (.imul, 1) := by decide +kernel
theorem dX12_lays_94 : decode cX12_lays 94 = .ok (.iconst 2, 1) := by decide +kernel
theorem dX12_lays_95 : decode cX12_lays 95 = .ok (.iadd, 1) := by decide +kernel
theorem dX12_lays_96 : decode cX12_lays 96 = .ok (.iaload, 1) := by decide +kernel
theorem dX12_lays_97 : decode cX12_lays 97 = .ok (.iastore, 1) := by decide +kernel
theorem dX12_lays_98 : decode cX12_lays 98 = .ok (.iinc 3 1, 3) := by decide +kernel
theorem dX12_lays_101 : decode cX12_lays 101 = .ok (.goto (-29), 3) := by decide +kernel
theorem dX12_lays_31 : decode cX12_lays 31 = .ok (.iload 4, 2) := by decide +kernel
theorem dX12_lays_33 : decode cX12_lays 33 = .ok (.aload_n 0, 1) := by decide +kernel
theorem dX12_lays_34 : decode cX12_lays 34 = .ok (.getfield 56, 3) := by decide +kernel
theorem dX12_lays_37 : decode cX12_lays 37 = .ok (.iload_n 3, 1) := by decide +kernel
theorem dX12_lays_38 : decode cX12_lays 38 = .ok (.iaload, 1) := by decide +kernel
theorem dX12_lays_39 : decode cX12_lays 39 = .ok (.if_icmp .ge 25, 3) := by decide +kernel
theorem dX12_lays_64 : decode cX12_lays 64 = .ok (.iinc 3 1, 3) := by decide +kernel
theorem dX12_lays_67 : decode cX12_lays 67 = .ok (.goto (-63), 3) := by decide +kernel
theorem dX12_lays_42 : decode cX12_lays 42 = .ok (.aload_n 0, 1) := by decide +kernel
theorem dX12_lays_43 : decode cX12_lays 43 = .ok (.getfield 53, 3) := by decide +kernel
theorem dX12_lays_46 : decode cX12_lays 46 = .ok (.bipush 30, 2) := by decide +kernel
theorem dX12_lays_48 : decode cX12_lays 48 = .ok (.iload_n 3, 1) := by decide +kernel
theorem dX12_lays_49 : decode cX12_lays 49 = .ok (.imul, 1) := by decide +kernel
theorem dX12_lays_50 : decode cX12_lays 50 = .ok (.iload 4, 2) := by decide +kernel
theorem dX12_lays_52 : decode cX12_lays 52 = .ok (.iadd, 1) := by decide +kernel
theorem dX12_lays_53 : decode cX12_lays 53 = .ok (.iload_n 2, 1) := by decide +kernel
theorem dX12_lays_54 : decode cX12_lays 54 = .ok (.iastore, 1) := by decide +kernel
theorem dX12_lays_55 : decode cX12_lays 55 = .ok (.iinc 2 1, 3) := by decide +kernel
theorem dX12_lays_58 : decode cX12_lays 58 = .ok (.iinc 4 1, 3) := by decide +kernel
theorem dX12_lays_61 : decode cX12_lays 61 = .ok (.goto (-30), 3) := by decide +kernel
theorem dX12_lays_4 : decode cX12_lays 4 = .ok (.iload_n 3, 1) := by decide +kernel
theorem dX12_lays_5 : decode cX12_lays 5 = .ok (.aload_n 0, 1) := by decide +kernel
theorem dX12_lays_6 : decode cX12_lays 6 = .ok (.getfield 34, 3) := by decide +kernel
theorem dX12_lays_9 : decode cX12_lays 9 = .ok (.iconst 2, 1) := by decide +kernel
theorem dX12_lays_10 : decode cX12_lays 10 = .ok (.iaload, 1) := by decide +kernel
theorem dX12_lays_11 : decode cX12_lays 11 = .ok (.if_icmp .ge 59, 3) := by decide +kernel
theorem dX12_lays_70 : decode cX12_lays 70 = .ok (.iconst 0, 1) := by decide +kernel
theorem dX12_lays_71 : decode cX12_lays 71 = .ok (.istore_n 3, 1) := by decide +kernel
theorem dX12_lays_14 : decode cX12_lays 14 = .ok (.aload_n 0, 1) := by decide +kernel
theorem dX12_lays_15 : decode cX12_lays 15 = .ok (.getfield 56, 3) := by decide +kernel
theorem dX12_lays_18 : decode cX12_lays 18 = .ok (.iload_n 3, 1) := by decide +kernel
theorem dX12_lays_19 : decode cX12_lays 19 = .ok (.aload_n 0, 1) := by decide +kernel
theorem dX12_lays_20 : decode cX12_lays 20 = .ok (.getfield 37, 3) := by decide +kernel
theorem dX12_lays_23 : decode cX12_lays 23 = .ok (.iconst 2, 1) := by decide +kernel
theorem dX12_lays_24 : decode cX12_lays 24 = .ok (.iload_n 3, 1) := by decide +kernel
theorem dX12_lays_25 : decode cX12_lays 25 = .ok (.imul, 1) := by decide +kernel
theorem dX12_lays_26 : decode cX12_lays 26 = .ok (.iaload, 1) := by decide +kernel
theorem dX12_lays_27 : decode cX12_lays 27 = .ok (.iastore, 1) := by decide +kernel
theorem dX12_lays_28 : decode cX12_lays 28 = .ok (.iconst 0, 1) := by decide +kernel
theorem dX12_lays_29 : decode cX12_lays 29 = .ok (.istore 4, 2) := by decide +kernel
theorem dX12_lays_0 : decode cX12_lays 0 = .ok (.iconst 0, 1) := by decide +kernel
theorem dX12_lays_1 : decode cX12_lays 1 = .ok (.istore_n 2, 1) := by decide +kernel
theorem dX12_lays_2 : decode cX12_lays 2 = .ok (.iconst 0, 1) := by decide +kernel
theorem dX12_lays_3 : decode cX12_lays 3 = .ok (.istore_n 3, 1) := by decide +kernel
set_option maxHeartbeats 4000000 in
set_option maxRecDepth 100000 in
theorem k_X12_lays (l : Launch) (D : va_G) (K : Nat → ClassId) (t : Nat) (t_q : Nat → Nat) (p1 t_x0 t_x6 t_x7 t_x8 t_x9 t_x10 t_x11 t_x12 t_x13 t_x14 t_x15 t_x32 t_x33 t_x34 t_x35 t_x39 t_x40 t_x43 t_x44 t_x48 t_x49 t_x50 : Int) (t_17_c : Nat → Int) (t_18_c : Nat → Int) (t_19_c : Nat → Int) (t_20_c : Nat → Int) (t_21_c : Nat → Int) (t_23_c : Nat → Int) (t_24_c : Nat → Int) (t_25_c : Nat → Int) (t_26_c : Nat → Int) (t_27_c : Nat → Int) (t_28_c : Nat → Int) (hp1 : 0 ≤ p1 ∧ p1 ≤ 40) (hi_t : bM12 t_x0 t_x6 t_x7 t_x8 t_x9 t_x10 t_x11 t_x12 t_x13 t_x14 t_x15 t_x32 t_x33 t_x34 t_x35 t_x39 t_x40 t_x43 t_x44 t_x48 t_x49 t_x50) (hc_t_17 : ∀ j : Nat, (j % 8 = 0 → 0 ≤ t_17_c j ∧ t_17_c j ≤ 20) ∧ (j % 8 = 1 → 0 ≤ t_17_c j ∧ t_17_c j ≤ 100) ∧ (j % 8 = 2 → 0 ≤ t_17_c j ∧ t_17_c j ≤ 5) ∧ (j % 8 = 3 → 0 ≤ t_17_c j ∧ t_17_c j ≤ 12) ∧ (j % 8 = 4 → 0 ≤ t_17_c j ∧ t_17_c j ≤ 24) ∧ (j % 8 = 5 → 0 ≤ t_17_c j ∧ t_17_c j ≤ 4095) ∧ (j % 8 = 6 → 0 ≤ t_17_c j ∧ t_17_c j ≤ 31) ∧ (j % 8 = 7 → 0 ≤ t_17_c j ∧ t_17_c j ≤ 40)) (hc_t_18 : ∀ j : Nat, (j % 2 = 0 → 0 ≤ t_18_c j ∧ t_18_c j ≤ 9) ∧ (j % 2 = 1 → 0 ≤ t_18_c j ∧ t_18_c j ≤ 4)) (hc_t_19 : ∀ j : Nat, 0 ≤ t_19_c j ∧ t_19_c j ≤ 4) (hc_t_20 : ∀ j : Nat, (j % 4 = 0 → 0 ≤ t_20_c j ∧ t_20_c j ≤ 11) ∧ (j % 4 = 1 → 0 ≤ t_20_c j ∧ t_20_c j ≤ 4) ∧ (j % 4 = 2 → 0 ≤ t_20_c j ∧ t_20_c j ≤ 29) ∧ (j % 4 = 3 → 0 ≤ t_20_c j ∧ t_20_c j ≤ 1)) (hc_t_21 : ∀ j : Nat, (j % 3 = 0 → 0 ≤ t_21_c j ∧ t_21_c j ≤ 2) ∧ (j % 3 = 1 → 0 ≤ t_21_c j ∧ t_21_c j ≤ 23) ∧ (j % 3 = 2 → 0 ≤ t_21_c j ∧ t_21_c j ≤ 29)) (hc_t_23 : ∀ j : Nat, (-2) ≤ t_23_c j ∧ t_23_c j ≤ 11) (hc_t_24 : ∀ j : Nat, 0 ≤ t_24_c j ∧ t_24_c j ≤ 30) (hc_t_25 : ∀ j : Nat, 0 ≤ t_25_c j ∧ t_25_c j ≤ 30) (hc_t_26 : ∀ j : Nat, (-1) ≤ t_26_c j ∧ t_26_c j ≤ 11) (hc_t_27 : ∀ j : Nat, (-1) ≤ t_27_c j ∧ t_27_c j ≤ 29) (hc_t_28 : ∀ j : Nat, 0 ≤ t_28_c j ∧ t_28_c j ≤ 4095) (ti : TI 0 t_17_c t_18_c t_19_c t_20_c t_21_c) (pl : p1 ≤ t_17_c 7) : fn_CV (S := (Nat → Int) × (Nat → Nat → Int)) l D K yX12_lays (fn_ws yX12_lays cX12_lays 5 none) ({ frames := 12, cells := 0, slots := 0, locals := 300 } : Room) [.ref t, .int (iI p1)] [(t, .inr (12, oX12 t_q t_x0 t_x6 t_x7 t_x8 t_x9 t_x10 t_x11 t_x12 t_x13 t_x14 t_x15 t_x32 t_x33 t_x34 t_x35 t_x39 t_x40 t_x43 t_x44 t_x48 t_x49 t_x50)), ((t_q 17), .inl (K 0, 40, .inl (fun j => iI (t_17_c j)))), ((t_q 18), .inl (K 0, 50, .inl (fun j => iI (t_18_c j)))), ((t_q 19), .inl (K 0, 60, .inl (fun j => iI (t_19_c j)))), ((t_q 20), .inl (K 0, 480, .inl (fun j => iI (t_20_c j)))), ((t_q 21), .inl (K 0, 600, .inl (fun j => iI (t_21_c j)))), ((t_q 23), .inl (K 0, 150, .inl (fun j => iI (t_23_c j)))), ((t_q 24), .inl (K 0, 5, .inl (fun j => iI (t_24_c j)))), ((t_q 25), .inl (K 0, 24, .inl (fun j => iI (t_25_c j)))), ((t_q 26), .inl (K 0, 24, .inl (fun j => iI (t_26_c j)))), ((t_q 27), .inl (K 0, 12, .inl (fun j => iI (t_27_c j)))), ((t_q 28), .inl (K 0, 12, .inl (fun j => iI (t_28_c j))))] (fun u => (LI t_17_c t_19_c (u.2 0) (u.2 1) (u.2 3) (u.2 4) (u.2 5)) ∧ (∀ b : Nat, (b : Int) < t_17_c 2 → (u.2 1) b = t_18_c (2 * b) + edc t_21_c 0 b (Int.toNat (p1))) ∧ (∀ j : Nat, (j : Int) < t_17_c 4 → (u.2 2) j ≤ 29) ∧ (∀ j : Nat, (-2) ≤ (u.2 0) j ∧ (u.2 0) j ≤ 11) ∧ (∀ j : Nat, 0 ≤ (u.2 1) j ∧ (u.2 1) j ≤ 30) ∧ (∀ j : Nat, 0 ≤ (u.2 2) j ∧ (u.2 2) j ≤ 30) ∧ (∀ j : Nat, (-1) ≤ (u.2 3) j ∧ (u.2 3) j ≤ 11) ∧ (∀ j : Nat, (-1) ≤ (u.2 4) j ∧ (u.2 4) j ≤ 29) ∧ (∀ j : Nat, 0 ≤ (u.2 5) j ∧ (u.2 5) j ≤ 4095) ∧ True) (fun u => [(t, .inr (12, oX12 t_q t_x0 t_x6 t_x7 t_x8 t_x9 t_x10 t_x11 t_x12 t_x13 t_x14 t_x15 t_x32 t_x33 t_x34 t_x35 t_x39 t_x40 t_x43 t_x44 t_x48 t_x49 t_x50)), ((t_q 17), .inl (K 0, 40, .inl (fun j => iI (t_17_c j)))), ((t_q 18), .inl (K 0, 50, .inl (fun j => iI (t_18_c j)))), ((t_q 19), .inl (K 0, 60, .inl (fun j => iI (t_19_c j)))), ((t_q 20), .inl (K 0, 480, .inl (fun j => iI (t_20_c j)))), ((t_q 21), .inl (K 0, 600, .inl (fun j => iI (t_21_c j)))), ((t_q 23), .inl (K 0, 150, .inl (fun j => iI ((u.2 0) j)))), ((t_q 24), .inl (K 0, 5, .inl (fun j => iI ((u.2 1) j)))), ((t_q 25), .inl (K 0, 24, .inl (fun j => iI ((u.2 2) j)))), ((t_q 26), .inl (K 0, 24, .inl (fun j => iI ((u.2 3) j)))), ((t_q 27), .inl (K 0, 12, .inl (fun j => iI ((u.2 4) j)))), ((t_q 28), .inl (K 0, 12, .inl (fun j => iI ((u.2 5) j))))]) 0 0 := by
  refine g_inV (cc := cX12_lays) (maxL := 5) (ret := none) (by decide) rfl (Nat.le_of_ble_eq_true rfl) ?_
  intro p e s m below meth c A ls ag Q B hA hP hD hS hl hQ
  obtain ⟨hx, hb, hr, hml, hts, hown, hlocks, hin, hK⟩ := B
  have hown : s.vm.findClass RX12 = some m.cls := hown
  have hts := fun w h => hts w (List.mem_cons_of_mem _ h)
  have hB := HB_of (nt := t_20_c) hc_t_17 hc_t_18 hc_t_21
  have hs2 := (hc_t_17 2).2.2.1 (by omega)
  have hs3 := (hc_t_17 3).2.2.2.1 (by omega)
  have hs4 := (hc_t_17 4).2.2.2.2.1 (by omega)
  have hs7 := (hc_t_17 7).2.2.2.2.2.2.2 (by omega)
  have J106 : ∀ (n : Nat) (x106_2 : Int) (x106_3 : Int) (c106_t_23 : Nat → Int) (c106_t_24 : Nat → Int) (c106_t_25 : Nat → Int) (H : Heap) (locs : List Loc) (ls : Array Slot), (40 - x106_3).toNat < n → (0 ≤ x106_2 ∧ x106_2 ≤ 12 ∧ 0 ≤ x106_3 ∧ x106_3 ≤ 40 ∧ x106_3 ≤ p1) → (LA (t_17_c 2) (t_17_c 3) c106_t_23 c106_t_24 t_19_c) → (∀ b : Nat, (b : Int) < t_17_c 2 → c106_t_24 b = t_18_c (2 * b) + edc t_21_c 0 b (Int.toNat (x106_3))) → (∀ j : Nat, (j : Int) < t_17_c 4 → c106_t_25 j ≤ 29) → (∀ j : Nat, (-2) ≤ c106_t_23 j ∧ c106_t_23 j ≤ 11) → (∀ j : Nat, 0 ≤ c106_t_24 j ∧ c106_t_24 j ≤ 30) → (∀ j : Nat, 0 ≤ c106_t_25 j ∧ c106_t_25 j ≤ 30) → va_P D vwCl [(t, .inr (12, oX12 t_q t_x0 t_x6 t_x7 t_x8 t_x9 t_x10 t_x11 t_x12 t_x13 t_x14 t_x15 t_x32 t_x33 t_x34 t_x35 t_x39 t_x40 t_x43 t_x44 t_x48 t_x49 t_x50)), ((t_q 17), .inl (K 0, 40, .inl (fun j => iI (t_17_c j)))), ((t_q 18), .inl (K 0, 50, .inl (fun j => iI (t_18_c j)))), ((t_q 19), .inl (K 0, 60, .inl (fun j => iI (t_19_c j)))), ((t_q 20), .inl (K 0, 480, .inl (fun j => iI (t_20_c j)))), ((t_q 21), .inl (K 0, 600, .inl (fun j => iI (t_21_c j)))), ((t_q 23), .inl (K 0, 150, .inl (fun j => iI (c106_t_23 j)))), ((t_q 24), .inl (K 0, 5, .inl (fun j => iI (c106_t_24 j)))), ((t_q 25), .inl (K 0, 24, .inl (fun j => iI (c106_t_25 j)))), ((t_q 26), .inl (K 0, 24, .inl (fun j => iI (t_26_c j)))), ((t_q 27), .inl (K 0, 12, .inl (fun j => iI (t_27_c j)))), ((t_q 28), .inl (K 0, 12, .inl (fun j => iI (t_28_c j))))] H → va_D A [(t, .inr (12, oX12 t_q t_x0 t_x6 t_x7 t_x8 t_x9 t_x10 t_x11 t_x12 t_x13 t_x14 t_x15 t_x32 t_x33 t_x34 t_x35 t_x39 t_x40 t_x43 t_x44 t_x48 t_x49 t_x50)), ((t_q 17), .inl (K 0, 40, .inl (fun j => iI (t_17_c j)))), ((t_q 18), .inl (K 0, 50, .inl (fun j => iI (t_18_c j)))), ((t_q 19), .inl (K 0, 60, .inl (fun j => iI (t_19_c j)))), ((t_q 20), .inl (K 0, 480, .inl (fun j => iI (t_20_c j)))), ((t_q 21), .inl (K 0, 600, .inl (fun j => iI (t_21_c j)))), ((t_q 23), .inl (K 0, 150, .inl (fun j => iI (c106_t_23 j)))), ((t_q 24), .inl (K 0, 5, .inl (fun j => iI (c106_t_24 j)))), ((t_q 25), .inl (K 0, 24, .inl (fun j => iI (c106_t_25 j)))), ((t_q 26), .inl (K 0, 24, .inl (fun j => iI (t_26_c j)))), ((t_q 27), .inl (K 0, 12, .inl (fun j => iI (t_27_c j)))), ((t_q 28), .inl (K 0, 12, .inl (fun j => iI (t_28_c j))))] → va_S A s.heap H locs → lv_has ls 5 [(0, .ref t), (1, .int (iI p1)), (2, .int (iI x106_2)), (3, .int (iI x106_3))] → W p l e ({ frames := 12, cells := 0, slots := 0, locals := 300 } : Room) s m ag below meth c H locs 0 0 Q (F0 m 106 ls []) := by
    intro n
    induction n with
    | zero =>
      intro x106_2 x106_3 c106_t_23 c106_t_24 c106_t_25 H locs ls hm106 hf106 la mn sy hc106_t_23 hc106_t_24 hc106_t_25 hP hD hS hl
      exact absurd hm106 (Nat.not_lt_zero _)
    | succ n ih106 =>
      intro x106_2 x106_3 c106_t_23 c106_t_24 c106_t_25 H locs ls hm106 hf106 la mn sy hc106_t_23 hc106_t_24 hc106_t_25 hP hD hS hl
      refine lv_iload_n hx hb dX12_lays_106 rfl (lv_at hl 3 rfl) ?_
      refine lv_iload_n hx hb dX12_lays_107 rfl (lv_at hl 1 rfl) ?_
      refine g_icmp_ge (tgt := 149) hx hb (by omega) (by omega) dX12_lays_108 (by decide) (fun c108 => ?_) (fun c108 => ?_)
      · refine lv_aload_n hx hb dX12_lays_149 rfl (lv_at hl 0 rfl) ?_
        refine fn_gov (wc := [(t, .inr (12, oX12 t_q t_x0 t_x6 t_x7 t_x8 t_x9 t_x10 t_x11 t_x12 t_x13 t_x14 t_x15 t_x32 t_x33 t_x34 t_x35 t_x39 t_x40 t_x43 t_x44 t_x48 t_x49 t_x50)), ((t_q 17), .inl (K 0, 40, .inl (fun j => iI (t_17_c j)))), ((t_q 18), .inl (K 0, 50, .inl (fun j => iI (t_18_c j)))), ((t_q 19), .inl (K 0, 60, .inl (fun j => iI (t_19_c j)))), ((t_q 20), .inl (K 0, 480, .inl (fun j => iI (t_20_c j)))), ((t_q 21), .inl (K 0, 600, .inl (fun j => iI (t_21_c j)))), ((t_q 23), .inl (K 0, 150, .inl (fun j => iI (c106_t_23 j)))), ((t_q 24), .inl (K 0, 5, .inl (fun j => iI (c106_t_24 j)))), ((t_q 25), .inl (K 0, 24, .inl (fun j => iI (c106_t_25 j)))), ((t_q 26), .inl (K 0, 24, .inl (fun j => iI (t_26_c j)))), ((t_q 27), .inl (K 0, 12, .inl (fun j => iI (t_27_c j)))), ((t_q 28), .inl (K 0, 12, .inl (fun j => iI (t_28_c j))))]) (wr := []) hK hP hD hS hA [0, 1, 2, 3, 4, 5, 6, 7, 8, 9, 10, 11] [] rfl rfl (by decide) (fun hp => va_runV (C := RX12) (As := []) (rest := []) ⟨hx, hb, hml, hown, hts⟩ (k_X12_laysLeads (l := l) (D := D) (K := K) (t := t) (t_q := t_q) (t_x0 := t_x0) (t_x6 := t_x6) (t_x7 := t_x7) (t_x8 := t_x8) (t_x9 := t_x9) (t_x10 := t_x10) (t_x11 := t_x11) (t_x12 := t_x12) (t_x13 := t_x13) (t_x14 := t_x14) (t_x15 := t_x15) (t_x32 := t_x32) (t_x33 := t_x33) (t_x34 := t_x34) (t_x35 := t_x35) (t_x39 := t_x39) (t_x40 := t_x40) (t_x43 := t_x43) (t_x44 := t_x44) (t_x48 := t_x48) (t_x49 := t_x49) (t_x50 := t_x50) (t_17_c := t_17_c) (t_18_c := t_18_c) (t_19_c := t_19_c) (t_20_c := t_20_c) (t_21_c := t_21_c) (t_23_c := c106_t_23) (t_24_c := c106_t_24) (t_25_c := c106_t_25) (t_26_c := t_26_c) (t_27_c := t_27_c) (t_28_c := t_28_c) (hi_t := hi_t) (hc_t_17 := hc_t_17) (hc_t_18 := hc_t_18) (hc_t_19 := hc_t_19) (hc_t_20 := hc_t_20) (hc_t_21 := hc_t_21) (hc_t_23 := hc106_t_23) (hc_t_24 := hc106_t_24) (hc_t_25 := hc106_t_25) (hc_t_26 := hc_t_26) (hc_t_27 := hc_t_27) (hc_t_28 := hc_t_28) (ti := (show TI 0 t_17_c t_18_c t_19_c t_20_c t_21_c from by assumption)) (la := (show LA (t_17_c 2) (t_17_c 3) c106_t_23 c106_t_24 t_19_c from by assumption)) _) (cwV 0 hts (fn_ginV (fn_gin wd_1559) wd_1556 wd_1558 wp_120 wd_13) rfl rfl rfl (by decide +kernel) ⟨Nat.le_of_ble_eq_true rfl, Nat.le_of_ble_eq_true rfl⟩) ⟨fn_blind, va_recv hK.1 hP (ci := 12) (q0 := 0) rfl rfl, hp⟩ rfl rfl hl.1 rfl (lv_room (Nat.le_of_ble_eq_true rfl)) dX12_lays_150 ⟨Nat.le_of_ble_eq_true rfl, Nat.le_of_ble_eq_true rfl⟩) (fun u150 H locs hwu150 hP hD hS => ?_)
        obtain ⟨u150a, u150b⟩ := u150
        obtain ⟨hqu150_li0, hu150_00, hu150_10, hu150_20, -⟩ := hwu150
        have hqu150_li : LI t_17_c t_19_c c106_t_23 c106_t_24 (u150b 0) (u150b 1) (u150b 2) := hqu150_li0
        have hu150_0 : ∀ j : Nat, (-1) ≤ (u150b 0) j ∧ (u150b 0) j ≤ 11 := hu150_00
        have hu150_1 : ∀ j : Nat, (-1) ≤ (u150b 1) j ∧ (u150b 1) j ≤ 29 := hu150_10
        have hu150_2 : ∀ j : Nat, 0 ≤ (u150b 2) j ∧ (u150b 2) j ≤ 4095 := hu150_20
        clear hqu150_li0 hu150_00 hu150_10 hu150_20
        have hP : va_P D vwCl [(t, .inr (12, oX12 t_q t_x0 t_x6 t_x7 t_x8 t_x9 t_x10 t_x11 t_x12 t_x13 t_x14 t_x15 t_x32 t_x33 t_x34 t_x35 t_x39 t_x40 t_x43 t_x44 t_x48 t_x49 t_x50)), ((t_q 17), .inl (K 0, 40, .inl (fun j => iI (t_17_c j)))), ((t_q 18), .inl (K 0, 50, .inl (fun j => iI (t_18_c j)))), ((t_q 19), .inl (K 0, 60, .inl (fun j => iI (t_19_c j)))), ((t_q 20), .inl (K 0, 480, .inl (fun j => iI (t_20_c j)))), ((t_q 21), .inl (K 0, 600, .inl (fun j => iI (t_21_c j)))), ((t_q 23), .inl (K 0, 150, .inl (fun j => iI (c106_t_23 j)))), ((t_q 24), .inl (K 0, 5, .inl (fun j => iI (c106_t_24 j)))), ((t_q 25), .inl (K 0, 24, .inl (fun j => iI (c106_t_25 j)))), ((t_q 26), .inl (K 0, 24, .inl (fun j => iI ((u150b 0) j)))), ((t_q 27), .inl (K 0, 12, .inl (fun j => iI ((u150b 1) j)))), ((t_q 28), .inl (K 0, 12, .inl (fun j => iI ((u150b 2) j))))] H := hP
        have hD : va_D A [(t, .inr (12, oX12 t_q t_x0 t_x6 t_x7 t_x8 t_x9 t_x10 t_x11 t_x12 t_x13 t_x14 t_x15 t_x32 t_x33 t_x34 t_x35 t_x39 t_x40 t_x43 t_x44 t_x48 t_x49 t_x50)), ((t_q 17), .inl (K 0, 40, .inl (fun j => iI (t_17_c j)))), ((t_q 18), .inl (K 0, 50, .inl (fun j => iI (t_18_c j)))), ((t_q 19), .inl (K 0, 60, .inl (fun j => iI (t_19_c j)))), ((t_q 20), .inl (K 0, 480, .inl (fun j => iI (t_20_c j)))), ((t_q 21), .inl (K 0, 600, .inl (fun j => iI (t_21_c j)))), ((t_q 23), .inl (K 0, 150, .inl (fun j => iI (c106_t_23 j)))), ((t_q 24), .inl (K 0, 5, .inl (fun j => iI (c106_t_24 j)))), ((t_q 25), .inl (K 0, 24, .inl (fun j => iI (c106_t_25 j)))), ((t_q 26), .inl (K 0, 24, .inl (fun j => iI ((u150b 0) j)))), ((t_q 27), .inl (K 0, 12, .inl (fun j => iI ((u150b 1) j)))), ((t_q 28), .inl (K 0, 12, .inl (fun j => iI ((u150b 2) j))))] := hD
        rw [hQ]; exact fn_vret hx hb hr hlocks hP hD hS ((fun _ => 0), (fun k => ([c106_t_23, c106_t_24, c106_t_25, (u150b 0), (u150b 1), (u150b 2)] : List (Nat → Int)).getD k (fun _ => 0))) ⟨(show LI t_17_c t_19_c c106_t_23 c106_t_24 (u150b 0) (u150b 1) (u150b 2) from by assumption), (show ∀ b : Nat, (b : Int) < t_17_c 2 → c106_t_24 b = t_18_c (2 * b) + edc t_21_c 0 b (Int.toNat (p1)) from fun b hb => by have e9 : x106_3 = p1 := (by omega); rw [← e9]; exact mn b hb), (show ∀ j : Nat, (j : Int) < t_17_c 4 → c106_t_25 j ≤ 29 from by assumption), (hc106_t_23), (hc106_t_24), (hc106_t_25), (hu150_0), (hu150_1), (hu150_2), trivial⟩ [0, 1, 2, 3, 4, 5, 6, 7, 8, 9, 10, 11] (by decide) rfl dX12_lays_153
      · refine lv_aload_n hx hb dX12_lays_111 rfl (lv_at hl 0 rfl) ?_
        refine lv_aload_n hx hb dX12_lays_112 rfl (lv_at hl 0 rfl) ?_
        refine va_get (D := D) (own := RX12) (ci := 12) (v := .ref (t_q 21)) (C := RX12) (T := TX12) (N := 51) hx hb hts inb_X12 hown hK.1 hP 0 rfl rfl 21 (by decide) (hts _ wd_1255) (fun _ h9 => h9) rfl dX12_lays_113 ?_
        refine lv_iconst (v := iI 3) hx hb dX12_lays_116 rfl ?_
        refine lv_iload_n hx hb dX12_lays_117 rfl (lv_at hl 3 rfl) ?_
        refine g_imul hx hb dX12_lays_118 ?_
        refine g_iald hx hb hK.1 hP 5 0 rfl rfl (by omega) (by omega) (by decide) dX12_lays_119 ?_
        have y119 : 0 ≤ (t_21_c ((3 * x106_3).toNat)) ∧ (t_21_c ((3 * x106_3).toNat)) ≤ 2 := (hc_t_21 ((3 * x106_3).toNat)).1 (by omega)
        refine lv_aload_n hx hb dX12_lays_120 rfl (lv_at hl 0 rfl) ?_
        refine va_get (D := D) (own := RX12) (ci := 12) (v := .ref (t_q 21)) (C := RX12) (T := TX12) (N := 51) hx hb hts inb_X12 hown hK.1 hP 0 rfl rfl 21 (by decide) (hts _ wd_1255) (fun _ h9 => h9) rfl dX12_lays_121 ?_
        refine lv_iconst (v := iI 3) hx hb dX12_lays_124 rfl ?_
        refine lv_iload_n hx hb dX12_lays_125 rfl (lv_at hl 3 rfl) ?_
        refine g_imul hx hb dX12_lays_126 ?_
        refine lv_iconst (v := iI 1) hx hb dX12_lays_127 rfl ?_
        refine g_iadd hx hb dX12_lays_128 ?_
        refine g_iald hx hb hK.1 hP 5 0 rfl rfl (by omega) (by omega) (by decide) dX12_lays_129 ?_
        have y129 : 0 ≤ (t_21_c ((3 * x106_3 + 1).toNat)) ∧ (t_21_c ((3 * x106_3 + 1).toNat)) ≤ 23 := (hc_t_21 ((3 * x106_3 + 1).toNat)).2.1 (by omega)
        refine lv_aload_n hx hb dX12_lays_130 rfl (lv_at hl 0 rfl) ?_
        refine fn_at 131 rfl ?_
        refine va_get (D := D) (own := RX12) (ci := 12) (v := .ref (t_q 21)) (C := RX12) (T := TX12) (N := 51) hx hb hts inb_X12 hown hK.1 hP 0 rfl rfl 21 (by decide) (hts _ wd_1255) (fun _ h9 => h9) rfl dX12_lays_131 ?_
        refine lv_iconst (v := iI 3) hx hb dX12_lays_134 rfl ?_
        refine lv_iload_n hx hb dX12_lays_135 rfl (lv_at hl 3 rfl) ?_
        refine g_imul hx hb dX12_lays_136 ?_
        refine lv_iconst (v := iI 2) hx hb dX12_lays_137 rfl ?_
        refine g_iadd hx hb dX12_lays_138 ?_
        refine g_iald hx hb hK.1 hP 5 0 rfl rfl (by omega) (by omega) (by decide) dX12_lays_139 ?_
        have y139 : 0 ≤ (t_21_c ((3 * x106_3 + 2).toNat)) ∧ (t_21_c ((3 * x106_3 + 2).toNat)) ≤ 29 := (hc_t_21 ((3 * x106_3 + 2).toNat)).2.2 (by omega)
        have z140 := TI_act ti (k := x106_3) (by omega) (by omega) (by omega) (by omega) mn
        refine fn_gov (wc := [(t, .inr (12, oX12 t_q t_x0 t_x6 t_x7 t_x8 t_x9 t_x10 t_x11 t_x12 t_x13 t_x14 t_x15 t_x32 t_x33 t_x34 t_x35 t_x39 t_x40 t_x43 t_x44 t_x48 t_x49 t_x50)), ((t_q 23), .inl (K 0, 150, .inl (fun j => iI (c106_t_23 j)))), ((t_q 24), .inl (K 0, 5, .inl (fun j => iI (c106_t_24 j)))), ((t_q 25), .inl (K 0, 24, .inl (fun j => iI (c106_t_25 j))))]) (wr := [((t_q 17), .inl (K 0, 40, .inl (fun j => iI (t_17_c j)))), ((t_q 18), .inl (K 0, 50, .inl (fun j => iI (t_18_c j)))), ((t_q 19), .inl (K 0, 60, .inl (fun j => iI (t_19_c j)))), ((t_q 20), .inl (K 0, 480, .inl (fun j => iI (t_20_c j)))), ((t_q 21), .inl (K 0, 600, .inl (fun j => iI (t_21_c j)))), ((t_q 26), .inl (K 0, 24, .inl (fun j => iI (t_26_c j)))), ((t_q 27), .inl (K 0, 12, .inl (fun j => iI (t_27_c j)))), ((t_q 28), .inl (K 0, 12, .inl (fun j => iI (t_28_c j))))]) hK hP hD hS hA [0, 6, 7, 8] [1, 2, 3, 4, 5, 9, 10, 11] rfl rfl (by decide) (fun hp => va_runV (C := RX12) (As := [.int (iI (t_21_c ((3 * x106_3).toNat))), .int (iI (t_21_c ((3 * x106_3 + 1).toNat))), .int (iI (t_21_c ((3 * x106_3 + 2).toNat)))]) (rest := []) ⟨hx, hb, hml, hown, hts⟩ (k_X12_does (l := l) (D := D) (K := K) (t := t) (p1 := (t_21_c ((3 * x106_3).toNat))) (p2 := (t_21_c ((3 * x106_3 + 1).toNat))) (p3 := (t_21_c ((3 * x106_3 + 2).toNat))) (t_q := t_q) (t_x0 := t_x0) (t_x6 := t_x6) (t_x7 := t_x7) (t_x8 := t_x8) (t_x9 := t_x9) (t_x10 := t_x10) (t_x11 := t_x11) (t_x12 := t_x12) (t_x13 := t_x13) (t_x14 := t_x14) (t_x15 := t_x15) (t_x32 := t_x32) (t_x33 := t_x33) (t_x34 := t_x34) (t_x35 := t_x35) (t_x39 := t_x39) (t_x40 := t_x40) (t_x43 := t_x43) (t_x44 := t_x44) (t_x48 := t_x48) (t_x49 := t_x49) (t_x50 := t_x50) (t_23_c := c106_t_23) (t_24_c := c106_t_24) (t_25_c := c106_t_25) (N := (t_17_c 2)) (P := (t_17_c 3)) (bo := t_19_c) (hp1 := (by omega)) (hp2 := (by omega)) (hp3 := (by omega)) (hi_t := hi_t) (hc_t_23 := hc106_t_23) (hc_t_24 := hc106_t_24) (hc_t_25 := hc106_t_25) (la := (show LA (t_17_c 2) (t_17_c 3) c106_t_23 c106_t_24 t_19_c from by assumption)) (dp := (show (t_21_c ((3 * x106_3).toNat)) = 2 ∨ ((t_21_c ((3 * x106_3 + 1).toNat)) ≤ 4 ∧ ((t_21_c ((3 * x106_3).toNat)) = 1 ∨ (c106_t_24 (Int.toNat (t_21_c ((3 * x106_3 + 1).toNat))) ≤ 29 ∧ (t_21_c ((3 * x106_3 + 2).toNat)) ≤ c106_t_24 (Int.toNat (t_21_c ((3 * x106_3 + 1).toNat)))))) from by omega)) _) (cwV 3 hts (fn_ginV (fn_gin wd_1555) wd_1552 wd_1554 wp_119 wd_13) rfl rfl rfl (by decide +kernel) ⟨Nat.le_of_ble_eq_true rfl, Nat.le_of_ble_eq_true rfl⟩) ⟨fn_blind, va_recv hK.1 hP (ci := 12) (q0 := 0) rfl rfl, hp⟩ rfl rfl hl.1 rfl (lv_room (Nat.le_of_ble_eq_true rfl)) dX12_lays_140 ⟨Nat.le_of_ble_eq_true rfl, Nat.le_of_ble_eq_true rfl⟩) (fun u140 H locs hwu140 hP hD hS => ?_)
        obtain ⟨u140a, u140b⟩ := u140
        obtain ⟨hqu140_la0, hqu140_mn0, hqu140_sy0, hu140_00, hu140_10, hu140_20, -⟩ := hwu140
        have hqu140_la : LA (t_17_c 2) (t_17_c 3) (u140b 0) (u140b 1) t_19_c := hqu140_la0
        have hqu140_mn : ∀ b : Nat, (u140b 1) b = c106_t_24 b + (if (t_21_c ((3 * x106_3).toNat)) ≠ 1 ∧ (t_21_c ((3 * x106_3).toNat)) ≠ 2 ∧ (t_21_c ((3 * x106_3 + 1).toNat)) = (b : Int) then 1 else 0) := hqu140_mn0
        have hqu140_sy : ∀ j : Nat, (u140b 2) j = c106_t_25 j ∨ (u140b 2) j ≤ 29 := hqu140_sy0
        have hu140_0 : ∀ j : Nat, (-2) ≤ (u140b 0) j ∧ (u140b 0) j ≤ 11 := hu140_00
        have hu140_1 : ∀ j : Nat, 0 ≤ (u140b 1) j ∧ (u140b 1) j ≤ 30 := hu140_10
        have hu140_2 : ∀ j : Nat, 0 ≤ (u140b 2) j ∧ (u140b 2) j ≤ 30 := hu140_20
        clear hqu140_la0 hqu140_mn0 hqu140_sy0 hu140_00 hu140_10 hu140_20
        have hP : va_P D vwCl [((t_q 17), .inl (K 0, 40, .inl (fun j => iI (t_17_c j)))), ((t_q 18), .inl (K 0, 50, .inl (fun j => iI (t_18_c j)))), ((t_q 19), .inl (K 0, 60, .inl (fun j => iI (t_19_c j)))), ((t_q 20), .inl (K 0, 480, .inl (fun j => iI (t_20_c j)))), ((t_q 21), .inl (K 0, 600, .inl (fun j => iI (t_21_c j)))), ((t_q 26), .inl (K 0, 24, .inl (fun j => iI (t_26_c j)))), ((t_q 27), .inl (K 0, 12, .inl (fun j => iI (t_27_c j)))), ((t_q 28), .inl (K 0, 12, .inl (fun j => iI (t_28_c j)))), (t, .inr (12, oX12 t_q t_x0 t_x6 t_x7 t_x8 t_x9 t_x10 t_x11 t_x12 t_x13 t_x14 t_x15 t_x32 t_x33 t_x34 t_x35 t_x39 t_x40 t_x43 t_x44 t_x48 t_x49 t_x50)), ((t_q 23), .inl (K 0, 150, .inl (fun j => iI ((u140b 0) j)))), ((t_q 24), .inl (K 0, 5, .inl (fun j => iI ((u140b 1) j)))), ((t_q 25), .inl (K 0, 24, .inl (fun j => iI ((u140b 2) j))))] H := hP
        have hD : va_D A [((t_q 17), .inl (K 0, 40, .inl (fun j => iI (t_17_c j)))), ((t_q 18), .inl (K 0, 50, .inl (fun j => iI (t_18_c j)))), ((t_q 19), .inl (K 0, 60, .inl (fun j => iI (t_19_c j)))), ((t_q 20), .inl (K 0, 480, .inl (fun j => iI (t_20_c j)))), ((t_q 21), .inl (K 0, 600, .inl (fun j => iI (t_21_c j)))), ((t_q 26), .inl (K 0, 24, .inl (fun j => iI (t_26_c j)))), ((t_q 27), .inl (K 0, 12, .inl (fun j => iI (t_27_c j)))), ((t_q 28), .inl (K 0, 12, .inl (fun j => iI (t_28_c j)))), (t, .inr (12, oX12 t_q t_x0 t_x6 t_x7 t_x8 t_x9 t_x10 t_x11 t_x12 t_x13 t_x14 t_x15 t_x32 t_x33 t_x34 t_x35 t_x39 t_x40 t_x43 t_x44 t_x48 t_x49 t_x50)), ((t_q 23), .inl (K 0, 150, .inl (fun j => iI ((u140b 0) j)))), ((t_q 24), .inl (K 0, 5, .inl (fun j => iI ((u140b 1) j)))), ((t_q 25), .inl (K 0, 24, .inl (fun j => iI ((u140b 2) j))))] := hD
        refine lv_iinc (v := iI (x106_3 + 1)) (lv' := [(3, .int (iI (x106_3 + 1))), (0, .ref t), (1, .int (iI p1)), (2, .int (iI x106_2))]) hx hb dX12_lays_143 hl (k := 3) rfl (iI_add _ _) (by decide) rfl (fun ls hl => ?_)
        refine lv_goto (tgt := 106) hx hb dX12_lays_146 (by decide) ?_
        exact ih106 x106_2 (x106_3 + 1) (u140b 0) (u140b 1) (u140b 2) _ _ ls (by omega) (by omega) (show LA (t_17_c 2) (t_17_c 3) (u140b 0) (u140b 1) t_19_c from by assumption) (show ∀ b : Nat, (b : Int) < t_17_c 2 → (u140b 1) b = t_18_c (2 * b) + edc t_21_c 0 b (Int.toNat ((x106_3 + 1))) from fun b hb => by rw [hqu140_mn b, mn b hb, edc_s (by omega)]; exact Int.add_assoc _ _ _) (show ∀ j : Nat, (j : Int) < t_17_c 4 → (u140b 2) j ≤ 29 from fun j hj => (hqu140_sy j).elim (fun h9 => by rw [h9]; exact sy j hj) id) hu140_0 hu140_1 hu140_2 (hP.sub [8, 0, 1, 2, 3, 4, 9, 10, 11, 5, 6, 7] rfl) (hD.sub [8, 0, 1, 2, 3, 4, 9, 10, 11, 5, 6, 7] (by decide) rfl) hS (lv_sub hl [1, 2, 3, 0] rfl)
  have J72 : ∀ (n : Nat) (x72_2 : Int) (x72_3 : Int) (c72_t_23 : Nat → Int) (c72_t_24 : Nat → Int) (c72_t_25 : Nat → Int) (H : Heap) (locs : List Loc) (ls : Array Slot), (24 - x72_3).toNat < n → (0 ≤ x72_2 ∧ x72_2 ≤ 12 ∧ 0 ≤ x72_3 ∧ x72_3 ≤ 24 ∧ x72_3 ≤ t_17_c 4) → (LA (t_17_c 2) (t_17_c 3) c72_t_23 c72_t_24 t_19_c) → (∀ b : Nat, (b : Int) < t_17_c 2 → c72_t_24 b = t_18_c (2 * b)) → (∀ j : Nat, (j : Int) < x72_3 → c72_t_25 j ≤ 29) → (∀ j : Nat, (-2) ≤ c72_t_23 j ∧ c72_t_23 j ≤ 11) → (∀ j : Nat, 0 ≤ c72_t_24 j ∧ c72_t_24 j ≤ 30) → (∀ j : Nat, 0 ≤ c72_t_25 j ∧ c72_t_25 j ≤ 30) → va_P D vwCl [(t, .inr (12, oX12 t_q t_x0 t_x6 t_x7 t_x8 t_x9 t_x10 t_x11 t_x12 t_x13 t_x14 t_x15 t_x32 t_x33 t_x34 t_x35 t_x39 t_x40 t_x43 t_x44 t_x48 t_x49 t_x50)), ((t_q 17), .inl (K 0, 40, .inl (fun j => iI (t_17_c j)))), ((t_q 18), .inl (K 0, 50, .inl (fun j => iI (t_18_c j)))), ((t_q 19), .inl (K 0, 60, .inl (fun j => iI (t_19_c j)))), ((t_q 20), .inl (K 0, 480, .inl (fun j => iI (t_20_c j)))), ((t_q 21), .inl (K 0, 600, .inl (fun j => iI (t_21_c j)))), ((t_q 23), .inl (K 0, 150, .inl (fun j => iI (c72_t_23 j)))), ((t_q 24), .inl (K 0, 5, .inl (fun j => iI (c72_t_24 j)))), ((t_q 25), .inl (K 0, 24, .inl (fun j => iI (c72_t_25 j)))), ((t_q 26), .inl (K 0, 24, .inl (fun j => iI (t_26_c j)))), ((t_q 27), .inl (K 0, 12, .inl (fun j => iI (t_27_c j)))), ((t_q 28), .inl (K 0, 12, .inl (fun j => iI (t_28_c j))))] H → va_D A [(t, .inr (12, oX12 t_q t_x0 t_x6 t_x7 t_x8 t_x9 t_x10 t_x11 t_x12 t_x13 t_x14 t_x15 t_x32 t_x33 t_x34 t_x35 t_x39 t_x40 t_x43 t_x44 t_x48 t_x49 t_x50)), ((t_q 17), .inl (K 0, 40, .inl (fun j => iI (t_17_c j)))), ((t_q 18), .inl (K 0, 50, .inl (fun j => iI (t_18_c j)))), ((t_q 19), .inl (K 0, 60, .inl (fun j => iI (t_19_c j)))), ((t_q 20), .inl (K 0, 480, .inl (fun j => iI (t_20_c j)))), ((t_q 21), .inl (K 0, 600, .inl (fun j => iI (t_21_c j)))), ((t_q 23), .inl (K 0, 150, .inl (fun j => iI (c72_t_23 j)))), ((t_q 24), .inl (K 0, 5, .inl (fun j => iI (c72_t_24 j)))), ((t_q 25), .inl (K 0, 24, .inl (fun j => iI (c72_t_25 j)))), ((t_q 26), .inl (K 0, 24, .inl (fun j => iI (t_26_c j)))), ((t_q 27), .inl (K 0, 12, .inl (fun j => iI (t_27_c j)))), ((t_q 28), .inl (K 0, 12, .inl (fun j => iI (t_28_c j))))] → va_S A s.heap H locs → lv_has ls 5 [(0, .ref t), (1, .int (iI p1)), (2, .int (iI x72_2)), (3, .int (iI x72_3))] → W p l e ({ frames := 12, cells := 0, slots := 0, locals := 300 } : Room) s m ag below meth c H locs 0 0 Q (F0 m 72 ls []) := by
    intro n
    induction n with
    | zero =>
      intro x72_2 x72_3 c72_t_23 c72_t_24 c72_t_25 H locs ls hm72 hf72 la mn sy hc72_t_23 hc72_t_24 hc72_t_25 hP hD hS hl
      exact absurd hm72 (Nat.not_lt_zero _)
    | succ n ih72 =>
      intro x72_2 x72_3 c72_t_23 c72_t_24 c72_t_25 H locs ls hm72 hf72 la mn sy hc72_t_23 hc72_t_24 hc72_t_25 hP hD hS hl
      refine lv_iload_n hx hb dX12_lays_72 rfl (lv_at hl 3 rfl) ?_
      refine lv_aload_n hx hb dX12_lays_73 rfl (lv_at hl 0 rfl) ?_
      refine va_get (D := D) (own := RX12) (ci := 12) (v := .ref (t_q 17)) (C := RX12) (T := TX12) (N := 51) hx hb hts inb_X12 hown hK.1 hP 0 rfl rfl 17 (by decide) (hts _ wd_1251) (fun _ h9 => h9) rfl dX12_lays_74 ?_
      refine lv_iconst (v := iI 4) hx hb dX12_lays_77 rfl ?_
      refine g_iald hx hb hK.1 hP 1 0 rfl rfl (by omega) (by omega) (by decide) dX12_lays_78 ?_
      refine fn_top (iI (t_17_c 4)) rfl ?_
      have y78 : 0 ≤ (t_17_c 4) ∧ (t_17_c 4) ≤ 24 := (hc_t_17 4).2.2.2.2.1 (by omega)
      refine g_icmp_ge (tgt := 104) hx hb (by omega) (by omega) dX12_lays_79 (by decide) (fun c79 => ?_) (fun c79 => ?_)
      · refine lv_iconst (v := iI 0) hx hb dX12_lays_104 rfl ?_
        refine lv_istore_n (lv' := [(3, .int (iI 0)), (0, .ref t), (1, .int (iI p1)), (2, .int (iI x72_2))]) hx hb dX12_lays_105 rfl hl (by decide) rfl (fun ls hl => ?_)
        exact J106 _ x72_2 0 c72_t_23 c72_t_24 c72_t_25 _ _ ls (Nat.lt_succ_self _) (by omega) (show LA (t_17_c 2) (t_17_c 3) c72_t_23 c72_t_24 t_19_c from by assumption) (show ∀ b : Nat, (b : Int) < t_17_c 2 → c72_t_24 b = t_18_c (2 * b) + edc t_21_c 0 b (Int.toNat ((0 : Int))) from fun b hb => by rw [mn b hb]; exact (Int.add_zero _).symm) (show ∀ j : Nat, (j : Int) < t_17_c 4 → c72_t_25 j ≤ 29 from fun j hj => sy j (by omega)) hc72_t_23 hc72_t_24 hc72_t_25 (hP.sub [0, 1, 2, 3, 4, 5, 6, 7, 8, 9, 10, 11] rfl) (hD.sub [0, 1, 2, 3, 4, 5, 6, 7, 8, 9, 10, 11] (by decide) rfl) hS (lv_sub hl [1, 2, 3, 0] rfl)
      · refine lv_aload_n hx hb dX12_lays_82 rfl (lv_at hl 0 rfl) ?_
        refine va_get (D := D) (own := RX12) (ci := 12) (v := .ref (t_q 25)) (C := RX12) (T := TX12) (N := 51) hx hb hts inb_X12 hown hK.1 hP 0 rfl rfl 25 (by decide) (hts _ wd_1259) (fun _ h9 => h9) rfl dX12_lays_83 ?_
        refine lv_iload_n hx hb dX12_lays_86 rfl (lv_at hl 3 rfl) ?_
        refine lv_aload_n hx hb dX12_lays_87 rfl (lv_at hl 0 rfl) ?_
        refine va_get (D := D) (own := RX12) (ci := 12) (v := .ref (t_q 20)) (C := RX12) (T := TX12) (N := 51) hx hb hts inb_X12 hown hK.1 hP 0 rfl rfl 20 (by decide) (hts _ wd_1254) (fun _ h9 => h9) rfl dX12_lays_88 ?_
        refine lv_iconst (v := iI 4) hx hb dX12_lays_91 rfl ?_
        refine lv_iload_n hx hb dX12_lays_92 rfl (lv_at hl 3 rfl) ?_
        refine g_imul hx hb dX12_lays_93 ?_
        refine lv_iconst (v := iI 2) hx hb dX12_lays_94 rfl ?_
        refine g_iadd hx hb dX12_lays_95 ?_
        refine g_iald hx hb hK.1 hP 4 0 rfl rfl (by omega) (by omega) (by decide) dX12_lays_96 ?_
        have y96 : 0 ≤ (t_20_c ((4 * x72_3 + 2).toNat)) ∧ (t_20_c ((4 * x72_3 + 2).toNat)) ≤ 29 := (hc_t_20 ((4 * x72_3 + 2).toNat)).2.2.1 (by omega)
        refine g_iast hx hb hK.1 hP hD hS 8 0 rfl rfl (by omega) (by omega) (by decide) dX12_lays_97 (fun H locs g97 eg97 hP hD hS => ?_)
        have hg97 : ∀ j : Nat, 0 ≤ g97 j ∧ g97 j ≤ 30 := by rw [eg97]; exact uI_all hc72_t_25 (by omega)
        have hP : va_P D vwCl [(t, .inr (12, oX12 t_q t_x0 t_x6 t_x7 t_x8 t_x9 t_x10 t_x11 t_x12 t_x13 t_x14 t_x15 t_x32 t_x33 t_x34 t_x35 t_x39 t_x40 t_x43 t_x44 t_x48 t_x49 t_x50)), ((t_q 17), .inl (K 0, 40, .inl (fun j => iI (t_17_c j)))), ((t_q 18), .inl (K 0, 50, .inl (fun j => iI (t_18_c j)))), ((t_q 19), .inl (K 0, 60, .inl (fun j => iI (t_19_c j)))), ((t_q 20), .inl (K 0, 480, .inl (fun j => iI (t_20_c j)))), ((t_q 21), .inl (K 0, 600, .inl (fun j => iI (t_21_c j)))), ((t_q 23), .inl (K 0, 150, .inl (fun j => iI (c72_t_23 j)))), ((t_q 24), .inl (K 0, 5, .inl (fun j => iI (c72_t_24 j)))), ((t_q 25), .inl (K 0, 24, .inl (fun j => iI (g97 j)))), ((t_q 26), .inl (K 0, 24, .inl (fun j => iI (t_26_c j)))), ((t_q 27), .inl (K 0, 12, .inl (fun j => iI (t_27_c j)))), ((t_q 28), .inl (K 0, 12, .inl (fun j => iI (t_28_c j))))] H := hP
        have hD : va_D A [(t, .inr (12, oX12 t_q t_x0 t_x6 t_x7 t_x8 t_x9 t_x10 t_x11 t_x12 t_x13 t_x14 t_x15 t_x32 t_x33 t_x34 t_x35 t_x39 t_x40 t_x43 t_x44 t_x48 t_x49 t_x50)), ((t_q 17), .inl (K 0, 40, .inl (fun j => iI (t_17_c j)))), ((t_q 18), .inl (K 0, 50, .inl (fun j => iI (t_18_c j)))), ((t_q 19), .inl (K 0, 60, .inl (fun j => iI (t_19_c j)))), ((t_q 20), .inl (K 0, 480, .inl (fun j => iI (t_20_c j)))), ((t_q 21), .inl (K 0, 600, .inl (fun j => iI (t_21_c j)))), ((t_q 23), .inl (K 0, 150, .inl (fun j => iI (c72_t_23 j)))), ((t_q 24), .inl (K 0, 5, .inl (fun j => iI (c72_t_24 j)))), ((t_q 25), .inl (K 0, 24, .inl (fun j => iI (g97 j)))), ((t_q 26), .inl (K 0, 24, .inl (fun j => iI (t_26_c j)))), ((t_q 27), .inl (K 0, 12, .inl (fun j => iI (t_27_c j)))), ((t_q 28), .inl (K 0, 12, .inl (fun j => iI (t_28_c j))))] := hD
        refine lv_iinc (v := iI (x72_3 + 1)) (lv' := [(3, .int (iI (x72_3 + 1))), (0, .ref t), (1, .int (iI p1)), (2, .int (iI x72_2))]) hx hb dX12_lays_98 hl (k := 3) rfl (iI_add _ _) (by decide) rfl (fun ls hl => ?_)
        refine fn_at 101 rfl ?_
        refine lv_goto (tgt := 72) hx hb dX12_lays_101 (by decide) ?_
        exact ih72 x72_2 (x72_3 + 1) c72_t_23 c72_t_24 g97 _ _ ls (by omega) (by omega) (show LA (t_17_c 2) (t_17_c 3) c72_t_23 c72_t_24 t_19_c from by assumption) (show ∀ b : Nat, (b : Int) < t_17_c 2 → c72_t_24 b = t_18_c (2 * b) from by assumption) (show ∀ j : Nat, (j : Int) < (x72_3 + 1) → g97 j ≤ 29 from by rw [eg97]; exact sy_set sy (by omega) (by omega)) hc72_t_23 hc72_t_24 hg97 (hP.sub [0, 1, 2, 3, 4, 5, 6, 7, 8, 9, 10, 11] rfl) (hD.sub [0, 1, 2, 3, 4, 5, 6, 7, 8, 9, 10, 11] (by decide) rfl) hS (lv_sub hl [1, 2, 3, 0] rfl)
  have J4 : ∀ (n : Nat) (x4_2 : Int) (x4_3 : Int) (c4_t_23 : Nat → Int) (c4_t_24 : Nat → Int) (H : Heap) (locs : List Loc) (ls : Array Slot), (5 - x4_3).toNat < n → (0 ≤ x4_2 ∧ x4_2 ≤ 12 ∧ 0 ≤ x4_3 ∧ x4_3 ≤ 5 ∧ x4_2 = bsum t_18_c 0 (Int.toNat x4_3) ∧ x4_3 ≤ t_17_c 2) → (LA x4_3 (t_17_c 3) c4_t_23 c4_t_24 t_19_c) → (∀ b : Nat, (b : Int) < x4_3 → c4_t_24 b = t_18_c (2 * b)) → (∀ j : Nat, (-2) ≤ c4_t_23 j ∧ c4_t_23 j ≤ 11) → (∀ j : Nat, 0 ≤ c4_t_24 j ∧ c4_t_24 j ≤ 30) → va_P D vwCl [(t, .inr (12, oX12 t_q t_x0 t_x6 t_x7 t_x8 t_x9 t_x10 t_x11 t_x12 t_x13 t_x14 t_x15 t_x32 t_x33 t_x34 t_x35 t_x39 t_x40 t_x43 t_x44 t_x48 t_x49 t_x50)), ((t_q 17), .inl (K 0, 40, .inl (fun j => iI (t_17_c j)))), ((t_q 18), .inl (K 0, 50, .inl (fun j => iI (t_18_c j)))), ((t_q 19), .inl (K 0, 60, .inl (fun j => iI (t_19_c j)))), ((t_q 20), .inl (K 0, 480, .inl (fun j => iI (t_20_c j)))), ((t_q 21), .inl (K 0, 600, .inl (fun j => iI (t_21_c j)))), ((t_q 23), .inl (K 0, 150, .inl (fun j => iI (c4_t_23 j)))), ((t_q 24), .inl (K 0, 5, .inl (fun j => iI (c4_t_24 j)))), ((t_q 25), .inl (K 0, 24, .inl (fun j => iI (t_25_c j)))), ((t_q 26), .inl (K 0, 24, .inl (fun j => iI (t_26_c j)))), ((t_q 27), .inl (K 0, 12, .inl (fun j => iI (t_27_c j)))), ((t_q 28), .inl (K 0, 12, .inl (fun j => iI (t_28_c j))))] H → va_D A [(t, .inr (12, oX12 t_q t_x0 t_x6 t_x7 t_x8 t_x9 t_x10 t_x11 t_x12 t_x13 t_x14 t_x15 t_x32 t_x33 t_x34 t_x35 t_x39 t_x40 t_x43 t_x44 t_x48 t_x49 t_x50)), ((t_q 17), .inl (K 0, 40, .inl (fun j => iI (t_17_c j)))), ((t_q 18), .inl (K 0, 50, .inl (fun j => iI (t_18_c j)))), ((t_q 19), .inl (K 0, 60, .inl (fun j => iI (t_19_c j)))), ((t_q 20), .inl (K 0, 480, .inl (fun j => iI (t_20_c j)))), ((t_q 21), .inl (K 0, 600, .inl (fun j => iI (t_21_c j)))), ((t_q 23), .inl (K 0, 150, .inl (fun j => iI (c4_t_23 j)))), ((t_q 24), .inl (K 0, 5, .inl (fun j => iI (c4_t_24 j)))), ((t_q 25), .inl (K 0, 24, .inl (fun j => iI (t_25_c j)))), ((t_q 26), .inl (K 0, 24, .inl (fun j => iI (t_26_c j)))), ((t_q 27), .inl (K 0, 12, .inl (fun j => iI (t_27_c j)))), ((t_q 28), .inl (K 0, 12, .inl (fun j => iI (t_28_c j))))] → va_S A s.heap H locs → lv_has ls 5 [(0, .ref t), (1, .int (iI p1)), (2, .int (iI x4_2)), (3, .int (iI x4_3))] → W p l e ({ frames := 12, cells := 0, slots := 0, locals := 300 } : Room) s m ag below meth c H locs 0 0 Q (F0 m 4 ls []) := by
    intro n
    induction n with
    | zero =>
      intro x4_2 x4_3 c4_t_23 c4_t_24 H locs ls hm4 hf4 la mn hc4_t_23 hc4_t_24 hP hD hS hl
      exact absurd hm4 (Nat.not_lt_zero _)
    | succ n ih4 =>
      intro x4_2 x4_3 c4_t_23 c4_t_24 H locs ls hm4 hf4 la mn hc4_t_23 hc4_t_24 hP hD hS hl
      have J31 : ∀ (n : Nat) (x31_2 : Int) (x31_4 : Int) (c31_t_23 : Nat → Int) (c31_t_24 : Nat → Int) (H : Heap) (locs : List Loc) (ls : Array Slot), (30 - x31_4).toNat < n → (0 ≤ x31_2 ∧ x31_2 ≤ 12 ∧ 0 ≤ x4_3 ∧ x4_3 ≤ 4 ∧ 0 ≤ x31_4 ∧ x31_4 ≤ 30 ∧ x31_2 = bsum t_18_c 0 (Int.toNat x4_3) + x31_4 ∧ c31_t_24 (Int.toNat x4_3) = t_18_c (Int.toNat (2 * x4_3)) ∧ x31_4 ≤ c31_t_24 (Int.toNat x4_3) ∧ x4_3 < t_17_c 2) → (LA x4_3 (t_17_c 3) c31_t_23 c31_t_24 t_19_c) → (∀ b : Nat, (b : Int) < x4_3 → c31_t_24 b = t_18_c (2 * b)) → (LB (t_17_c 3) c31_t_23 t_19_c x4_3 x31_4) → (∀ j : Nat, (-2) ≤ c31_t_23 j ∧ c31_t_23 j ≤ 11) → (∀ j : Nat, 0 ≤ c31_t_24 j ∧ c31_t_24 j ≤ 30) → va_P D vwCl [(t, .inr (12, oX12 t_q t_x0 t_x6 t_x7 t_x8 t_x9 t_x10 t_x11 t_x12 t_x13 t_x14 t_x15 t_x32 t_x33 t_x34 t_x35 t_x39 t_x40 t_x43 t_x44 t_x48 t_x49 t_x50)), ((t_q 17), .inl (K 0, 40, .inl (fun j => iI (t_17_c j)))), ((t_q 18), .inl (K 0, 50, .inl (fun j => iI (t_18_c j)))), ((t_q 19), .inl (K 0, 60, .inl (fun j => iI (t_19_c j)))), ((t_q 20), .inl (K 0, 480, .inl (fun j => iI (t_20_c j)))), ((t_q 21), .inl (K 0, 600, .inl (fun j => iI (t_21_c j)))), ((t_q 23), .inl (K 0, 150, .inl (fun j => iI (c31_t_23 j)))), ((t_q 24), .inl (K 0, 5, .inl (fun j => iI (c31_t_24 j)))), ((t_q 25), .inl (K 0, 24, .inl (fun j => iI (t_25_c j)))), ((t_q 26), .inl (K 0, 24, .inl (fun j => iI (t_26_c j)))), ((t_q 27), .inl (K 0, 12, .inl (fun j => iI (t_27_c j)))), ((t_q 28), .inl (K 0, 12, .inl (fun j => iI (t_28_c j))))] H → va_D A [(t, .inr (12, oX12 t_q t_x0 t_x6 t_x7 t_x8 t_x9 t_x10 t_x11 t_x12 t_x13 t_x14 t_x15 t_x32 t_x33 t_x34 t_x35 t_x39 t_x40 t_x43 t_x44 t_x48 t_x49 t_x50)), ((t_q 17), .inl (K 0, 40, .inl (fun j => iI (t_17_c j)))), ((t_q 18), .inl (K 0, 50, .inl (fun j => iI (t_18_c j)))), ((t_q 19), .inl (K 0, 60, .inl (fun j => iI (t_19_c j)))), ((t_q 20), .inl (K 0, 480, .inl (fun j => iI (t_20_c j)))), ((t_q 21), .inl (K 0, 600, .inl (fun j => iI (t_21_c j)))), ((t_q 23), .inl (K 0, 150, .inl (fun j => iI (c31_t_23 j)))), ((t_q 24), .inl (K 0, 5, .inl (fun j => iI (c31_t_24 j)))), ((t_q 25), .inl (K 0, 24, .inl (fun j => iI (t_25_c j)))), ((t_q 26), .inl (K 0, 24, .inl (fun j => iI (t_26_c j)))), ((t_q 27), .inl (K 0, 12, .inl (fun j => iI (t_27_c j)))), ((t_q 28), .inl (K 0, 12, .inl (fun j => iI (t_28_c j))))] → va_S A s.heap H locs → lv_has ls 5 [(0, .ref t), (1, .int (iI p1)), (2, .int (iI x31_2)), (3, .int (iI x4_3)), (4, .int (iI x31_4))] → W p l e ({ frames := 12, cells := 0, slots := 0, locals := 300 } : Room) s m ag below meth c H locs 0 0 Q (F0 m 31 ls []) := by
        intro n
        induction n with
        | zero =>
          intro x31_2 x31_4 c31_t_23 c31_t_24 H locs ls hm31 hf31 la mn lb hc31_t_23 hc31_t_24 hP hD hS hl
          exact absurd hm31 (Nat.not_lt_zero _)
        | succ n ih31 =>
          intro x31_2 x31_4 c31_t_23 c31_t_24 H locs ls hm31 hf31 la mn lb hc31_t_23 hc31_t_24 hP hD hS hl
          refine lv_iload hx hb dX12_lays_31 (lv_at hl 4 rfl) ?_
          refine lv_aload_n hx hb dX12_lays_33 rfl (lv_at hl 0 rfl) ?_
          refine va_get (D := D) (own := RX12) (ci := 12) (v := .ref (t_q 24)) (C := RX12) (T := TX12) (N := 51) hx hb hts inb_X12 hown hK.1 hP 0 rfl rfl 24 (by decide) (hts _ wd_1258) (fun _ h9 => h9) rfl dX12_lays_34 ?_
          refine lv_iload_n hx hb dX12_lays_37 rfl (lv_at hl 3 rfl) ?_
          refine g_iald hx hb hK.1 hP 7 0 rfl rfl (by omega) (by omega) (by decide) dX12_lays_38 ?_
          have y38 : 0 ≤ (c31_t_24 x4_3.toNat) ∧ (c31_t_24 x4_3.toNat) ≤ 30 := hc31_t_24 x4_3.toNat
          refine g_icmp_ge (tgt := 64) hx hb (by omega) (by omega) dX12_lays_39 (by decide) (fun c39 => ?_) (fun c39 => ?_)
          · refine lv_iinc (v := iI (x4_3 + 1)) (lv' := [(3, .int (iI (x4_3 + 1))), (0, .ref t), (1, .int (iI p1)), (2, .int (iI x31_2)), (4, .int (iI x31_4))]) hx hb dX12_lays_64 hl (k := 3) rfl (iI_add _ _) (by decide) rfl (fun ls hl => ?_)
            refine lv_goto (tgt := 4) hx hb dX12_lays_67 (by decide) ?_
            have z67 := bsum_s (bk := t_18_c) (x := x4_3) (by omega)
            exact ih4 x31_2 (x4_3 + 1) c31_t_23 c31_t_24 _ _ ls (by omega) (by omega) (show LA (x4_3 + 1) (t_17_c 3) c31_t_23 c31_t_24 t_19_c from LA_next la lb (by omega) (by omega)) (show ∀ b : Nat, (b : Int) < (x4_3 + 1) → c31_t_24 b = t_18_c (2 * b) from all_step (by omega) mn (by have e9 : 2 * Int.toNat x4_3 = Int.toNat (2 * x4_3) := (by omega); rw [e9]; omega)) hc31_t_23 hc31_t_24 (hP.sub [0, 1, 2, 3, 4, 5, 6, 7, 8, 9, 10, 11] rfl) (hD.sub [0, 1, 2, 3, 4, 5, 6, 7, 8, 9, 10, 11] (by decide) rfl) hS (lv_sub hl [1, 2, 3, 0] rfl)
          · refine lv_aload_n hx hb dX12_lays_42 rfl (lv_at hl 0 rfl) ?_
            refine va_get (D := D) (own := RX12) (ci := 12) (v := .ref (t_q 23)) (C := RX12) (T := TX12) (N := 51) hx hb hts inb_X12 hown hK.1 hP 0 rfl rfl 23 (by decide) (hts _ wd_1257) (fun _ h9 => h9) rfl dX12_lays_43 ?_
            refine lv_bipush (v := iI 30) hx hb dX12_lays_46 (by decide) ?_
            refine lv_iload_n hx hb dX12_lays_48 rfl (lv_at hl 3 rfl) ?_
            refine g_imul hx hb dX12_lays_49 ?_
            refine lv_iload hx hb dX12_lays_50 (lv_at hl 4 rfl) ?_
            refine g_iadd hx hb dX12_lays_52 ?_
            refine lv_iload_n hx hb dX12_lays_53 rfl (lv_at hl 2 rfl) ?_
            have z54 := TI_lt hB.2.1 ti (b := x4_3) (i := x31_4) (by omega) (by omega) (by omega)
            have w54 := TI_bo ti (b := x4_3) (i := x31_4) (by omega) (by omega) (by omega) (by omega) z54.2
            refine g_iast hx hb hK.1 hP hD hS 6 0 rfl rfl (by omega) (by omega) (by decide) dX12_lays_54 (fun H locs g54 eg54 hP hD hS => ?_)
            have hg54 : ∀ j : Nat, (-2) ≤ g54 j ∧ g54 j ≤ 11 := by rw [eg54]; exact uI_all hc31_t_23 (by omega)
            have hP : va_P D vwCl [(t, .inr (12, oX12 t_q t_x0 t_x6 t_x7 t_x8 t_x9 t_x10 t_x11 t_x12 t_x13 t_x14 t_x15 t_x32 t_x33 t_x34 t_x35 t_x39 t_x40 t_x43 t_x44 t_x48 t_x49 t_x50)), ((t_q 17), .inl (K 0, 40, .inl (fun j => iI (t_17_c j)))), ((t_q 18), .inl (K 0, 50, .inl (fun j => iI (t_18_c j)))), ((t_q 19), .inl (K 0, 60, .inl (fun j => iI (t_19_c j)))), ((t_q 20), .inl (K 0, 480, .inl (fun j => iI (t_20_c j)))), ((t_q 21), .inl (K 0, 600, .inl (fun j => iI (t_21_c j)))), ((t_q 23), .inl (K 0, 150, .inl (fun j => iI (g54 j)))), ((t_q 24), .inl (K 0, 5, .inl (fun j => iI (c31_t_24 j)))), ((t_q 25), .inl (K 0, 24, .inl (fun j => iI (t_25_c j)))), ((t_q 26), .inl (K 0, 24, .inl (fun j => iI (t_26_c j)))), ((t_q 27), .inl (K 0, 12, .inl (fun j => iI (t_27_c j)))), ((t_q 28), .inl (K 0, 12, .inl (fun j => iI (t_28_c j))))] H := hP
            have hD : va_D A [(t, .inr (12, oX12 t_q t_x0 t_x6 t_x7 t_x8 t_x9 t_x10 t_x11 t_x12 t_x13 t_x14 t_x15 t_x32 t_x33 t_x34 t_x35 t_x39 t_x40 t_x43 t_x44 t_x48 t_x49 t_x50)), ((t_q 17), .inl (K 0, 40, .inl (fun j => iI (t_17_c j)))), ((t_q 18), .inl (K 0, 50, .inl (fun j => iI (t_18_c j)))), ((t_q 19), .inl (K 0, 60, .inl (fun j => iI (t_19_c j)))), ((t_q 20), .inl (K 0, 480, .inl (fun j => iI (t_20_c j)))), ((t_q 21), .inl (K 0, 600, .inl (fun j => iI (t_21_c j)))), ((t_q 23), .inl (K 0, 150, .inl (fun j => iI (g54 j)))), ((t_q 24), .inl (K 0, 5, .inl (fun j => iI (c31_t_24 j)))), ((t_q 25), .inl (K 0, 24, .inl (fun j => iI (t_25_c j)))), ((t_q 26), .inl (K 0, 24, .inl (fun j => iI (t_26_c j)))), ((t_q 27), .inl (K 0, 12, .inl (fun j => iI (t_27_c j)))), ((t_q 28), .inl (K 0, 12, .inl (fun j => iI (t_28_c j))))] := hD
            refine lv_iinc (v := iI (x31_2 + 1)) (lv' := [(2, .int (iI (x31_2 + 1))), (0, .ref t), (1, .int (iI p1)), (3, .int (iI x4_3)), (4, .int (iI x31_4))]) hx hb dX12_lays_55 hl (k := 2) rfl (iI_add _ _) (by decide) rfl (fun ls hl => ?_)
            refine lv_iinc (v := iI (x31_4 + 1)) (lv' := [(4, .int (iI (x31_4 + 1))), (2, .int (iI (x31_2 + 1))), (0, .ref t), (1, .int (iI p1)), (3, .int (iI x4_3))]) hx hb dX12_lays_58 hl (k := 4) rfl (iI_add _ _) (by decide) rfl (fun ls hl => ?_)
            refine lv_goto (tgt := 31) hx hb dX12_lays_61 (by decide) ?_
            exact ih31 (x31_2 + 1) (x31_4 + 1) g54 c31_t_24 _ _ ls (by omega) (by omega) (show LA x4_3 (t_17_c 3) g54 c31_t_24 t_19_c from by rw [eg54]; exact LA_leaf la (by omega) (by omega) rfl (fun j => (hc31_t_24 j).2)) (show ∀ b : Nat, (b : Int) < x4_3 → c31_t_24 b = t_18_c (2 * b) from by assumption) (show LB (t_17_c 3) g54 t_19_c x4_3 (x31_4 + 1) from by rw [eg54]; exact LB_set lb (by omega) (by omega) (by omega) (by rw [show x31_2 = bsum t_18_c 0 (Int.toNat x4_3) + x31_4 by omega]; exact w54)) hg54 hc31_t_24 (hP.sub [0, 1, 2, 3, 4, 5, 6, 7, 8, 9, 10, 11] rfl) (hD.sub [0, 1, 2, 3, 4, 5, 6, 7, 8, 9, 10, 11] (by decide) rfl) hS (lv_sub hl [2, 3, 1, 4, 0] rfl)
      refine lv_iload_n hx hb dX12_lays_4 rfl (lv_at hl 3 rfl) ?_
      refine lv_aload_n hx hb dX12_lays_5 rfl (lv_at hl 0 rfl) ?_
      refine va_get (D := D) (own := RX12) (ci := 12) (v := .ref (t_q 17)) (C := RX12) (T := TX12) (N := 51) hx hb hts inb_X12 hown hK.1 hP 0 rfl rfl 17 (by decide) (hts _ wd_1251) (fun _ h9 => h9) rfl dX12_lays_6 ?_
      refine lv_iconst (v := iI 2) hx hb dX12_lays_9 rfl ?_
      refine g_iald hx hb hK.1 hP 1 0 rfl rfl (by omega) (by omega) (by decide) dX12_lays_10 ?_
      refine fn_top (iI (t_17_c 2)) rfl ?_
      have y10 : 0 ≤ (t_17_c 2) ∧ (t_17_c 2) ≤ 5 := (hc_t_17 2).2.2.1 (by omega)
      refine g_icmp_ge (tgt := 70) hx hb (by omega) (by omega) dX12_lays_11 (by decide) (fun c11 => ?_) (fun c11 => ?_)
      · refine lv_iconst (v := iI 0) hx hb dX12_lays_70 rfl ?_
        refine lv_istore_n (lv' := [(3, .int (iI 0)), (0, .ref t), (1, .int (iI p1)), (2, .int (iI x4_2))]) hx hb dX12_lays_71 rfl hl (by decide) rfl (fun ls hl => ?_)
        exact J72 _ x4_2 0 c4_t_23 c4_t_24 t_25_c _ _ ls (Nat.lt_succ_self _) (by omega) (show LA (t_17_c 2) (t_17_c 3) c4_t_23 c4_t_24 t_19_c from LA_le la (by omega)) (show ∀ b : Nat, (b : Int) < t_17_c 2 → c4_t_24 b = t_18_c (2 * b) from fun b hb => mn b (by omega)) (show ∀ j : Nat, (j : Int) < (0 : Int) → t_25_c j ≤ 29 from fun j hj => by omega) hc4_t_23 hc4_t_24 hc_t_25 (hP.sub [0, 1, 2, 3, 4, 5, 6, 7, 8, 9, 10, 11] rfl) (hD.sub [0, 1, 2, 3, 4, 5, 6, 7, 8, 9, 10, 11] (by decide) rfl) hS (lv_sub hl [1, 2, 3, 0] rfl)
      · refine lv_aload_n hx hb dX12_lays_14 rfl (lv_at hl 0 rfl) ?_
        refine va_get (D := D) (own := RX12) (ci := 12) (v := .ref (t_q 24)) (C := RX12) (T := TX12) (N := 51) hx hb hts inb_X12 hown hK.1 hP 0 rfl rfl 24 (by decide) (hts _ wd_1258) (fun _ h9 => h9) rfl dX12_lays_15 ?_
        refine lv_iload_n hx hb dX12_lays_18 rfl (lv_at hl 3 rfl) ?_
        refine lv_aload_n hx hb dX12_lays_19 rfl (lv_at hl 0 rfl) ?_
        refine va_get (D := D) (own := RX12) (ci := 12) (v := .ref (t_q 18)) (C := RX12) (T := TX12) (N := 51) hx hb hts inb_X12 hown hK.1 hP 0 rfl rfl 18 (by decide) (hts _ wd_1252) (fun _ h9 => h9) rfl dX12_lays_20 ?_
        refine lv_iconst (v := iI 2) hx hb dX12_lays_23 rfl ?_
        refine lv_iload_n hx hb dX12_lays_24 rfl (lv_at hl 3 rfl) ?_
        refine g_imul hx hb dX12_lays_25 ?_
        refine g_iald hx hb hK.1 hP 2 0 rfl rfl (by omega) (by omega) (by decide) dX12_lays_26 ?_
        have y26 : 0 ≤ (t_18_c ((2 * x4_3).toNat)) ∧ (t_18_c ((2 * x4_3).toNat)) ≤ 9 := (hc_t_18 ((2 * x4_3).toNat)).1 (by omega)
        refine g_iast hx hb hK.1 hP hD hS 7 0 rfl rfl (by omega) (by omega) (by decide) dX12_lays_27 (fun H locs g27 eg27 hP hD hS => ?_)
        have hg27 : ∀ j : Nat, 0 ≤ g27 j ∧ g27 j ≤ 30 := by rw [eg27]; exact uI_all hc4_t_24 (by omega)
        have hP : va_P D vwCl [(t, .inr (12, oX12 t_q t_x0 t_x6 t_x7 t_x8 t_x9 t_x10 t_x11 t_x12 t_x13 t_x14 t_x15 t_x32 t_x33 t_x34 t_x35 t_x39 t_x40 t_x43 t_x44 t_x48 t_x49 t_x50)), ((t_q 17), .inl (K 0, 40, .inl (fun j => iI (t_17_c j)))), ((t_q 18), .inl (K 0, 50, .inl (fun j => iI (t_18_c j)))), ((t_q 19), .inl (K 0, 60, .inl (fun j => iI (t_19_c j)))), ((t_q 20), .inl (K 0, 480, .inl (fun j => iI (t_20_c j)))), ((t_q 21), .inl (K 0, 600, .inl (fun j => iI (t_21_c j)))), ((t_q 23), .inl (K 0, 150, .inl (fun j => iI (c4_t_23 j)))), ((t_q 24), .inl (K 0, 5, .inl (fun j => iI (g27 j)))), ((t_q 25), .inl (K 0, 24, .inl (fun j => iI (t_25_c j)))), ((t_q 26), .inl (K 0, 24, .inl (fun j => iI (t_26_c j)))), ((t_q 27), .inl (K 0, 12, .inl (fun j => iI (t_27_c j)))), ((t_q 28), .inl (K 0, 12, .inl (fun j => iI (t_28_c j))))] H := hP
        have hD : va_D A [(t, .inr (12, oX12 t_q t_x0 t_x6 t_x7 t_x8 t_x9 t_x10 t_x11 t_x12 t_x13 t_x14 t_x15 t_x32 t_x33 t_x34 t_x35 t_x39 t_x40 t_x43 t_x44 t_x48 t_x49 t_x50)), ((t_q 17), .inl (K 0, 40, .inl (fun j => iI (t_17_c j)))), ((t_q 18), .inl (K 0, 50, .inl (fun j => iI (t_18_c j)))), ((t_q 19), .inl (K 0, 60, .inl (fun j => iI (t_19_c j)))), ((t_q 20), .inl (K 0, 480, .inl (fun j => iI (t_20_c j)))), ((t_q 21), .inl (K 0, 600, .inl (fun j => iI (t_21_c j)))), ((t_q 23), .inl (K 0, 150, .inl (fun j => iI (c4_t_23 j)))), ((t_q 24), .inl (K 0, 5, .inl (fun j => iI (g27 j)))), ((t_q 25), .inl (K 0, 24, .inl (fun j => iI (t_25_c j)))), ((t_q 26), .inl (K 0, 24, .inl (fun j => iI (t_26_c j)))), ((t_q 27), .inl (K 0, 12, .inl (fun j => iI (t_27_c j)))), ((t_q 28), .inl (K 0, 12, .inl (fun j => iI (t_28_c j))))] := hD
        refine lv_iconst (v := iI 0) hx hb dX12_lays_28 rfl ?_
        refine lv_istore (lv' := [(4, .int (iI 0)), (0, .ref t), (1, .int (iI p1)), (2, .int (iI x4_2)), (3, .int (iI x4_3))]) hx hb dX12_lays_29 hl (by decide) rfl (fun ls hl => ?_)
        have z29 := congrFun eg27 (Int.toNat x4_3)
        rw [uI_s] at z29
        exact J31 _ x4_2 0 c4_t_23 g27 _ _ ls (Nat.lt_succ_self _) (by omega) (show LA x4_3 (t_17_c 3) c4_t_23 g27 t_19_c from by rw [eg27]; exact LA_mn la (by omega)) (show ∀ b : Nat, (b : Int) < x4_3 → g27 b = t_18_c (2 * b) from fun b hb => by rw [eg27, uI_n (by omega)]; exact mn b hb) (show LB (t_17_c 3) c4_t_23 t_19_c x4_3 (0 : Int) from LB_0) hc4_t_23 hg27 (hP.sub [0, 1, 2, 3, 4, 5, 6, 7, 8, 9, 10, 11] rfl) (hD.sub [0, 1, 2, 3, 4, 5, 6, 7, 8, 9, 10, 11] (by decide) rfl) hS (lv_sub hl [1, 2, 3, 4, 0] rfl)
  have hl : lv_has ls 5 [(0, .ref t), (1, .int (iI p1))] := hl
  refine lv_iconst (v := iI 0) hx hb dX12_lays_0 rfl ?_
  refine lv_istore_n (lv' := [(2, .int (iI 0)), (0, .ref t), (1, .int (iI p1))]) hx hb dX12_lays_1 rfl hl (by decide) rfl (fun ls hl => ?_)
  refine lv_iconst (v := iI 0) hx hb dX12_lays_2 rfl ?_
  refine lv_istore_n (lv' := [(3, .int (iI 0)), (2, .int (iI 0)), (0, .ref t), (1, .int (iI p1))]) hx hb dX12_lays_3 rfl hl (by decide) rfl (fun ls hl => ?_)
  have z3 : bsum t_18_c 0 (Int.toNat (0 : Int)) = 0 := rfl
  exact J4 _ 0 0 t_23_c t_24_c _ _ ls (Nat.lt_succ_self _) (by omega) (show LA (0 : Int) (t_17_c 3) t_23_c t_24_c t_19_c from LA_0) (show ∀ b : Nat, (b : Int) < (0 : Int) → t_24_c b = t_18_c (2 * b) from fun b hb => by omega) hc_t_23 hc_t_24 (hP.sub [0, 1, 2, 3, 4, 5, 6, 7, 8, 9, 10, 11] rfl) (hD.sub [0, 1, 2, 3, 4, 5, 6, 7, 8, 9, 10, 11] (by decide) rfl) hS (lv_sub hl [2, 3, 1, 0] rfl)
theorem wd_1551 : Cond.code ⟨"FootNotesModel", "lays", "(I)V"⟩ prog_14_method_46_code 5 (Option.none : Option Jvm.ClassFile.FieldType) ∈ fn_big := fn_tb (fn_l7 (List.mem_of_getElem? (i := 111) (by decide +kernel))) (by decide +kernel)
theorem wd_1548 : Cond.methodLink "FootNotesModel" 283 ⟨"FootNotesModel", "lays", "(I)V"⟩ ∈ fn_big := fn_tb (fn_l7 (List.mem_of_getElem? (i := 108) (by decide +kernel))) (by decide +kernel)
theorem wd_1550 : Cond.instanceMethod ⟨"FootNotesModel", "lays", "(I)V"⟩ ∈ fn_big := fn_tb (fn_l7 (List.mem_of_getElem? (i := 110) (by decide +kernel))) (by decide +kernel)
theorem wp_118 : Cond.selects "FootNotesModel" ⟨"FootNotesModel", "lays", "(I)V"⟩ ⟨"FootNotesModel", "lays", "(I)V"⟩ ∈ fn_big := fn_sel (q := (⟨"FootNotesModel", "lays", "(I)V"⟩, 51)) 118 (by decide +kernel) (by decide +kernel)
theorem dX12_laysNow_0 : decode cX12_laysNow 0 = .ok (.aload_n 0, 1) := by decide +kernel
theorem dX12_laysNow_1 : decode cX12_laysNow 1 = .ok (.aload_n 0, 1) := by decide +kernel
theorem dX12_laysNow_2 : decode cX12_laysNow 2 = .ok (.getfield 34, 3) := by decide +kernel
theorem dX12_laysNow_5 : decode cX12_laysNow 5 = .ok (.bipush 7, 2) := by decide +kernel
theorem dX12_laysNow_7 : decode cX12_laysNow 7 = .ok (.iaload, 1) := by decide +kernel
theorem dX12_laysNow_8 : decode cX12_laysNow 8 = .ok (.invokevirtual 283, 3) := by decide +kernel
theorem dX12_laysNow_11 : decode cX12_laysNow 11 = .ok (.return_, 1) := by decide +kernel
set_option maxHeartbeats 4000000 in
set_option maxRecDepth 100000 in
theorem k_X12_laysNow (l : Launch) (D : va_G) (K : Nat → ClassId) (t : Nat) (t_q : Nat → Nat) (t_x0 t_x6 t_x7 t_x8 t_x9 t_x10 t_x11 t_x12 t_x13 t_x14 t_x15 t_x32 t_x33 t_x34 t_x35 t_x39 t_x40 t_x43 t_x44 t_x48 t_x49 t_x50 : Int) (t_17_c : Nat → Int) (t_18_c : Nat → Int) (t_19_c : Nat → Int) (t_20_c : Nat → Int) (t_21_c : Nat → Int) (t_23_c : Nat → Int) (t_24_c : Nat → Int) (t_25_c : Nat → Int) (t_26_c : Nat → Int) (t_27_c : Nat → Int) (t_28_c : Nat → Int) (hi_t : bM12 t_x0 t_x6 t_x7 t_x8 t_x9 t_x10 t_x11 t_x12 t_x13 t_x14 t_x15 t_x32 t_x33 t_x34 t_x35 t_x39 t_x40 t_x43 t_x44 t_x48 t_x49 t_x50) (hc_t_17 : ∀ j : Nat, (j % 8 = 0 → 0 ≤ t_17_c j ∧ t_17_c j ≤ 20) ∧ (j % 8 = 1 → 0 ≤ t_17_c j ∧ t_17_c j ≤ 100) ∧ (j % 8 = 2 → 0 ≤ t_17_c j ∧ t_17_c j ≤ 5) ∧ (j % 8 = 3 → 0 ≤ t_17_c j ∧ t_17_c j ≤ 12) ∧ (j % 8 = 4 → 0 ≤ t_17_c j ∧ t_17_c j ≤ 24) ∧ (j % 8 = 5 → 0 ≤ t_17_c j ∧ t_17_c j ≤ 4095) ∧ (j % 8 = 6 → 0 ≤ t_17_c j ∧ t_17_c j ≤ 31) ∧ (j % 8 = 7 → 0 ≤ t_17_c j ∧ t_17_c j ≤ 40)) (hc_t_18 : ∀ j : Nat, (j % 2 = 0 → 0 ≤ t_18_c j ∧ t_18_c j ≤ 9) ∧ (j % 2 = 1 → 0 ≤ t_18_c j ∧ t_18_c j ≤ 4)) (hc_t_19 : ∀ j : Nat, 0 ≤ t_19_c j ∧ t_19_c j ≤ 4) (hc_t_20 : ∀ j : Nat, (j % 4 = 0 → 0 ≤ t_20_c j ∧ t_20_c j ≤ 11) ∧ (j % 4 = 1 → 0 ≤ t_20_c j ∧ t_20_c j ≤ 4) ∧ (j % 4 = 2 → 0 ≤ t_20_c j ∧ t_20_c j ≤ 29) ∧ (j % 4 = 3 → 0 ≤ t_20_c j ∧ t_20_c j ≤ 1)) (hc_t_21 : ∀ j : Nat, (j % 3 = 0 → 0 ≤ t_21_c j ∧ t_21_c j ≤ 2) ∧ (j % 3 = 1 → 0 ≤ t_21_c j ∧ t_21_c j ≤ 23) ∧ (j % 3 = 2 → 0 ≤ t_21_c j ∧ t_21_c j ≤ 29)) (hc_t_23 : ∀ j : Nat, (-2) ≤ t_23_c j ∧ t_23_c j ≤ 11) (hc_t_24 : ∀ j : Nat, 0 ≤ t_24_c j ∧ t_24_c j ≤ 30) (hc_t_25 : ∀ j : Nat, 0 ≤ t_25_c j ∧ t_25_c j ≤ 30) (hc_t_26 : ∀ j : Nat, (-1) ≤ t_26_c j ∧ t_26_c j ≤ 11) (hc_t_27 : ∀ j : Nat, (-1) ≤ t_27_c j ∧ t_27_c j ≤ 29) (hc_t_28 : ∀ j : Nat, 0 ≤ t_28_c j ∧ t_28_c j ≤ 4095) (ti : TI 0 t_17_c t_18_c t_19_c t_20_c t_21_c) : fn_CV (S := (Nat → Int) × (Nat → Nat → Int)) l D K yX12_laysNow (fn_ws yX12_laysNow cX12_laysNow 1 none) ({ frames := 16, cells := 0, slots := 0, locals := 400 } : Room) [.ref t] [(t, .inr (12, oX12 t_q t_x0 t_x6 t_x7 t_x8 t_x9 t_x10 t_x11 t_x12 t_x13 t_x14 t_x15 t_x32 t_x33 t_x34 t_x35 t_x39 t_x40 t_x43 t_x44 t_x48 t_x49 t_x50)), ((t_q 17), .inl (K 0, 40, .inl (fun j => iI (t_17_c j)))), ((t_q 18), .inl (K 0, 50, .inl (fun j => iI (t_18_c j)))), ((t_q 19), .inl (K 0, 60, .inl (fun j => iI (t_19_c j)))), ((t_q 20), .inl (K 0, 480, .inl (fun j => iI (t_20_c j)))), ((t_q 21), .inl (K 0, 600, .inl (fun j => iI (t_21_c j)))), ((t_q 23), .inl (K 0, 150, .inl (fun j => iI (t_23_c j)))), ((t_q 24), .inl (K 0, 5, .inl (fun j => iI (t_24_c j)))), ((t_q 25), .inl (K 0, 24, .inl (fun j => iI (t_25_c j)))), ((t_q 26), .inl (K 0, 24, .inl (fun j => iI (t_26_c j)))), ((t_q 27), .inl (K 0, 12, .inl (fun j => iI (t_27_c j)))), ((t_q 28), .inl (K 0, 12, .inl (fun j => iI (t_28_c j))))] (fun u => (LI t_17_c t_19_c (u.2 0) (u.2 1) (u.2 3) (u.2 4) (u.2 5)) ∧ (∀ b : Nat, (b : Int) < t_17_c 2 → (u.2 1) b = t_18_c (2 * b) + edc t_21_c 0 b (Int.toNat (t_17_c 7))) ∧ (∀ j : Nat, (j : Int) < t_17_c 4 → (u.2 2) j ≤ 29) ∧ (∀ j : Nat, (-2) ≤ (u.2 0) j ∧ (u.2 0) j ≤ 11) ∧ (∀ j : Nat, 0 ≤ (u.2 1) j ∧ (u.2 1) j ≤ 30) ∧ (∀ j : Nat, 0 ≤ (u.2 2) j ∧ (u.2 2) j ≤ 30) ∧ (∀ j : Nat, (-1) ≤ (u.2 3) j ∧ (u.2 3) j ≤ 11) ∧ (∀ j : Nat, (-1) ≤ (u.2 4) j ∧ (u.2 4) j ≤ 29) ∧ (∀ j : Nat, 0 ≤ (u.2 5) j ∧ (u.2 5) j ≤ 4095) ∧ True) (fun u => [(t, .inr (12, oX12 t_q t_x0 t_x6 t_x7 t_x8 t_x9 t_x10 t_x11 t_x12 t_x13 t_x14 t_x15 t_x32 t_x33 t_x34 t_x35 t_x39 t_x40 t_x43 t_x44 t_x48 t_x49 t_x50)), ((t_q 17), .inl (K 0, 40, .inl (fun j => iI (t_17_c j)))), ((t_q 18), .inl (K 0, 50, .inl (fun j => iI (t_18_c j)))), ((t_q 19), .inl (K 0, 60, .inl (fun j => iI (t_19_c j)))), ((t_q 20), .inl (K 0, 480, .inl (fun j => iI (t_20_c j)))), ((t_q 21), .inl (K 0, 600, .inl (fun j => iI (t_21_c j)))), ((t_q 23), .inl (K 0, 150, .inl (fun j => iI ((u.2 0) j)))), ((t_q 24), .inl (K 0, 5, .inl (fun j => iI ((u.2 1) j)))), ((t_q 25), .inl (K 0, 24, .inl (fun j => iI ((u.2 2) j)))), ((t_q 26), .inl (K 0, 24, .inl (fun j => iI ((u.2 3) j)))), ((t_q 27), .inl (K 0, 12, .inl (fun j => iI ((u.2 4) j)))), ((t_q 28), .inl (K 0, 12, .inl (fun j => iI ((u.2 5) j))))]) 0 0 := by
  refine g_inV (cc := cX12_laysNow) (maxL := 1) (ret := none) (by decide) rfl (Nat.le_of_ble_eq_true rfl) ?_
  intro p e s m below meth c A ls ag Q B hA hP hD hS hl hQ
  obtain ⟨hx, hb, hr, hml, hts, hown, hlocks, hin, hK⟩ := B
  have hown : s.vm.findClass RX12 = some m.cls := hown
  have hts := fun w h => hts w (List.mem_cons_of_mem _ h)
  have hl : lv_has ls 1 [(0, .ref t)] := hl
  refine lv_aload_n hx hb dX12_laysNow_0 rfl (lv_at hl 0 rfl) ?_
  refine lv_aload_n hx hb dX12_laysNow_1 rfl (lv_at hl 0 rfl) ?_
  refine va_get (D := D) (own := RX12) (ci := 12) (v := .ref (t_q 17)) (C := RX12) (T := TX12) (N := 51) hx hb hts inb_X12 hown hK.1 hP 0 rfl rfl 17 (by decide) (hts _ wd_1251) (fun _ h9 => h9) rfl dX12_laysNow_2 ?_
  refine lv_bipush (v := iI 7) hx hb dX12_laysNow_5 (by decide) ?_
  refine g_iald hx hb hK.1 hP 1 0 rfl rfl (by omega) (by omega) (by decide) dX12_laysNow_7 ?_
  refine fn_top (iI (t_17_c 7)) rfl ?_
  have y7 : 0 ≤ (t_17_c 7) ∧ (t_17_c 7) ≤ 40 := (hc_t_17 7).2.2.2.2.2.2.2 (by omega)
  refine fn_gov (wc := [(t, .inr (12, oX12 t_q t_x0 t_x6 t_x7 t_x8 t_x9 t_x10 t_x11 t_x12 t_x13 t_x14 t_x15 t_x32 t_x33 t_x34 t_x35 t_x39 t_x40 t_x43 t_x44 t_x48 t_x49 t_x50)), ((t_q 17), .inl (K 0, 40, .inl (fun j => iI (t_17_c j)))), ((t_q 18), .inl (K 0, 50, .inl (fun j => iI (t_18_c j)))), ((t_q 19), .inl (K 0, 60, .inl (fun j => iI (t_19_c j)))), ((t_q 20), .inl (K 0, 480, .inl (fun j => iI (t_20_c j)))), ((t_q 21), .inl (K 0, 600, .inl (fun j => iI (t_21_c j)))), ((t_q 23), .inl (K 0, 150, .inl (fun j => iI (t_23_c j)))), ((t_q 24), .inl (K 0, 5, .inl (fun j => iI (t_24_c j)))), ((t_q 25), .inl (K 0, 24, .inl (fun j => iI (t_25_c j)))), ((t_q 26), .inl (K 0, 24, .inl (fun j => iI (t_26_c j)))), ((t_q 27), .inl (K 0, 12, .inl (fun j => iI (t_27_c j)))), ((t_q 28), .inl (K 0, 12, .inl (fun j => iI (t_28_c j))))]) (wr := []) hK hP hD hS hA [0, 1, 2, 3, 4, 5, 6, 7, 8, 9, 10, 11] [] rfl rfl (by decide) (fun hp => va_runV (C := RX12) (As := [.int (iI (t_17_c 7))]) (rest := []) ⟨hx, hb, hml, hown, hts⟩ (k_X12_lays (l := l) (D := D) (K := K) (t := t) (p1 := (t_17_c 7)) (t_q := t_q) (t_x0 := t_x0) (t_x6 := t_x6) (t_x7 := t_x7) (t_x8 := t_x8) (t_x9 := t_x9) (t_x10 := t_x10) (t_x11 := t_x11) (t_x12 := t_x12) (t_x13 := t_x13) (t_x14 := t_x14) (t_x15 := t_x15) (t_x32 := t_x32) (t_x33 := t_x33) (t_x34 := t_x34) (t_x35 := t_x35) (t_x39 := t_x39) (t_x40 := t_x40) (t_x43 := t_x43) (t_x44 := t_x44) (t_x48 := t_x48) (t_x49 := t_x49) (t_x50 := t_x50) (t_17_c := t_17_c) (t_18_c := t_18_c) (t_19_c := t_19_c) (t_20_c := t_20_c) (t_21_c := t_21_c) (t_23_c := t_23_c) (t_24_c := t_24_c) (t_25_c := t_25_c) (t_26_c := t_26_c) (t_27_c := t_27_c) (t_28_c := t_28_c) (hp1 := (by omega)) (hi_t := hi_t) (hc_t_17 := hc_t_17) (hc_t_18 := hc_t_18) (hc_t_19 := hc_t_19) (hc_t_20 := hc_t_20) (hc_t_21 := hc_t_21) (hc_t_23 := hc_t_23) (hc_t_24 := hc_t_24) (hc_t_25 := hc_t_25) (hc_t_26 := hc_t_26) (hc_t_27 := hc_t_27) (hc_t_28 := hc_t_28) (ti := (show TI 0 t_17_c t_18_c t_19_c t_20_c t_21_c from by assumption)) (pl := (show (t_17_c 7) ≤ t_17_c 7 from by omega)) _) (cwV 1 hts (fn_ginV (fn_gin wd_1551) wd_1548 wd_1550 wp_118 wd_13) rfl rfl rfl (by decide +kernel) ⟨Nat.le_of_ble_eq_true rfl, Nat.le_of_ble_eq_true rfl⟩) ⟨fn_blind, va_recv hK.1 hP (ci := 12) (q0 := 0) rfl rfl, hp⟩ rfl rfl hl.1 rfl (lv_room (Nat.le_of_ble_eq_true rfl)) dX12_laysNow_8 ⟨Nat.le_of_ble_eq_true rfl, Nat.le_of_ble_eq_true rfl⟩) (fun u8 H locs hwu8 hP hD hS => ?_)
  obtain ⟨u8a, u8b⟩ := u8
  obtain ⟨hqu8_li0, hqu8_mn0, hqu8_sy0, hu8_00, hu8_10, hu8_20, hu8_30, hu8_40, hu8_50, -⟩ := hwu8
  have hqu8_li : LI t_17_c t_19_c (u8b 0) (u8b 1) (u8b 3) (u8b 4) (u8b 5) := hqu8_li0
  have hqu8_mn : ∀ b : Nat, (b : Int) < t_17_c 2 → (u8b 1) b = t_18_c (2 * b) + edc t_21_c 0 b (Int.toNat ((t_17_c 7))) := hqu8_mn0
  have hqu8_sy : ∀ j : Nat, (j : Int) < t_17_c 4 → (u8b 2) j ≤ 29 := hqu8_sy0
  have hu8_0 : ∀ j : Nat, (-2) ≤ (u8b 0) j ∧ (u8b 0) j ≤ 11 := hu8_00
  have hu8_1 : ∀ j : Nat, 0 ≤ (u8b 1) j ∧ (u8b 1) j ≤ 30 := hu8_10
  have hu8_2 : ∀ j : Nat, 0 ≤ (u8b 2) j ∧ (u8b 2) j ≤ 30 := hu8_20
  have hu8_3 : ∀ j : Nat, (-1) ≤ (u8b 3) j ∧ (u8b 3) j ≤ 11 := hu8_30
  have hu8_4 : ∀ j : Nat, (-1) ≤ (u8b 4) j ∧ (u8b 4) j ≤ 29 := hu8_40
  have hu8_5 : ∀ j : Nat, 0 ≤ (u8b 5) j ∧ (u8b 5) j ≤ 4095 := hu8_50
  clear hqu8_li0 hqu8_mn0 hqu8_sy0 hu8_00 hu8_10 hu8_20 hu8_30 hu8_40 hu8_50
  have hP : va_P D vwCl [(t, .inr (12, oX12 t_q t_x0 t_x6 t_x7 t_x8 t_x9 t_x10 t_x11 t_x12 t_x13 t_x14 t_x15 t_x32 t_x33 t_x34 t_x35 t_x39 t_x40 t_x43 t_x44 t_x48 t_x49 t_x50)), ((t_q 17), .inl (K 0, 40, .inl (fun j => iI (t_17_c j)))), ((t_q 18), .inl (K 0, 50, .inl (fun j => iI (t_18_c j)))), ((t_q 19), .inl (K 0, 60, .inl (fun j => iI (t_19_c j)))), ((t_q 20), .inl (K 0, 480, .inl (fun j => iI (t_20_c j)))), ((t_q 21), .inl (K 0, 600, .inl (fun j => iI (t_21_c j)))), ((t_q 23), .inl (K 0, 150, .inl (fun j => iI ((u8b 0) j)))), ((t_q 24), .inl (K 0, 5, .inl (fun j => iI ((u8b 1) j)))), ((t_q 25), .inl (K 0, 24, .inl (fun j => iI ((u8b 2) j)))), ((t_q 26), .inl (K 0, 24, .inl (fun j => iI ((u8b 3) j)))), ((t_q 27), .inl (K 0, 12, .inl (fun j => iI ((u8b 4) j)))), ((t_q 28), .inl (K 0, 12, .inl (fun j => iI ((u8b 5) j))))] H := hP
  have hD : va_D A [(t, .inr (12, oX12 t_q t_x0 t_x6 t_x7 t_x8 t_x9 t_x10 t_x11 t_x12 t_x13 t_x14 t_x15 t_x32 t_x33 t_x34 t_x35 t_x39 t_x40 t_x43 t_x44 t_x48 t_x49 t_x50)), ((t_q 17), .inl (K 0, 40, .inl (fun j => iI (t_17_c j)))), ((t_q 18), .inl (K 0, 50, .inl (fun j => iI (t_18_c j)))), ((t_q 19), .inl (K 0, 60, .inl (fun j => iI (t_19_c j)))), ((t_q 20), .inl (K 0, 480, .inl (fun j => iI (t_20_c j)))), ((t_q 21), .inl (K 0, 600, .inl (fun j => iI (t_21_c j)))), ((t_q 23), .inl (K 0, 150, .inl (fun j => iI ((u8b 0) j)))), ((t_q 24), .inl (K 0, 5, .inl (fun j => iI ((u8b 1) j)))), ((t_q 25), .inl (K 0, 24, .inl (fun j => iI ((u8b 2) j)))), ((t_q 26), .inl (K 0, 24, .inl (fun j => iI ((u8b 3) j)))), ((t_q 27), .inl (K 0, 12, .inl (fun j => iI ((u8b 4) j)))), ((t_q 28), .inl (K 0, 12, .inl (fun j => iI ((u8b 5) j))))] := hD
  rw [hQ]; exact fn_vret hx hb hr hlocks hP hD hS ((fun _ => 0), (fun k => ([(u8b 0), (u8b 1), (u8b 2), (u8b 3), (u8b 4), (u8b 5)] : List (Nat → Int)).getD k (fun _ => 0))) ⟨(show LI t_17_c t_19_c (u8b 0) (u8b 1) (u8b 3) (u8b 4) (u8b 5) from by assumption), (show ∀ b : Nat, (b : Int) < t_17_c 2 → (u8b 1) b = t_18_c (2 * b) + edc t_21_c 0 b (Int.toNat (t_17_c 7)) from by assumption), (show ∀ j : Nat, (j : Int) < t_17_c 4 → (u8b 2) j ≤ 29 from by assumption), (hu8_0), (hu8_1), (hu8_2), (hu8_3), (hu8_4), (hu8_5), trivial⟩ [0, 1, 2, 3, 4, 5, 6, 7, 8, 9, 10, 11] (by decide) rfl dX12_laysNow_11
theorem wd_1547 : Cond.code ⟨"FootNotesModel", "laysNow", "()V"⟩ prog_14_method_50_code 1 (Option.none : Option Jvm.ClassFile.FieldType) ∈ fn_big := fn_tb (fn_l7 (List.mem_of_getElem? (i := 107) (by decide +kernel))) (by decide +kernel)
theorem wd_1544 : Cond.methodLink "FootNotesModel" 286 ⟨"FootNotesModel", "laysNow", "()V"⟩ ∈ fn_big := fn_tb (fn_l7 (List.mem_of_getElem? (i := 104) (by decide +kernel))) (by decide +kernel)
theorem wd_1546 : Cond.instanceMethod ⟨"FootNotesModel", "laysNow", "()V"⟩ ∈ fn_big := fn_tb (fn_l7 (List.mem_of_getElem? (i := 106) (by decide +kernel))) (by decide +kernel)
theorem wp_117 : Cond.selects "FootNotesModel" ⟨"FootNotesModel", "laysNow", "()V"⟩ ⟨"FootNotesModel", "laysNow", "()V"⟩ ∈ fn_big := fn_sel (q := (⟨"FootNotesModel", "laysNow", "()V"⟩, 51)) 117 (by decide +kernel) (by decide +kernel)
theorem dX12_page_68 : decode cX12_page 68 = .ok (.iadd, 1) := by decide +kernel
theorem dX12_page_69 : decode cX12_page 69 = .ok (.istore_n 3, 1) := by decide +kernel
theorem dX12_page_70 : decode cX12_page 70 = .ok (.iinc 4 1, 3) := by decide +kernel
theorem dX12_page_73 : decode cX12_page 73 = .ok (.goto (-35), 3) := by decide +kernel
theorem dX12_page_38 : decode cX12_page 38 = .ok (.iload 4, 2) := by decide +kernel
theorem dX12_page_40 : decode cX12_page 40 = .ok (.aload_n 0, 1) := by decide +kernel
theorem dX12_page_41 : decode cX12_page 41 = .ok (.getfield 34, 3) := by decide +kernel
theorem dX12_page_44 : decode cX12_page 44 = .ok (.iconst 4, 1) := by decide +kernel
theorem dX12_page_45 : decode cX12_page 45 = .ok (.iaload, 1) := by decide +kernel
theorem dX12_page_46 : decode cX12_page 46 = .ok (.if_icmp .ge 30, 3) := by decide +kernel
theorem dX12_page_76 : decode cX12_page 76 = .ok (.iload_n 2, 1) := by decide +kernel
theorem dX12_page_77 : decode cX12_page 77 = .ok (.ifCond .ne 12, 3) := by decide +kernel
theorem dX12_page_89 : decode cX12_page 89 = .ok (.iload_n 2, 1) := by decide +kernel
theorem dX12_page_90 : decode cX12_page 90 = .ok (.iconst 1, 1) := by decide +kernel
theorem dX12_page_91 : decode cX12_page 91 = .ok (.if_icmp .ne 12, 3) := by decide +kernel
theorem dX12_page_103 : decode cX12_page 103 = .ok (.iload_n 2, 1) := by decide +kernel
theorem dX12_page_104 : decode cX12_page 104 = .ok (.iconst 2, 1) := by decide +kernel
theorem dX12_page_105 : decode cX12_page 105 = .ok (.if_icmp .ne 7, 3) := by decide +kernel
theorem dX12_page_112 : decode cX12_page 112 = .ok (.aload_n 0, 1) := by decide +kernel
theorem dX12_page_113 : decode cX12_page 113 = .ok (.getfield 34, 3) := by decide +kernel
theorem dX12_page_116 : decode cX12_page 116 = .ok (.iconst 5, 1) := by decide +kernel
theorem dX12_page_117 : decode cX12_page 117 = .ok (.iaload, 1) := by decide +kernel
theorem dX12_page_118 : decode cX12_page 118 = .ok (.iload_n 1, 1) := by decide +kernel
theorem dX12_page_119 : decode cX12_page 119 = .ok (.ishr, 1) := by decide +kernel
theorem dX12_page_120 : decode cX12_page 120 = .ok (.iconst 1, 1) := by decide +kernel
theorem dX12_page_121 : decode cX12_page 121 = .ok (.iand, 1) := by decide +kernel
theorem dX12_page_122 : decode cX12_page 122 = .ok (.ireturn, 1) := by decide +kernel
theorem dX12_page_108 : decode cX12_page 108 = .ok (.iload_n 3, 1) := by decide +kernel
theorem dX12_page_109 : decode cX12_page 109 = .ok (.goto 13, 3) := by decide +kernel
theorem dX12_page_94 : decode cX12_page 94 = .ok (.aload_n 0, 1) := by decide +kernel
theorem dX12_page_95 : decode cX12_page 95 = .ok (.getfield 65, 3) := by decide +kernel
theorem dX12_page_98 : decode cX12_page 98 = .ok (.iload_n 1, 1) := by decide +kernel
theorem dX12_page_99 : decode cX12_page 99 = .ok (.iaload, 1) := by decide +kernel
theorem dX12_page_100 : decode cX12_page 100 = .ok (.goto 22, 3) := by decide +kernel
theorem dX12_page_80 : decode cX12_page 80 = .ok (.aload_n 0, 1) := by decide +kernel
theorem dX12_page_81 : decode cX12_page 81 = .ok (.getfield 40, 3) := by decide +kernel
theorem dX12_page_84 : decode cX12_page 84 = .ok (.iload_n 1, 1) := by decide +kernel
theorem dX12_page_85 : decode cX12_page 85 = .ok (.iaload, 1) := by decide +kernel
theorem dX12_page_86 : decode cX12_page 86 = .ok (.goto 36, 3) := by decide +kernel
theorem dX12_page_49 : decode cX12_page 49 = .ok (.iload_n 3, 1) := by decide +kernel
theorem dX12_page_50 : decode cX12_page 50 = .ok (.aload_n 0, 1) := by decide +kernel
theorem dX12_page_51 : decode cX12_page 51 = .ok (.getfield 43, 3) := by decide +kernel
theorem dX12_page_54 : decode cX12_page 54 = .ok (.iconst 4, 1) := by decide +kernel
theorem dX12_page_55 : decode cX12_page 55 = .ok (.iload 4, 2) := by decide +kernel
theorem dX12_page_57 : decode cX12_page 57 = .ok (.imul, 1) := by decide +kernel
theorem dX12_page_58 : decode cX12_page 58 = .ok (.iaload, 1) := by decide +kernel
theorem dX12_page_59 : decode cX12_page 59 = .ok (.iload_n 1, 1) := by decide +kernel
theorem dX12_page_60 : decode cX12_page 60 = .ok (.if_icmp .ne 7, 3) := by decide +kernel
theorem dX12_page_67 : decode cX12_page 67 = .ok (.iconst 0, 1) := by decide +kernel
theorem dX12_page_63 : decode cX12_page 63 = .ok (.iconst 1, 1) := by decide +kernel
theorem dX12_page_64 : decode cX12_page 64 = .ok (.goto 4, 3) := by decide +kernel
theorem dX12_page_0 : decode cX12_page 0 = .ok (.aload_n 0, 1) := by decide +kernel
theorem dX12_page_1 : decode cX12_page 1 = .ok (.iconst 0, 1) := by decide +kernel
theorem dX12_page_2 : decode cX12_page 2 = .ok (.putfield 104, 3) := by decide +kernel
theorem dX12_page_5 : decode cX12_page 5 = .ok (.aload_n 0, 1) := by decide +kernel
theorem dX12_page_6 : decode cX12_page 6 = .ok (.iload_n 1, 1) := by decide +kernel
theorem dX12_page_7 : decode cX12_page 7 = .ok (.i2l, 1) := by decide +kernel
theorem dX12_page_8 : decode cX12_page 8 = .ok (.invokevirtual 262, 3) := by decide +kernel
theorem dX12_page_11 : decode cX12_page 11 = .ok (.ifCond .eq 15, 3) := by decide +kernel
theorem dX12_page_26 : decode cX12_page 26 = .ok (.bipush (-2), 2) := by decide +kernel
theorem dX12_page_28 : decode cX12_page 28 = .ok (.ireturn, 1) := by decide +kernel
theorem dX12_page_14 : decode cX12_page 14 = .ok (.iload_n 2, 1) := by decide +kernel
theorem dX12_page_15 : decode cX12_page 15 = .ok (.i2l, 1) := by decide +kernel
theorem dX12_page_16 : decode cX12_page 16 = .ok (.lconst 0, 1) := by decide +kernel
theorem dX12_page_17 : decode cX12_page 17 = .ok (.ldc2_w 107, 3) := by decide +kernel
theorem dX12_page_20 : decode cX12_page 20 = .ok (.invokestatic 109, 3) := by decide +kernel
theorem dX12_page_23 : decode cX12_page 23 = .ok (.ifCond .ne 6, 3) := by decide +kernel
theorem dX12_page_29 : decode cX12_page 29 = .ok (.aload_n 0, 1) := by decide +kernel
theorem dX12_page_30 : decode cX12_page 30 = .ok (.invokevirtual 286, 3) := by decide +kernel
theorem dX12_page_33 : decode cX12_page 33 = .ok (.iconst 0, 1) := by decide +kernel
theorem dX12_page_34 : decode cX12_page 34 = .ok (.istore_n 3, 1) := by decide +kernel
theorem dX12_page_35 : decode cX12_page 35 = .ok (.iconst 0, 1) := by decide +kernel
theorem dX12_page_36 : decode cX12_page 36 = .ok (.istore 4, 2) := by decide +kernel
set_option maxHeartbeats 4000000 in
set_option maxRecDepth 100000 in
theorem k_X12_page (l : Launch) (D : va_G) (K : Nat → ClassId) (t : Nat) (t_q : Nat → Nat) (p1 p2 t_x0 t_x6 t_x7 t_x8 t_x9 t_x10 t_x11 t_x12 t_x13 t_x14 t_x15 t_x32 t_x33 t_x34 t_x35 t_x39 t_x40 t_x43 t_x44 t_x48 t_x49 t_x50 : Int) (t_17_c : Nat → Int) (t_18_c : Nat → Int) (t_19_c : Nat → Int) (t_20_c : Nat → Int) (t_21_c : Nat → Int) (t_23_c : Nat → Int) (t_24_c : Nat → Int) (t_25_c : Nat → Int) (t_26_c : Nat → Int) (t_27_c : Nat → Int) (t_28_c : Nat → Int) (hp1 : (-2147483648) ≤ p1 ∧ p1 ≤ 2147483647) (hp2 : (-2147483648) ≤ p2 ∧ p2 ≤ 2147483647) (hi_t : bM12 t_x0 t_x6 t_x7 t_x8 t_x9 t_x10 t_x11 t_x12 t_x13 t_x14 t_x15 t_x32 t_x33 t_x34 t_x35 t_x39 t_x40 t_x43 t_x44 t_x48 t_x49 t_x50) (hc_t_17 : ∀ j : Nat, (j % 8 = 0 → 0 ≤ t_17_c j ∧ t_17_c j ≤ 20) ∧ (j % 8 = 1 → 0 ≤ t_17_c j ∧ t_17_c j ≤ 100) ∧ (j % 8 = 2 → 0 ≤ t_17_c j ∧ t_17_c j ≤ 5) ∧ (j % 8 = 3 → 0 ≤ t_17_c j ∧ t_17_c j ≤ 12) ∧ (j % 8 = 4 → 0 ≤ t_17_c j ∧ t_17_c j ≤ 24) ∧ (j % 8 = 5 → 0 ≤ t_17_c j ∧ t_17_c j ≤ 4095) ∧ (j % 8 = 6 → 0 ≤ t_17_c j ∧ t_17_c j ≤ 31) ∧ (j % 8 = 7 → 0 ≤ t_17_c j ∧ t_17_c j ≤ 40)) (hc_t_18 : ∀ j : Nat, (j % 2 = 0 → 0 ≤ t_18_c j ∧ t_18_c j ≤ 9) ∧ (j % 2 = 1 → 0 ≤ t_18_c j ∧ t_18_c j ≤ 4)) (hc_t_19 : ∀ j : Nat, 0 ≤ t_19_c j ∧ t_19_c j ≤ 4) (hc_t_20 : ∀ j : Nat, (j % 4 = 0 → 0 ≤ t_20_c j ∧ t_20_c j ≤ 11) ∧ (j % 4 = 1 → 0 ≤ t_20_c j ∧ t_20_c j ≤ 4) ∧ (j % 4 = 2 → 0 ≤ t_20_c j ∧ t_20_c j ≤ 29) ∧ (j % 4 = 3 → 0 ≤ t_20_c j ∧ t_20_c j ≤ 1)) (hc_t_21 : ∀ j : Nat, (j % 3 = 0 → 0 ≤ t_21_c j ∧ t_21_c j ≤ 2) ∧ (j % 3 = 1 → 0 ≤ t_21_c j ∧ t_21_c j ≤ 23) ∧ (j % 3 = 2 → 0 ≤ t_21_c j ∧ t_21_c j ≤ 29)) (hc_t_23 : ∀ j : Nat, (-2) ≤ t_23_c j ∧ t_23_c j ≤ 11) (hc_t_24 : ∀ j : Nat, 0 ≤ t_24_c j ∧ t_24_c j ≤ 30) (hc_t_25 : ∀ j : Nat, 0 ≤ t_25_c j ∧ t_25_c j ≤ 30) (hc_t_26 : ∀ j : Nat, (-1) ≤ t_26_c j ∧ t_26_c j ≤ 11) (hc_t_27 : ∀ j : Nat, (-1) ≤ t_27_c j ∧ t_27_c j ≤ 29) (hc_t_28 : ∀ j : Nat, 0 ≤ t_28_c j ∧ t_28_c j ≤ 4095) (ti : TI 0 t_17_c t_18_c t_19_c t_20_c t_21_c) : fn_CI (S := (Nat → Int) × (Nat → Nat → Int)) l D K yX12_page (fn_ws yX12_page cX12_page 5 (some .int)) ({ frames := 20, cells := 0, slots := 0, locals := 500 } : Room) [.ref t, .int (iI p1), .int (iI p2)] [(t, .inr (12, oX12 t_q t_x0 t_x6 t_x7 t_x8 t_x9 t_x10 t_x11 t_x12 t_x13 t_x14 t_x15 t_x32 t_x33 t_x34 t_x35 t_x39 t_x40 t_x43 t_x44 t_x48 t_x49 t_x50)), ((t_q 17), .inl (K 0, 40, .inl (fun j => iI (t_17_c j)))), ((t_q 18), .inl (K 0, 50, .inl (fun j => iI (t_18_c j)))), ((t_q 19), .inl (K 0, 60, .inl (fun j => iI (t_19_c j)))), ((t_q 20), .inl (K 0, 480, .inl (fun j => iI (t_20_c j)))), ((t_q 21), .inl (K 0, 600, .inl (fun j => iI (t_21_c j)))), ((t_q 23), .inl (K 0, 150, .inl (fun j => iI (t_23_c j)))), ((t_q 24), .inl (K 0, 5, .inl (fun j => iI (t_24_c j)))), ((t_q 25), .inl (K 0, 24, .inl (fun j => iI (t_25_c j)))), ((t_q 26), .inl (K 0, 24, .inl (fun j => iI (t_26_c j)))), ((t_q 27), .inl (K 0, 12, .inl (fun j => iI (t_27_c j)))), ((t_q 28), .inl (K 0, 12, .inl (fun j => iI (t_28_c j))))] (fun r u => ∃ k : Int, r = iI k ∧ ((-2147483648) ≤ k ∧ k ≤ 2147483647) ∧ ((-2147483648) ≤ (u.1 0) ∧ (u.1 0) ≤ 2147483647) ∧ (∀ j : Nat, (-2) ≤ (u.2 0) j ∧ (u.2 0) j ≤ 11) ∧ (∀ j : Nat, 0 ≤ (u.2 1) j ∧ (u.2 1) j ≤ 30) ∧ (∀ j : Nat, 0 ≤ (u.2 2) j ∧ (u.2 2) j ≤ 30) ∧ (∀ j : Nat, (-1) ≤ (u.2 3) j ∧ (u.2 3) j ≤ 11) ∧ (∀ j : Nat, (-1) ≤ (u.2 4) j ∧ (u.2 4) j ≤ 29) ∧ (∀ j : Nat, 0 ≤ (u.2 5) j ∧ (u.2 5) j ≤ 4095) ∧ True) (fun u => [(t, .inr (12, oX12 t_q (u.1 0) t_x6 t_x7 t_x8 t_x9 t_x10 t_x11 t_x12 t_x13 t_x14 t_x15 t_x32 t_x33 t_x34 t_x35 t_x39 t_x40 t_x43 t_x44 t_x48 t_x49 t_x50)), ((t_q 17), .inl (K 0, 40, .inl (fun j => iI (t_17_c j)))), ((t_q 18), .inl (K 0, 50, .inl (fun j => iI (t_18_c j)))), ((t_q 19), .inl (K 0, 60, .inl (fun j => iI (t_19_c j)))), ((t_q 20), .inl (K 0, 480, .inl (fun j => iI (t_20_c j)))), ((t_q 21), .inl (K 0, 600, .inl (fun j => iI (t_21_c j)))), ((t_q 23), .inl (K 0, 150, .inl (fun j => iI ((u.2 0) j)))), ((t_q 24), .inl (K 0, 5, .inl (fun j => iI ((u.2 1) j)))), ((t_q 25), .inl (K 0, 24, .inl (fun j => iI ((u.2 2) j)))), ((t_q 26), .inl (K 0, 24, .inl (fun j => iI ((u.2 3) j)))), ((t_q 27), .inl (K 0, 12, .inl (fun j => iI ((u.2 4) j)))), ((t_q 28), .inl (K 0, 12, .inl (fun j => iI ((u.2 5) j))))]) 0 0 := by
  refine g_inI (cc := cX12_page) (maxL := 5) (ret := (some .int)) (by decide) rfl (Nat.le_of_ble_eq_true rfl) ?_
  intro p e s m below meth c A ls ag Q B hA hP hD hS hl hQ
  obtain ⟨hx, hb, hr, hml, hts, hown, hlocks, hin, hK⟩ := B
  have hown : s.vm.findClass RX12 = some m.cls := hown
  have hts := fun w h => hts w (List.mem_cons_of_mem _ h)
  have J38 : ∀ (n : Nat) (x38_3 : Int) (x38_4 : Int) (c38_t_23 : Nat → Int) (c38_t_24 : Nat → Int) (c38_t_25 : Nat → Int) (c38_t_26 : Nat → Int) (c38_t_27 : Nat → Int) (c38_t_28 : Nat → Int) (H : Heap) (locs : List Loc) (ls : Array Slot), (24 - x38_4).toNat < n → (0 ≤ p1 ∧ p1 ≤ 11 ∧ 0 ≤ p2 ∧ p2 ≤ 3 ∧ (-2147483648) ≤ x38_3 ∧ x38_3 ≤ 2147483647 ∧ 0 ≤ x38_4 ∧ x38_4 ≤ 24) → (∀ j : Nat, (-2) ≤ c38_t_23 j ∧ c38_t_23 j ≤ 11) → (∀ j : Nat, 0 ≤ c38_t_24 j ∧ c38_t_24 j ≤ 30) → (∀ j : Nat, 0 ≤ c38_t_25 j ∧ c38_t_25 j ≤ 30) → (∀ j : Nat, (-1) ≤ c38_t_26 j ∧ c38_t_26 j ≤ 11) → (∀ j : Nat, (-1) ≤ c38_t_27 j ∧ c38_t_27 j ≤ 29) → (∀ j : Nat, 0 ≤ c38_t_28 j ∧ c38_t_28 j ≤ 4095) → va_P D vwCl [(t, .inr (12, oX12 t_q 0 t_x6 t_x7 t_x8 t_x9 t_x10 t_x11 t_x12 t_x13 t_x14 t_x15 t_x32 t_x33 t_x34 t_x35 t_x39 t_x40 t_x43 t_x44 t_x48 t_x49 t_x50)), ((t_q 17), .inl (K 0, 40, .inl (fun j => iI (t_17_c j)))), ((t_q 18), .inl (K 0, 50, .inl (fun j => iI (t_18_c j)))), ((t_q 19), .inl (K 0, 60, .inl (fun j => iI (t_19_c j)))), ((t_q 20), .inl (K 0, 480, .inl (fun j => iI (t_20_c j)))), ((t_q 21), .inl (K 0, 600, .inl (fun j => iI (t_21_c j)))), ((t_q 23), .inl (K 0, 150, .inl (fun j => iI (c38_t_23 j)))), ((t_q 24), .inl (K 0, 5, .inl (fun j => iI (c38_t_24 j)))), ((t_q 25), .inl (K 0, 24, .inl (fun j => iI (c38_t_25 j)))), ((t_q 26), .inl (K 0, 24, .inl (fun j => iI (c38_t_26 j)))), ((t_q 27), .inl (K 0, 12, .inl (fun j => iI (c38_t_27 j)))), ((t_q 28), .inl (K 0, 12, .inl (fun j => iI (c38_t_28 j))))] H → va_D A [(t, .inr (12, oX12 t_q 0 t_x6 t_x7 t_x8 t_x9 t_x10 t_x11 t_x12 t_x13 t_x14 t_x15 t_x32 t_x33 t_x34 t_x35 t_x39 t_x40 t_x43 t_x44 t_x48 t_x49 t_x50)), ((t_q 17), .inl (K 0, 40, .inl (fun j => iI (t_17_c j)))), ((t_q 18), .inl (K 0, 50, .inl (fun j => iI (t_18_c j)))), ((t_q 19), .inl (K 0, 60, .inl (fun j => iI (t_19_c j)))), ((t_q 20), .inl (K 0, 480, .inl (fun j => iI (t_20_c j)))), ((t_q 21), .inl (K 0, 600, .inl (fun j => iI (t_21_c j)))), ((t_q 23), .inl (K 0, 150, .inl (fun j => iI (c38_t_23 j)))), ((t_q 24), .inl (K 0, 5, .inl (fun j => iI (c38_t_24 j)))), ((t_q 25), .inl (K 0, 24, .inl (fun j => iI (c38_t_25 j)))), ((t_q 26), .inl (K 0, 24, .inl (fun j => iI (c38_t_26 j)))), ((t_q 27), .inl (K 0, 12, .inl (fun j => iI (c38_t_27 j)))), ((t_q 28), .inl (K 0, 12, .inl (fun j => iI (c38_t_28 j))))] → va_S A s.heap H locs → lv_has ls 5 [(0, .ref t), (1, .int (iI p1)), (2, .int (iI p2)), (3, .int (iI x38_3)), (4, .int (iI x38_4))] → W p l e ({ frames := 20, cells := 0, slots := 0, locals := 500 } : Room) s m ag below meth c H locs 0 0 Q (F0 m 38 ls []) := by
    intro n
    induction n with
    | zero =>
      intro x38_3 x38_4 c38_t_23 c38_t_24 c38_t_25 c38_t_26 c38_t_27 c38_t_28 H locs ls hm38 hf38 hc38_t_23 hc38_t_24 hc38_t_25 hc38_t_26 hc38_t_27 hc38_t_28 hP hD hS hl
      exact absurd hm38 (Nat.not_lt_zero _)
    | succ n ih38 =>
      intro x38_3 x38_4 c38_t_23 c38_t_24 c38_t_25 c38_t_26 c38_t_27 c38_t_28 H locs ls hm38 hf38 hc38_t_23 hc38_t_24 hc38_t_25 hc38_t_26 hc38_t_27 hc38_t_28 hP hD hS hl
      have J68 : ∀ (z68_1 : Int) (H : Heap) (locs : List Loc) (ls : Array Slot), (0 ≤ p1 ∧ p1 ≤ 11 ∧ 0 ≤ p2 ∧ p2 ≤ 3 ∧ 0 ≤ x38_4 ∧ x38_4 ≤ 23 ∧ 0 ≤ z68_1 ∧ z68_1 ≤ 1) → va_P D vwCl [(t, .inr (12, oX12 t_q 0 t_x6 t_x7 t_x8 t_x9 t_x10 t_x11 t_x12 t_x13 t_x14 t_x15 t_x32 t_x33 t_x34 t_x35 t_x39 t_x40 t_x43 t_x44 t_x48 t_x49 t_x50)), ((t_q 17), .inl (K 0, 40, .inl (fun j => iI (t_17_c j)))), ((t_q 18), .inl (K 0, 50, .inl (fun j => iI (t_18_c j)))), ((t_q 19), .inl (K 0, 60, .inl (fun j => iI (t_19_c j)))), ((t_q 20), .inl (K 0, 480, .inl (fun j => iI (t_20_c j)))), ((t_q 21), .inl (K 0, 600, .inl (fun j => iI (t_21_c j)))), ((t_q 23), .inl (K 0, 150, .inl (fun j => iI (c38_t_23 j)))), ((t_q 24), .inl (K 0, 5, .inl (fun j => iI (c38_t_24 j)))), ((t_q 25), .inl (K 0, 24, .inl (fun j => iI (c38_t_25 j)))), ((t_q 26), .inl (K 0, 24, .inl (fun j => iI (c38_t_26 j)))), ((t_q 27), .inl (K 0, 12, .inl (fun j => iI (c38_t_27 j)))), ((t_q 28), .inl (K 0, 12, .inl (fun j => iI (c38_t_28 j))))] H → va_D A [(t, .inr (12, oX12 t_q 0 t_x6 t_x7 t_x8 t_x9 t_x10 t_x11 t_x12 t_x13 t_x14 t_x15 t_x32 t_x33 t_x34 t_x35 t_x39 t_x40 t_x43 t_x44 t_x48 t_x49 t_x50)), ((t_q 17), .inl (K 0, 40, .inl (fun j => iI (t_17_c j)))), ((t_q 18), .inl (K 0, 50, .inl (fun j => iI (t_18_c j)))), ((t_q 19), .inl (K 0, 60, .inl (fun j => iI (t_19_c j)))), ((t_q 20), .inl (K 0, 480, .inl (fun j => iI (t_20_c j)))), ((t_q 21), .inl (K 0, 600, .inl (fun j => iI (t_21_c j)))), ((t_q 23), .inl (K 0, 150, .inl (fun j => iI (c38_t_23 j)))), ((t_q 24), .inl (K 0, 5, .inl (fun j => iI (c38_t_24 j)))), ((t_q 25), .inl (K 0, 24, .inl (fun j => iI (c38_t_25 j)))), ((t_q 26), .inl (K 0, 24, .inl (fun j => iI (c38_t_26 j)))), ((t_q 27), .inl (K 0, 12, .inl (fun j => iI (c38_t_27 j)))), ((t_q 28), .inl (K 0, 12, .inl (fun j => iI (c38_t_28 j))))] → va_S A s.heap H locs → lv_has ls 5 [(0, .ref t), (1, .int (iI p1)), (2, .int (iI p2)), (3, .int (iI x38_3)), (4, .int (iI x38_4))] → W p l e ({ frames := 20, cells := 0, slots := 0, locals := 500 } : Room) s m ag below meth c H locs 0 0 Q (F0 m 68 ls [.int (iI z68_1), .int (iI x38_3)]) := by
        intro z68_1 H locs ls hf68 hP hD hS hl
        refine g_iadd hx hb dX12_page_68 ?_
        refine g_any (fun w68 hw68 ew68 => ?_)
        refine lv_istore_n (lv' := [(3, .int (iI w68)), (0, .ref t), (1, .int (iI p1)), (2, .int (iI p2)), (4, .int (iI x38_4))]) hx hb dX12_page_69 rfl hl (by decide) rfl (fun ls hl => ?_)
        refine lv_iinc (v := iI (x38_4 + 1)) (lv' := [(4, .int (iI (x38_4 + 1))), (3, .int (iI w68)), (0, .ref t), (1, .int (iI p1)), (2, .int (iI p2))]) hx hb dX12_page_70 hl (k := 4) rfl (iI_add _ _) (by decide) rfl (fun ls hl => ?_)
        refine lv_goto (tgt := 38) hx hb dX12_page_73 (by decide) ?_
        exact ih38 w68 (x38_4 + 1) c38_t_23 c38_t_24 c38_t_25 c38_t_26 c38_t_27 c38_t_28 _ _ ls (by omega) (by omega) hc38_t_23 hc38_t_24 hc38_t_25 hc38_t_26 hc38_t_27 hc38_t_28 (hP.sub [0, 1, 2, 3, 4, 5, 6, 7, 8, 9, 10, 11] rfl) (hD.sub [0, 1, 2, 3, 4, 5, 6, 7, 8, 9, 10, 11] (by decide) rfl) hS (lv_sub hl [2, 3, 4, 1, 0] rfl)
      refine lv_iload hx hb dX12_page_38 (lv_at hl 4 rfl) ?_
      refine lv_aload_n hx hb dX12_page_40 rfl (lv_at hl 0 rfl) ?_
      refine va_get (D := D) (own := RX12) (ci := 12) (v := .ref (t_q 17)) (C := RX12) (T := TX12) (N := 51) hx hb hts inb_X12 hown hK.1 hP 0 rfl rfl 17 (by decide) (hts _ wd_1251) (fun _ h9 => h9) rfl dX12_page_41 ?_
      refine lv_iconst (v := iI 4) hx hb dX12_page_44 rfl ?_
      refine g_iald hx hb hK.1 hP 1 0 rfl rfl (by omega) (by omega) (by decide) dX12_page_45 ?_
      refine fn_top (iI (t_17_c 4)) rfl ?_
      have y45 : 0 ≤ (t_17_c 4) ∧ (t_17_c 4) ≤ 24 := (hc_t_17 4).2.2.2.2.1 (by omega)
      refine g_icmp_ge (tgt := 76) hx hb (by omega) (by omega) dX12_page_46 (by decide) (fun c46 => ?_) (fun c46 => ?_)
      · refine lv_iload_n hx hb dX12_page_76 rfl (lv_at hl 2 rfl) ?_
        refine g_if_ne (tgt := 89) hx hb (by omega) dX12_page_77 (by decide) (fun c77 => ?_) (fun c77 => ?_)
        · refine lv_iload_n hx hb dX12_page_89 rfl (lv_at hl 2 rfl) ?_
          refine lv_iconst (v := iI 1) hx hb dX12_page_90 rfl ?_
          refine g_icmp_ne (tgt := 103) hx hb (by omega) (by omega) dX12_page_91 (by decide) (fun c91 => ?_) (fun c91 => ?_)
          · refine lv_iload_n hx hb dX12_page_103 rfl (lv_at hl 2 rfl) ?_
            refine lv_iconst (v := iI 2) hx hb dX12_page_104 rfl ?_
            refine g_icmp_ne (tgt := 112) hx hb (by omega) (by omega) dX12_page_105 (by decide) (fun c105 => ?_) (fun c105 => ?_)
            · refine lv_aload_n hx hb dX12_page_112 rfl (lv_at hl 0 rfl) ?_
              refine va_get (D := D) (own := RX12) (ci := 12) (v := .ref (t_q 17)) (C := RX12) (T := TX12) (N := 51) hx hb hts inb_X12 hown hK.1 hP 0 rfl rfl 17 (by decide) (hts _ wd_1251) (fun _ h9 => h9) rfl dX12_page_113 ?_
              refine lv_iconst (v := iI 5) hx hb dX12_page_116 rfl ?_
              refine g_iald hx hb hK.1 hP 1 0 rfl rfl (by omega) (by omega) (by decide) dX12_page_117 ?_
              refine fn_top (iI (t_17_c 5)) rfl ?_
              have y117 : 0 ≤ (t_17_c 5) ∧ (t_17_c 5) ≤ 4095 := (hc_t_17 5).2.2.2.2.2.1 (by omega)
              refine lv_iload_n hx hb dX12_page_118 rfl (lv_at hl 1 rfl) ?_
              refine fn_at 119 rfl ?_
              refine lv_ishr hx hb dX12_page_119 ?_
              obtain ⟨w119, ew119, hw119⟩ := iI_shr (t_17_c 5) p1 (by omega) (by omega)
              refine fn_top (iI w119) ew119 ?_
              refine lv_iconst (v := iI 1) hx hb dX12_page_120 rfl ?_
              refine lv_iand hx hb dX12_page_121 ?_
              obtain ⟨w121, ew121, hw121⟩ := iI_and1 w119 (by omega)
              refine fn_top (iI w121) ew121 ?_
              rw [hQ]; exact fn_iret hx hb hr hlocks rfl hP hD hS ((fun k => ([0] : List Int).getD k 0), (fun k => ([c38_t_23, c38_t_24, c38_t_25, c38_t_26, c38_t_27, c38_t_28] : List (Nat → Int)).getD k (fun _ => 0))) ⟨w121, rfl, by omega, (by show (-2147483648) ≤ 0 ∧ 0 ≤ 2147483647; omega), (hc38_t_23), (hc38_t_24), (hc38_t_25), (hc38_t_26), (hc38_t_27), (hc38_t_28), trivial⟩ [0, 1, 2, 3, 4, 5, 6, 7, 8, 9, 10, 11] (by decide) rfl dX12_page_122
            · refine lv_iload_n hx hb dX12_page_108 rfl (lv_at hl 3 rfl) ?_
              refine lv_goto (tgt := 122) hx hb dX12_page_109 (by decide) ?_
              rw [hQ]; exact fn_iret hx hb hr hlocks rfl hP hD hS ((fun k => ([0] : List Int).getD k 0), (fun k => ([c38_t_23, c38_t_24, c38_t_25, c38_t_26, c38_t_27, c38_t_28] : List (Nat → Int)).getD k (fun _ => 0))) ⟨x38_3, rfl, by omega, (by show (-2147483648) ≤ 0 ∧ 0 ≤ 2147483647; omega), (hc38_t_23), (hc38_t_24), (hc38_t_25), (hc38_t_26), (hc38_t_27), (hc38_t_28), trivial⟩ [0, 1, 2, 3, 4, 5, 6, 7, 8, 9, 10, 11] (by decide) rfl dX12_page_122
          · refine lv_aload_n hx hb dX12_page_94 rfl (lv_at hl 0 rfl) ?_
            refine va_get (D := D) (own := RX12) (ci := 12) (v := .ref (t_q 27)) (C := RX12) (T := TX12) (N := 51) hx hb hts inb_X12 hown hK.1 hP 0 rfl rfl 27 (by decide) (hts _ wd_1261) (fun _ h9 => h9) rfl dX12_page_95 ?_
            refine lv_iload_n hx hb dX12_page_98 rfl (lv_at hl 1 rfl) ?_
            refine g_iald hx hb hK.1 hP 10 0 rfl rfl (by omega) (by omega) (by decide) dX12_page_99 ?_
            have y99 : (-1) ≤ (c38_t_27 p1.toNat) ∧ (c38_t_27 p1.toNat) ≤ 29 := hc38_t_27 p1.toNat
            refine lv_goto (tgt := 122) hx hb dX12_page_100 (by decide) ?_
            rw [hQ]; exact fn_iret hx hb hr hlocks rfl hP hD hS ((fun k => ([0] : List Int).getD k 0), (fun k => ([c38_t_23, c38_t_24, c38_t_25, c38_t_26, c38_t_27, c38_t_28] : List (Nat → Int)).getD k (fun _ => 0))) ⟨c38_t_27 p1.toNat, rfl, by omega, (by show (-2147483648) ≤ 0 ∧ 0 ≤ 2147483647; omega), (hc38_t_23), (hc38_t_24), (hc38_t_25), (hc38_t_26), (hc38_t_27), (hc38_t_28), trivial⟩ [0, 1, 2, 3, 4, 5, 6, 7, 8, 9, 10, 11] (by decide) rfl dX12_page_122
        · refine lv_aload_n hx hb dX12_page_80 rfl (lv_at hl 0 rfl) ?_
          refine va_get (D := D) (own := RX12) (ci := 12) (v := .ref (t_q 19)) (C := RX12) (T := TX12) (N := 51) hx hb hts inb_X12 hown hK.1 hP 0 rfl rfl 19 (by decide) (hts _ wd_1253) (fun _ h9 => h9) rfl dX12_page_81 ?_
          refine lv_iload_n hx hb dX12_page_84 rfl (lv_at hl 1 rfl) ?_
          refine g_iald hx hb hK.1 hP 3 0 rfl rfl (by omega) (by omega) (by decide) dX12_page_85 ?_
          have y85 : 0 ≤ (t_19_c p1.toNat) ∧ (t_19_c p1.toNat) ≤ 4 := hc_t_19 p1.toNat
          refine lv_goto (tgt := 122) hx hb dX12_page_86 (by decide) ?_
          rw [hQ]; exact fn_iret hx hb hr hlocks rfl hP hD hS ((fun k => ([0] : List Int).getD k 0), (fun k => ([c38_t_23, c38_t_24, c38_t_25, c38_t_26, c38_t_27, c38_t_28] : List (Nat → Int)).getD k (fun _ => 0))) ⟨t_19_c p1.toNat, rfl, by omega, (by show (-2147483648) ≤ 0 ∧ 0 ≤ 2147483647; omega), (hc38_t_23), (hc38_t_24), (hc38_t_25), (hc38_t_26), (hc38_t_27), (hc38_t_28), trivial⟩ [0, 1, 2, 3, 4, 5, 6, 7, 8, 9, 10, 11] (by decide) rfl dX12_page_122
      · refine lv_iload_n hx hb dX12_page_49 rfl (lv_at hl 3 rfl) ?_
        refine lv_aload_n hx hb dX12_page_50 rfl (lv_at hl 0 rfl) ?_
        refine va_get (D := D) (own := RX12) (ci := 12) (v := .ref (t_q 20)) (C := RX12) (T := TX12) (N := 51) hx hb hts inb_X12 hown hK.1 hP 0 rfl rfl 20 (by decide) (hts _ wd_1254) (fun _ h9 => h9) rfl dX12_page_51 ?_
        refine lv_iconst (v := iI 4) hx hb dX12_page_54 rfl ?_
        refine lv_iload hx hb dX12_page_55 (lv_at hl 4 rfl) ?_
        refine g_imul hx hb dX12_page_57 ?_
        refine g_iald hx hb hK.1 hP 4 0 rfl rfl (by omega) (by omega) (by decide) dX12_page_58 ?_
        have y58 : 0 ≤ (t_20_c ((4 * x38_4).toNat)) ∧ (t_20_c ((4 * x38_4).toNat)) ≤ 11 := (hc_t_20 ((4 * x38_4).toNat)).1 (by omega)
        refine lv_iload_n hx hb dX12_page_59 rfl (lv_at hl 1 rfl) ?_
        refine g_icmp_ne (tgt := 67) hx hb (by omega) (by omega) dX12_page_60 (by decide) (fun c60 => ?_) (fun c60 => ?_)
        · refine lv_iconst (v := iI 0) hx hb dX12_page_67 rfl ?_
          exact J68 0 _ _ ls (by omega) (hP.sub [0, 1, 2, 3, 4, 5, 6, 7, 8, 9, 10, 11] rfl) (hD.sub [0, 1, 2, 3, 4, 5, 6, 7, 8, 9, 10, 11] (by decide) rfl) hS (lv_sub hl [0, 1, 2, 3, 4] rfl)
        · refine lv_iconst (v := iI 1) hx hb dX12_page_63 rfl ?_
          refine lv_goto (tgt := 68) hx hb dX12_page_64 (by decide) ?_
          exact J68 1 _ _ ls (by omega) (hP.sub [0, 1, 2, 3, 4, 5, 6, 7, 8, 9, 10, 11] rfl) (hD.sub [0, 1, 2, 3, 4, 5, 6, 7, 8, 9, 10, 11] (by decide) rfl) hS (lv_sub hl [0, 1, 2, 3, 4] rfl)
  have hl : lv_has ls 5 [(0, .ref t), (1, .int (iI p1)), (2, .int (iI p2))] := hl
  refine lv_aload_n hx hb dX12_page_0 rfl (lv_at hl 0 rfl) ?_
  refine lv_iconst (v := iI 0) hx hb dX12_page_1 rfl ?_
  refine va_put (D := D) (own := RX12) (ci := 12) (v := .int (iI 0)) (ty := .int) (C := RX12) (T := TX12) (N := 51) hx hb hts inb_X12 tyX12 tyX12_ok nmX12 hown hK.1 hP hD hS 0 rfl rfl 0 (by decide) (hts _ wd_1234) (fun _ h9 => h9) rfl (by decide +kernel) rfl rfl (Nat.le_of_ble_eq_true rfl) dX12_page_2 (fun H locs hP hD hS => ?_)
  have hP : va_P D vwCl [(t, .inr (12, oX12 t_q 0 t_x6 t_x7 t_x8 t_x9 t_x10 t_x11 t_x12 t_x13 t_x14 t_x15 t_x32 t_x33 t_x34 t_x35 t_x39 t_x40 t_x43 t_x44 t_x48 t_x49 t_x50)), ((t_q 17), .inl (K 0, 40, .inl (fun j => iI (t_17_c j)))), ((t_q 18), .inl (K 0, 50, .inl (fun j => iI (t_18_c j)))), ((t_q 19), .inl (K 0, 60, .inl (fun j => iI (t_19_c j)))), ((t_q 20), .inl (K 0, 480, .inl (fun j => iI (t_20_c j)))), ((t_q 21), .inl (K 0, 600, .inl (fun j => iI (t_21_c j)))), ((t_q 23), .inl (K 0, 150, .inl (fun j => iI (t_23_c j)))), ((t_q 24), .inl (K 0, 5, .inl (fun j => iI (t_24_c j)))), ((t_q 25), .inl (K 0, 24, .inl (fun j => iI (t_25_c j)))), ((t_q 26), .inl (K 0, 24, .inl (fun j => iI (t_26_c j)))), ((t_q 27), .inl (K 0, 12, .inl (fun j => iI (t_27_c j)))), ((t_q 28), .inl (K 0, 12, .inl (fun j => iI (t_28_c j))))] H := hP
  have hD : va_D A [(t, .inr (12, oX12 t_q 0 t_x6 t_x7 t_x8 t_x9 t_x10 t_x11 t_x12 t_x13 t_x14 t_x15 t_x32 t_x33 t_x34 t_x35 t_x39 t_x40 t_x43 t_x44 t_x48 t_x49 t_x50)), ((t_q 17), .inl (K 0, 40, .inl (fun j => iI (t_17_c j)))), ((t_q 18), .inl (K 0, 50, .inl (fun j => iI (t_18_c j)))), ((t_q 19), .inl (K 0, 60, .inl (fun j => iI (t_19_c j)))), ((t_q 20), .inl (K 0, 480, .inl (fun j => iI (t_20_c j)))), ((t_q 21), .inl (K 0, 600, .inl (fun j => iI (t_21_c j)))), ((t_q 23), .inl (K 0, 150, .inl (fun j => iI (t_23_c j)))), ((t_q 24), .inl (K 0, 5, .inl (fun j => iI (t_24_c j)))), ((t_q 25), .inl (K 0, 24, .inl (fun j => iI (t_25_c j)))), ((t_q 26), .inl (K 0, 24, .inl (fun j => iI (t_26_c j)))), ((t_q 27), .inl (K 0, 12, .inl (fun j => iI (t_27_c j)))), ((t_q 28), .inl (K 0, 12, .inl (fun j => iI (t_28_c j))))] := hD
  refine lv_aload_n hx hb dX12_page_5 rfl (lv_at hl 0 rfl) ?_
  refine lv_iload_n hx hb dX12_page_6 rfl (lv_at hl 1 rfl) ?_
  refine lv_i2l (v := lI p1) hx hb dX12_page_7 (iI_2l (by omega)) ?_
  refine fn_goi (wc := [(t, .inr (12, oX12 t_q 0 t_x6 t_x7 t_x8 t_x9 t_x10 t_x11 t_x12 t_x13 t_x14 t_x15 t_x32 t_x33 t_x34 t_x35 t_x39 t_x40 t_x43 t_x44 t_x48 t_x49 t_x50)), ((t_q 17), .inl (K 0, 40, .inl (fun j => iI (t_17_c j))))]) (wr := [((t_q 18), .inl (K 0, 50, .inl (fun j => iI (t_18_c j)))), ((t_q 19), .inl (K 0, 60, .inl (fun j => iI (t_19_c j)))), ((t_q 20), .inl (K 0, 480, .inl (fun j => iI (t_20_c j)))), ((t_q 21), .inl (K 0, 600, .inl (fun j => iI (t_21_c j)))), ((t_q 23), .inl (K 0, 150, .inl (fun j => iI (t_23_c j)))), ((t_q 24), .inl (K 0, 5, .inl (fun j => iI (t_24_c j)))), ((t_q 25), .inl (K 0, 24, .inl (fun j => iI (t_25_c j)))), ((t_q 26), .inl (K 0, 24, .inl (fun j => iI (t_26_c j)))), ((t_q 27), .inl (K 0, 12, .inl (fun j => iI (t_27_c j)))), ((t_q 28), .inl (K 0, 12, .inl (fun j => iI (t_28_c j))))]) hK hP hD hS hA [0, 1] [2, 3, 4, 5, 6, 7, 8, 9, 10, 11] rfl rfl (by decide) (fun hp => va_runV (C := RX12) (As := [.long (lI p1)]) (rest := []) ⟨hx, hb, hml, hown, hts⟩ (k_X12_isPage (l := l) (D := D) (K := K) (t := t) (p1 := p1) (t_q := t_q) (t_x0 := 0) (t_x6 := t_x6) (t_x7 := t_x7) (t_x8 := t_x8) (t_x9 := t_x9) (t_x10 := t_x10) (t_x11 := t_x11) (t_x12 := t_x12) (t_x13 := t_x13) (t_x14 := t_x14) (t_x15 := t_x15) (t_x32 := t_x32) (t_x33 := t_x33) (t_x34 := t_x34) (t_x35 := t_x35) (t_x39 := t_x39) (t_x40 := t_x40) (t_x43 := t_x43) (t_x44 := t_x44) (t_x48 := t_x48) (t_x49 := t_x49) (t_x50 := t_x50) (t_17_c := t_17_c) (hp1 := (by omega)) (hi_t := ⟨(by omega), hi_t.2.1, hi_t.2.2.1, hi_t.2.2.2.1, hi_t.2.2.2.2.1, hi_t.2.2.2.2.2.1, hi_t.2.2.2.2.2.2.1, hi_t.2.2.2.2.2.2.2.1, hi_t.2.2.2.2.2.2.2.2.1, hi_t.2.2.2.2.2.2.2.2.2.1, hi_t.2.2.2.2.2.2.2.2.2.2.1, hi_t.2.2.2.2.2.2.2.2.2.2.2.1, hi_t.2.2.2.2.2.2.2.2.2.2.2.2.1, hi_t.2.2.2.2.2.2.2.2.2.2.2.2.2.1, hi_t.2.2.2.2.2.2.2.2.2.2.2.2.2.2.1, hi_t.2.2.2.2.2.2.2.2.2.2.2.2.2.2.2.1, hi_t.2.2.2.2.2.2.2.2.2.2.2.2.2.2.2.2.1, hi_t.2.2.2.2.2.2.2.2.2.2.2.2.2.2.2.2.2.1, hi_t.2.2.2.2.2.2.2.2.2.2.2.2.2.2.2.2.2.2.1, hi_t.2.2.2.2.2.2.2.2.2.2.2.2.2.2.2.2.2.2.2.1, hi_t.2.2.2.2.2.2.2.2.2.2.2.2.2.2.2.2.2.2.2.2.1, hi_t.2.2.2.2.2.2.2.2.2.2.2.2.2.2.2.2.2.2.2.2.2⟩) (hc_t_17 := hc_t_17) _) (cwV 1 hts (fn_ginV (fn_gin wd_1543) wd_1540 wd_1542 wp_116 wd_13) rfl rfl rfl (by decide +kernel) ⟨Nat.le_of_ble_eq_true rfl, Nat.le_of_ble_eq_true rfl⟩) ⟨fn_blind, va_recv hK.1 hP (ci := 12) (q0 := 0) rfl rfl, hp⟩ rfl rfl hl.1 rfl (lv_room (Nat.le_of_ble_eq_true rfl)) dX12_page_8 ⟨Nat.le_of_ble_eq_true rfl, Nat.le_of_ble_eq_true rfl⟩) (fun r8 u8 H locs hwu8 hP hD hS => ?_)
  obtain ⟨u8a, u8b⟩ := u8
  obtain ⟨kr8, rfl, hkr8, hqu80, -⟩ := hwu8
  have hqu8 : (kr8 = 1 → 0 ≤ p1 ∧ p1 ≤ 11 ∧ p1 < t_17_c 3) := hqu80
  clear hqu80
  have hP : va_P D vwCl [((t_q 18), .inl (K 0, 50, .inl (fun j => iI (t_18_c j)))), ((t_q 19), .inl (K 0, 60, .inl (fun j => iI (t_19_c j)))), ((t_q 20), .inl (K 0, 480, .inl (fun j => iI (t_20_c j)))), ((t_q 21), .inl (K 0, 600, .inl (fun j => iI (t_21_c j)))), ((t_q 23), .inl (K 0, 150, .inl (fun j => iI (t_23_c j)))), ((t_q 24), .inl (K 0, 5, .inl (fun j => iI (t_24_c j)))), ((t_q 25), .inl (K 0, 24, .inl (fun j => iI (t_25_c j)))), ((t_q 26), .inl (K 0, 24, .inl (fun j => iI (t_26_c j)))), ((t_q 27), .inl (K 0, 12, .inl (fun j => iI (t_27_c j)))), ((t_q 28), .inl (K 0, 12, .inl (fun j => iI (t_28_c j)))), (t, .inr (12, oX12 t_q 0 t_x6 t_x7 t_x8 t_x9 t_x10 t_x11 t_x12 t_x13 t_x14 t_x15 t_x32 t_x33 t_x34 t_x35 t_x39 t_x40 t_x43 t_x44 t_x48 t_x49 t_x50)), ((t_q 17), .inl (K 0, 40, .inl (fun j => iI (t_17_c j))))] H := hP
  have hD : va_D A [((t_q 18), .inl (K 0, 50, .inl (fun j => iI (t_18_c j)))), ((t_q 19), .inl (K 0, 60, .inl (fun j => iI (t_19_c j)))), ((t_q 20), .inl (K 0, 480, .inl (fun j => iI (t_20_c j)))), ((t_q 21), .inl (K 0, 600, .inl (fun j => iI (t_21_c j)))), ((t_q 23), .inl (K 0, 150, .inl (fun j => iI (t_23_c j)))), ((t_q 24), .inl (K 0, 5, .inl (fun j => iI (t_24_c j)))), ((t_q 25), .inl (K 0, 24, .inl (fun j => iI (t_25_c j)))), ((t_q 26), .inl (K 0, 24, .inl (fun j => iI (t_26_c j)))), ((t_q 27), .inl (K 0, 12, .inl (fun j => iI (t_27_c j)))), ((t_q 28), .inl (K 0, 12, .inl (fun j => iI (t_28_c j)))), (t, .inr (12, oX12 t_q 0 t_x6 t_x7 t_x8 t_x9 t_x10 t_x11 t_x12 t_x13 t_x14 t_x15 t_x32 t_x33 t_x34 t_x35 t_x39 t_x40 t_x43 t_x44 t_x48 t_x49 t_x50)), ((t_q 17), .inl (K 0, 40, .inl (fun j => iI (t_17_c j))))] := hD
  refine g_if_eq (tgt := 26) hx hb (by omega) dX12_page_11 (by decide) (fun c11 => ?_) (fun c11 => ?_)
  · refine lv_bipush (v := iI (-2)) hx hb dX12_page_26 (by decide) ?_
    rw [hQ]; exact fn_iret hx hb hr hlocks rfl hP hD hS ((fun k => ([0] : List Int).getD k 0), (fun k => ([t_23_c, t_24_c, t_25_c, t_26_c, t_27_c, t_28_c] : List (Nat → Int)).getD k (fun _ => 0))) ⟨(-2), rfl, by omega, (by show (-2147483648) ≤ 0 ∧ 0 ≤ 2147483647; omega), (hc_t_23), (hc_t_24), (hc_t_25), (hc_t_26), (hc_t_27), (hc_t_28), trivial⟩ [10, 11, 0, 1, 2, 3, 4, 5, 6, 7, 8, 9] (by decide) rfl dX12_page_28
  · refine lv_iload_n hx hb dX12_page_14 rfl (lv_at hl 2 rfl) ?_
    refine lv_i2l (v := lI p2) hx hb dX12_page_15 (iI_2l (by omega)) ?_
    refine lv_lconst (v := lI 0) hx hb dX12_page_16 (by decide) ?_
    refine lv_ldc2 (own := RX12) (v := 3) hx hb hown (hts _ wd_1395) dX12_page_17 ?_
    refine fn_topl (lI 3) (by decide) ?_
    refine fn_goi (wc := []) (wr := [((t_q 18), .inl (K 0, 50, .inl (fun j => iI (t_18_c j)))), ((t_q 19), .inl (K 0, 60, .inl (fun j => iI (t_19_c j)))), ((t_q 20), .inl (K 0, 480, .inl (fun j => iI (t_20_c j)))), ((t_q 21), .inl (K 0, 600, .inl (fun j => iI (t_21_c j)))), ((t_q 23), .inl (K 0, 150, .inl (fun j => iI (t_23_c j)))), ((t_q 24), .inl (K 0, 5, .inl (fun j => iI (t_24_c j)))), ((t_q 25), .inl (K 0, 24, .inl (fun j => iI (t_25_c j)))), ((t_q 26), .inl (K 0, 24, .inl (fun j => iI (t_26_c j)))), ((t_q 27), .inl (K 0, 12, .inl (fun j => iI (t_27_c j)))), ((t_q 28), .inl (K 0, 12, .inl (fun j => iI (t_28_c j)))), (t, .inr (12, oX12 t_q 0 t_x6 t_x7 t_x8 t_x9 t_x10 t_x11 t_x12 t_x13 t_x14 t_x15 t_x32 t_x33 t_x34 t_x35 t_x39 t_x40 t_x43 t_x44 t_x48 t_x49 t_x50)), ((t_q 17), .inl (K 0, 40, .inl (fun j => iI (t_17_c j))))]) hK hP hD hS hA [] [0, 1, 2, 3, 4, 5, 6, 7, 8, 9, 10, 11] rfl rfl (by decide) (fun hp => va_runS (As := [.long (lI p2), .long (lI 0), .long (lI 3)]) (rest := []) ⟨hx, hb, hml, hown, hts⟩ (k_X12_in (l := l) (D := D) (K := K) (p1 := p2) (p2 := 0) (p3 := 3) (hp1 := (by omega)) (hp2 := (by omega)) (hp3 := (by omega)) _) (va_cwS 3 hts (fn_ginS (fn_gin wd_1398) wd_1396 wd_1397 wd_13) rfl rfl rfl (by decide +kernel) ⟨Nat.le_of_ble_eq_true rfl, Nat.le_of_ble_eq_true rfl⟩) ⟨fn_blind, hp⟩ rfl rfl hl.1 rfl (lv_room (Nat.le_of_ble_eq_true rfl)) dX12_page_20 ⟨Nat.le_of_ble_eq_true rfl, Nat.le_of_ble_eq_true rfl⟩) (fun r20 u20 H locs hwu20 hP hD hS => ?_)
    obtain ⟨u20a, u20b⟩ := u20
    obtain ⟨kr20, rfl, hkr20, hqu200, -⟩ := hwu20
    have hqu20 : (kr20 = 1 → (0 : Int) ≤ p2 ∧ p2 ≤ (3 : Int)) ∧ (kr20 = 0 → p2 < (0 : Int) ∨ (3 : Int) < p2) := hqu200
    clear hqu200
    have hP : va_P D vwCl [((t_q 18), .inl (K 0, 50, .inl (fun j => iI (t_18_c j)))), ((t_q 19), .inl (K 0, 60, .inl (fun j => iI (t_19_c j)))), ((t_q 20), .inl (K 0, 480, .inl (fun j => iI (t_20_c j)))), ((t_q 21), .inl (K 0, 600, .inl (fun j => iI (t_21_c j)))), ((t_q 23), .inl (K 0, 150, .inl (fun j => iI (t_23_c j)))), ((t_q 24), .inl (K 0, 5, .inl (fun j => iI (t_24_c j)))), ((t_q 25), .inl (K 0, 24, .inl (fun j => iI (t_25_c j)))), ((t_q 26), .inl (K 0, 24, .inl (fun j => iI (t_26_c j)))), ((t_q 27), .inl (K 0, 12, .inl (fun j => iI (t_27_c j)))), ((t_q 28), .inl (K 0, 12, .inl (fun j => iI (t_28_c j)))), (t, .inr (12, oX12 t_q 0 t_x6 t_x7 t_x8 t_x9 t_x10 t_x11 t_x12 t_x13 t_x14 t_x15 t_x32 t_x33 t_x34 t_x35 t_x39 t_x40 t_x43 t_x44 t_x48 t_x49 t_x50)), ((t_q 17), .inl (K 0, 40, .inl (fun j => iI (t_17_c j))))] H := hP
    have hD : va_D A [((t_q 18), .inl (K 0, 50, .inl (fun j => iI (t_18_c j)))), ((t_q 19), .inl (K 0, 60, .inl (fun j => iI (t_19_c j)))), ((t_q 20), .inl (K 0, 480, .inl (fun j => iI (t_20_c j)))), ((t_q 21), .inl (K 0, 600, .inl (fun j => iI (t_21_c j)))), ((t_q 23), .inl (K 0, 150, .inl (fun j => iI (t_23_c j)))), ((t_q 24), .inl (K 0, 5, .inl (fun j => iI (t_24_c j)))), ((t_q 25), .inl (K 0, 24, .inl (fun j => iI (t_25_c j)))), ((t_q 26), .inl (K 0, 24, .inl (fun j => iI (t_26_c j)))), ((t_q 27), .inl (K 0, 12, .inl (fun j => iI (t_27_c j)))), ((t_q 28), .inl (K 0, 12, .inl (fun j => iI (t_28_c j)))), (t, .inr (12, oX12 t_q 0 t_x6 t_x7 t_x8 t_x9 t_x10 t_x11 t_x12 t_x13 t_x14 t_x15 t_x32 t_x33 t_x34 t_x35 t_x39 t_x40 t_x43 t_x44 t_x48 t_x49 t_x50)), ((t_q 17), .inl (K 0, 40, .inl (fun j => iI (t_17_c j))))] := hD
    refine g_if_ne (tgt := 29) hx hb (by omega) dX12_page_23 (by decide) (fun c23 => ?_) (fun c23 => ?_)
    · refine lv_aload_n hx hb dX12_page_29 rfl (lv_at hl 0 rfl) ?_
      refine fn_gov (wc := [(t, .inr (12, oX12 t_q 0 t_x6 t_x7 t_x8 t_x9 t_x10 t_x11 t_x12 t_x13 t_x14 t_x15 t_x32 t_x33 t_x34 t_x35 t_x39 t_x40 t_x43 t_x44 t_x48 t_x49 t_x50)), ((t_q 17), .inl (K 0, 40, .inl (fun j => iI (t_17_c j)))), ((t_q 18), .inl (K 0, 50, .inl (fun j => iI (t_18_c j)))), ((t_q 19), .inl (K 0, 60, .inl (fun j => iI (t_19_c j)))), ((t_q 20), .inl (K 0, 480, .inl (fun j => iI (t_20_c j)))), ((t_q 21), .inl (K 0, 600, .inl (fun j => iI (t_21_c j)))), ((t_q 23), .inl (K 0, 150, .inl (fun j => iI (t_23_c j)))), ((t_q 24), .inl (K 0, 5, .inl (fun j => iI (t_24_c j)))), ((t_q 25), .inl (K 0, 24, .inl (fun j => iI (t_25_c j)))), ((t_q 26), .inl (K 0, 24, .inl (fun j => iI (t_26_c j)))), ((t_q 27), .inl (K 0, 12, .inl (fun j => iI (t_27_c j)))), ((t_q 28), .inl (K 0, 12, .inl (fun j => iI (t_28_c j))))]) (wr := []) hK hP hD hS hA [10, 11, 0, 1, 2, 3, 4, 5, 6, 7, 8, 9] [] rfl rfl (by decide) (fun hp => va_runV (C := RX12) (As := []) (rest := []) ⟨hx, hb, hml, hown, hts⟩ (k_X12_laysNow (l := l) (D := D) (K := K) (t := t) (t_q := t_q) (t_x0 := 0) (t_x6 := t_x6) (t_x7 := t_x7) (t_x8 := t_x8) (t_x9 := t_x9) (t_x10 := t_x10) (t_x11 := t_x11) (t_x12 := t_x12) (t_x13 := t_x13) (t_x14 := t_x14) (t_x15 := t_x15) (t_x32 := t_x32) (t_x33 := t_x33) (t_x34 := t_x34) (t_x35 := t_x35) (t_x39 := t_x39) (t_x40 := t_x40) (t_x43 := t_x43) (t_x44 := t_x44) (t_x48 := t_x48) (t_x49 := t_x49) (t_x50 := t_x50) (t_17_c := t_17_c) (t_18_c := t_18_c) (t_19_c := t_19_c) (t_20_c := t_20_c) (t_21_c := t_21_c) (t_23_c := t_23_c) (t_24_c := t_24_c) (t_25_c := t_25_c) (t_26_c := t_26_c) (t_27_c := t_27_c) (t_28_c := t_28_c) (hi_t := ⟨(by omega), hi_t.2.1, hi_t.2.2.1, hi_t.2.2.2.1, hi_t.2.2.2.2.1, hi_t.2.2.2.2.2.1, hi_t.2.2.2.2.2.2.1, hi_t.2.2.2.2.2.2.2.1, hi_t.2.2.2.2.2.2.2.2.1, hi_t.2.2.2.2.2.2.2.2.2.1, hi_t.2.2.2.2.2.2.2.2.2.2.1, hi_t.2.2.2.2.2.2.2.2.2.2.2.1, hi_t.2.2.2.2.2.2.2.2.2.2.2.2.1, hi_t.2.2.2.2.2.2.2.2.2.2.2.2.2.1, hi_t.2.2.2.2.2.2.2.2.2.2.2.2.2.2.1, hi_t.2.2.2.2.2.2.2.2.2.2.2.2.2.2.2.1, hi_t.2.2.2.2.2.2.2.2.2.2.2.2.2.2.2.2.1, hi_t.2.2.2.2.2.2.2.2.2.2.2.2.2.2.2.2.2.1, hi_t.2.2.2.2.2.2.2.2.2.2.2.2.2.2.2.2.2.2.1, hi_t.2.2.2.2.2.2.2.2.2.2.2.2.2.2.2.2.2.2.2.1, hi_t.2.2.2.2.2.2.2.2.2.2.2.2.2.2.2.2.2.2.2.2.1, hi_t.2.2.2.2.2.2.2.2.2.2.2.2.2.2.2.2.2.2.2.2.2⟩) (hc_t_17 := hc_t_17) (hc_t_18 := hc_t_18) (hc_t_19 := hc_t_19) (hc_t_20 := hc_t_20) (hc_t_21 := hc_t_21) (hc_t_23 := hc_t_23) (hc_t_24 := hc_t_24) (hc_t_25 := hc_t_25) (hc_t_26 := hc_t_26) (hc_t_27 := hc_t_27) (hc_t_28 := hc_t_28) (ti := (show TI 0 t_17_c t_18_c t_19_c t_20_c t_21_c from by assumption)) _) (cwV 0 hts (fn_ginV (fn_gin wd_1547) wd_1544 wd_1546 wp_117 wd_13) rfl rfl rfl (by decide +kernel) ⟨Nat.le_of_ble_eq_true rfl, Nat.le_of_ble_eq_true rfl⟩) ⟨fn_blind, va_recv hK.1 hP (ci := 12) (q0 := 10) rfl rfl, hp⟩ rfl rfl hl.1 rfl (lv_room (Nat.le_of_ble_eq_true rfl)) dX12_page_30 ⟨Nat.le_of_ble_eq_true rfl, Nat.le_of_ble_eq_true rfl⟩) (fun u30 H locs hwu30 hP hD hS => ?_)
      obtain ⟨u30a, u30b⟩ := u30
      obtain ⟨hqu30_li0, hqu30_mn0, hqu30_sy0, hu30_00, hu30_10, hu30_20, hu30_30, hu30_40, hu30_50, -⟩ := hwu30
      have hqu30_li : LI t_17_c t_19_c (u30b 0) (u30b 1) (u30b 3) (u30b 4) (u30b 5) := hqu30_li0
      have hqu30_mn : ∀ b : Nat, (b : Int) < t_17_c 2 → (u30b 1) b = t_18_c (2 * b) + edc t_21_c 0 b (Int.toNat (t_17_c 7)) := hqu30_mn0
      have hqu30_sy : ∀ j : Nat, (j : Int) < t_17_c 4 → (u30b 2) j ≤ 29 := hqu30_sy0
      have hu30_0 : ∀ j : Nat, (-2) ≤ (u30b 0) j ∧ (u30b 0) j ≤ 11 := hu30_00
      have hu30_1 : ∀ j : Nat, 0 ≤ (u30b 1) j ∧ (u30b 1) j ≤ 30 := hu30_10
      have hu30_2 : ∀ j : Nat, 0 ≤ (u30b 2) j ∧ (u30b 2) j ≤ 30 := hu30_20
      have hu30_3 : ∀ j : Nat, (-1) ≤ (u30b 3) j ∧ (u30b 3) j ≤ 11 := hu30_30
      have hu30_4 : ∀ j : Nat, (-1) ≤ (u30b 4) j ∧ (u30b 4) j ≤ 29 := hu30_40
      have hu30_5 : ∀ j : Nat, 0 ≤ (u30b 5) j ∧ (u30b 5) j ≤ 4095 := hu30_50
      clear hqu30_li0 hqu30_mn0 hqu30_sy0 hu30_00 hu30_10 hu30_20 hu30_30 hu30_40 hu30_50
      have hP : va_P D vwCl [(t, .inr (12, oX12 t_q 0 t_x6 t_x7 t_x8 t_x9 t_x10 t_x11 t_x12 t_x13 t_x14 t_x15 t_x32 t_x33 t_x34 t_x35 t_x39 t_x40 t_x43 t_x44 t_x48 t_x49 t_x50)), ((t_q 17), .inl (K 0, 40, .inl (fun j => iI (t_17_c j)))), ((t_q 18), .inl (K 0, 50, .inl (fun j => iI (t_18_c j)))), ((t_q 19), .inl (K 0, 60, .inl (fun j => iI (t_19_c j)))), ((t_q 20), .inl (K 0, 480, .inl (fun j => iI (t_20_c j)))), ((t_q 21), .inl (K 0, 600, .inl (fun j => iI (t_21_c j)))), ((t_q 23), .inl (K 0, 150, .inl (fun j => iI ((u30b 0) j)))), ((t_q 24), .inl (K 0, 5, .inl (fun j => iI ((u30b 1) j)))), ((t_q 25), .inl (K 0, 24, .inl (fun j => iI ((u30b 2) j)))), ((t_q 26), .inl (K 0, 24, .inl (fun j => iI ((u30b 3) j)))), ((t_q 27), .inl (K 0, 12, .inl (fun j => iI ((u30b 4) j)))), ((t_q 28), .inl (K 0, 12, .inl (fun j => iI ((u30b 5) j))))] H := hP
      have hD : va_D A [(t, .inr (12, oX12 t_q 0 t_x6 t_x7 t_x8 t_x9 t_x10 t_x11 t_x12 t_x13 t_x14 t_x15 t_x32 t_x33 t_x34 t_x35 t_x39 t_x40 t_x43 t_x44 t_x48 t_x49 t_x50)), ((t_q 17), .inl (K 0, 40, .inl (fun j => iI (t_17_c j)))), ((t_q 18), .inl (K 0, 50, .inl (fun j => iI (t_18_c j)))), ((t_q 19), .inl (K 0, 60, .inl (fun j => iI (t_19_c j)))), ((t_q 20), .inl (K 0, 480, .inl (fun j => iI (t_20_c j)))), ((t_q 21), .inl (K 0, 600, .inl (fun j => iI (t_21_c j)))), ((t_q 23), .inl (K 0, 150, .inl (fun j => iI ((u30b 0) j)))), ((t_q 24), .inl (K 0, 5, .inl (fun j => iI ((u30b 1) j)))), ((t_q 25), .inl (K 0, 24, .inl (fun j => iI ((u30b 2) j)))), ((t_q 26), .inl (K 0, 24, .inl (fun j => iI ((u30b 3) j)))), ((t_q 27), .inl (K 0, 12, .inl (fun j => iI ((u30b 4) j)))), ((t_q 28), .inl (K 0, 12, .inl (fun j => iI ((u30b 5) j))))] := hD
      refine lv_iconst (v := iI 0) hx hb dX12_page_33 rfl ?_
      refine lv_istore_n (lv' := [(3, .int (iI 0)), (0, .ref t), (1, .int (iI p1)), (2, .int (iI p2))]) hx hb dX12_page_34 rfl hl (by decide) rfl (fun ls hl => ?_)
      refine lv_iconst (v := iI 0) hx hb dX12_page_35 rfl ?_
      refine fn_at 36 rfl ?_
      refine lv_istore (lv' := [(4, .int (iI 0)), (3, .int (iI 0)), (0, .ref t), (1, .int (iI p1)), (2, .int (iI p2))]) hx hb dX12_page_36 hl (by decide) rfl (fun ls hl => ?_)
      exact J38 _ 0 0 (u30b 0) (u30b 1) (u30b 2) (u30b 3) (u30b 4) (u30b 5) _ _ ls (Nat.lt_succ_self _) (by omega) hu30_0 hu30_1 hu30_2 hu30_3 hu30_4 hu30_5 (hP.sub [0, 1, 2, 3, 4, 5, 6, 7, 8, 9, 10, 11] rfl) (hD.sub [0, 1, 2, 3, 4, 5, 6, 7, 8, 9, 10, 11] (by decide) rfl) hS (lv_sub hl [2, 3, 4, 1, 0] rfl)
    · refine lv_bipush (v := iI (-2)) hx hb dX12_page_26 (by decide) ?_
      rw [hQ]; exact fn_iret hx hb hr hlocks rfl hP hD hS ((fun k => ([0] : List Int).getD k 0), (fun k => ([t_23_c, t_24_c, t_25_c, t_26_c, t_27_c, t_28_c] : List (Nat → Int)).getD k (fun _ => 0))) ⟨(-2), rfl, by omega, (by show (-2147483648) ≤ 0 ∧ 0 ≤ 2147483647; omega), (hc_t_23), (hc_t_24), (hc_t_25), (hc_t_26), (hc_t_27), (hc_t_28), trivial⟩ [10, 11, 0, 1, 2, 3, 4, 5, 6, 7, 8, 9] (by decide) rfl dX12_page_28
