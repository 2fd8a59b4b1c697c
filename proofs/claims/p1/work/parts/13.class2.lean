theorem dJ7_fill_53178_0 : decode cJ7_fill_53178 0 = .ok (.iconst 0, 1) := by decide +kernel
theorem dJ7_fill_53178_1 : decode cJ7_fill_53178 1 = .ok (.istore_n 2, 1) := by decide +kernel
theorem dJ7_fill_53178_2 : decode cJ7_fill_53178 2 = .ok (.aload_n 0, 1) := by decide +kernel
theorem dJ7_fill_53178_3 : decode cJ7_fill_53178 3 = .ok (.arraylength, 1) := by decide +kernel
theorem dJ7_fill_53178_4 : decode cJ7_fill_53178 4 = .ok (.istore_n 3, 1) := by decide +kernel
theorem dJ7_fill_53178_5 : decode cJ7_fill_53178 5 = .ok (.iload_n 2, 1) := by decide +kernel
theorem dJ7_fill_53178_6 : decode cJ7_fill_53178 6 = .ok (.iload_n 3, 1) := by decide +kernel
theorem dJ7_fill_53178_7 : decode cJ7_fill_53178 7 = .ok (.if_icmp .ge 13, 3) := by decide +kernel
theorem dJ7_fill_53178_20 : decode cJ7_fill_53178 20 = .ok (.return_, 1) := by decide +kernel
theorem dJ7_fill_53178_10 : decode cJ7_fill_53178 10 = .ok (.aload_n 0, 1) := by decide +kernel
theorem dJ7_fill_53178_11 : decode cJ7_fill_53178 11 = .ok (.iload_n 2, 1) := by decide +kernel
theorem dJ7_fill_53178_12 : decode cJ7_fill_53178 12 = .ok (.iload_n 1, 1) := by decide +kernel
theorem dJ7_fill_53178_13 : decode cJ7_fill_53178 13 = .ok (.iastore, 1) := by decide +kernel
theorem dJ7_fill_53178_14 : decode cJ7_fill_53178 14 = .ok (.iinc 2 1, 3) := by decide +kernel
theorem dJ7_fill_53178_17 : decode cJ7_fill_53178 17 = .ok (.goto (-12), 3) := by decide +kernel
set_option maxHeartbeats 4000000 in
set_option maxRecDepth 100000 in
theorem c_J7_fill_53178 (l : Launch) (D : va_G) (K : Nat → ClassId) (a0 n : Nat) (f : Nat → Int32) (p1 : Int32) (hn : n < 2 ^ 31) : fn_CV (S := Nat → Int32) l D K yJ7_fill_53178 (fn_ws yJ7_fill_53178 cJ7_fill_53178 4 none) ({ frames := 4, cells := 0, slots := 0, locals := 100 }) [.ref a0, .int p1] [(a0, .inl (K 0, n, .inl f))] (fun _ => True) (fun g => [(a0, .inl (K 0, n, .inl g))]) 0 0 := by
  refine fn_inV (cc := cJ7_fill_53178) (maxL := 4) (ret := none) (by decide) rfl (Nat.le_of_ble_eq_true rfl) ?_
  intro p e s m below meth c A ls B hA hP hD hS hl
  obtain ⟨hx, hb, hr, hml, hts, hown, hlocks, hin, hK⟩ := B
  have hown : s.vm.findClass RJ7 = some m.cls := hown
  have hts := fun w h => hts w (List.mem_cons_of_mem _ h)
  have hl : lv_has ls 4 [(0, .ref a0), (1, .int p1)] := hl
  refine lv_iconst (v := 0) hx hb dJ7_fill_53178_0 (by decide) ?_
  refine lv_istore_n (lv' := [(2, .int 0), (0, .ref a0), (1, .int p1)]) hx hb dJ7_fill_53178_1 rfl hl (by decide) rfl (fun ls hl => ?_)
  refine lv_aload_n hx hb dJ7_fill_53178_2 rfl (lv_at hl 1 rfl) ?_
  refine va_alen (v := nI n) hx hb hK.1 hP 0 0 rfl rfl rfl dJ7_fill_53178_3 ?_
  refine lv_istore_n (lv' := [(3, .int (nI n)), (2, .int 0), (0, .ref a0), (1, .int p1)]) hx hb dJ7_fill_53178_4 rfl hl (by decide) rfl (fun ls hl => ?_)
  have loop : ∀ (k i : Nat) (g : Nat → Int32) (H : Heap) (locs : List Loc) (ls : Array Slot), n ≤ i + k → i ≤ n → va_P D vwCl [(a0, .inl (K 0, n, .inl g))] H → va_D A [(a0, .inl (K 0, n, .inl g))] → va_S A s.heap H locs → lv_has ls 4 [(3, .int (nI n)), (2, .int (nI i)), (0, .ref a0), (1, .int p1)] → W p l e (headSpec (fn_ws yJ7_fill_53178 cJ7_fill_53178 4 none) ({ frames := 4, cells := 0, slots := 0, locals := 100 })).room s m ([.ref a0, .int p1] : List Value).toArray below meth c H locs 0 0 (MQ below (va_Qv (S := Nat → Int32) (fun _ => True) (fun u t => va_P D vwCl ((fun g => [(a0, .inl (K 0, n, .inl g))]) u) t.heap ∧ va_D A ((fun g => [(a0, .inl (K 0, n, .inl g))]) u)) A) ([.ref a0, .int p1] : List Value).toArray s 0 0 A) (F0 m 5 ls []) := by
    intro k
    induction k with
    | zero =>
      intro i g H locs ls hk hi  hP hD hS hl
      refine lv_iload_n hx hb dJ7_fill_53178_5 rfl (lv_at hl 1 rfl) ?_
      refine lv_iload_n hx hb dJ7_fill_53178_6 rfl (lv_at hl 0 rfl) ?_
      refine lv_icmp_ge (tgt := 20) hx hb dJ7_fill_53178_7 (by decide) (fun c7 => ?_) (fun h9 => absurd (nI_le (by omega) (by omega)) h9)
      exact fn_vret hx hb hr hlocks hP hD hS g trivial [0] (by decide) rfl dJ7_fill_53178_20
    | succ k ih =>
      intro i g H locs ls hk hi  hP hD hS hl
      rcases Nat.lt_or_ge i n with hlt | hge
      · refine lv_iload_n hx hb dJ7_fill_53178_5 rfl (lv_at hl 1 rfl) ?_
        refine lv_iload_n hx hb dJ7_fill_53178_6 rfl (lv_at hl 0 rfl) ?_
        refine lv_icmp_ge (tgt := 20) hx hb dJ7_fill_53178_7 (by decide) (fun h9 => absurd h9 (nI_ge hlt (by omega))) (fun c7 => ?_)
        refine lv_aload_n hx hb dJ7_fill_53178_10 rfl (lv_at hl 2 rfl) ?_
        refine lv_iload_n hx hb dJ7_fill_53178_11 rfl (lv_at hl 1 rfl) ?_
        refine lv_iload_n hx hb dJ7_fill_53178_12 rfl (lv_at hl 3 rfl) ?_
        refine va_iast hx hb hK.1 hP hD hS 0 0 rfl rfl (vp_in_nI hlt hn) dJ7_fill_53178_13 (fun H locs hP hD hS => ?_)
        obtain ⟨g1, eg1⟩ : ∃ z, z = (upd g (Int32.toNatClampNeg (nI i)) p1) := ⟨_, rfl⟩
        have hP : va_P D vwCl [(a0, .inl (K 0, n, .inl g1))] H := by rw [eg1]; exact hP
        have hD : va_D A [(a0, .inl (K 0, n, .inl g1))] := by rw [eg1]; exact hD
        refine lv_iinc (v := (nI (i + 1))) (lv' := [(2, .int (nI (i + 1))), (3, .int (nI n)), (0, .ref a0), (1, .int p1)]) hx hb dJ7_fill_53178_14 hl (k := 1) rfl (nI_1 i) (by decide) rfl (fun ls hl => ?_)
        refine lv_goto (tgt := 5) hx hb dJ7_fill_53178_17 (by decide) ?_
        exact ih (i + 1) g1 H locs ls (by omega) (by omega)  hP hD hS (lv_sub hl [1, 0, 2, 3] rfl)
      · refine lv_iload_n hx hb dJ7_fill_53178_5 rfl (lv_at hl 1 rfl) ?_
        refine lv_iload_n hx hb dJ7_fill_53178_6 rfl (lv_at hl 0 rfl) ?_
        refine lv_icmp_ge (tgt := 20) hx hb dJ7_fill_53178_7 (by decide) (fun c7 => ?_) (fun h9 => absurd (nI_le (by omega) (by omega)) h9)
        exact fn_vret hx hb hr hlocks hP hD hS g trivial [0] (by decide) rfl dJ7_fill_53178_20
  exact loop n 0 _ _ _ ls (by omega) (by omega)  hP hD hS hl
theorem dJ7_fill_d0a16_0 : decode cJ7_fill_d0a16 0 = .ok (.iconst 0, 1) := by decide +kernel
theorem dJ7_fill_d0a16_1 : decode cJ7_fill_d0a16 1 = .ok (.istore_n 3, 1) := by decide +kernel
theorem dJ7_fill_d0a16_2 : decode cJ7_fill_d0a16 2 = .ok (.aload_n 0, 1) := by decide +kernel
theorem dJ7_fill_d0a16_3 : decode cJ7_fill_d0a16 3 = .ok (.arraylength, 1) := by decide +kernel
theorem dJ7_fill_d0a16_4 : decode cJ7_fill_d0a16 4 = .ok (.istore 4, 2) := by decide +kernel
theorem dJ7_fill_d0a16_6 : decode cJ7_fill_d0a16 6 = .ok (.iload_n 3, 1) := by decide +kernel
theorem dJ7_fill_d0a16_7 : decode cJ7_fill_d0a16 7 = .ok (.iload 4, 2) := by decide +kernel
theorem dJ7_fill_d0a16_9 : decode cJ7_fill_d0a16 9 = .ok (.if_icmp .ge 13, 3) := by decide +kernel
theorem dJ7_fill_d0a16_22 : decode cJ7_fill_d0a16 22 = .ok (.return_, 1) := by decide +kernel
theorem dJ7_fill_d0a16_12 : decode cJ7_fill_d0a16 12 = .ok (.aload_n 0, 1) := by decide +kernel
theorem dJ7_fill_d0a16_13 : decode cJ7_fill_d0a16 13 = .ok (.iload_n 3, 1) := by decide +kernel
theorem dJ7_fill_d0a16_14 : decode cJ7_fill_d0a16 14 = .ok (.lload_n 1, 1) := by decide +kernel
theorem dJ7_fill_d0a16_15 : decode cJ7_fill_d0a16 15 = .ok (.lastore, 1) := by decide +kernel
theorem dJ7_fill_d0a16_16 : decode cJ7_fill_d0a16 16 = .ok (.iinc 3 1, 3) := by decide +kernel
theorem dJ7_fill_d0a16_19 : decode cJ7_fill_d0a16 19 = .ok (.goto (-13), 3) := by decide +kernel
set_option maxHeartbeats 4000000 in
set_option maxRecDepth 100000 in
theorem c_J7_fill_d0a16 (l : Launch) (D : va_G) (K : Nat → ClassId) (a0 n : Nat) (f : Nat → Int64) (p1 : Int64) (hn : n < 2 ^ 31) : fn_CV (S := Nat → Int64) l D K yJ7_fill_d0a16 (fn_ws yJ7_fill_d0a16 cJ7_fill_d0a16 5 none) ({ frames := 4, cells := 0, slots := 0, locals := 100 }) [.ref a0, .long p1] [(a0, .inl (K 3, n, .inr (.inl f)))] (fun _ => True) (fun g => [(a0, .inl (K 3, n, .inr (.inl g)))]) 0 0 := by
  refine fn_inV (cc := cJ7_fill_d0a16) (maxL := 5) (ret := none) (by decide) rfl (Nat.le_of_ble_eq_true rfl) ?_
  intro p e s m below meth c A ls B hA hP hD hS hl
  obtain ⟨hx, hb, hr, hml, hts, hown, hlocks, hin, hK⟩ := B
  have hown : s.vm.findClass RJ7 = some m.cls := hown
  have hts := fun w h => hts w (List.mem_cons_of_mem _ h)
  have hl : lv_has ls 5 [(0, .ref a0), (1, .long p1)] := hl
  refine lv_iconst (v := 0) hx hb dJ7_fill_d0a16_0 (by decide) ?_
  refine lv_istore_n (lv' := [(3, .int 0), (0, .ref a0), (1, .long p1)]) hx hb dJ7_fill_d0a16_1 rfl hl (by decide) rfl (fun ls hl => ?_)
  refine lv_aload_n hx hb dJ7_fill_d0a16_2 rfl (lv_at hl 1 rfl) ?_
  refine va_alen (v := nI n) hx hb hK.1 hP 0 3 rfl rfl rfl dJ7_fill_d0a16_3 ?_
  refine lv_istore (lv' := [(4, .int (nI n)), (3, .int 0), (0, .ref a0), (1, .long p1)]) hx hb dJ7_fill_d0a16_4 hl (by decide) rfl (fun ls hl => ?_)
  have loop : ∀ (k i : Nat) (g : Nat → Int64) (H : Heap) (locs : List Loc) (ls : Array Slot), n ≤ i + k → i ≤ n → va_P D vwCl [(a0, .inl (K 3, n, .inr (.inl g)))] H → va_D A [(a0, .inl (K 3, n, .inr (.inl g)))] → va_S A s.heap H locs → lv_has ls 5 [(4, .int (nI n)), (3, .int (nI i)), (0, .ref a0), (1, .long p1)] → W p l e (headSpec (fn_ws yJ7_fill_d0a16 cJ7_fill_d0a16 5 none) ({ frames := 4, cells := 0, slots := 0, locals := 100 })).room s m ([.ref a0, .long p1] : List Value).toArray below meth c H locs 0 0 (MQ below (va_Qv (S := Nat → Int64) (fun _ => True) (fun u t => va_P D vwCl ((fun g => [(a0, .inl (K 3, n, .inr (.inl g)))]) u) t.heap ∧ va_D A ((fun g => [(a0, .inl (K 3, n, .inr (.inl g)))]) u)) A) ([.ref a0, .long p1] : List Value).toArray s 0 0 A) (F0 m 6 ls []) := by
    intro k
    induction k with
    | zero =>
      intro i g H locs ls hk hi  hP hD hS hl
      refine lv_iload_n hx hb dJ7_fill_d0a16_6 rfl (lv_at hl 1 rfl) ?_
      refine lv_iload hx hb dJ7_fill_d0a16_7 (lv_at hl 0 rfl) ?_
      refine lv_icmp_ge (tgt := 22) hx hb dJ7_fill_d0a16_9 (by decide) (fun c9 => ?_) (fun h9 => absurd (nI_le (by omega) (by omega)) h9)
      exact fn_vret hx hb hr hlocks hP hD hS g trivial [0] (by decide) rfl dJ7_fill_d0a16_22
    | succ k ih =>
      intro i g H locs ls hk hi  hP hD hS hl
      rcases Nat.lt_or_ge i n with hlt | hge
      · refine lv_iload_n hx hb dJ7_fill_d0a16_6 rfl (lv_at hl 1 rfl) ?_
        refine lv_iload hx hb dJ7_fill_d0a16_7 (lv_at hl 0 rfl) ?_
        refine lv_icmp_ge (tgt := 22) hx hb dJ7_fill_d0a16_9 (by decide) (fun h9 => absurd h9 (nI_ge hlt (by omega))) (fun c9 => ?_)
        refine lv_aload_n hx hb dJ7_fill_d0a16_12 rfl (lv_at hl 2 rfl) ?_
        refine lv_iload_n hx hb dJ7_fill_d0a16_13 rfl (lv_at hl 1 rfl) ?_
        refine lv_lload_n hx hb dJ7_fill_d0a16_14 rfl (lv_at hl 3 rfl) ?_
        refine va_last hx hb hK.1 hP hD hS 0 3 rfl rfl (vp_in_nI hlt hn) dJ7_fill_d0a16_15 (fun H locs hP hD hS => ?_)
        obtain ⟨g1, eg1⟩ : ∃ z, z = (vp_updL g (Int32.toNatClampNeg (nI i)) p1) := ⟨_, rfl⟩
        have hP : va_P D vwCl [(a0, .inl (K 3, n, .inr (.inl g1)))] H := by rw [eg1]; exact hP
        have hD : va_D A [(a0, .inl (K 3, n, .inr (.inl g1)))] := by rw [eg1]; exact hD
        refine lv_iinc (v := (nI (i + 1))) (lv' := [(3, .int (nI (i + 1))), (4, .int (nI n)), (0, .ref a0), (1, .long p1)]) hx hb dJ7_fill_d0a16_16 hl (k := 1) rfl (nI_1 i) (by decide) rfl (fun ls hl => ?_)
        refine lv_goto (tgt := 6) hx hb dJ7_fill_d0a16_19 (by decide) ?_
        exact ih (i + 1) g1 H locs ls (by omega) (by omega)  hP hD hS (lv_sub hl [1, 0, 2, 3] rfl)
      · refine lv_iload_n hx hb dJ7_fill_d0a16_6 rfl (lv_at hl 1 rfl) ?_
        refine lv_iload hx hb dJ7_fill_d0a16_7 (lv_at hl 0 rfl) ?_
        refine lv_icmp_ge (tgt := 22) hx hb dJ7_fill_d0a16_9 (by decide) (fun c9 => ?_) (fun h9 => absurd (nI_le (by omega) (by omega)) h9)
        exact fn_vret hx hb hr hlocks hP hD hS g trivial [0] (by decide) rfl dJ7_fill_d0a16_22
  exact loop n 0 _ _ _ ls (by omega) (by omega)  hP hD hS hl
theorem dJ6_bitCount_0f7a4_0 : decode cJ6_bitCount_0f7a4 0 = .ok (.iload_n 0, 1) := by decide +kernel
theorem dJ6_bitCount_0f7a4_1 : decode cJ6_bitCount_0f7a4 1 = .ok (.iload_n 0, 1) := by decide +kernel
theorem dJ6_bitCount_0f7a4_2 : decode cJ6_bitCount_0f7a4 2 = .ok (.iconst 1, 1) := by decide +kernel
theorem dJ6_bitCount_0f7a4_3 : decode cJ6_bitCount_0f7a4 3 = .ok (.iushr, 1) := by decide +kernel
theorem dJ6_bitCount_0f7a4_4 : decode cJ6_bitCount_0f7a4 4 = .ok (.ldc_w 265, 3) := by decide +kernel
theorem dJ6_bitCount_0f7a4_7 : decode cJ6_bitCount_0f7a4 7 = .ok (.iand, 1) := by decide +kernel
theorem dJ6_bitCount_0f7a4_8 : decode cJ6_bitCount_0f7a4 8 = .ok (.isub, 1) := by decide +kernel
theorem dJ6_bitCount_0f7a4_9 : decode cJ6_bitCount_0f7a4 9 = .ok (.istore_n 0, 1) := by decide +kernel
theorem dJ6_bitCount_0f7a4_10 : decode cJ6_bitCount_0f7a4 10 = .ok (.iload_n 0, 1) := by decide +kernel
theorem dJ6_bitCount_0f7a4_11 : decode cJ6_bitCount_0f7a4 11 = .ok (.ldc_w 266, 3) := by decide +kernel
theorem dJ6_bitCount_0f7a4_14 : decode cJ6_bitCount_0f7a4 14 = .ok (.iand, 1) := by decide +kernel
theorem dJ6_bitCount_0f7a4_15 : decode cJ6_bitCount_0f7a4 15 = .ok (.iload_n 0, 1) := by decide +kernel
theorem dJ6_bitCount_0f7a4_16 : decode cJ6_bitCount_0f7a4 16 = .ok (.iconst 2, 1) := by decide +kernel
theorem dJ6_bitCount_0f7a4_17 : decode cJ6_bitCount_0f7a4 17 = .ok (.iushr, 1) := by decide +kernel
theorem dJ6_bitCount_0f7a4_18 : decode cJ6_bitCount_0f7a4 18 = .ok (.ldc_w 266, 3) := by decide +kernel
theorem dJ6_bitCount_0f7a4_21 : decode cJ6_bitCount_0f7a4 21 = .ok (.iand, 1) := by decide +kernel
theorem dJ6_bitCount_0f7a4_22 : decode cJ6_bitCount_0f7a4 22 = .ok (.iadd, 1) := by decide +kernel
theorem dJ6_bitCount_0f7a4_23 : decode cJ6_bitCount_0f7a4 23 = .ok (.istore_n 0, 1) := by decide +kernel
theorem dJ6_bitCount_0f7a4_24 : decode cJ6_bitCount_0f7a4 24 = .ok (.iload_n 0, 1) := by decide +kernel
theorem dJ6_bitCount_0f7a4_25 : decode cJ6_bitCount_0f7a4 25 = .ok (.iload_n 0, 1) := by decide +kernel
theorem dJ6_bitCount_0f7a4_26 : decode cJ6_bitCount_0f7a4 26 = .ok (.iconst 4, 1) := by decide +kernel
theorem dJ6_bitCount_0f7a4_27 : decode cJ6_bitCount_0f7a4 27 = .ok (.iushr, 1) := by decide +kernel
theorem dJ6_bitCount_0f7a4_28 : decode cJ6_bitCount_0f7a4 28 = .ok (.iadd, 1) := by decide +kernel
theorem dJ6_bitCount_0f7a4_29 : decode cJ6_bitCount_0f7a4 29 = .ok (.ldc_w 267, 3) := by decide +kernel
theorem dJ6_bitCount_0f7a4_32 : decode cJ6_bitCount_0f7a4 32 = .ok (.iand, 1) := by decide +kernel
theorem dJ6_bitCount_0f7a4_33 : decode cJ6_bitCount_0f7a4 33 = .ok (.istore_n 0, 1) := by decide +kernel
theorem dJ6_bitCount_0f7a4_34 : decode cJ6_bitCount_0f7a4 34 = .ok (.iload_n 0, 1) := by decide +kernel
theorem dJ6_bitCount_0f7a4_35 : decode cJ6_bitCount_0f7a4 35 = .ok (.iload_n 0, 1) := by decide +kernel
theorem dJ6_bitCount_0f7a4_36 : decode cJ6_bitCount_0f7a4 36 = .ok (.bipush 8, 2) := by decide +kernel
theorem dJ6_bitCount_0f7a4_38 : decode cJ6_bitCount_0f7a4 38 = .ok (.iushr, 1) := by decide +kernel
theorem dJ6_bitCount_0f7a4_39 : decode cJ6_bitCount_0f7a4 39 = .ok (.iadd, 1) := by decide +kernel
theorem dJ6_bitCount_0f7a4_40 : decode cJ6_bitCount_0f7a4 40 = .ok (.istore_n 0, 1) := by decide +kernel
theorem dJ6_bitCount_0f7a4_41 : decode cJ6_bitCount_0f7a4 41 = .ok (.iload_n 0, 1) := by decide +kernel
theorem dJ6_bitCount_0f7a4_42 : decode cJ6_bitCount_0f7a4 42 = .ok (.iload_n 0, 1) := by decide +kernel
theorem dJ6_bitCount_0f7a4_43 : decode cJ6_bitCount_0f7a4 43 = .ok (.bipush 16, 2) := by decide +kernel
theorem dJ6_bitCount_0f7a4_45 : decode cJ6_bitCount_0f7a4 45 = .ok (.iushr, 1) := by decide +kernel
theorem dJ6_bitCount_0f7a4_46 : decode cJ6_bitCount_0f7a4 46 = .ok (.iadd, 1) := by decide +kernel
theorem dJ6_bitCount_0f7a4_47 : decode cJ6_bitCount_0f7a4 47 = .ok (.istore_n 0, 1) := by decide +kernel
theorem dJ6_bitCount_0f7a4_48 : decode cJ6_bitCount_0f7a4 48 = .ok (.iload_n 0, 1) := by decide +kernel
theorem dJ6_bitCount_0f7a4_49 : decode cJ6_bitCount_0f7a4 49 = .ok (.bipush 63, 2) := by decide +kernel
theorem dJ6_bitCount_0f7a4_51 : decode cJ6_bitCount_0f7a4 51 = .ok (.iand, 1) := by decide +kernel
theorem dJ6_bitCount_0f7a4_52 : decode cJ6_bitCount_0f7a4 52 = .ok (.ireturn, 1) := by decide +kernel
set_option maxHeartbeats 4000000 in
set_option maxRecDepth 100000 in
theorem c_J6_bitCount_0f7a4 (l : Launch) (D : va_G) (K : Nat → ClassId)  : fn_CI (S := Unit) l D K yJ6_bitCount_0f7a4 (fn_ws yJ6_bitCount_0f7a4 cJ6_bitCount_0f7a4 1 (some .int)) ({ frames := 4, cells := 0, slots := 0, locals := 100 }) [.int 0] [] (fun r _ => r = 0) (fun _ => []) 0 0 := by
  refine fn_inI (cc := cJ6_bitCount_0f7a4) (maxL := 1) (ret := (some .int)) (by decide) rfl (Nat.le_of_ble_eq_true rfl) ?_
  intro p e s m below meth c A ls B hA hP hD hS hl
  obtain ⟨hx, hb, hr, hml, hts, hown, hlocks, hin, hK⟩ := B
  have hown : s.vm.findClass RJ6 = some m.cls := hown
  have hts := fun w h => hts w (List.mem_cons_of_mem _ h)
  have hl : lv_has ls 1 [(0, .int 0)] := hl
  refine lv_iload_n hx hb dJ6_bitCount_0f7a4_0 rfl (lv_at hl 0 rfl) ?_
  refine lv_iload_n hx hb dJ6_bitCount_0f7a4_1 rfl (lv_at hl 0 rfl) ?_
  refine lv_iconst (v := 1) hx hb dJ6_bitCount_0f7a4_2 (by decide) ?_
  refine lv_iushr (v := 0) hx hb dJ6_bitCount_0f7a4_3 (by decide) ?_
  refine lv_ldcw (own := RJ6) (v := 1431655765) hx hb hown (hts _ wd_842) dJ6_bitCount_0f7a4_4 ?_
  refine lv_iand hx hb dJ6_bitCount_0f7a4_7 ?_
  refine fn_top 0 (by decide) ?_
  refine lv_isub hx hb dJ6_bitCount_0f7a4_8 ?_
  refine fn_top 0 (by decide) ?_
  refine lv_istore_n (lv' := [(0, .int 0)]) hx hb dJ6_bitCount_0f7a4_9 rfl hl (by decide) rfl (fun ls hl => ?_)
  refine lv_iload_n hx hb dJ6_bitCount_0f7a4_10 rfl (lv_at hl 0 rfl) ?_
  refine lv_ldcw (own := RJ6) (v := 858993459) hx hb hown (hts _ wd_843) dJ6_bitCount_0f7a4_11 ?_
  refine lv_iand hx hb dJ6_bitCount_0f7a4_14 ?_
  refine fn_top 0 (by decide) ?_
  refine lv_iload_n hx hb dJ6_bitCount_0f7a4_15 rfl (lv_at hl 0 rfl) ?_
  refine lv_iconst (v := 2) hx hb dJ6_bitCount_0f7a4_16 (by decide) ?_
  refine lv_iushr (v := 0) hx hb dJ6_bitCount_0f7a4_17 (by decide) ?_
  refine lv_ldcw (own := RJ6) (v := 858993459) hx hb hown (hts _ wd_843) dJ6_bitCount_0f7a4_18 ?_
  refine lv_iand hx hb dJ6_bitCount_0f7a4_21 ?_
  refine fn_top 0 (by decide) ?_
  refine lv_iadd hx hb dJ6_bitCount_0f7a4_22 ?_
  refine fn_top 0 (by decide) ?_
  refine lv_istore_n (lv' := [(0, .int 0)]) hx hb dJ6_bitCount_0f7a4_23 rfl hl (by decide) rfl (fun ls hl => ?_)
  refine lv_iload_n hx hb dJ6_bitCount_0f7a4_24 rfl (lv_at hl 0 rfl) ?_
  refine fn_at 25 rfl ?_
  refine lv_iload_n hx hb dJ6_bitCount_0f7a4_25 rfl (lv_at hl 0 rfl) ?_
  refine lv_iconst (v := 4) hx hb dJ6_bitCount_0f7a4_26 (by decide) ?_
  refine lv_iushr (v := 0) hx hb dJ6_bitCount_0f7a4_27 (by decide) ?_
  refine lv_iadd hx hb dJ6_bitCount_0f7a4_28 ?_
  refine fn_top 0 (by decide) ?_
  refine lv_ldcw (own := RJ6) (v := 252645135) hx hb hown (hts _ wd_844) dJ6_bitCount_0f7a4_29 ?_
  refine lv_iand hx hb dJ6_bitCount_0f7a4_32 ?_
  refine fn_top 0 (by decide) ?_
  refine lv_istore_n (lv' := [(0, .int 0)]) hx hb dJ6_bitCount_0f7a4_33 rfl hl (by decide) rfl (fun ls hl => ?_)
  refine lv_iload_n hx hb dJ6_bitCount_0f7a4_34 rfl (lv_at hl 0 rfl) ?_
  refine lv_iload_n hx hb dJ6_bitCount_0f7a4_35 rfl (lv_at hl 0 rfl) ?_
  refine lv_bipush (v := 8) hx hb dJ6_bitCount_0f7a4_36 (by decide) ?_
  refine lv_iushr (v := 0) hx hb dJ6_bitCount_0f7a4_38 (by decide) ?_
  refine lv_iadd hx hb dJ6_bitCount_0f7a4_39 ?_
  refine fn_top 0 (by decide) ?_
  refine lv_istore_n (lv' := [(0, .int 0)]) hx hb dJ6_bitCount_0f7a4_40 rfl hl (by decide) rfl (fun ls hl => ?_)
  refine lv_iload_n hx hb dJ6_bitCount_0f7a4_41 rfl (lv_at hl 0 rfl) ?_
  refine lv_iload_n hx hb dJ6_bitCount_0f7a4_42 rfl (lv_at hl 0 rfl) ?_
  refine lv_bipush (v := 16) hx hb dJ6_bitCount_0f7a4_43 (by decide) ?_
  refine lv_iushr (v := 0) hx hb dJ6_bitCount_0f7a4_45 (by decide) ?_
  refine lv_iadd hx hb dJ6_bitCount_0f7a4_46 ?_
  refine fn_top 0 (by decide) ?_
  refine lv_istore_n (lv' := [(0, .int 0)]) hx hb dJ6_bitCount_0f7a4_47 rfl hl (by decide) rfl (fun ls hl => ?_)
  refine lv_iload_n hx hb dJ6_bitCount_0f7a4_48 rfl (lv_at hl 0 rfl) ?_
  refine fn_at 49 rfl ?_
  refine lv_bipush (v := 63) hx hb dJ6_bitCount_0f7a4_49 (by decide) ?_
  refine lv_iand hx hb dJ6_bitCount_0f7a4_51 ?_
  refine fn_top 0 (by decide) ?_
  exact fn_iret hx hb hr hlocks rfl hP hD hS () (by first | rfl | decide) [] (by decide) rfl dJ6_bitCount_0f7a4_52
theorem dX11_noSlot_0 : decode cX11_noSlot 0 = .ok (.iload_n 0, 1) := by decide +kernel
theorem dX11_noSlot_1 : decode cX11_noSlot 1 = .ok (.ifCond .lt 8, 3) := by decide +kernel
theorem dX11_noSlot_9 : decode cX11_noSlot 9 = .ok (.iconst 1, 1) := by decide +kernel
theorem dX11_noSlot_10 : decode cX11_noSlot 10 = .ok (.goto 4, 3) := by decide +kernel
theorem dX11_noSlot_14 : decode cX11_noSlot 14 = .ok (.ireturn, 1) := by decide +kernel
theorem dX11_noSlot_4 : decode cX11_noSlot 4 = .ok (.iload_n 0, 1) := by decide +kernel
theorem dX11_noSlot_5 : decode cX11_noSlot 5 = .ok (.iconst 4, 1) := by decide +kernel
theorem dX11_noSlot_6 : decode cX11_noSlot 6 = .ok (.if_icmp .lt 7, 3) := by decide +kernel
theorem dX11_noSlot_13 : decode cX11_noSlot 13 = .ok (.iconst 0, 1) := by decide +kernel
set_option maxHeartbeats 4000000 in
set_option maxRecDepth 100000 in
theorem c_X11_noSlot (l : Launch) (D : va_G) (K : Nat → ClassId) (p0 : Int32) : fn_CI (S := Unit) l D K yX11_noSlot (fn_ws yX11_noSlot cX11_noSlot 1 (some .boolean)) ({ frames := 4, cells := 0, slots := 0, locals := 100 }) [.int p0] [] (fun r _ => (r = 1 ∧ ¬ fn_ok p0 4) ∨ (r = 0 ∧ fn_ok p0 4)) (fun _ => []) 0 0 := by
  refine fn_inI (cc := cX11_noSlot) (maxL := 1) (ret := (some .boolean)) (by decide) rfl (Nat.le_of_ble_eq_true rfl) ?_
  intro p e s m below meth c A ls B hA hP hD hS hl
  obtain ⟨hx, hb, hr, hml, hts, hown, hlocks, hin, hK⟩ := B
  have hown : s.vm.findClass RX11 = some m.cls := hown
  have hts := fun w h => hts w (List.mem_cons_of_mem _ h)
  have hl : lv_has ls 1 [(0, .int p0)] := hl
  refine lv_iload_n hx hb dX11_noSlot_0 rfl (lv_at hl 0 rfl) ?_
  refine lv_if_lt (tgt := 9) hx hb dX11_noSlot_1 (by decide) (fun c1 => ?_) (fun c1 => ?_)
  · refine lv_iconst (v := 1) hx hb dX11_noSlot_9 (by decide) ?_
    refine lv_goto (tgt := 14) hx hb dX11_noSlot_10 (by decide) ?_
    exact fn_iret hx hb hr hlocks rfl hP hD hS () (by first | exact Or.inl ⟨rfl, fn_bad_a c1⟩ | exact Or.inl ⟨rfl, fn_bad_b (q := 4) (by decide) (Int32.not_lt.mp c6)⟩ | exact Or.inr ⟨rfl, fn_good (q := 4) (by decide) c1 (Int32.not_le.mpr c6)⟩) [] (by decide) rfl dX11_noSlot_14
  · refine lv_iload_n hx hb dX11_noSlot_4 rfl (lv_at hl 0 rfl) ?_
    refine lv_iconst (v := 4) hx hb dX11_noSlot_5 (by decide) ?_
    refine lv_icmp_lt (tgt := 13) hx hb dX11_noSlot_6 (by decide) (fun c6 => ?_) (fun c6 => ?_)
    · refine lv_iconst (v := 0) hx hb dX11_noSlot_13 (by decide) ?_
      exact fn_iret hx hb hr hlocks rfl hP hD hS () (by first | exact Or.inl ⟨rfl, fn_bad_a c1⟩ | exact Or.inl ⟨rfl, fn_bad_b (q := 4) (by decide) (Int32.not_lt.mp c6)⟩ | exact Or.inr ⟨rfl, fn_good (q := 4) (by decide) c1 (Int32.not_le.mpr c6)⟩) [] (by decide) rfl dX11_noSlot_14
    · refine lv_iconst (v := 1) hx hb dX11_noSlot_9 (by decide) ?_
      refine lv_goto (tgt := 14) hx hb dX11_noSlot_10 (by decide) ?_
      exact fn_iret hx hb hr hlocks rfl hP hD hS () (by first | exact Or.inl ⟨rfl, fn_bad_a c1⟩ | exact Or.inl ⟨rfl, fn_bad_b (q := 4) (by decide) (Int32.not_lt.mp c6)⟩ | exact Or.inr ⟨rfl, fn_good (q := 4) (by decide) c1 (Int32.not_le.mpr c6)⟩) [] (by decide) rfl dX11_noSlot_14
theorem dX11_noImage_0 : decode cX11_noImage 0 = .ok (.iload_n 0, 1) := by decide +kernel
theorem dX11_noImage_1 : decode cX11_noImage 1 = .ok (.ifCond .lt 8, 3) := by decide +kernel
theorem dX11_noImage_9 : decode cX11_noImage 9 = .ok (.iconst 1, 1) := by decide +kernel
theorem dX11_noImage_10 : decode cX11_noImage 10 = .ok (.goto 4, 3) := by decide +kernel
theorem dX11_noImage_14 : decode cX11_noImage 14 = .ok (.ireturn, 1) := by decide +kernel
theorem dX11_noImage_4 : decode cX11_noImage 4 = .ok (.iload_n 0, 1) := by decide +kernel
theorem dX11_noImage_5 : decode cX11_noImage 5 = .ok (.iconst 3, 1) := by decide +kernel
theorem dX11_noImage_6 : decode cX11_noImage 6 = .ok (.if_icmp .lt 7, 3) := by decide +kernel
theorem dX11_noImage_13 : decode cX11_noImage 13 = .ok (.iconst 0, 1) := by decide +kernel
set_option maxHeartbeats 4000000 in
set_option maxRecDepth 100000 in
theorem c_X11_noImage (l : Launch) (D : va_G) (K : Nat → ClassId) (p0 : Int32) : fn_CI (S := Unit) l D K yX11_noImage (fn_ws yX11_noImage cX11_noImage 1 (some .boolean)) ({ frames := 4, cells := 0, slots := 0, locals := 100 }) [.int p0] [] (fun r _ => (r = 1 ∧ ¬ fn_ok p0 3) ∨ (r = 0 ∧ fn_ok p0 3)) (fun _ => []) 0 0 := by
  refine fn_inI (cc := cX11_noImage) (maxL := 1) (ret := (some .boolean)) (by decide) rfl (Nat.le_of_ble_eq_true rfl) ?_
  intro p e s m below meth c A ls B hA hP hD hS hl
  obtain ⟨hx, hb, hr, hml, hts, hown, hlocks, hin, hK⟩ := B
  have hown : s.vm.findClass RX11 = some m.cls := hown
  have hts := fun w h => hts w (List.mem_cons_of_mem _ h)
  have hl : lv_has ls 1 [(0, .int p0)] := hl
  refine lv_iload_n hx hb dX11_noImage_0 rfl (lv_at hl 0 rfl) ?_
  refine lv_if_lt (tgt := 9) hx hb dX11_noImage_1 (by decide) (fun c1 => ?_) (fun c1 => ?_)
  · refine lv_iconst (v := 1) hx hb dX11_noImage_9 (by decide) ?_
    refine lv_goto (tgt := 14) hx hb dX11_noImage_10 (by decide) ?_
    exact fn_iret hx hb hr hlocks rfl hP hD hS () (by first | exact Or.inl ⟨rfl, fn_bad_a c1⟩ | exact Or.inl ⟨rfl, fn_bad_b (q := 3) (by decide) (Int32.not_lt.mp c6)⟩ | exact Or.inr ⟨rfl, fn_good (q := 3) (by decide) c1 (Int32.not_le.mpr c6)⟩) [] (by decide) rfl dX11_noImage_14
  · refine lv_iload_n hx hb dX11_noImage_4 rfl (lv_at hl 0 rfl) ?_
    refine lv_iconst (v := 3) hx hb dX11_noImage_5 (by decide) ?_
    refine lv_icmp_lt (tgt := 13) hx hb dX11_noImage_6 (by decide) (fun c6 => ?_) (fun c6 => ?_)
    · refine lv_iconst (v := 0) hx hb dX11_noImage_13 (by decide) ?_
      exact fn_iret hx hb hr hlocks rfl hP hD hS () (by first | exact Or.inl ⟨rfl, fn_bad_a c1⟩ | exact Or.inl ⟨rfl, fn_bad_b (q := 3) (by decide) (Int32.not_lt.mp c6)⟩ | exact Or.inr ⟨rfl, fn_good (q := 3) (by decide) c1 (Int32.not_le.mpr c6)⟩) [] (by decide) rfl dX11_noImage_14
    · refine lv_iconst (v := 1) hx hb dX11_noImage_9 (by decide) ?_
      refine lv_goto (tgt := 14) hx hb dX11_noImage_10 (by decide) ?_
      exact fn_iret hx hb hr hlocks rfl hP hD hS () (by first | exact Or.inl ⟨rfl, fn_bad_a c1⟩ | exact Or.inl ⟨rfl, fn_bad_b (q := 3) (by decide) (Int32.not_lt.mp c6)⟩ | exact Or.inr ⟨rfl, fn_good (q := 3) (by decide) c1 (Int32.not_le.mpr c6)⟩) [] (by decide) rfl dX11_noImage_14
theorem dX11_bit_0 : decode cX11_bit 0 = .ok (.iload_n 0, 1) := by decide +kernel
theorem dX11_bit_1 : decode cX11_bit 1 = .ok (.ifCond .eq 7, 3) := by decide +kernel
theorem dX11_bit_8 : decode cX11_bit 8 = .ok (.iconst 0, 1) := by decide +kernel
theorem dX11_bit_9 : decode cX11_bit 9 = .ok (.ireturn, 1) := by decide +kernel
set_option maxHeartbeats 4000000 in
set_option maxRecDepth 100000 in
theorem c_X11_bit (l : Launch) (D : va_G) (K : Nat → ClassId)  : fn_CI (S := Unit) l D K yX11_bit (fn_ws yX11_bit cX11_bit 1 (some .int)) ({ frames := 4, cells := 0, slots := 0, locals := 100 }) [.int 0] [] (fun r _ => r = 0) (fun _ => []) 0 0 := by
  refine fn_inI (cc := cX11_bit) (maxL := 1) (ret := (some .int)) (by decide) rfl (Nat.le_of_ble_eq_true rfl) ?_
  intro p e s m below meth c A ls B hA hP hD hS hl
  obtain ⟨hx, hb, hr, hml, hts, hown, hlocks, hin, hK⟩ := B
  have hown : s.vm.findClass RX11 = some m.cls := hown
  have hts := fun w h => hts w (List.mem_cons_of_mem _ h)
  have hl : lv_has ls 1 [(0, .int 0)] := hl
  refine lv_iload_n hx hb dX11_bit_0 rfl (lv_at hl 0 rfl) ?_
  refine lv_if_eq (tgt := 8) hx hb dX11_bit_1 (by decide) (fun _ => ?_) (fun h9 => absurd (by decide) h9)
  refine lv_iconst (v := 0) hx hb dX11_bit_8 (by decide) ?_
  exact fn_iret hx hb hr hlocks rfl hP hD hS () (by first | rfl | decide) [] (by decide) rfl dX11_bit_9
theorem dX11_tripTrouble_0 : decode cX11_tripTrouble 0 = .ok (.iload_n 1, 1) := by decide +kernel
theorem dX11_tripTrouble_1 : decode cX11_tripTrouble 1 = .ok (.invokestatic 337, 3) := by decide +kernel
theorem dX11_tripTrouble_4 : decode cX11_tripTrouble 4 = .ok (.ifCond .ne 14, 3) := by decide +kernel
theorem dX11_tripTrouble_18 : decode cX11_tripTrouble 18 = .ok (.bipush (-2), 2) := by decide +kernel
theorem dX11_tripTrouble_20 : decode cX11_tripTrouble 20 = .ok (.ireturn, 1) := by decide +kernel
theorem dX11_tripTrouble_7 : decode cX11_tripTrouble 7 = .ok (.aload_n 0, 1) := by decide +kernel
theorem dX11_tripTrouble_8 : decode cX11_tripTrouble 8 = .ok (.getfield 19, 3) := by decide +kernel
theorem dX11_tripTrouble_11 : decode cX11_tripTrouble 11 = .ok (.iload_n 2, 1) := by decide +kernel
theorem dX11_tripTrouble_12 : decode cX11_tripTrouble 12 = .ok (.invokevirtual 130, 3) := by decide +kernel
theorem dX11_tripTrouble_15 : decode cX11_tripTrouble 15 = .ok (.ifCond .ne 6, 3) := by decide +kernel
set_option maxHeartbeats 4000000 in
set_option maxRecDepth 100000 in
theorem c_X11_tripTrouble (l : Launch) (D : va_G) (K : Nat → ClassId) (t0 : Nat) (ft : List Value) (ht0 : ft[0]? = some (.int 0)) (ht3 : ft[3]? = some (.int 0)) (ht4 : ft[4]? = some (.int 0)) (ht5 : ft[5]? = some (.int 0)) (x0 : Nat) (fx : List Value) (hx1 : fx[1]? = some (.ref t0)) (p0 p1 : Int32) : fn_CI (S := Unit) l D K yX11_tripTrouble (fn_ws yX11_tripTrouble cX11_tripTrouble 8 (some .int)) ({ frames := 8, cells := 0, slots := 0, locals := 200 }) [.ref x0, .int p0, .int p1] [(x0, .inr (11, fx)), (t0, .inr (7, ft))] (fun r _ => r = (-2)) (fun _ => []) 0 0 := by
  refine fn_inI (cc := cX11_tripTrouble) (maxL := 8) (ret := (some .int)) (by decide) rfl (Nat.le_of_ble_eq_true rfl) ?_
  intro p e s m below meth c A ls B hA hP hD hS hl
  obtain ⟨hx, hb, hr, hml, hts, hown, hlocks, hin, hK⟩ := B
  have hown : s.vm.findClass RX11 = some m.cls := hown
  have hts := fun w h => hts w (List.mem_cons_of_mem _ h)
  have hl : lv_has ls 8 [(0, .ref x0), (1, .int p0), (2, .int p1)] := hl
  refine lv_iload_n hx hb dX11_tripTrouble_0 rfl (lv_at hl 1 rfl) ?_
  refine fn_goi (wc := []) (wr := [(x0, .inr (11, fx)), (t0, .inr (7, ft))]) hK hP hD hS hA [] [0, 1] rfl rfl (by decide) (fun hp => va_runS (As := [.int p0]) (rest := []) ⟨hx, hb, hml, hown, hts⟩ (c_X11_noSlot (l := l) (D := D) (K := K) (p0 := (p0)) _) (va_cwS 1 hts (fn_ginS (fn_gin wd_963) wd_961 wd_962 wd_1) rfl rfl rfl (by decide +kernel) ⟨Nat.le_of_ble_eq_true rfl, Nat.le_of_ble_eq_true rfl⟩) ⟨fn_blind, hp⟩ rfl rfl hl.1 rfl (lv_room (Nat.le_of_ble_eq_true rfl)) dX11_tripTrouble_1 ⟨Nat.le_of_ble_eq_true rfl, Nat.le_of_ble_eq_true rfl⟩) (fun r2 u1 H locs hwu1 hP hD hS => ?_)
  rcases hwu1 with ⟨rfl, k3⟩ | ⟨rfl, k3⟩
  · have hP : va_P D vwCl [(x0, .inr (11, fx)), (t0, .inr (7, ft))] H := hP
    have hD : va_D A [(x0, .inr (11, fx)), (t0, .inr (7, ft))] := hD
    refine lv_if_ne (tgt := 18) hx hb dX11_tripTrouble_4 (by decide) (fun _ => ?_) (fun h9 => absurd h9 (by decide))
    refine lv_bipush (v := (-2)) hx hb dX11_tripTrouble_18 (by decide) ?_
    exact fn_iret hx hb hr hlocks rfl hP hD hS () (by first | rfl | decide) [] (by decide) rfl dX11_tripTrouble_20
  · have hP : va_P D vwCl [(x0, .inr (11, fx)), (t0, .inr (7, ft))] H := hP
    have hD : va_D A [(x0, .inr (11, fx)), (t0, .inr (7, ft))] := hD
    refine lv_if_ne (tgt := 18) hx hb dX11_tripTrouble_4 (by decide) (fun h9 => absurd rfl h9) (fun _ => ?_)
    refine lv_aload_n hx hb dX11_tripTrouble_7 rfl (lv_at hl 0 rfl) ?_
    refine va_get (D := D) (own := RX11) (ci := 11) (v := .ref t0) (C := RX11) (T := TX11) (N := 13) hx hb hts inb_X11 hown hK.1 hP 0 rfl rfl 1 (by decide) (hts _ wd_423) (fun _ h9 => h9) hx1 dX11_tripTrouble_8 ?_
    refine lv_iload_n hx hb dX11_tripTrouble_11 rfl (lv_at hl 2 rfl) ?_
    refine fn_goi (wc := [(t0, .inr (7, ft))]) (wr := [(x0, .inr (11, fx))]) hK hP hD hS hA [1] [0] rfl rfl (by decide) (fun hp => va_runVN (C := RX7) (As := [.int p1]) (rest := []) ⟨hx, hb, hml, hown, hts⟩ (c_X7_hasPage (l := l) (D := D) (K := K) (t0 := (t0)) (p0 := (p1)) (ft := (ft)) (ht0 := ht0) (ht3 := ht3) (ht4 := ht4) (ht5 := ht5) _) ⟨va_cnB (own := RX11) 1 hts (fn_gin wd_662) rfl rfl rfl (hK.nw 108 rfl) (hts _ wd_4) (by decide +kernel) ⟨Nat.le_of_ble_eq_true rfl, Nat.le_of_ble_eq_true rfl⟩, hts _ wd_661, hts _ wp_25⟩ ⟨fn_blind, va_recv hK.1 hP (ci := 7) (q0 := 1) rfl rfl, hp⟩ rfl rfl hl.1 rfl (lv_room (Nat.le_of_ble_eq_true rfl)) dX11_tripTrouble_12 ⟨Nat.le_of_ble_eq_true rfl, Nat.le_of_ble_eq_true rfl⟩) (fun r5 u4 H locs hwu4 hP hD hS => ?_)
    have r5_e : r5 = 0 := hwu4
    subst r5_e
    have hP : va_P D vwCl [(x0, .inr (11, fx))] H := hP
    have hD : va_D A [(x0, .inr (11, fx))] := hD
    refine lv_if_ne (tgt := 21) hx hb dX11_tripTrouble_15 (by decide) (fun h9 => absurd rfl h9) (fun _ => ?_)
    refine lv_bipush (v := (-2)) hx hb dX11_tripTrouble_18 (by decide) ?_
    exact fn_iret hx hb hr hlocks rfl hP hD hS () (by first | rfl | decide) [] (by decide) rfl dX11_tripTrouble_20
theorem dX11_reads_0 : decode cX11_reads 0 = .ok (.aload_n 0, 1) := by decide +kernel
theorem dX11_reads_1 : decode cX11_reads 1 = .ok (.iload_n 1, 1) := by decide +kernel
theorem dX11_reads_2 : decode cX11_reads 2 = .ok (.iload_n 2, 1) := by decide +kernel
theorem dX11_reads_3 : decode cX11_reads 3 = .ok (.invokevirtual 314, 3) := by decide +kernel
theorem dX11_reads_6 : decode cX11_reads 6 = .ok (.istore_n 3, 1) := by decide +kernel
theorem dX11_reads_7 : decode cX11_reads 7 = .ok (.iload_n 3, 1) := by decide +kernel
theorem dX11_reads_8 : decode cX11_reads 8 = .ok (.ifCond .eq 5, 3) := by decide +kernel
theorem dX11_reads_11 : decode cX11_reads 11 = .ok (.iload_n 3, 1) := by decide +kernel
theorem dX11_reads_12 : decode cX11_reads 12 = .ok (.ireturn, 1) := by decide +kernel
set_option maxHeartbeats 4000000 in
set_option maxRecDepth 100000 in
theorem c_X11_reads (l : Launch) (D : va_G) (K : Nat → ClassId) (t0 : Nat) (ft : List Value) (ht0 : ft[0]? = some (.int 0)) (ht3 : ft[3]? = some (.int 0)) (ht4 : ft[4]? = some (.int 0)) (ht5 : ft[5]? = some (.int 0)) (x0 : Nat) (fx : List Value) (hx1 : fx[1]? = some (.ref t0)) (p0 p1 : Int32) : fn_CI (S := Unit) l D K yX11_reads (fn_ws yX11_reads cX11_reads 4 (some .int)) ({ frames := 12, cells := 0, slots := 0, locals := 300 }) [.ref x0, .int p0, .int p1] [(x0, .inr (11, fx)), (t0, .inr (7, ft))] (fun r _ => r = (-2)) (fun _ => []) 0 0 := by
  refine fn_inI (cc := cX11_reads) (maxL := 4) (ret := (some .int)) (by decide) rfl (Nat.le_of_ble_eq_true rfl) ?_
  intro p e s m below meth c A ls B hA hP hD hS hl
  obtain ⟨hx, hb, hr, hml, hts, hown, hlocks, hin, hK⟩ := B
  have hown : s.vm.findClass RX11 = some m.cls := hown
  have hts := fun w h => hts w (List.mem_cons_of_mem _ h)
  have hl : lv_has ls 4 [(0, .ref x0), (1, .int p0), (2, .int p1)] := hl
  refine lv_aload_n hx hb dX11_reads_0 rfl (lv_at hl 0 rfl) ?_
  refine lv_iload_n hx hb dX11_reads_1 rfl (lv_at hl 1 rfl) ?_
  refine lv_iload_n hx hb dX11_reads_2 rfl (lv_at hl 2 rfl) ?_
  refine fn_goi (wc := [(x0, .inr (11, fx)), (t0, .inr (7, ft))]) (wr := []) hK hP hD hS hA [0, 1] [] rfl rfl (by decide) (fun hp => va_runV (C := RX11) (As := [.int p0, .int p1]) (rest := []) ⟨hx, hb, hml, hown, hts⟩ (c_X11_tripTrouble (l := l) (D := D) (K := K) (x0 := (x0)) (p0 := (p0)) (p1 := (p1)) (fx := (fx)) (t0 := (t0)) (hx1 := hx1) (ft := (ft)) (ht0 := ht0) (ht3 := ht3) (ht4 := ht4) (ht5 := ht5) _) (cwV 2 hts (fn_ginV (fn_gin wd_960) wd_957 wd_959 wp_58 wd_1) rfl rfl rfl (by decide +kernel) ⟨Nat.le_of_ble_eq_true rfl, Nat.le_of_ble_eq_true rfl⟩) ⟨fn_blind, va_recv hK.1 hP (ci := 11) (q0 := 0) rfl rfl, hp⟩ rfl rfl hl.1 rfl (lv_room (Nat.le_of_ble_eq_true rfl)) dX11_reads_3 ⟨Nat.le_of_ble_eq_true rfl, Nat.le_of_ble_eq_true rfl⟩) (fun r2 u1 H locs hwu1 hP hD hS => ?_)
  have r2_e : r2 = (-2) := hwu1
  subst r2_e
  have hP : va_P D vwCl [] H := hP
  have hD : va_D A [] := hD
  refine lv_istore_n (lv' := [(3, .int (-2)), (0, .ref x0), (1, .int p0), (2, .int p1)]) hx hb dX11_reads_6 rfl hl (by decide) rfl (fun ls hl => ?_)
  refine lv_iload_n hx hb dX11_reads_7 rfl (lv_at hl 0 rfl) ?_
  refine lv_if_eq (tgt := 13) hx hb dX11_reads_8 (by decide) (fun h9 => absurd h9 (by decide)) (fun _ => ?_)
  refine lv_iload_n hx hb dX11_reads_11 rfl (lv_at hl 0 rfl) ?_
  exact fn_iret hx hb hr hlocks rfl hP hD hS () (by first | rfl | decide) [] (by decide) rfl dX11_reads_12
theorem dX11_order_0 : decode cX11_order 0 = .ok (.aload_n 0, 1) := by decide +kernel
theorem dX11_order_1 : decode cX11_order 1 = .ok (.iload_n 1, 1) := by decide +kernel
theorem dX11_order_2 : decode cX11_order 2 = .ok (.iload_n 2, 1) := by decide +kernel
theorem dX11_order_3 : decode cX11_order 3 = .ok (.invokevirtual 314, 3) := by decide +kernel
theorem dX11_order_6 : decode cX11_order 6 = .ok (.istore 4, 2) := by decide +kernel
theorem dX11_order_8 : decode cX11_order 8 = .ok (.iload 4, 2) := by decide +kernel
theorem dX11_order_10 : decode cX11_order 10 = .ok (.ifCond .eq 6, 3) := by decide +kernel
theorem dX11_order_13 : decode cX11_order 13 = .ok (.iload 4, 2) := by decide +kernel
theorem dX11_order_15 : decode cX11_order 15 = .ok (.ireturn, 1) := by decide +kernel
set_option maxHeartbeats 4000000 in
set_option maxRecDepth 100000 in
theorem c_X11_order (l : Launch) (D : va_G) (K : Nat → ClassId) (t0 : Nat) (ft : List Value) (ht0 : ft[0]? = some (.int 0)) (ht3 : ft[3]? = some (.int 0)) (ht4 : ft[4]? = some (.int 0)) (ht5 : ft[5]? = some (.int 0)) (x0 : Nat) (fx : List Value) (hx1 : fx[1]? = some (.ref t0)) (p0 p1 p2 : Int32) : fn_CI (S := Unit) l D K yX11_order (fn_ws yX11_order cX11_order 5 (some .int)) ({ frames := 12, cells := 0, slots := 0, locals := 300 }) [.ref x0, .int p0, .int p1, .int p2] [(x0, .inr (11, fx)), (t0, .inr (7, ft))] (fun r _ => r = (-2)) (fun _ => []) 0 0 := by
  refine fn_inI (cc := cX11_order) (maxL := 5) (ret := (some .int)) (by decide) rfl (Nat.le_of_ble_eq_true rfl) ?_
  intro p e s m below meth c A ls B hA hP hD hS hl
  obtain ⟨hx, hb, hr, hml, hts, hown, hlocks, hin, hK⟩ := B
  have hown : s.vm.findClass RX11 = some m.cls := hown
  have hts := fun w h => hts w (List.mem_cons_of_mem _ h)
  have hl : lv_has ls 5 [(0, .ref x0), (1, .int p0), (2, .int p1), (3, .int p2)] := hl
  refine lv_aload_n hx hb dX11_order_0 rfl (lv_at hl 0 rfl) ?_
  refine lv_iload_n hx hb dX11_order_1 rfl (lv_at hl 1 rfl) ?_
  refine lv_iload_n hx hb dX11_order_2 rfl (lv_at hl 2 rfl) ?_
  refine fn_goi (wc := [(x0, .inr (11, fx)), (t0, .inr (7, ft))]) (wr := []) hK hP hD hS hA [0, 1] [] rfl rfl (by decide) (fun hp => va_runV (C := RX11) (As := [.int p0, .int p1]) (rest := []) ⟨hx, hb, hml, hown, hts⟩ (c_X11_tripTrouble (l := l) (D := D) (K := K) (x0 := (x0)) (p0 := (p0)) (p1 := (p1)) (fx := (fx)) (t0 := (t0)) (hx1 := hx1) (ft := (ft)) (ht0 := ht0) (ht3 := ht3) (ht4 := ht4) (ht5 := ht5) _) (cwV 2 hts (fn_ginV (fn_gin wd_960) wd_957 wd_959 wp_58 wd_1) rfl rfl rfl (by decide +kernel) ⟨Nat.le_of_ble_eq_true rfl, Nat.le_of_ble_eq_true rfl⟩) ⟨fn_blind, va_recv hK.1 hP (ci := 11) (q0 := 0) rfl rfl, hp⟩ rfl rfl hl.1 rfl (lv_room (Nat.le_of_ble_eq_true rfl)) dX11_order_3 ⟨Nat.le_of_ble_eq_true rfl, Nat.le_of_ble_eq_true rfl⟩) (fun r2 u1 H locs hwu1 hP hD hS => ?_)
  have r2_e : r2 = (-2) := hwu1
  subst r2_e
  have hP : va_P D vwCl [] H := hP
  have hD : va_D A [] := hD
  refine lv_istore (lv' := [(4, .int (-2)), (0, .ref x0), (1, .int p0), (2, .int p1), (3, .int p2)]) hx hb dX11_order_6 hl (by decide) rfl (fun ls hl => ?_)
  refine lv_iload hx hb dX11_order_8 (lv_at hl 0 rfl) ?_
  refine lv_if_eq (tgt := 16) hx hb dX11_order_10 (by decide) (fun h9 => absurd h9 (by decide)) (fun _ => ?_)
  refine lv_iload hx hb dX11_order_13 (lv_at hl 0 rfl) ?_
  exact fn_iret hx hb hr hlocks rfl hP hD hS () (by first | rfl | decide) [] (by decide) rfl dX11_order_15
theorem dX11_shares_0 : decode cX11_shares 0 = .ok (.aload_n 0, 1) := by decide +kernel
theorem dX11_shares_1 : decode cX11_shares 1 = .ok (.iload_n 1, 1) := by decide +kernel
theorem dX11_shares_2 : decode cX11_shares 2 = .ok (.iload_n 2, 1) := by decide +kernel
theorem dX11_shares_3 : decode cX11_shares 3 = .ok (.invokevirtual 314, 3) := by decide +kernel
theorem dX11_shares_6 : decode cX11_shares 6 = .ok (.istore_n 3, 1) := by decide +kernel
theorem dX11_shares_7 : decode cX11_shares 7 = .ok (.iload_n 3, 1) := by decide +kernel
theorem dX11_shares_8 : decode cX11_shares 8 = .ok (.ifCond .eq 5, 3) := by decide +kernel
theorem dX11_shares_11 : decode cX11_shares 11 = .ok (.iload_n 3, 1) := by decide +kernel
theorem dX11_shares_12 : decode cX11_shares 12 = .ok (.ireturn, 1) := by decide +kernel
set_option maxHeartbeats 4000000 in
set_option maxRecDepth 100000 in
theorem c_X11_shares (l : Launch) (D : va_G) (K : Nat → ClassId) (t0 : Nat) (ft : List Value) (ht0 : ft[0]? = some (.int 0)) (ht3 : ft[3]? = some (.int 0)) (ht4 : ft[4]? = some (.int 0)) (ht5 : ft[5]? = some (.int 0)) (x0 : Nat) (fx : List Value) (hx1 : fx[1]? = some (.ref t0)) (p0 p1 : Int32) : fn_CI (S := Unit) l D K yX11_shares (fn_ws yX11_shares cX11_shares 4 (some .int)) ({ frames := 12, cells := 0, slots := 0, locals := 300 }) [.ref x0, .int p0, .int p1] [(x0, .inr (11, fx)), (t0, .inr (7, ft))] (fun r _ => r = (-2)) (fun _ => []) 0 0 := by
  refine fn_inI (cc := cX11_shares) (maxL := 4) (ret := (some .int)) (by decide) rfl (Nat.le_of_ble_eq_true rfl) ?_
  intro p e s m below meth c A ls B hA hP hD hS hl
  obtain ⟨hx, hb, hr, hml, hts, hown, hlocks, hin, hK⟩ := B
  have hown : s.vm.findClass RX11 = some m.cls := hown
  have hts := fun w h => hts w (List.mem_cons_of_mem _ h)
  have hl : lv_has ls 4 [(0, .ref x0), (1, .int p0), (2, .int p1)] := hl
  refine lv_aload_n hx hb dX11_shares_0 rfl (lv_at hl 0 rfl) ?_
  refine lv_iload_n hx hb dX11_shares_1 rfl (lv_at hl 1 rfl) ?_
  refine lv_iload_n hx hb dX11_shares_2 rfl (lv_at hl 2 rfl) ?_
  refine fn_goi (wc := [(x0, .inr (11, fx)), (t0, .inr (7, ft))]) (wr := []) hK hP hD hS hA [0, 1] [] rfl rfl (by decide) (fun hp => va_runV (C := RX11) (As := [.int p0, .int p1]) (rest := []) ⟨hx, hb, hml, hown, hts⟩ (c_X11_tripTrouble (l := l) (D := D) (K := K) (x0 := (x0)) (p0 := (p0)) (p1 := (p1)) (fx := (fx)) (t0 := (t0)) (hx1 := hx1) (ft := (ft)) (ht0 := ht0) (ht3 := ht3) (ht4 := ht4) (ht5 := ht5) _) (cwV 2 hts (fn_ginV (fn_gin wd_960) wd_957 wd_959 wp_58 wd_1) rfl rfl rfl (by decide +kernel) ⟨Nat.le_of_ble_eq_true rfl, Nat.le_of_ble_eq_true rfl⟩) ⟨fn_blind, va_recv hK.1 hP (ci := 11) (q0 := 0) rfl rfl, hp⟩ rfl rfl hl.1 rfl (lv_room (Nat.le_of_ble_eq_true rfl)) dX11_shares_3 ⟨Nat.le_of_ble_eq_true rfl, Nat.le_of_ble_eq_true rfl⟩) (fun r2 u1 H locs hwu1 hP hD hS => ?_)
  have r2_e : r2 = (-2) := hwu1
  subst r2_e
  have hP : va_P D vwCl [] H := hP
  have hD : va_D A [] := hD
  refine lv_istore_n (lv' := [(3, .int (-2)), (0, .ref x0), (1, .int p0), (2, .int p1)]) hx hb dX11_shares_6 rfl hl (by decide) rfl (fun ls hl => ?_)
  refine lv_iload_n hx hb dX11_shares_7 rfl (lv_at hl 0 rfl) ?_
  refine lv_if_eq (tgt := 13) hx hb dX11_shares_8 (by decide) (fun h9 => absurd h9 (by decide)) (fun _ => ?_)
  refine lv_iload_n hx hb dX11_shares_11 rfl (lv_at hl 0 rfl) ?_
  exact fn_iret hx hb hr hlocks rfl hP hD hS () (by first | rfl | decide) [] (by decide) rfl dX11_shares_12
theorem dX11_first_0 : decode cX11_first 0 = .ok (.aload_n 0, 1) := by decide +kernel
theorem dX11_first_1 : decode cX11_first 1 = .ok (.iload_n 1, 1) := by decide +kernel
theorem dX11_first_2 : decode cX11_first 2 = .ok (.iload_n 2, 1) := by decide +kernel
theorem dX11_first_3 : decode cX11_first 3 = .ok (.invokevirtual 314, 3) := by decide +kernel
theorem dX11_first_6 : decode cX11_first 6 = .ok (.istore_n 3, 1) := by decide +kernel
theorem dX11_first_7 : decode cX11_first 7 = .ok (.iload_n 3, 1) := by decide +kernel
theorem dX11_first_8 : decode cX11_first 8 = .ok (.ifCond .eq 5, 3) := by decide +kernel
theorem dX11_first_11 : decode cX11_first 11 = .ok (.iload_n 3, 1) := by decide +kernel
theorem dX11_first_12 : decode cX11_first 12 = .ok (.ireturn, 1) := by decide +kernel
set_option maxHeartbeats 4000000 in
set_option maxRecDepth 100000 in
theorem c_X11_first (l : Launch) (D : va_G) (K : Nat → ClassId) (t0 : Nat) (ft : List Value) (ht0 : ft[0]? = some (.int 0)) (ht3 : ft[3]? = some (.int 0)) (ht4 : ft[4]? = some (.int 0)) (ht5 : ft[5]? = some (.int 0)) (x0 : Nat) (fx : List Value) (hx1 : fx[1]? = some (.ref t0)) (p0 p1 : Int32) : fn_CI (S := Unit) l D K yX11_first (fn_ws yX11_first cX11_first 4 (some .int)) ({ frames := 12, cells := 0, slots := 0, locals := 300 }) [.ref x0, .int p0, .int p1] [(x0, .inr (11, fx)), (t0, .inr (7, ft))] (fun r _ => r = (-2)) (fun _ => []) 0 0 := by
  refine fn_inI (cc := cX11_first) (maxL := 4) (ret := (some .int)) (by decide) rfl (Nat.le_of_ble_eq_true rfl) ?_
  intro p e s m below meth c A ls B hA hP hD hS hl
  obtain ⟨hx, hb, hr, hml, hts, hown, hlocks, hin, hK⟩ := B
  have hown : s.vm.findClass RX11 = some m.cls := hown
  have hts := fun w h => hts w (List.mem_cons_of_mem _ h)
  have hl : lv_has ls 4 [(0, .ref x0), (1, .int p0), (2, .int p1)] := hl
  refine lv_aload_n hx hb dX11_first_0 rfl (lv_at hl 0 rfl) ?_
  refine lv_iload_n hx hb dX11_first_1 rfl (lv_at hl 1 rfl) ?_
  refine lv_iload_n hx hb dX11_first_2 rfl (lv_at hl 2 rfl) ?_
  refine fn_goi (wc := [(x0, .inr (11, fx)), (t0, .inr (7, ft))]) (wr := []) hK hP hD hS hA [0, 1] [] rfl rfl (by decide) (fun hp => va_runV (C := RX11) (As := [.int p0, .int p1]) (rest := []) ⟨hx, hb, hml, hown, hts⟩ (c_X11_tripTrouble (l := l) (D := D) (K := K) (x0 := (x0)) (p0 := (p0)) (p1 := (p1)) (fx := (fx)) (t0 := (t0)) (hx1 := hx1) (ft := (ft)) (ht0 := ht0) (ht3 := ht3) (ht4 := ht4) (ht5 := ht5) _) (cwV 2 hts (fn_ginV (fn_gin wd_960) wd_957 wd_959 wp_58 wd_1) rfl rfl rfl (by decide +kernel) ⟨Nat.le_of_ble_eq_true rfl, Nat.le_of_ble_eq_true rfl⟩) ⟨fn_blind, va_recv hK.1 hP (ci := 11) (q0 := 0) rfl rfl, hp⟩ rfl rfl hl.1 rfl (lv_room (Nat.le_of_ble_eq_true rfl)) dX11_first_3 ⟨Nat.le_of_ble_eq_true rfl, Nat.le_of_ble_eq_true rfl⟩) (fun r2 u1 H locs hwu1 hP hD hS => ?_)
  have r2_e : r2 = (-2) := hwu1
  subst r2_e
  have hP : va_P D vwCl [] H := hP
  have hD : va_D A [] := hD
  refine lv_istore_n (lv' := [(3, .int (-2)), (0, .ref x0), (1, .int p0), (2, .int p1)]) hx hb dX11_first_6 rfl hl (by decide) rfl (fun ls hl => ?_)
  refine lv_iload_n hx hb dX11_first_7 rfl (lv_at hl 0 rfl) ?_
  refine lv_if_eq (tgt := 13) hx hb dX11_first_8 (by decide) (fun h9 => absurd h9 (by decide)) (fun _ => ?_)
  refine lv_iload_n hx hb dX11_first_11 rfl (lv_at hl 0 rfl) ?_
  exact fn_iret hx hb hr hlocks rfl hP hD hS () (by first | rfl | decide) [] (by decide) rfl dX11_first_12
theorem dX11_end_0 : decode cX11_end 0 = .ok (.iload_n 1, 1) := by decide +kernel
theorem dX11_end_1 : decode cX11_end 1 = .ok (.ifCond .lt 17, 3) := by decide +kernel
theorem dX11_end_18 : decode cX11_end 18 = .ok (.iconst (-1), 1) := by decide +kernel
theorem dX11_end_19 : decode cX11_end 19 = .ok (.ireturn, 1) := by decide +kernel
theorem dX11_end_4 : decode cX11_end 4 = .ok (.iload_n 1, 1) := by decide +kernel
theorem dX11_end_5 : decode cX11_end 5 = .ok (.aload_n 0, 1) := by decide +kernel
theorem dX11_end_6 : decode cX11_end 6 = .ok (.getfield 10, 3) := by decide +kernel
theorem dX11_end_9 : decode cX11_end 9 = .ok (.getfield 87, 3) := by decide +kernel
theorem dX11_end_12 : decode cX11_end 12 = .ok (.getfield 91, 3) := by decide +kernel
theorem dX11_end_15 : decode cX11_end 15 = .ok (.if_icmp .le 5, 3) := by decide +kernel
theorem dX11_end_20 : decode cX11_end 20 = .ok (.aload_n 0, 1) := by decide +kernel
theorem dX11_end_21 : decode cX11_end 21 = .ok (.getfield 10, 3) := by decide +kernel
theorem dX11_end_24 : decode cX11_end 24 = .ok (.getfield 87, 3) := by decide +kernel
theorem dX11_end_27 : decode cX11_end 27 = .ok (.iload_n 1, 1) := by decide +kernel
theorem dX11_end_28 : decode cX11_end 28 = .ok (.putfield 91, 3) := by decide +kernel
theorem dX11_end_31 : decode cX11_end 31 = .ok (.iload_n 1, 1) := by decide +kernel
theorem dX11_end_32 : decode cX11_end 32 = .ok (.ireturn, 1) := by decide +kernel
set_option maxHeartbeats 4000000 in
set_option maxRecDepth 100000 in
theorem c_X11_end (l : Launch) (D : va_G) (K : Nat → ClassId) (rd tp tb td : Nat) (x0 : Nat) (fx : List Value) (hx0 : fx[0]? = some (.ref rd)) (p0 : Int32) : fn_CI (S := Unit) l D K yX11_end (fn_ws yX11_end cX11_end 2 (some .int)) ({ frames := 4, cells := 0, slots := 0, locals := 100 }) [.ref x0, .int p0] [(x0, .inr (11, fx)), (rd, .inr (3, [.ref tp, .ref td, .int 0, .int (-1)])), (tp, .inr (6, [.int 0, .ref tb, .int 0, .int 0, .int 0]))] (fun r _ => r = fn_sEnd p0) (fun _ => []) 0 0 := by
  refine fn_inI (cc := cX11_end) (maxL := 2) (ret := (some .int)) (by decide) rfl (Nat.le_of_ble_eq_true rfl) ?_
  intro p e s m below meth c A ls B hA hP hD hS hl
  obtain ⟨hx, hb, hr, hml, hts, hown, hlocks, hin, hK⟩ := B
  have hown : s.vm.findClass RX11 = some m.cls := hown
  have hts := fun w h => hts w (List.mem_cons_of_mem _ h)
  have hl : lv_has ls 2 [(0, .ref x0), (1, .int p0)] := hl
  refine lv_iload_n hx hb dX11_end_0 rfl (lv_at hl 1 rfl) ?_
  refine lv_if_lt (tgt := 18) hx hb dX11_end_1 (by decide) (fun c1 => ?_) (fun c1 => ?_)
  · refine lv_iconst (v := (-1)) hx hb dX11_end_18 (by decide) ?_
    exact fn_iret hx hb hr hlocks rfl hP hD hS () (by first | exact fn_endA c1 | exact fn_endB c15 | exact fn_endC c1 c15) [] (by decide) rfl dX11_end_19
  · refine lv_iload_n hx hb dX11_end_4 rfl (lv_at hl 1 rfl) ?_
    refine lv_aload_n hx hb dX11_end_5 rfl (lv_at hl 0 rfl) ?_
    refine va_get (D := D) (own := RX11) (ci := 11) (v := .ref rd) (C := RX11) (T := TX11) (N := 13) hx hb hts inb_X11 hown hK.1 hP 0 rfl rfl 0 (by decide) (hts _ wd_422) (fun _ h9 => h9) hx0 dX11_end_6 ?_
    refine va_getN (D := D) (own := RX11) (ci := 3) (v := .ref tp) (C := RX3) (T := TX3) (N := 4) hx hb hts inb_X3 hown hK.1 hP 1 rfl rfl 0 (by decide) (hK.nf 50 rfl) (fun _ h9 => h9) rfl dX11_end_9 ?_
    refine va_getN (D := D) (own := RX11) (ci := 6) (v := .int 0) (C := RX6) (T := TX6) (N := 5) hx hb hts inb_X6 hown hK.1 hP 2 rfl rfl 0 (by decide) (hK.nf 2 rfl) (fun _ h9 => h9) rfl dX11_end_12 ?_
    refine lv_icmp_le (tgt := 20) hx hb dX11_end_15 (by decide) (fun c15 => ?_) (fun c15 => ?_)
    · refine lv_aload_n hx hb dX11_end_20 rfl (lv_at hl 0 rfl) ?_
      refine va_get (D := D) (own := RX11) (ci := 11) (v := .ref rd) (C := RX11) (T := TX11) (N := 13) hx hb hts inb_X11 hown hK.1 hP 0 rfl rfl 0 (by decide) (hts _ wd_422) (fun _ h9 => h9) hx0 dX11_end_21 ?_
      refine va_getN (D := D) (own := RX11) (ci := 3) (v := .ref tp) (C := RX3) (T := TX3) (N := 4) hx hb hts inb_X3 hown hK.1 hP 1 rfl rfl 0 (by decide) (hK.nf 50 rfl) (fun _ h9 => h9) rfl dX11_end_24 ?_
      refine lv_iload_n hx hb dX11_end_27 rfl (lv_at hl 1 rfl) ?_
      refine va_putN (D := D) (own := RX11) (ci := 6) (v := .int p0) (ty := .int) (C := RX6) (T := TX6) (N := 5) hx hb hts inb_X6 tyX6 tyX6_ok nmX6 hown hK.1 hP hD hS 2 rfl rfl 0 (by decide) (hK.nf 2 rfl) (fun _ h9 => h9) rfl (by decide +kernel) rfl rfl (Nat.le_of_ble_eq_true rfl) dX11_end_28 (fun H locs hP hD hS => ?_)
      have hP : va_P D vwCl [(x0, .inr (11, fx)), (rd, .inr (3, [.ref tp, .ref td, .int 0, .int (-1)])), (tp, .inr (6, [.int p0, .ref tb, .int 0, .int 0, .int 0]))] H := hP
      have hD : va_D A [(x0, .inr (11, fx)), (rd, .inr (3, [.ref tp, .ref td, .int 0, .int (-1)])), (tp, .inr (6, [.int p0, .ref tb, .int 0, .int 0, .int 0]))] := hD
      refine lv_iload_n hx hb dX11_end_31 rfl (lv_at hl 1 rfl) ?_
      exact fn_iret hx hb hr hlocks rfl hP hD hS () (by first | exact fn_endA c1 | exact fn_endB c15 | exact fn_endC c1 c15) [] (by decide) rfl dX11_end_32
    · refine lv_iconst (v := (-1)) hx hb dX11_end_18 (by decide) ?_
      exact fn_iret hx hb hr hlocks rfl hP hD hS () (by first | exact fn_endA c1 | exact fn_endB c15 | exact fn_endC c1 c15) [] (by decide) rfl dX11_end_19
theorem dX11_fault_0 : decode cX11_fault 0 = .ok (.iload_n 1, 1) := by decide +kernel
theorem dX11_fault_1 : decode cX11_fault 1 = .ok (.ifCond .ne 11, 3) := by decide +kernel
theorem dX11_fault_12 : decode cX11_fault 12 = .ok (.iload_n 1, 1) := by decide +kernel
theorem dX11_fault_13 : decode cX11_fault 13 = .ok (.iconst 1, 1) := by decide +kernel
theorem dX11_fault_14 : decode cX11_fault 14 = .ok (.if_icmp .ne 13, 3) := by decide +kernel
theorem dX11_fault_27 : decode cX11_fault 27 = .ok (.iconst (-1), 1) := by decide +kernel
theorem dX11_fault_28 : decode cX11_fault 28 = .ok (.ireturn, 1) := by decide +kernel
theorem dX11_fault_17 : decode cX11_fault 17 = .ok (.aload_n 0, 1) := by decide +kernel
theorem dX11_fault_18 : decode cX11_fault 18 = .ok (.getfield 10, 3) := by decide +kernel
theorem dX11_fault_21 : decode cX11_fault 21 = .ok (.getfield 123, 3) := by decide +kernel
theorem dX11_fault_24 : decode cX11_fault 24 = .ok (.goto 4, 3) := by decide +kernel
theorem dX11_fault_4 : decode cX11_fault 4 = .ok (.aload_n 0, 1) := by decide +kernel
theorem dX11_fault_5 : decode cX11_fault 5 = .ok (.getfield 10, 3) := by decide +kernel
theorem dX11_fault_8 : decode cX11_fault 8 = .ok (.getfield 104, 3) := by decide +kernel
theorem dX11_fault_11 : decode cX11_fault 11 = .ok (.ireturn, 1) := by decide +kernel
set_option maxHeartbeats 4000000 in
set_option maxRecDepth 100000 in
theorem c_X11_fault (l : Launch) (D : va_G) (K : Nat → ClassId) (rd tp td : Nat) (x0 : Nat) (fx : List Value) (hx0 : fx[0]? = some (.ref rd)) (p0 : Int32) : fn_CI (S := Unit) l D K yX11_fault (fn_ws yX11_fault cX11_fault 2 (some .int)) ({ frames := 4, cells := 0, slots := 0, locals := 100 }) [.ref x0, .int p0] [(x0, .inr (11, fx)), (rd, .inr (3, [.ref tp, .ref td, .int 0, .int (-1)]))] (fun r _ => r = fn_sEnd p0) (fun _ => []) 0 0 := by
  refine fn_inI (cc := cX11_fault) (maxL := 2) (ret := (some .int)) (by decide) rfl (Nat.le_of_ble_eq_true rfl) ?_
  intro p e s m below meth c A ls B hA hP hD hS hl
  obtain ⟨hx, hb, hr, hml, hts, hown, hlocks, hin, hK⟩ := B
  have hown : s.vm.findClass RX11 = some m.cls := hown
  have hts := fun w h => hts w (List.mem_cons_of_mem _ h)
  have hl : lv_has ls 2 [(0, .ref x0), (1, .int p0)] := hl
  refine lv_iload_n hx hb dX11_fault_0 rfl (lv_at hl 1 rfl) ?_
  refine lv_if_ne (tgt := 12) hx hb dX11_fault_1 (by decide) (fun c1 => ?_) (fun c1 => ?_)
  · refine lv_iload_n hx hb dX11_fault_12 rfl (lv_at hl 1 rfl) ?_
    refine lv_iconst (v := 1) hx hb dX11_fault_13 (by decide) ?_
    refine lv_icmp_ne (tgt := 27) hx hb dX11_fault_14 (by decide) (fun c14 => ?_) (fun c14 => ?_)
    · refine lv_iconst (v := (-1)) hx hb dX11_fault_27 (by decide) ?_
      exact fn_iret hx hb hr hlocks rfl hP hD hS () (by first | exact (if_pos c1).symm | exact (if_neg c1).symm) [] (by decide) rfl dX11_fault_28
    · refine lv_aload_n hx hb dX11_fault_17 rfl (lv_at hl 0 rfl) ?_
      refine va_get (D := D) (own := RX11) (ci := 11) (v := .ref rd) (C := RX11) (T := TX11) (N := 13) hx hb hts inb_X11 hown hK.1 hP 0 rfl rfl 0 (by decide) (hts _ wd_422) (fun _ h9 => h9) hx0 dX11_fault_18 ?_
      refine va_getN (D := D) (own := RX11) (ci := 3) (v := .int (-1)) (C := RX3) (T := TX3) (N := 4) hx hb hts inb_X3 hown hK.1 hP 1 rfl rfl 3 (by decide) (hK.nf 53 rfl) (fun _ h9 => h9) rfl dX11_fault_21 ?_
      refine lv_goto (tgt := 28) hx hb dX11_fault_24 (by decide) ?_
      exact fn_iret hx hb hr hlocks rfl hP hD hS () (by first | exact (if_pos c1).symm | exact (if_neg c1).symm) [] (by decide) rfl dX11_fault_28
  · refine lv_aload_n hx hb dX11_fault_4 rfl (lv_at hl 0 rfl) ?_
    refine va_get (D := D) (own := RX11) (ci := 11) (v := .ref rd) (C := RX11) (T := TX11) (N := 13) hx hb hts inb_X11 hown hK.1 hP 0 rfl rfl 0 (by decide) (hts _ wd_422) (fun _ h9 => h9) hx0 dX11_fault_5 ?_
    refine va_getN (D := D) (own := RX11) (ci := 3) (v := .int 0) (C := RX3) (T := TX3) (N := 4) hx hb hts inb_X3 hown hK.1 hP 1 rfl rfl 2 (by decide) (hK.nf 52 rfl) (fun _ h9 => h9) rfl dX11_fault_8 ?_
    exact fn_iret hx hb hr hlocks rfl hP hD hS () (by first | exact (if_pos c1).symm | exact (if_neg c1).symm) [] (by decide) rfl dX11_fault_11
theorem dX6_put_0 : decode cX6_put 0 = .ok (.bipush 24, 2) := by decide +kernel
theorem dX6_put_2 : decode cX6_put 2 = .ok (.istore_n 2, 1) := by decide +kernel
theorem dX6_put_3 : decode cX6_put 3 = .ok (.iload_n 2, 1) := by decide +kernel
theorem dX6_put_4 : decode cX6_put 4 = .ok (.ifCond .lt 42, 3) := by decide +kernel
theorem dX6_put_7 : decode cX6_put 7 = .ok (.aload_n 0, 1) := by decide +kernel
theorem dX6_put_8 : decode cX6_put 8 = .ok (.getfield 15, 3) := by decide +kernel
theorem dX6_put_11 : decode cX6_put 11 = .ok (.sipush 1400, 3) := by decide +kernel
theorem dX6_put_14 : decode cX6_put 14 = .ok (.if_icmp .ge 32, 3) := by decide +kernel
theorem dX6_put_17 : decode cX6_put 17 = .ok (.aload_n 0, 1) := by decide +kernel
theorem dX6_put_18 : decode cX6_put 18 = .ok (.getfield 9, 3) := by decide +kernel
theorem dX6_put_21 : decode cX6_put 21 = .ok (.aload_n 0, 1) := by decide +kernel
theorem dX6_put_22 : decode cX6_put 22 = .ok (.getfield 15, 3) := by decide +kernel
theorem dX6_put_25 : decode cX6_put 25 = .ok (.iload_n 1, 1) := by decide +kernel
theorem dX6_put_26 : decode cX6_put 26 = .ok (.iload_n 2, 1) := by decide +kernel
theorem dX6_put_27 : decode cX6_put 27 = .ok (.ishr, 1) := by decide +kernel
theorem dX6_put_28 : decode cX6_put 28 = .ok (.i2b, 1) := by decide +kernel
theorem dX6_put_29 : decode cX6_put 29 = .ok (.bastore, 1) := by decide +kernel
theorem dX6_put_30 : decode cX6_put 30 = .ok (.aload_n 0, 1) := by decide +kernel
theorem dX6_put_31 : decode cX6_put 31 = .ok (.dup, 1) := by decide +kernel
theorem dX6_put_32 : decode cX6_put 32 = .ok (.getfield 15, 3) := by decide +kernel
theorem dX6_put_35 : decode cX6_put 35 = .ok (.iconst 1, 1) := by decide +kernel
theorem dX6_put_36 : decode cX6_put 36 = .ok (.iadd, 1) := by decide +kernel
theorem dX6_put_37 : decode cX6_put 37 = .ok (.putfield 15, 3) := by decide +kernel
theorem dX6_put_40 : decode cX6_put 40 = .ok (.iinc 2 (-8), 3) := by decide +kernel
theorem dX6_put_43 : decode cX6_put 43 = .ok (.goto (-40), 3) := by decide +kernel
theorem dX6_put_46 : decode cX6_put 46 = .ok (.return_, 1) := by decide +kernel
set_option maxHeartbeats 4000000 in
set_option maxRecDepth 100000 in
theorem c_X6_put_0 (l : Launch) (D : va_G) (K : Nat → ClassId) (tp tb : Nat) (fb : Nat → Int32) (p0 : Int32) : fn_CV (S := Nat → Int32) l D K yX6_put (fn_ws yX6_put cX6_put 3 none) ({ frames := 4, cells := 0, slots := 0, locals := 100 }) [.ref tp, .int p0] [(tp, .inr (6, [.int 0, .ref tb, .int 0, .int 0, .int 0])), (tb, .inl (K 1, 1400, .inl fb))] (fun _ => True) (fun g => [(tp, .inr (6, [.int 4, .ref tb, .int 0, .int 0, .int 0])), (tb, .inl (K 1, 1400, .inl g))]) 0 0 := by
  refine fn_inV (cc := cX6_put) (maxL := 3) (ret := none) (by decide) rfl (Nat.le_of_ble_eq_true rfl) ?_
  intro p e s m below meth c A ls B hA hP hD hS hl
  obtain ⟨hx, hb, hr, hml, hts, hown, hlocks, hin, hK⟩ := B
  have hown : s.vm.findClass RX6 = some m.cls := hown
  have hts := fun w h => hts w (List.mem_cons_of_mem _ h)
  have hl : lv_has ls 3 [(0, .ref tp), (1, .int p0)] := hl
  refine lv_bipush (v := 24) hx hb dX6_put_0 (by decide) ?_
  refine lv_istore_n (lv' := [(2, .int 24), (0, .ref tp), (1, .int p0)]) hx hb dX6_put_2 rfl hl (by decide) rfl (fun ls hl => ?_)
  refine lv_iload_n hx hb dX6_put_3 rfl (lv_at hl 0 rfl) ?_
  refine lv_if_lt (tgt := 46) hx hb dX6_put_4 (by decide) (fun h9 => absurd h9 (by decide)) (fun _ => ?_)
  refine lv_aload_n hx hb dX6_put_7 rfl (lv_at hl 1 rfl) ?_
  refine va_get (D := D) (own := RX6) (ci := 6) (v := .int 0) (C := RX6) (T := TX6) (N := 5) hx hb hts inb_X6 hown hK.1 hP 0 rfl rfl 0 (by decide) (hts _ wd_42) (fun _ h9 => h9) rfl dX6_put_8 ?_
  refine lv_sipush (v := 1400) hx hb dX6_put_11 (by decide) ?_
  refine lv_icmp_ge (tgt := 46) hx hb dX6_put_14 (by decide) (fun h9 => absurd h9 (by decide)) (fun _ => ?_)
  refine lv_aload_n hx hb dX6_put_17 rfl (lv_at hl 1 rfl) ?_
  refine va_get (D := D) (own := RX6) (ci := 6) (v := .ref tb) (C := RX6) (T := TX6) (N := 5) hx hb hts inb_X6 hown hK.1 hP 0 rfl rfl 1 (by decide) (hts _ wd_44) (fun _ h9 => h9) rfl dX6_put_18 ?_
  refine lv_aload_n hx hb dX6_put_21 rfl (lv_at hl 1 rfl) ?_
  refine va_get (D := D) (own := RX6) (ci := 6) (v := .int 0) (C := RX6) (T := TX6) (N := 5) hx hb hts inb_X6 hown hK.1 hP 0 rfl rfl 0 (by decide) (hts _ wd_42) (fun _ h9 => h9) rfl dX6_put_22 ?_
  refine lv_iload_n hx hb dX6_put_25 rfl (lv_at hl 2 rfl) ?_
  refine lv_iload_n hx hb dX6_put_26 rfl (lv_at hl 0 rfl) ?_
  refine lv_ishr hx hb dX6_put_27 ?_
  refine lv_topi (fun v1 ev1 => ?_)
  refine lv_i2b hx hb dX6_put_28 rfl ?_
  refine lv_topi (fun v2 ev2 => ?_)
  refine va_bast hx hb hK.1 hP hD hS 1 1 rfl rfl (by unfold vp_in; decide) dX6_put_29 (fun H locs hP hD hS => ?_)
  obtain ⟨g3, eg3⟩ : ∃ z, z = (upd fb (Int32.toNatClampNeg 0) (vp_nar .byte v2)) := ⟨_, rfl⟩
  have hP : va_P D vwCl [(tp, .inr (6, [.int 0, .ref tb, .int 0, .int 0, .int 0])), (tb, .inl (K 1, 1400, .inl g3))] H := by rw [eg3]; exact hP
  have hD : va_D A [(tp, .inr (6, [.int 0, .ref tb, .int 0, .int 0, .int 0])), (tb, .inl (K 1, 1400, .inl g3))] := by rw [eg3]; exact hD
  refine lv_aload_n hx hb dX6_put_30 rfl (lv_at hl 1 rfl) ?_
  refine lv_dup hx hb dX6_put_31 rfl ?_
  refine fn_at 32 rfl ?_
  refine va_get (D := D) (own := RX6) (ci := 6) (v := .int 0) (C := RX6) (T := TX6) (N := 5) hx hb hts inb_X6 hown hK.1 hP 0 rfl rfl 0 (by decide) (hts _ wd_42) (fun _ h9 => h9) rfl dX6_put_32 ?_
  refine lv_iconst (v := 1) hx hb dX6_put_35 (by decide) ?_
  refine lv_iadd hx hb dX6_put_36 ?_
  refine fn_top 1 (by decide) ?_
  refine va_put (D := D) (own := RX6) (ci := 6) (v := .int 1) (ty := .int) (C := RX6) (T := TX6) (N := 5) hx hb hts inb_X6 tyX6 tyX6_ok nmX6 hown hK.1 hP hD hS 0 rfl rfl 0 (by decide) (hts _ wd_42) (fun _ h9 => h9) rfl (by decide +kernel) rfl rfl (Nat.le_of_ble_eq_true rfl) dX6_put_37 (fun H locs hP hD hS => ?_)
  have hP : va_P D vwCl [(tp, .inr (6, [.int 1, .ref tb, .int 0, .int 0, .int 0])), (tb, .inl (K 1, 1400, .inl g3))] H := hP
  have hD : va_D A [(tp, .inr (6, [.int 1, .ref tb, .int 0, .int 0, .int 0])), (tb, .inl (K 1, 1400, .inl g3))] := hD
  refine lv_iinc (v := 16) (lv' := [(2, .int 16), (0, .ref tp), (1, .int p0)]) hx hb dX6_put_40 hl (k := 0) rfl (by decide) (by decide) rfl (fun ls hl => ?_)
  refine lv_goto (tgt := 3) hx hb dX6_put_43 (by decide) ?_
  refine lv_iload_n hx hb dX6_put_3 rfl (lv_at hl 0 rfl) ?_
  refine lv_if_lt (tgt := 46) hx hb dX6_put_4 (by decide) (fun h9 => absurd h9 (by decide)) (fun _ => ?_)
  refine lv_aload_n hx hb dX6_put_7 rfl (lv_at hl 1 rfl) ?_
  refine va_get (D := D) (own := RX6) (ci := 6) (v := .int 1) (C := RX6) (T := TX6) (N := 5) hx hb hts inb_X6 hown hK.1 hP 0 rfl rfl 0 (by decide) (hts _ wd_42) (fun _ h9 => h9) rfl dX6_put_8 ?_
  refine lv_sipush (v := 1400) hx hb dX6_put_11 (by decide) ?_
  refine lv_icmp_ge (tgt := 46) hx hb dX6_put_14 (by decide) (fun h9 => absurd h9 (by decide)) (fun _ => ?_)
  refine lv_aload_n hx hb dX6_put_17 rfl (lv_at hl 1 rfl) ?_
  refine va_get (D := D) (own := RX6) (ci := 6) (v := .ref tb) (C := RX6) (T := TX6) (N := 5) hx hb hts inb_X6 hown hK.1 hP 0 rfl rfl 1 (by decide) (hts _ wd_44) (fun _ h9 => h9) rfl dX6_put_18 ?_
  refine lv_aload_n hx hb dX6_put_21 rfl (lv_at hl 1 rfl) ?_
  refine va_get (D := D) (own := RX6) (ci := 6) (v := .int 1) (C := RX6) (T := TX6) (N := 5) hx hb hts inb_X6 hown hK.1 hP 0 rfl rfl 0 (by decide) (hts _ wd_42) (fun _ h9 => h9) rfl dX6_put_22 ?_
  refine lv_iload_n hx hb dX6_put_25 rfl (lv_at hl 2 rfl) ?_
  refine lv_iload_n hx hb dX6_put_26 rfl (lv_at hl 0 rfl) ?_
  refine lv_ishr hx hb dX6_put_27 ?_
  refine lv_topi (fun v4 ev4 => ?_)
  refine lv_i2b hx hb dX6_put_28 rfl ?_
  refine lv_topi (fun v5 ev5 => ?_)
  refine fn_at 29 rfl ?_
  refine va_bast hx hb hK.1 hP hD hS 1 1 rfl rfl (by unfold vp_in; decide) dX6_put_29 (fun H locs hP hD hS => ?_)
  obtain ⟨g6, eg6⟩ : ∃ z, z = (upd g3 (Int32.toNatClampNeg 1) (vp_nar .byte v5)) := ⟨_, rfl⟩
  have hP : va_P D vwCl [(tp, .inr (6, [.int 1, .ref tb, .int 0, .int 0, .int 0])), (tb, .inl (K 1, 1400, .inl g6))] H := by rw [eg6]; exact hP
  have hD : va_D A [(tp, .inr (6, [.int 1, .ref tb, .int 0, .int 0, .int 0])), (tb, .inl (K 1, 1400, .inl g6))] := by rw [eg6]; exact hD
  refine lv_aload_n hx hb dX6_put_30 rfl (lv_at hl 1 rfl) ?_
  refine lv_dup hx hb dX6_put_31 rfl ?_
  refine va_get (D := D) (own := RX6) (ci := 6) (v := .int 1) (C := RX6) (T := TX6) (N := 5) hx hb hts inb_X6 hown hK.1 hP 0 rfl rfl 0 (by decide) (hts _ wd_42) (fun _ h9 => h9) rfl dX6_put_32 ?_
  refine lv_iconst (v := 1) hx hb dX6_put_35 (by decide) ?_
  refine lv_iadd hx hb dX6_put_36 ?_
  refine fn_top 2 (by decide) ?_
  refine va_put (D := D) (own := RX6) (ci := 6) (v := .int 2) (ty := .int) (C := RX6) (T := TX6) (N := 5) hx hb hts inb_X6 tyX6 tyX6_ok nmX6 hown hK.1 hP hD hS 0 rfl rfl 0 (by decide) (hts _ wd_42) (fun _ h9 => h9) rfl (by decide +kernel) rfl rfl (Nat.le_of_ble_eq_true rfl) dX6_put_37 (fun H locs hP hD hS => ?_)
  have hP : va_P D vwCl [(tp, .inr (6, [.int 2, .ref tb, .int 0, .int 0, .int 0])), (tb, .inl (K 1, 1400, .inl g6))] H := hP
  have hD : va_D A [(tp, .inr (6, [.int 2, .ref tb, .int 0, .int 0, .int 0])), (tb, .inl (K 1, 1400, .inl g6))] := hD
  refine lv_iinc (v := 8) (lv' := [(2, .int 8), (0, .ref tp), (1, .int p0)]) hx hb dX6_put_40 hl (k := 0) rfl (by decide) (by decide) rfl (fun ls hl => ?_)
  refine lv_goto (tgt := 3) hx hb dX6_put_43 (by decide) ?_
  refine lv_iload_n hx hb dX6_put_3 rfl (lv_at hl 0 rfl) ?_
  refine lv_if_lt (tgt := 46) hx hb dX6_put_4 (by decide) (fun h9 => absurd h9 (by decide)) (fun _ => ?_)
  refine lv_aload_n hx hb dX6_put_7 rfl (lv_at hl 1 rfl) ?_
  refine va_get (D := D) (own := RX6) (ci := 6) (v := .int 2) (C := RX6) (T := TX6) (N := 5) hx hb hts inb_X6 hown hK.1 hP 0 rfl rfl 0 (by decide) (hts _ wd_42) (fun _ h9 => h9) rfl dX6_put_8 ?_
  refine lv_sipush (v := 1400) hx hb dX6_put_11 (by decide) ?_
  refine lv_icmp_ge (tgt := 46) hx hb dX6_put_14 (by decide) (fun h9 => absurd h9 (by decide)) (fun _ => ?_)
  refine lv_aload_n hx hb dX6_put_17 rfl (lv_at hl 1 rfl) ?_
  refine va_get (D := D) (own := RX6) (ci := 6) (v := .ref tb) (C := RX6) (T := TX6) (N := 5) hx hb hts inb_X6 hown hK.1 hP 0 rfl rfl 1 (by decide) (hts _ wd_44) (fun _ h9 => h9) rfl dX6_put_18 ?_
  refine lv_aload_n hx hb dX6_put_21 rfl (lv_at hl 1 rfl) ?_
  refine va_get (D := D) (own := RX6) (ci := 6) (v := .int 2) (C := RX6) (T := TX6) (N := 5) hx hb hts inb_X6 hown hK.1 hP 0 rfl rfl 0 (by decide) (hts _ wd_42) (fun _ h9 => h9) rfl dX6_put_22 ?_
  refine lv_iload_n hx hb dX6_put_25 rfl (lv_at hl 2 rfl) ?_
  refine fn_at 26 rfl ?_
  refine lv_iload_n hx hb dX6_put_26 rfl (lv_at hl 0 rfl) ?_
  refine lv_ishr hx hb dX6_put_27 ?_
  refine lv_topi (fun v7 ev7 => ?_)
  refine lv_i2b hx hb dX6_put_28 rfl ?_
  refine lv_topi (fun v8 ev8 => ?_)
  refine va_bast hx hb hK.1 hP hD hS 1 1 rfl rfl (by unfold vp_in; decide) dX6_put_29 (fun H locs hP hD hS => ?_)
  obtain ⟨g9, eg9⟩ : ∃ z, z = (upd g6 (Int32.toNatClampNeg 2) (vp_nar .byte v8)) := ⟨_, rfl⟩
  have hP : va_P D vwCl [(tp, .inr (6, [.int 2, .ref tb, .int 0, .int 0, .int 0])), (tb, .inl (K 1, 1400, .inl g9))] H := by rw [eg9]; exact hP
  have hD : va_D A [(tp, .inr (6, [.int 2, .ref tb, .int 0, .int 0, .int 0])), (tb, .inl (K 1, 1400, .inl g9))] := by rw [eg9]; exact hD
  refine lv_aload_n hx hb dX6_put_30 rfl (lv_at hl 1 rfl) ?_
  refine lv_dup hx hb dX6_put_31 rfl ?_
  refine va_get (D := D) (own := RX6) (ci := 6) (v := .int 2) (C := RX6) (T := TX6) (N := 5) hx hb hts inb_X6 hown hK.1 hP 0 rfl rfl 0 (by decide) (hts _ wd_42) (fun _ h9 => h9) rfl dX6_put_32 ?_
  refine lv_iconst (v := 1) hx hb dX6_put_35 (by decide) ?_
  refine lv_iadd hx hb dX6_put_36 ?_
  refine fn_top 3 (by decide) ?_
  refine va_put (D := D) (own := RX6) (ci := 6) (v := .int 3) (ty := .int) (C := RX6) (T := TX6) (N := 5) hx hb hts inb_X6 tyX6 tyX6_ok nmX6 hown hK.1 hP hD hS 0 rfl rfl 0 (by decide) (hts _ wd_42) (fun _ h9 => h9) rfl (by decide +kernel) rfl rfl (Nat.le_of_ble_eq_true rfl) dX6_put_37 (fun H locs hP hD hS => ?_)
  have hP : va_P D vwCl [(tp, .inr (6, [.int 3, .ref tb, .int 0, .int 0, .int 0])), (tb, .inl (K 1, 1400, .inl g9))] H := hP
  have hD : va_D A [(tp, .inr (6, [.int 3, .ref tb, .int 0, .int 0, .int 0])), (tb, .inl (K 1, 1400, .inl g9))] := hD
  refine lv_iinc (v := 0) (lv' := [(2, .int 0), (0, .ref tp), (1, .int p0)]) hx hb dX6_put_40 hl (k := 0) rfl (by decide) (by decide) rfl (fun ls hl => ?_)
  refine lv_goto (tgt := 3) hx hb dX6_put_43 (by decide) ?_
  refine lv_iload_n hx hb dX6_put_3 rfl (lv_at hl 0 rfl) ?_
  refine lv_if_lt (tgt := 46) hx hb dX6_put_4 (by decide) (fun h9 => absurd h9 (by decide)) (fun _ => ?_)
  refine lv_aload_n hx hb dX6_put_7 rfl (lv_at hl 1 rfl) ?_
  refine va_get (D := D) (own := RX6) (ci := 6) (v := .int 3) (C := RX6) (T := TX6) (N := 5) hx hb hts inb_X6 hown hK.1 hP 0 rfl rfl 0 (by decide) (hts _ wd_42) (fun _ h9 => h9) rfl dX6_put_8 ?_
  refine lv_sipush (v := 1400) hx hb dX6_put_11 (by decide) ?_
  refine lv_icmp_ge (tgt := 46) hx hb dX6_put_14 (by decide) (fun h9 => absurd h9 (by decide)) (fun _ => ?_)
  refine lv_aload_n hx hb dX6_put_17 rfl (lv_at hl 1 rfl) ?_
  refine va_get (D := D) (own := RX6) (ci := 6) (v := .ref tb) (C := RX6) (T := TX6) (N := 5) hx hb hts inb_X6 hown hK.1 hP 0 rfl rfl 1 (by decide) (hts _ wd_44) (fun _ h9 => h9) rfl dX6_put_18 ?_
  refine fn_at 21 rfl ?_
  refine lv_aload_n hx hb dX6_put_21 rfl (lv_at hl 1 rfl) ?_
  refine va_get (D := D) (own := RX6) (ci := 6) (v := .int 3) (C := RX6) (T := TX6) (N := 5) hx hb hts inb_X6 hown hK.1 hP 0 rfl rfl 0 (by decide) (hts _ wd_42) (fun _ h9 => h9) rfl dX6_put_22 ?_
  refine lv_iload_n hx hb dX6_put_25 rfl (lv_at hl 2 rfl) ?_
  refine lv_iload_n hx hb dX6_put_26 rfl (lv_at hl 0 rfl) ?_
  refine lv_ishr hx hb dX6_put_27 ?_
  refine lv_topi (fun v10 ev10 => ?_)
  refine lv_i2b hx hb dX6_put_28 rfl ?_
  refine lv_topi (fun v11 ev11 => ?_)
  refine va_bast hx hb hK.1 hP hD hS 1 1 rfl rfl (by unfold vp_in; decide) dX6_put_29 (fun H locs hP hD hS => ?_)
  obtain ⟨g12, eg12⟩ : ∃ z, z = (upd g9 (Int32.toNatClampNeg 3) (vp_nar .byte v11)) := ⟨_, rfl⟩
  have hP : va_P D vwCl [(tp, .inr (6, [.int 3, .ref tb, .int 0, .int 0, .int 0])), (tb, .inl (K 1, 1400, .inl g12))] H := by rw [eg12]; exact hP
  have hD : va_D A [(tp, .inr (6, [.int 3, .ref tb, .int 0, .int 0, .int 0])), (tb, .inl (K 1, 1400, .inl g12))] := by rw [eg12]; exact hD
  refine lv_aload_n hx hb dX6_put_30 rfl (lv_at hl 1 rfl) ?_
  refine lv_dup hx hb dX6_put_31 rfl ?_
  refine va_get (D := D) (own := RX6) (ci := 6) (v := .int 3) (C := RX6) (T := TX6) (N := 5) hx hb hts inb_X6 hown hK.1 hP 0 rfl rfl 0 (by decide) (hts _ wd_42) (fun _ h9 => h9) rfl dX6_put_32 ?_
  refine lv_iconst (v := 1) hx hb dX6_put_35 (by decide) ?_
  refine lv_iadd hx hb dX6_put_36 ?_
  refine fn_top 4 (by decide) ?_
  refine va_put (D := D) (own := RX6) (ci := 6) (v := .int 4) (ty := .int) (C := RX6) (T := TX6) (N := 5) hx hb hts inb_X6 tyX6 tyX6_ok nmX6 hown hK.1 hP hD hS 0 rfl rfl 0 (by decide) (hts _ wd_42) (fun _ h9 => h9) rfl (by decide +kernel) rfl rfl (Nat.le_of_ble_eq_true rfl) dX6_put_37 (fun H locs hP hD hS => ?_)
  have hP : va_P D vwCl [(tp, .inr (6, [.int 4, .ref tb, .int 0, .int 0, .int 0])), (tb, .inl (K 1, 1400, .inl g12))] H := hP
  have hD : va_D A [(tp, .inr (6, [.int 4, .ref tb, .int 0, .int 0, .int 0])), (tb, .inl (K 1, 1400, .inl g12))] := hD
  refine lv_iinc (v := (-8)) (lv' := [(2, .int (-8)), (0, .ref tp), (1, .int p0)]) hx hb dX6_put_40 hl (k := 0) rfl (by decide) (by decide) rfl (fun ls hl => ?_)
  refine lv_goto (tgt := 3) hx hb dX6_put_43 (by decide) ?_
  refine lv_iload_n hx hb dX6_put_3 rfl (lv_at hl 0 rfl) ?_
  refine lv_if_lt (tgt := 46) hx hb dX6_put_4 (by decide) (fun _ => ?_) (fun h9 => absurd (by decide) h9)
  exact fn_vret hx hb hr hlocks hP hD hS g12 trivial [0, 1] (by decide) rfl dX6_put_46
set_option maxHeartbeats 4000000 in
set_option maxRecDepth 100000 in
theorem c_X6_put_4 (l : Launch) (D : va_G) (K : Nat → ClassId) (tp tb : Nat) (fb : Nat → Int32) (p0 : Int32) : fn_CV (S := Nat → Int32) l D K yX6_put (fn_ws yX6_put cX6_put 3 none) ({ frames := 4, cells := 0, slots := 0, locals := 100 }) [.ref tp, .int p0] [(tp, .inr (6, [.int 4, .ref tb, .int 0, .int 0, .int 0])), (tb, .inl (K 1, 1400, .inl fb))] (fun _ => True) (fun g => [(tp, .inr (6, [.int 8, .ref tb, .int 0, .int 0, .int 0])), (tb, .inl (K 1, 1400, .inl g))]) 0 0 := by
  refine fn_inV (cc := cX6_put) (maxL := 3) (ret := none) (by decide) rfl (Nat.le_of_ble_eq_true rfl) ?_
  intro p e s m below meth c A ls B hA hP hD hS hl
  obtain ⟨hx, hb, hr, hml, hts, hown, hlocks, hin, hK⟩ := B
  have hown : s.vm.findClass RX6 = some m.cls := hown
  have hts := fun w h => hts w (List.mem_cons_of_mem _ h)
  have hl : lv_has ls 3 [(0, .ref tp), (1, .int p0)] := hl
  refine lv_bipush (v := 24) hx hb dX6_put_0 (by decide) ?_
  refine lv_istore_n (lv' := [(2, .int 24), (0, .ref tp), (1, .int p0)]) hx hb dX6_put_2 rfl hl (by decide) rfl (fun ls hl => ?_)
  refine lv_iload_n hx hb dX6_put_3 rfl (lv_at hl 0 rfl) ?_
  refine lv_if_lt (tgt := 46) hx hb dX6_put_4 (by decide) (fun h9 => absurd h9 (by decide)) (fun _ => ?_)
  refine lv_aload_n hx hb dX6_put_7 rfl (lv_at hl 1 rfl) ?_
  refine va_get (D := D) (own := RX6) (ci := 6) (v := .int 4) (C := RX6) (T := TX6) (N := 5) hx hb hts inb_X6 hown hK.1 hP 0 rfl rfl 0 (by decide) (hts _ wd_42) (fun _ h9 => h9) rfl dX6_put_8 ?_
  refine lv_sipush (v := 1400) hx hb dX6_put_11 (by decide) ?_
  refine lv_icmp_ge (tgt := 46) hx hb dX6_put_14 (by decide) (fun h9 => absurd h9 (by decide)) (fun _ => ?_)
  refine lv_aload_n hx hb dX6_put_17 rfl (lv_at hl 1 rfl) ?_
  refine va_get (D := D) (own := RX6) (ci := 6) (v := .ref tb) (C := RX6) (T := TX6) (N := 5) hx hb hts inb_X6 hown hK.1 hP 0 rfl rfl 1 (by decide) (hts _ wd_44) (fun _ h9 => h9) rfl dX6_put_18 ?_
  refine lv_aload_n hx hb dX6_put_21 rfl (lv_at hl 1 rfl) ?_
  refine va_get (D := D) (own := RX6) (ci := 6) (v := .int 4) (C := RX6) (T := TX6) (N := 5) hx hb hts inb_X6 hown hK.1 hP 0 rfl rfl 0 (by decide) (hts _ wd_42) (fun _ h9 => h9) rfl dX6_put_22 ?_
  refine lv_iload_n hx hb dX6_put_25 rfl (lv_at hl 2 rfl) ?_
  refine lv_iload_n hx hb dX6_put_26 rfl (lv_at hl 0 rfl) ?_
  refine lv_ishr hx hb dX6_put_27 ?_
  refine lv_topi (fun v1 ev1 => ?_)
  refine lv_i2b hx hb dX6_put_28 rfl ?_
  refine lv_topi (fun v2 ev2 => ?_)
  refine va_bast hx hb hK.1 hP hD hS 1 1 rfl rfl (by unfold vp_in; decide) dX6_put_29 (fun H locs hP hD hS => ?_)
  obtain ⟨g3, eg3⟩ : ∃ z, z = (upd fb (Int32.toNatClampNeg 4) (vp_nar .byte v2)) := ⟨_, rfl⟩
  have hP : va_P D vwCl [(tp, .inr (6, [.int 4, .ref tb, .int 0, .int 0, .int 0])), (tb, .inl (K 1, 1400, .inl g3))] H := by rw [eg3]; exact hP
  have hD : va_D A [(tp, .inr (6, [.int 4, .ref tb, .int 0, .int 0, .int 0])), (tb, .inl (K 1, 1400, .inl g3))] := by rw [eg3]; exact hD
  refine lv_aload_n hx hb dX6_put_30 rfl (lv_at hl 1 rfl) ?_
  refine lv_dup hx hb dX6_put_31 rfl ?_
  refine fn_at 32 rfl ?_
  refine va_get (D := D) (own := RX6) (ci := 6) (v := .int 4) (C := RX6) (T := TX6) (N := 5) hx hb hts inb_X6 hown hK.1 hP 0 rfl rfl 0 (by decide) (hts _ wd_42) (fun _ h9 => h9) rfl dX6_put_32 ?_
  refine lv_iconst (v := 1) hx hb dX6_put_35 (by decide) ?_
  refine lv_iadd hx hb dX6_put_36 ?_
  refine fn_top 5 (by decide) ?_
  refine va_put (D := D) (own := RX6) (ci := 6) (v := .int 5) (ty := .int) (C := RX6) (T := TX6) (N := 5) hx hb hts inb_X6 tyX6 tyX6_ok nmX6 hown hK.1 hP hD hS 0 rfl rfl 0 (by decide) (hts _ wd_42) (fun _ h9 => h9) rfl (by decide +kernel) rfl rfl (Nat.le_of_ble_eq_true rfl) dX6_put_37 (fun H locs hP hD hS => ?_)
  have hP : va_P D vwCl [(tp, .inr (6, [.int 5, .ref tb, .int 0, .int 0, .int 0])), (tb, .inl (K 1, 1400, .inl g3))] H := hP
  have hD : va_D A [(tp, .inr (6, [.int 5, .ref tb, .int 0, .int 0, .int 0])), (tb, .inl (K 1, 1400, .inl g3))] := hD
  refine lv_iinc (v := 16) (lv' := [(2, .int 16), (0, .ref tp), (1, .int p0)]) hx hb dX6_put_40 hl (k := 0) rfl (by decide) (by decide) rfl (fun ls hl => ?_)
  refine lv_goto (tgt := 3) hx hb dX6_put_43 (by decide) ?_
  refine lv_iload_n hx hb dX6_put_3 rfl (lv_at hl 0 rfl) ?_
  refine lv_if_lt (tgt := 46) hx hb dX6_put_4 (by decide) (fun h9 => absurd h9 (by decide)) (fun _ => ?_)
  refine lv_aload_n hx hb dX6_put_7 rfl (lv_at hl 1 rfl) ?_
  refine va_get (D := D) (own := RX6) (ci := 6) (v := .int 5) (C := RX6) (T := TX6) (N := 5) hx hb hts inb_X6 hown hK.1 hP 0 rfl rfl 0 (by decide) (hts _ wd_42) (fun _ h9 => h9) rfl dX6_put_8 ?_
  refine lv_sipush (v := 1400) hx hb dX6_put_11 (by decide) ?_
  refine lv_icmp_ge (tgt := 46) hx hb dX6_put_14 (by decide) (fun h9 => absurd h9 (by decide)) (fun _ => ?_)
  refine lv_aload_n hx hb dX6_put_17 rfl (lv_at hl 1 rfl) ?_
  refine va_get (D := D) (own := RX6) (ci := 6) (v := .ref tb) (C := RX6) (T := TX6) (N := 5) hx hb hts inb_X6 hown hK.1 hP 0 rfl rfl 1 (by decide) (hts _ wd_44) (fun _ h9 => h9) rfl dX6_put_18 ?_
  refine lv_aload_n hx hb dX6_put_21 rfl (lv_at hl 1 rfl) ?_
  refine va_get (D := D) (own := RX6) (ci := 6) (v := .int 5) (C := RX6) (T := TX6) (N := 5) hx hb hts inb_X6 hown hK.1 hP 0 rfl rfl 0 (by decide) (hts _ wd_42) (fun _ h9 => h9) rfl dX6_put_22 ?_
  refine lv_iload_n hx hb dX6_put_25 rfl (lv_at hl 2 rfl) ?_
  refine lv_iload_n hx hb dX6_put_26 rfl (lv_at hl 0 rfl) ?_
  refine lv_ishr hx hb dX6_put_27 ?_
  refine lv_topi (fun v4 ev4 => ?_)
  refine lv_i2b hx hb dX6_put_28 rfl ?_
  refine lv_topi (fun v5 ev5 => ?_)
  refine fn_at 29 rfl ?_
  refine va_bast hx hb hK.1 hP hD hS 1 1 rfl rfl (by unfold vp_in; decide) dX6_put_29 (fun H locs hP hD hS => ?_)
  obtain ⟨g6, eg6⟩ : ∃ z, z = (upd g3 (Int32.toNatClampNeg 5) (vp_nar .byte v5)) := ⟨_, rfl⟩
  have hP : va_P D vwCl [(tp, .inr (6, [.int 5, .ref tb, .int 0, .int 0, .int 0])), (tb, .inl (K 1, 1400, .inl g6))] H := by rw [eg6]; exact hP
  have hD : va_D A [(tp, .inr (6, [.int 5, .ref tb, .int 0, .int 0, .int 0])), (tb, .inl (K 1, 1400, .inl g6))] := by rw [eg6]; exact hD
  refine lv_aload_n hx hb dX6_put_30 rfl (lv_at hl 1 rfl) ?_
  refine lv_dup hx hb dX6_put_31 rfl ?_
  refine va_get (D := D) (own := RX6) (ci := 6) (v := .int 5) (C := RX6) (T := TX6) (N := 5) hx hb hts inb_X6 hown hK.1 hP 0 rfl rfl 0 (by decide) (hts _ wd_42) (fun _ h9 => h9) rfl dX6_put_32 ?_
  refine lv_iconst (v := 1) hx hb dX6_put_35 (by decide) ?_
  refine lv_iadd hx hb dX6_put_36 ?_
  refine fn_top 6 (by decide) ?_
  refine va_put (D := D) (own := RX6) (ci := 6) (v := .int 6) (ty := .int) (C := RX6) (T := TX6) (N := 5) hx hb hts inb_X6 tyX6 tyX6_ok nmX6 hown hK.1 hP hD hS 0 rfl rfl 0 (by decide) (hts _ wd_42) (fun _ h9 => h9) rfl (by decide +kernel) rfl rfl (Nat.le_of_ble_eq_true rfl) dX6_put_37 (fun H locs hP hD hS => ?_)
  have hP : va_P D vwCl [(tp, .inr (6, [.int 6, .ref tb, .int 0, .int 0, .int 0])), (tb, .inl (K 1, 1400, .inl g6))] H := hP
  have hD : va_D A [(tp, .inr (6, [.int 6, .ref tb, .int 0, .int 0, .int 0])), (tb, .inl (K 1, 1400, .inl g6))] := hD
  refine lv_iinc (v := 8) (lv' := [(2, .int 8), (0, .ref tp), (1, .int p0)]) hx hb dX6_put_40 hl (k := 0) rfl (by decide) (by decide) rfl (fun ls hl => ?_)
  refine lv_goto (tgt := 3) hx hb dX6_put_43 (by decide) ?_
  refine lv_iload_n hx hb dX6_put_3 rfl (lv_at hl 0 rfl) ?_
  refine lv_if_lt (tgt := 46) hx hb dX6_put_4 (by decide) (fun h9 => absurd h9 (by decide)) (fun _ => ?_)
  refine lv_aload_n hx hb dX6_put_7 rfl (lv_at hl 1 rfl) ?_
  refine va_get (D := D) (own := RX6) (ci := 6) (v := .int 6) (C := RX6) (T := TX6) (N := 5) hx hb hts inb_X6 hown hK.1 hP 0 rfl rfl 0 (by decide) (hts _ wd_42) (fun _ h9 => h9) rfl dX6_put_8 ?_
  refine lv_sipush (v := 1400) hx hb dX6_put_11 (by decide) ?_
  refine lv_icmp_ge (tgt := 46) hx hb dX6_put_14 (by decide) (fun h9 => absurd h9 (by decide)) (fun _ => ?_)
  refine lv_aload_n hx hb dX6_put_17 rfl (lv_at hl 1 rfl) ?_
  refine va_get (D := D) (own := RX6) (ci := 6) (v := .ref tb) (C := RX6) (T := TX6) (N := 5) hx hb hts inb_X6 hown hK.1 hP 0 rfl rfl 1 (by decide) (hts _ wd_44) (fun _ h9 => h9) rfl dX6_put_18 ?_
  refine lv_aload_n hx hb dX6_put_21 rfl (lv_at hl 1 rfl) ?_
  refine va_get (D := D) (own := RX6) (ci := 6) (v := .int 6) (C := RX6) (T := TX6) (N := 5) hx hb hts inb_X6 hown hK.1 hP 0 rfl rfl 0 (by decide) (hts _ wd_42) (fun _ h9 => h9) rfl dX6_put_22 ?_
  refine lv_iload_n hx hb dX6_put_25 rfl (lv_at hl 2 rfl) ?_
  refine fn_at 26 rfl ?_
  refine lv_iload_n hx hb dX6_put_26 rfl (lv_at hl 0 rfl) ?_
  refine lv_ishr hx hb dX6_put_27 ?_
  refine lv_topi (fun v7 ev7 => ?_)
  refine lv_i2b hx hb dX6_put_28 rfl ?_
  refine lv_topi (fun v8 ev8 => ?_)
  refine va_bast hx hb hK.1 hP hD hS 1 1 rfl rfl (by unfold vp_in; decide) dX6_put_29 (fun H locs hP hD hS => ?_)
  obtain ⟨g9, eg9⟩ : ∃ z, z = (upd g6 (Int32.toNatClampNeg 6) (vp_nar .byte v8)) := ⟨_, rfl⟩
  have hP : va_P D vwCl [(tp, .inr (6, [.int 6, .ref tb, .int 0, .int 0, .int 0])), (tb, .inl (K 1, 1400, .inl g9))] H := by rw [eg9]; exact hP
  have hD : va_D A [(tp, .inr (6, [.int 6, .ref tb, .int 0, .int 0, .int 0])), (tb, .inl (K 1, 1400, .inl g9))] := by rw [eg9]; exact hD
  refine lv_aload_n hx hb dX6_put_30 rfl (lv_at hl 1 rfl) ?_
  refine lv_dup hx hb dX6_put_31 rfl ?_
  refine va_get (D := D) (own := RX6) (ci := 6) (v := .int 6) (C := RX6) (T := TX6) (N := 5) hx hb hts inb_X6 hown hK.1 hP 0 rfl rfl 0 (by decide) (hts _ wd_42) (fun _ h9 => h9) rfl dX6_put_32 ?_
  refine lv_iconst (v := 1) hx hb dX6_put_35 (by decide) ?_
  refine lv_iadd hx hb dX6_put_36 ?_
  refine fn_top 7 (by decide) ?_
  refine va_put (D := D) (own := RX6) (ci := 6) (v := .int 7) (ty := .int) (C := RX6) (T := TX6) (N := 5) hx hb hts inb_X6 tyX6 tyX6_ok nmX6 hown hK.1 hP hD hS 0 rfl rfl 0 (by decide) (hts _ wd_42) (fun _ h9 => h9) rfl (by decide +kernel) rfl rfl (Nat.le_of_ble_eq_true rfl) dX6_put_37 (fun H locs hP hD hS => ?_)
  have hP : va_P D vwCl [(tp, .inr (6, [.int 7, .ref tb, .int 0, .int 0, .int 0])), (tb, .inl (K 1, 1400, .inl g9))] H := hP
  have hD : va_D A [(tp, .inr (6, [.int 7, .ref tb, .int 0, .int 0, .int 0])), (tb, .inl (K 1, 1400, .inl g9))] := hD
  refine lv_iinc (v := 0) (lv' := [(2, .int 0), (0, .ref tp), (1, .int p0)]) hx hb dX6_put_40 hl (k := 0) rfl (by decide) (by decide) rfl (fun ls hl => ?_)
  refine lv_goto (tgt := 3) hx hb dX6_put_43 (by decide) ?_
  refine lv_iload_n hx hb dX6_put_3 rfl (lv_at hl 0 rfl) ?_
  refine lv_if_lt (tgt := 46) hx hb dX6_put_4 (by decide) (fun h9 => absurd h9 (by decide)) (fun _ => ?_)
  refine lv_aload_n hx hb dX6_put_7 rfl (lv_at hl 1 rfl) ?_
  refine va_get (D := D) (own := RX6) (ci := 6) (v := .int 7) (C := RX6) (T := TX6) (N := 5) hx hb hts inb_X6 hown hK.1 hP 0 rfl rfl 0 (by decide) (hts _ wd_42) (fun _ h9 => h9) rfl dX6_put_8 ?_
  refine lv_sipush (v := 1400) hx hb dX6_put_11 (by decide) ?_
  refine lv_icmp_ge (tgt := 46) hx hb dX6_put_14 (by decide) (fun h9 => absurd h9 (by decide)) (fun _ => ?_)
  refine lv_aload_n hx hb dX6_put_17 rfl (lv_at hl 1 rfl) ?_
  refine va_get (D := D) (own := RX6) (ci := 6) (v := .ref tb) (C := RX6) (T := TX6) (N := 5) hx hb hts inb_X6 hown hK.1 hP 0 rfl rfl 1 (by decide) (hts _ wd_44) (fun _ h9 => h9) rfl dX6_put_18 ?_
  refine fn_at 21 rfl ?_
  refine lv_aload_n hx hb dX6_put_21 rfl (lv_at hl 1 rfl) ?_
  refine va_get (D := D) (own := RX6) (ci := 6) (v := .int 7) (C := RX6) (T := TX6) (N := 5) hx hb hts inb_X6 hown hK.1 hP 0 rfl rfl 0 (by decide) (hts _ wd_42) (fun _ h9 => h9) rfl dX6_put_22 ?_
  refine lv_iload_n hx hb dX6_put_25 rfl (lv_at hl 2 rfl) ?_
  refine lv_iload_n hx hb dX6_put_26 rfl (lv_at hl 0 rfl) ?_
  refine lv_ishr hx hb dX6_put_27 ?_
  refine lv_topi (fun v10 ev10 => ?_)
  refine lv_i2b hx hb dX6_put_28 rfl ?_
  refine lv_topi (fun v11 ev11 => ?_)
  refine va_bast hx hb hK.1 hP hD hS 1 1 rfl rfl (by unfold vp_in; decide) dX6_put_29 (fun H locs hP hD hS => ?_)
  obtain ⟨g12, eg12⟩ : ∃ z, z = (upd g9 (Int32.toNatClampNeg 7) (vp_nar .byte v11)) := ⟨_, rfl⟩
  have hP : va_P D vwCl [(tp, .inr (6, [.int 7, .ref tb, .int 0, .int 0, .int 0])), (tb, .inl (K 1, 1400, .inl g12))] H := by rw [eg12]; exact hP
  have hD : va_D A [(tp, .inr (6, [.int 7, .ref tb, .int 0, .int 0, .int 0])), (tb, .inl (K 1, 1400, .inl g12))] := by rw [eg12]; exact hD
  refine lv_aload_n hx hb dX6_put_30 rfl (lv_at hl 1 rfl) ?_
  refine lv_dup hx hb dX6_put_31 rfl ?_
  refine va_get (D := D) (own := RX6) (ci := 6) (v := .int 7) (C := RX6) (T := TX6) (N := 5) hx hb hts inb_X6 hown hK.1 hP 0 rfl rfl 0 (by decide) (hts _ wd_42) (fun _ h9 => h9) rfl dX6_put_32 ?_
  refine lv_iconst (v := 1) hx hb dX6_put_35 (by decide) ?_
  refine lv_iadd hx hb dX6_put_36 ?_
  refine fn_top 8 (by decide) ?_
  refine va_put (D := D) (own := RX6) (ci := 6) (v := .int 8) (ty := .int) (C := RX6) (T := TX6) (N := 5) hx hb hts inb_X6 tyX6 tyX6_ok nmX6 hown hK.1 hP hD hS 0 rfl rfl 0 (by decide) (hts _ wd_42) (fun _ h9 => h9) rfl (by decide +kernel) rfl rfl (Nat.le_of_ble_eq_true rfl) dX6_put_37 (fun H locs hP hD hS => ?_)
  have hP : va_P D vwCl [(tp, .inr (6, [.int 8, .ref tb, .int 0, .int 0, .int 0])), (tb, .inl (K 1, 1400, .inl g12))] H := hP
  have hD : va_D A [(tp, .inr (6, [.int 8, .ref tb, .int 0, .int 0, .int 0])), (tb, .inl (K 1, 1400, .inl g12))] := hD
  refine lv_iinc (v := (-8)) (lv' := [(2, .int (-8)), (0, .ref tp), (1, .int p0)]) hx hb dX6_put_40 hl (k := 0) rfl (by decide) (by decide) rfl (fun ls hl => ?_)
  refine lv_goto (tgt := 3) hx hb dX6_put_43 (by decide) ?_
  refine lv_iload_n hx hb dX6_put_3 rfl (lv_at hl 0 rfl) ?_
  refine lv_if_lt (tgt := 46) hx hb dX6_put_4 (by decide) (fun _ => ?_) (fun h9 => absurd (by decide) h9)
  exact fn_vret hx hb hr hlocks hP hD hS g12 trivial [0, 1] (by decide) rfl dX6_put_46
set_option maxHeartbeats 4000000 in
set_option maxRecDepth 100000 in
theorem c_X6_put_8 (l : Launch) (D : va_G) (K : Nat → ClassId) (tp tb : Nat) (fb : Nat → Int32) (p0 : Int32) : fn_CV (S := Nat → Int32) l D K yX6_put (fn_ws yX6_put cX6_put 3 none) ({ frames := 4, cells := 0, slots := 0, locals := 100 }) [.ref tp, .int p0] [(tp, .inr (6, [.int 8, .ref tb, .int 0, .int 0, .int 0])), (tb, .inl (K 1, 1400, .inl fb))] (fun _ => True) (fun g => [(tp, .inr (6, [.int 12, .ref tb, .int 0, .int 0, .int 0])), (tb, .inl (K 1, 1400, .inl g))]) 0 0 := by
  refine fn_inV (cc := cX6_put) (maxL := 3) (ret := none) (by decide) rfl (Nat.le_of_ble_eq_true rfl) ?_
  intro p e s m below meth c A ls B hA hP hD hS hl
  obtain ⟨hx, hb, hr, hml, hts, hown, hlocks, hin, hK⟩ := B
  have hown : s.vm.findClass RX6 = some m.cls := hown
  have hts := fun w h => hts w (List.mem_cons_of_mem _ h)
  have hl : lv_has ls 3 [(0, .ref tp), (1, .int p0)] := hl
  refine lv_bipush (v := 24) hx hb dX6_put_0 (by decide) ?_
  refine lv_istore_n (lv' := [(2, .int 24), (0, .ref tp), (1, .int p0)]) hx hb dX6_put_2 rfl hl (by decide) rfl (fun ls hl => ?_)
  refine lv_iload_n hx hb dX6_put_3 rfl (lv_at hl 0 rfl) ?_
  refine lv_if_lt (tgt := 46) hx hb dX6_put_4 (by decide) (fun h9 => absurd h9 (by decide)) (fun _ => ?_)
  refine lv_aload_n hx hb dX6_put_7 rfl (lv_at hl 1 rfl) ?_
  refine va_get (D := D) (own := RX6) (ci := 6) (v := .int 8) (C := RX6) (T := TX6) (N := 5) hx hb hts inb_X6 hown hK.1 hP 0 rfl rfl 0 (by decide) (hts _ wd_42) (fun _ h9 => h9) rfl dX6_put_8 ?_
  refine lv_sipush (v := 1400) hx hb dX6_put_11 (by decide) ?_
  refine lv_icmp_ge (tgt := 46) hx hb dX6_put_14 (by decide) (fun h9 => absurd h9 (by decide)) (fun _ => ?_)
  refine lv_aload_n hx hb dX6_put_17 rfl (lv_at hl 1 rfl) ?_
  refine va_get (D := D) (own := RX6) (ci := 6) (v := .ref tb) (C := RX6) (T := TX6) (N := 5) hx hb hts inb_X6 hown hK.1 hP 0 rfl rfl 1 (by decide) (hts _ wd_44) (fun _ h9 => h9) rfl dX6_put_18 ?_
  refine lv_aload_n hx hb dX6_put_21 rfl (lv_at hl 1 rfl) ?_
  refine va_get (D := D) (own := RX6) (ci := 6) (v := .int 8) (C := RX6) (T := TX6) (N := 5) hx hb hts inb_X6 hown hK.1 hP 0 rfl rfl 0 (by decide) (hts _ wd_42) (fun _ h9 => h9) rfl dX6_put_22 ?_
  refine lv_iload_n hx hb dX6_put_25 rfl (lv_at hl 2 rfl) ?_
  refine lv_iload_n hx hb dX6_put_26 rfl (lv_at hl 0 rfl) ?_
  refine lv_ishr hx hb dX6_put_27 ?_
  refine lv_topi (fun v1 ev1 => ?_)
  refine lv_i2b hx hb dX6_put_28 rfl ?_
  refine lv_topi (fun v2 ev2 => ?_)
  refine va_bast hx hb hK.1 hP hD hS 1 1 rfl rfl (by unfold vp_in; decide) dX6_put_29 (fun H locs hP hD hS => ?_)
  obtain ⟨g3, eg3⟩ : ∃ z, z = (upd fb (Int32.toNatClampNeg 8) (vp_nar .byte v2)) := ⟨_, rfl⟩
  have hP : va_P D vwCl [(tp, .inr (6, [.int 8, .ref tb, .int 0, .int 0, .int 0])), (tb, .inl (K 1, 1400, .inl g3))] H := by rw [eg3]; exact hP
  have hD : va_D A [(tp, .inr (6, [.int 8, .ref tb, .int 0, .int 0, .int 0])), (tb, .inl (K 1, 1400, .inl g3))] := by rw [eg3]; exact hD
  refine lv_aload_n hx hb dX6_put_30 rfl (lv_at hl 1 rfl) ?_
  refine lv_dup hx hb dX6_put_31 rfl ?_
  refine fn_at 32 rfl ?_
  refine va_get (D := D) (own := RX6) (ci := 6) (v := .int 8) (C := RX6) (T := TX6) (N := 5) hx hb hts inb_X6 hown hK.1 hP 0 rfl rfl 0 (by decide) (hts _ wd_42) (fun _ h9 => h9) rfl dX6_put_32 ?_
  refine lv_iconst (v := 1) hx hb dX6_put_35 (by decide) ?_
  refine lv_iadd hx hb dX6_put_36 ?_
  refine fn_top 9 (by decide) ?_
  refine va_put (D := D) (own := RX6) (ci := 6) (v := .int 9) (ty := .int) (C := RX6) (T := TX6) (N := 5) hx hb hts inb_X6 tyX6 tyX6_ok nmX6 hown hK.1 hP hD hS 0 rfl rfl 0 (by decide) (hts _ wd_42) (fun _ h9 => h9) rfl (by decide +kernel) rfl rfl (Nat.le_of_ble_eq_true rfl) dX6_put_37 (fun H locs hP hD hS => ?_)
  have hP : va_P D vwCl [(tp, .inr (6, [.int 9, .ref tb, .int 0, .int 0, .int 0])), (tb, .inl (K 1, 1400, .inl g3))] H := hP
  have hD : va_D A [(tp, .inr (6, [.int 9, .ref tb, .int 0, .int 0, .int 0])), (tb, .inl (K 1, 1400, .inl g3))] := hD
  refine lv_iinc (v := 16) (lv' := [(2, .int 16), (0, .ref tp), (1, .int p0)]) hx hb dX6_put_40 hl (k := 0) rfl (by decide) (by decide) rfl (fun ls hl => ?_)
  refine lv_goto (tgt := 3) hx hb dX6_put_43 (by decide) ?_
  refine lv_iload_n hx hb dX6_put_3 rfl (lv_at hl 0 rfl) ?_
  refine lv_if_lt (tgt := 46) hx hb dX6_put_4 (by decide) (fun h9 => absurd h9 (by decide)) (fun _ => ?_)
  refine lv_aload_n hx hb dX6_put_7 rfl (lv_at hl 1 rfl) ?_
  refine va_get (D := D) (own := RX6) (ci := 6) (v := .int 9) (C := RX6) (T := TX6) (N := 5) hx hb hts inb_X6 hown hK.1 hP 0 rfl rfl 0 (by decide) (hts _ wd_42) (fun _ h9 => h9) rfl dX6_put_8 ?_
  refine lv_sipush (v := 1400) hx hb dX6_put_11 (by decide) ?_
  refine lv_icmp_ge (tgt := 46) hx hb dX6_put_14 (by decide) (fun h9 => absurd h9 (by decide)) (fun _ => ?_)
  refine lv_aload_n hx hb dX6_put_17 rfl (lv_at hl 1 rfl) ?_
  refine va_get (D := D) (own := RX6) (ci := 6) (v := .ref tb) (C := RX6) (T := TX6) (N := 5) hx hb hts inb_X6 hown hK.1 hP 0 rfl rfl 1 (by decide) (hts _ wd_44) (fun _ h9 => h9) rfl dX6_put_18 ?_
  refine lv_aload_n hx hb dX6_put_21 rfl (lv_at hl 1 rfl) ?_
  refine va_get (D := D) (own := RX6) (ci := 6) (v := .int 9) (C := RX6) (T := TX6) (N := 5) hx hb hts inb_X6 hown hK.1 hP 0 rfl rfl 0 (by decide) (hts _ wd_42) (fun _ h9 => h9) rfl dX6_put_22 ?_
  refine lv_iload_n hx hb dX6_put_25 rfl (lv_at hl 2 rfl) ?_
  refine lv_iload_n hx hb dX6_put_26 rfl (lv_at hl 0 rfl) ?_
  refine lv_ishr hx hb dX6_put_27 ?_
  refine lv_topi (fun v4 ev4 => ?_)
  refine lv_i2b hx hb dX6_put_28 rfl ?_
  refine lv_topi (fun v5 ev5 => ?_)
  refine fn_at 29 rfl ?_
  refine va_bast hx hb hK.1 hP hD hS 1 1 rfl rfl (by unfold vp_in; decide) dX6_put_29 (fun H locs hP hD hS => ?_)
  obtain ⟨g6, eg6⟩ : ∃ z, z = (upd g3 (Int32.toNatClampNeg 9) (vp_nar .byte v5)) := ⟨_, rfl⟩
  have hP : va_P D vwCl [(tp, .inr (6, [.int 9, .ref tb, .int 0, .int 0, .int 0])), (tb, .inl (K 1, 1400, .inl g6))] H := by rw [eg6]; exact hP
  have hD : va_D A [(tp, .inr (6, [.int 9, .ref tb, .int 0, .int 0, .int 0])), (tb, .inl (K 1, 1400, .inl g6))] := by rw [eg6]; exact hD
  refine lv_aload_n hx hb dX6_put_30 rfl (lv_at hl 1 rfl) ?_
  refine lv_dup hx hb dX6_put_31 rfl ?_
  refine va_get (D := D) (own := RX6) (ci := 6) (v := .int 9) (C := RX6) (T := TX6) (N := 5) hx hb hts inb_X6 hown hK.1 hP 0 rfl rfl 0 (by decide) (hts _ wd_42) (fun _ h9 => h9) rfl dX6_put_32 ?_
  refine lv_iconst (v := 1) hx hb dX6_put_35 (by decide) ?_
  refine lv_iadd hx hb dX6_put_36 ?_
  refine fn_top 10 (by decide) ?_
  refine va_put (D := D) (own := RX6) (ci := 6) (v := .int 10) (ty := .int) (C := RX6) (T := TX6) (N := 5) hx hb hts inb_X6 tyX6 tyX6_ok nmX6 hown hK.1 hP hD hS 0 rfl rfl 0 (by decide) (hts _ wd_42) (fun _ h9 => h9) rfl (by decide +kernel) rfl rfl (Nat.le_of_ble_eq_true rfl) dX6_put_37 (fun H locs hP hD hS => ?_)
  have hP : va_P D vwCl [(tp, .inr (6, [.int 10, .ref tb, .int 0, .int 0, .int 0])), (tb, .inl (K 1, 1400, .inl g6))] H := hP
  have hD : va_D A [(tp, .inr (6, [.int 10, .ref tb, .int 0, .int 0, .int 0])), (tb, .inl (K 1, 1400, .inl g6))] := hD
  refine lv_iinc (v := 8) (lv' := [(2, .int 8), (0, .ref tp), (1, .int p0)]) hx hb dX6_put_40 hl (k := 0) rfl (by decide) (by decide) rfl (fun ls hl => ?_)
  refine lv_goto (tgt := 3) hx hb dX6_put_43 (by decide) ?_
  refine lv_iload_n hx hb dX6_put_3 rfl (lv_at hl 0 rfl) ?_
  refine lv_if_lt (tgt := 46) hx hb dX6_put_4 (by decide) (fun h9 => absurd h9 (by decide)) (fun _ => ?_)
  refine lv_aload_n hx hb dX6_put_7 rfl (lv_at hl 1 rfl) ?_
  refine va_get (D := D) (own := RX6) (ci := 6) (v := .int 10) (C := RX6) (T := TX6) (N := 5) hx hb hts inb_X6 hown hK.1 hP 0 rfl rfl 0 (by decide) (hts _ wd_42) (fun _ h9 => h9) rfl dX6_put_8 ?_
  refine lv_sipush (v := 1400) hx hb dX6_put_11 (by decide) ?_
  refine lv_icmp_ge (tgt := 46) hx hb dX6_put_14 (by decide) (fun h9 => absurd h9 (by decide)) (fun _ => ?_)
  refine lv_aload_n hx hb dX6_put_17 rfl (lv_at hl 1 rfl) ?_
  refine va_get (D := D) (own := RX6) (ci := 6) (v := .ref tb) (C := RX6) (T := TX6) (N := 5) hx hb hts inb_X6 hown hK.1 hP 0 rfl rfl 1 (by decide) (hts _ wd_44) (fun _ h9 => h9) rfl dX6_put_18 ?_
  refine lv_aload_n hx hb dX6_put_21 rfl (lv_at hl 1 rfl) ?_
  refine va_get (D := D) (own := RX6) (ci := 6) (v := .int 10) (C := RX6) (T := TX6) (N := 5) hx hb hts inb_X6 hown hK.1 hP 0 rfl rfl 0 (by decide) (hts _ wd_42) (fun _ h9 => h9) rfl dX6_put_22 ?_
  refine lv_iload_n hx hb dX6_put_25 rfl (lv_at hl 2 rfl) ?_
  refine fn_at 26 rfl ?_
  refine lv_iload_n hx hb dX6_put_26 rfl (lv_at hl 0 rfl) ?_
  refine lv_ishr hx hb dX6_put_27 ?_
  refine lv_topi (fun v7 ev7 => ?_)
  refine lv_i2b hx hb dX6_put_28 rfl ?_
  refine lv_topi (fun v8 ev8 => ?_)
  refine va_bast hx hb hK.1 hP hD hS 1 1 rfl rfl (by unfold vp_in; decide) dX6_put_29 (fun H locs hP hD hS => ?_)
  obtain ⟨g9, eg9⟩ : ∃ z, z = (upd g6 (Int32.toNatClampNeg 10) (vp_nar .byte v8)) := ⟨_, rfl⟩
  have hP : va_P D vwCl [(tp, .inr (6, [.int 10, .ref tb, .int 0, .int 0, .int 0])), (tb, .inl (K 1, 1400, .inl g9))] H := by rw [eg9]; exact hP
  have hD : va_D A [(tp, .inr (6, [.int 10, .ref tb, .int 0, .int 0, .int 0])), (tb, .inl (K 1, 1400, .inl g9))] := by rw [eg9]; exact hD
  refine lv_aload_n hx hb dX6_put_30 rfl (lv_at hl 1 rfl) ?_
  refine lv_dup hx hb dX6_put_31 rfl ?_
  refine va_get (D := D) (own := RX6) (ci := 6) (v := .int 10) (C := RX6) (T := TX6) (N := 5) hx hb hts inb_X6 hown hK.1 hP 0 rfl rfl 0 (by decide) (hts _ wd_42) (fun _ h9 => h9) rfl dX6_put_32 ?_
  refine lv_iconst (v := 1) hx hb dX6_put_35 (by decide) ?_
  refine lv_iadd hx hb dX6_put_36 ?_
  refine fn_top 11 (by decide) ?_
  refine va_put (D := D) (own := RX6) (ci := 6) (v := .int 11) (ty := .int) (C := RX6) (T := TX6) (N := 5) hx hb hts inb_X6 tyX6 tyX6_ok nmX6 hown hK.1 hP hD hS 0 rfl rfl 0 (by decide) (hts _ wd_42) (fun _ h9 => h9) rfl (by decide +kernel) rfl rfl (Nat.le_of_ble_eq_true rfl) dX6_put_37 (fun H locs hP hD hS => ?_)
  have hP : va_P D vwCl [(tp, .inr (6, [.int 11, .ref tb, .int 0, .int 0, .int 0])), (tb, .inl (K 1, 1400, .inl g9))] H := hP
  have hD : va_D A [(tp, .inr (6, [.int 11, .ref tb, .int 0, .int 0, .int 0])), (tb, .inl (K 1, 1400, .inl g9))] := hD
  refine lv_iinc (v := 0) (lv' := [(2, .int 0), (0, .ref tp), (1, .int p0)]) hx hb dX6_put_40 hl (k := 0) rfl (by decide) (by decide) rfl (fun ls hl => ?_)
  refine lv_goto (tgt := 3) hx hb dX6_put_43 (by decide) ?_
  refine lv_iload_n hx hb dX6_put_3 rfl (lv_at hl 0 rfl) ?_
  refine lv_if_lt (tgt := 46) hx hb dX6_put_4 (by decide) (fun h9 => absurd h9 (by decide)) (fun _ => ?_)
  refine lv_aload_n hx hb dX6_put_7 rfl (lv_at hl 1 rfl) ?_
  refine va_get (D := D) (own := RX6) (ci := 6) (v := .int 11) (C := RX6) (T := TX6) (N := 5) hx hb hts inb_X6 hown hK.1 hP 0 rfl rfl 0 (by decide) (hts _ wd_42) (fun _ h9 => h9) rfl dX6_put_8 ?_
  refine lv_sipush (v := 1400) hx hb dX6_put_11 (by decide) ?_
  refine lv_icmp_ge (tgt := 46) hx hb dX6_put_14 (by decide) (fun h9 => absurd h9 (by decide)) (fun _ => ?_)
  refine lv_aload_n hx hb dX6_put_17 rfl (lv_at hl 1 rfl) ?_
  refine va_get (D := D) (own := RX6) (ci := 6) (v := .ref tb) (C := RX6) (T := TX6) (N := 5) hx hb hts inb_X6 hown hK.1 hP 0 rfl rfl 1 (by decide) (hts _ wd_44) (fun _ h9 => h9) rfl dX6_put_18 ?_
  refine fn_at 21 rfl ?_
  refine lv_aload_n hx hb dX6_put_21 rfl (lv_at hl 1 rfl) ?_
  refine va_get (D := D) (own := RX6) (ci := 6) (v := .int 11) (C := RX6) (T := TX6) (N := 5) hx hb hts inb_X6 hown hK.1 hP 0 rfl rfl 0 (by decide) (hts _ wd_42) (fun _ h9 => h9) rfl dX6_put_22 ?_
  refine lv_iload_n hx hb dX6_put_25 rfl (lv_at hl 2 rfl) ?_
  refine lv_iload_n hx hb dX6_put_26 rfl (lv_at hl 0 rfl) ?_
  refine lv_ishr hx hb dX6_put_27 ?_
  refine lv_topi (fun v10 ev10 => ?_)
  refine lv_i2b hx hb dX6_put_28 rfl ?_
  refine lv_topi (fun v11 ev11 => ?_)
  refine va_bast hx hb hK.1 hP hD hS 1 1 rfl rfl (by unfold vp_in; decide) dX6_put_29 (fun H locs hP hD hS => ?_)
  obtain ⟨g12, eg12⟩ : ∃ z, z = (upd g9 (Int32.toNatClampNeg 11) (vp_nar .byte v11)) := ⟨_, rfl⟩
  have hP : va_P D vwCl [(tp, .inr (6, [.int 11, .ref tb, .int 0, .int 0, .int 0])), (tb, .inl (K 1, 1400, .inl g12))] H := by rw [eg12]; exact hP
  have hD : va_D A [(tp, .inr (6, [.int 11, .ref tb, .int 0, .int 0, .int 0])), (tb, .inl (K 1, 1400, .inl g12))] := by rw [eg12]; exact hD
  refine lv_aload_n hx hb dX6_put_30 rfl (lv_at hl 1 rfl) ?_
  refine lv_dup hx hb dX6_put_31 rfl ?_
  refine va_get (D := D) (own := RX6) (ci := 6) (v := .int 11) (C := RX6) (T := TX6) (N := 5) hx hb hts inb_X6 hown hK.1 hP 0 rfl rfl 0 (by decide) (hts _ wd_42) (fun _ h9 => h9) rfl dX6_put_32 ?_
  refine lv_iconst (v := 1) hx hb dX6_put_35 (by decide) ?_
  refine lv_iadd hx hb dX6_put_36 ?_
  refine fn_top 12 (by decide) ?_
  refine va_put (D := D) (own := RX6) (ci := 6) (v := .int 12) (ty := .int) (C := RX6) (T := TX6) (N := 5) hx hb hts inb_X6 tyX6 tyX6_ok nmX6 hown hK.1 hP hD hS 0 rfl rfl 0 (by decide) (hts _ wd_42) (fun _ h9 => h9) rfl (by decide +kernel) rfl rfl (Nat.le_of_ble_eq_true rfl) dX6_put_37 (fun H locs hP hD hS => ?_)
  have hP : va_P D vwCl [(tp, .inr (6, [.int 12, .ref tb, .int 0, .int 0, .int 0])), (tb, .inl (K 1, 1400, .inl g12))] H := hP
  have hD : va_D A [(tp, .inr (6, [.int 12, .ref tb, .int 0, .int 0, .int 0])), (tb, .inl (K 1, 1400, .inl g12))] := hD
  refine lv_iinc (v := (-8)) (lv' := [(2, .int (-8)), (0, .ref tp), (1, .int p0)]) hx hb dX6_put_40 hl (k := 0) rfl (by decide) (by decide) rfl (fun ls hl => ?_)
  refine lv_goto (tgt := 3) hx hb dX6_put_43 (by decide) ?_
  refine lv_iload_n hx hb dX6_put_3 rfl (lv_at hl 0 rfl) ?_
  refine lv_if_lt (tgt := 46) hx hb dX6_put_4 (by decide) (fun _ => ?_) (fun h9 => absurd (by decide) h9)
  exact fn_vret hx hb hr hlocks hP hD hS g12 trivial [0, 1] (by decide) rfl dX6_put_46
set_option maxHeartbeats 4000000 in
set_option maxRecDepth 100000 in
theorem c_X6_put_12 (l : Launch) (D : va_G) (K : Nat → ClassId) (tp tb : Nat) (fb : Nat → Int32) (p0 : Int32) : fn_CV (S := Nat → Int32) l D K yX6_put (fn_ws yX6_put cX6_put 3 none) ({ frames := 4, cells := 0, slots := 0, locals := 100 }) [.ref tp, .int p0] [(tp, .inr (6, [.int 12, .ref tb, .int 0, .int 0, .int 0])), (tb, .inl (K 1, 1400, .inl fb))] (fun _ => True) (fun g => [(tp, .inr (6, [.int 16, .ref tb, .int 0, .int 0, .int 0])), (tb, .inl (K 1, 1400, .inl g))]) 0 0 := by
  refine fn_inV (cc := cX6_put) (maxL := 3) (ret := none) (by decide) rfl (Nat.le_of_ble_eq_true rfl) ?_
  intro p e s m below meth c A ls B hA hP hD hS hl
  obtain ⟨hx, hb, hr, hml, hts, hown, hlocks, hin, hK⟩ := B
  have hown : s.vm.findClass RX6 = some m.cls := hown
  have hts := fun w h => hts w (List.mem_cons_of_mem _ h)
  have hl : lv_has ls 3 [(0, .ref tp), (1, .int p0)] := hl
  refine lv_bipush (v := 24) hx hb dX6_put_0 (by decide) ?_
  refine lv_istore_n (lv' := [(2, .int 24), (0, .ref tp), (1, .int p0)]) hx hb dX6_put_2 rfl hl (by decide) rfl (fun ls hl => ?_)
  refine lv_iload_n hx hb dX6_put_3 rfl (lv_at hl 0 rfl) ?_
  refine lv_if_lt (tgt := 46) hx hb dX6_put_4 (by decide) (fun h9 => absurd h9 (by decide)) (fun _ => ?_)
  refine lv_aload_n hx hb dX6_put_7 rfl (lv_at hl 1 rfl) ?_
  refine va_get (D := D) (own := RX6) (ci := 6) (v := .int 12) (C := RX6) (T := TX6) (N := 5) hx hb hts inb_X6 hown hK.1 hP 0 rfl rfl 0 (by decide) (hts _ wd_42) (fun _ h9 => h9) rfl dX6_put_8 ?_
  refine lv_sipush (v := 1400) hx hb dX6_put_11 (by decide) ?_
  refine lv_icmp_ge (tgt := 46) hx hb dX6_put_14 (by decide) (fun h9 => absurd h9 (by decide)) (fun _ => ?_)
  refine lv_aload_n hx hb dX6_put_17 rfl (lv_at hl 1 rfl) ?_
  refine va_get (D := D) (own := RX6) (ci := 6) (v := .ref tb) (C := RX6) (T := TX6) (N := 5) hx hb hts inb_X6 hown hK.1 hP 0 rfl rfl 1 (by decide) (hts _ wd_44) (fun _ h9 => h9) rfl dX6_put_18 ?_
  refine lv_aload_n hx hb dX6_put_21 rfl (lv_at hl 1 rfl) ?_
  refine va_get (D := D) (own := RX6) (ci := 6) (v := .int 12) (C := RX6) (T := TX6) (N := 5) hx hb hts inb_X6 hown hK.1 hP 0 rfl rfl 0 (by decide) (hts _ wd_42) (fun _ h9 => h9) rfl dX6_put_22 ?_
  refine lv_iload_n hx hb dX6_put_25 rfl (lv_at hl 2 rfl) ?_
  refine lv_iload_n hx hb dX6_put_26 rfl (lv_at hl 0 rfl) ?_
  refine lv_ishr hx hb dX6_put_27 ?_
  refine lv_topi (fun v1 ev1 => ?_)
  refine lv_i2b hx hb dX6_put_28 rfl ?_
  refine lv_topi (fun v2 ev2 => ?_)
  refine va_bast hx hb hK.1 hP hD hS 1 1 rfl rfl (by unfold vp_in; decide) dX6_put_29 (fun H locs hP hD hS => ?_)
  obtain ⟨g3, eg3⟩ : ∃ z, z = (upd fb (Int32.toNatClampNeg 12) (vp_nar .byte v2)) := ⟨_, rfl⟩
  have hP : va_P D vwCl [(tp, .inr (6, [.int 12, .ref tb, .int 0, .int 0, .int 0])), (tb, .inl (K 1, 1400, .inl g3))] H := by rw [eg3]; exact hP
  have hD : va_D A [(tp, .inr (6, [.int 12, .ref tb, .int 0, .int 0, .int 0])), (tb, .inl (K 1, 1400, .inl g3))] := by rw [eg3]; exact hD
  refine lv_aload_n hx hb dX6_put_30 rfl (lv_at hl 1 rfl) ?_
  refine lv_dup hx hb dX6_put_31 rfl ?_
  refine fn_at 32 rfl ?_
  refine va_get (D := D) (own := RX6) (ci := 6) (v := .int 12) (C := RX6) (T := TX6) (N := 5) hx hb hts inb_X6 hown hK.1 hP 0 rfl rfl 0 (by decide) (hts _ wd_42) (fun _ h9 => h9) rfl dX6_put_32 ?_
  refine lv_iconst (v := 1) hx hb dX6_put_35 (by decide) ?_
  refine lv_iadd hx hb dX6_put_36 ?_
  refine fn_top 13 (by decide) ?_
  refine va_put (D := D) (own := RX6) (ci := 6) (v := .int 13) (ty := .int) (C := RX6) (T := TX6) (N := 5) hx hb hts inb_X6 tyX6 tyX6_ok nmX6 hown hK.1 hP hD hS 0 rfl rfl 0 (by decide) (hts _ wd_42) (fun _ h9 => h9) rfl (by decide +kernel) rfl rfl (Nat.le_of_ble_eq_true rfl) dX6_put_37 (fun H locs hP hD hS => ?_)
  have hP : va_P D vwCl [(tp, .inr (6, [.int 13, .ref tb, .int 0, .int 0, .int 0])), (tb, .inl (K 1, 1400, .inl g3))] H := hP
  have hD : va_D A [(tp, .inr (6, [.int 13, .ref tb, .int 0, .int 0, .int 0])), (tb, .inl (K 1, 1400, .inl g3))] := hD
  refine lv_iinc (v := 16) (lv' := [(2, .int 16), (0, .ref tp), (1, .int p0)]) hx hb dX6_put_40 hl (k := 0) rfl (by decide) (by decide) rfl (fun ls hl => ?_)
  refine lv_goto (tgt := 3) hx hb dX6_put_43 (by decide) ?_
  refine lv_iload_n hx hb dX6_put_3 rfl (lv_at hl 0 rfl) ?_
  refine lv_if_lt (tgt := 46) hx hb dX6_put_4 (by decide) (fun h9 => absurd h9 (by decide)) (fun _ => ?_)
  refine lv_aload_n hx hb dX6_put_7 rfl (lv_at hl 1 rfl) ?_
  refine va_get (D := D) (own := RX6) (ci := 6) (v := .int 13) (C := RX6) (T := TX6) (N := 5) hx hb hts inb_X6 hown hK.1 hP 0 rfl rfl 0 (by decide) (hts _ wd_42) (fun _ h9 => h9) rfl dX6_put_8 ?_
  refine lv_sipush (v := 1400) hx hb dX6_put_11 (by decide) ?_
  refine lv_icmp_ge (tgt := 46) hx hb dX6_put_14 (by decide) (fun h9 => absurd h9 (by decide)) (fun _ => ?_)
  refine lv_aload_n hx hb dX6_put_17 rfl (lv_at hl 1 rfl) ?_
  refine va_get (D := D) (own := RX6) (ci := 6) (v := .ref tb) (C := RX6) (T := TX6) (N := 5) hx hb hts inb_X6 hown hK.1 hP 0 rfl rfl 1 (by decide) (hts _ wd_44) (fun _ h9 => h9) rfl dX6_put_18 ?_
  refine lv_aload_n hx hb dX6_put_21 rfl (lv_at hl 1 rfl) ?_
  refine va_get (D := D) (own := RX6) (ci := 6) (v := .int 13) (C := RX6) (T := TX6) (N := 5) hx hb hts inb_X6 hown hK.1 hP 0 rfl rfl 0 (by decide) (hts _ wd_42) (fun _ h9 => h9) rfl dX6_put_22 ?_
  refine lv_iload_n hx hb dX6_put_25 rfl (lv_at hl 2 rfl) ?_
  refine lv_iload_n hx hb dX6_put_26 rfl (lv_at hl 0 rfl) ?_
  refine lv_ishr hx hb dX6_put_27 ?_
  refine lv_topi (fun v4 ev4 => ?_)
  refine lv_i2b hx hb dX6_put_28 rfl ?_
  refine lv_topi (fun v5 ev5 => ?_)
  refine fn_at 29 rfl ?_
  refine va_bast hx hb hK.1 hP hD hS 1 1 rfl rfl (by unfold vp_in; decide) dX6_put_29 (fun H locs hP hD hS => ?_)
  obtain ⟨g6, eg6⟩ : ∃ z, z = (upd g3 (Int32.toNatClampNeg 13) (vp_nar .byte v5)) := ⟨_, rfl⟩
  have hP : va_P D vwCl [(tp, .inr (6, [.int 13, .ref tb, .int 0, .int 0, .int 0])), (tb, .inl (K 1, 1400, .inl g6))] H := by rw [eg6]; exact hP
  have hD : va_D A [(tp, .inr (6, [.int 13, .ref tb, .int 0, .int 0, .int 0])), (tb, .inl (K 1, 1400, .inl g6))] := by rw [eg6]; exact hD
  refine lv_aload_n hx hb dX6_put_30 rfl (lv_at hl 1 rfl) ?_
  refine lv_dup hx hb dX6_put_31 rfl ?_
  refine va_get (D := D) (own := RX6) (ci := 6) (v := .int 13) (C := RX6) (T := TX6) (N := 5) hx hb hts inb_X6 hown hK.1 hP 0 rfl rfl 0 (by decide) (hts _ wd_42) (fun _ h9 => h9) rfl dX6_put_32 ?_
  refine lv_iconst (v := 1) hx hb dX6_put_35 (by decide) ?_
  refine lv_iadd hx hb dX6_put_36 ?_
  refine fn_top 14 (by decide) ?_
  refine va_put (D := D) (own := RX6) (ci := 6) (v := .int 14) (ty := .int) (C := RX6) (T := TX6) (N := 5) hx hb hts inb_X6 tyX6 tyX6_ok nmX6 hown hK.1 hP hD hS 0 rfl rfl 0 (by decide) (hts _ wd_42) (fun _ h9 => h9) rfl (by decide +kernel) rfl rfl (Nat.le_of_ble_eq_true rfl) dX6_put_37 (fun H locs hP hD hS => ?_)
  have hP : va_P D vwCl [(tp, .inr (6, [.int 14, .ref tb, .int 0, .int 0, .int 0])), (tb, .inl (K 1, 1400, .inl g6))] H := hP
  have hD : va_D A [(tp, .inr (6, [.int 14, .ref tb, .int 0, .int 0, .int 0])), (tb, .inl (K 1, 1400, .inl g6))] := hD
  refine lv_iinc (v := 8) (lv' := [(2, .int 8), (0, .ref tp), (1, .int p0)]) hx hb dX6_put_40 hl (k := 0) rfl (by decide) (by decide) rfl (fun ls hl => ?_)
  refine lv_goto (tgt := 3) hx hb dX6_put_43 (by decide) ?_
  refine lv_iload_n hx hb dX6_put_3 rfl (lv_at hl 0 rfl) ?_
  refine lv_if_lt (tgt := 46) hx hb dX6_put_4 (by decide) (fun h9 => absurd h9 (by decide)) (fun _ => ?_)
  refine lv_aload_n hx hb dX6_put_7 rfl (lv_at hl 1 rfl) ?_
  refine va_get (D := D) (own := RX6) (ci := 6) (v := .int 14) (C := RX6) (T := TX6) (N := 5) hx hb hts inb_X6 hown hK.1 hP 0 rfl rfl 0 (by decide) (hts _ wd_42) (fun _ h9 => h9) rfl dX6_put_8 ?_
  refine lv_sipush (v := 1400) hx hb dX6_put_11 (by decide) ?_
  refine lv_icmp_ge (tgt := 46) hx hb dX6_put_14 (by decide) (fun h9 => absurd h9 (by decide)) (fun _ => ?_)
  refine lv_aload_n hx hb dX6_put_17 rfl (lv_at hl 1 rfl) ?_
  refine va_get (D := D) (own := RX6) (ci := 6) (v := .ref tb) (C := RX6) (T := TX6) (N := 5) hx hb hts inb_X6 hown hK.1 hP 0 rfl rfl 1 (by decide) (hts _ wd_44) (fun _ h9 => h9) rfl dX6_put_18 ?_
  refine lv_aload_n hx hb dX6_put_21 rfl (lv_at hl 1 rfl) ?_
  refine va_get (D := D) (own := RX6) (ci := 6) (v := .int 14) (C := RX6) (T := TX6) (N := 5) hx hb hts inb_X6 hown hK.1 hP 0 rfl rfl 0 (by decide) (hts _ wd_42) (fun _ h9 => h9) rfl dX6_put_22 ?_
  refine lv_iload_n hx hb dX6_put_25 rfl (lv_at hl 2 rfl) ?_
  refine fn_at 26 rfl ?_
  refine lv_iload_n hx hb dX6_put_26 rfl (lv_at hl 0 rfl) ?_
  refine lv_ishr hx hb dX6_put_27 ?_
  refine lv_topi (fun v7 ev7 => ?_)
  refine lv_i2b hx hb dX6_put_28 rfl ?_
  refine lv_topi (fun v8 ev8 => ?_)
  refine va_bast hx hb hK.1 hP hD hS 1 1 rfl rfl (by unfold vp_in; decide) dX6_put_29 (fun H locs hP hD hS => ?_)
  obtain ⟨g9, eg9⟩ : ∃ z, z = (upd g6 (Int32.toNatClampNeg 14) (vp_nar .byte v8)) := ⟨_, rfl⟩
  have hP : va_P D vwCl [(tp, .inr (6, [.int 14, .ref tb, .int 0, .int 0, .int 0])), (tb, .inl (K 1, 1400, .inl g9))] H := by rw [eg9]; exact hP
  have hD : va_D A [(tp, .inr (6, [.int 14, .ref tb, .int 0, .int 0, .int 0])), (tb, .inl (K 1, 1400, .inl g9))] := by rw [eg9]; exact hD
  refine lv_aload_n hx hb dX6_put_30 rfl (lv_at hl 1 rfl) ?_
  refine lv_dup hx hb dX6_put_31 rfl ?_
  refine va_get (D := D) (own := RX6) (ci := 6) (v := .int 14) (C := RX6) (T := TX6) (N := 5) hx hb hts inb_X6 hown hK.1 hP 0 rfl rfl 0 (by decide) (hts _ wd_42) (fun _ h9 => h9) rfl dX6_put_32 ?_
  refine lv_iconst (v := 1) hx hb dX6_put_35 (by decide) ?_
  refine lv_iadd hx hb dX6_put_36 ?_
  refine fn_top 15 (by decide) ?_
  refine va_put (D := D) (own := RX6) (ci := 6) (v := .int 15) (ty := .int) (C := RX6) (T := TX6) (N := 5) hx hb hts inb_X6 tyX6 tyX6_ok nmX6 hown hK.1 hP hD hS 0 rfl rfl 0 (by decide) (hts _ wd_42) (fun _ h9 => h9) rfl (by decide +kernel) rfl rfl (Nat.le_of_ble_eq_true rfl) dX6_put_37 (fun H locs hP hD hS => ?_)
  have hP : va_P D vwCl [(tp, .inr (6, [.int 15, .ref tb, .int 0, .int 0, .int 0])), (tb, .inl (K 1, 1400, .inl g9))] H := hP
  have hD : va_D A [(tp, .inr (6, [.int 15, .ref tb, .int 0, .int 0, .int 0])), (tb, .inl (K 1, 1400, .inl g9))] := hD
  refine lv_iinc (v := 0) (lv' := [(2, .int 0), (0, .ref tp), (1, .int p0)]) hx hb dX6_put_40 hl (k := 0) rfl (by decide) (by decide) rfl (fun ls hl => ?_)
  refine lv_goto (tgt := 3) hx hb dX6_put_43 (by decide) ?_
  refine lv_iload_n hx hb dX6_put_3 rfl (lv_at hl 0 rfl) ?_
  refine lv_if_lt (tgt := 46) hx hb dX6_put_4 (by decide) (fun h9 => absurd h9 (by decide)) (fun _ => ?_)
  refine lv_aload_n hx hb dX6_put_7 rfl (lv_at hl 1 rfl) ?_
  refine va_get (D := D) (own := RX6) (ci := 6) (v := .int 15) (C := RX6) (T := TX6) (N := 5) hx hb hts inb_X6 hown hK.1 hP 0 rfl rfl 0 (by decide) (hts _ wd_42) (fun _ h9 => h9) rfl dX6_put_8 ?_
  refine lv_sipush (v := 1400) hx hb dX6_put_11 (by decide) ?_
  refine lv_icmp_ge (tgt := 46) hx hb dX6_put_14 (by decide) (fun h9 => absurd h9 (by decide)) (fun _ => ?_)
  refine lv_aload_n hx hb dX6_put_17 rfl (lv_at hl 1 rfl) ?_
  refine va_get (D := D) (own := RX6) (ci := 6) (v := .ref tb) (C := RX6) (T := TX6) (N := 5) hx hb hts inb_X6 hown hK.1 hP 0 rfl rfl 1 (by decide) (hts _ wd_44) (fun _ h9 => h9) rfl dX6_put_18 ?_
  refine fn_at 21 rfl ?_
  refine lv_aload_n hx hb dX6_put_21 rfl (lv_at hl 1 rfl) ?_
  refine va_get (D := D) (own := RX6) (ci := 6) (v := .int 15) (C := RX6) (T := TX6) (N := 5) hx hb hts inb_X6 hown hK.1 hP 0 rfl rfl 0 (by decide) (hts _ wd_42) (fun _ h9 => h9) rfl dX6_put_22 ?_
  refine lv_iload_n hx hb dX6_put_25 rfl (lv_at hl 2 rfl) ?_
  refine lv_iload_n hx hb dX6_put_26 rfl (lv_at hl 0 rfl) ?_
  refine lv_ishr hx hb dX6_put_27 ?_
  refine lv_topi (fun v10 ev10 => ?_)
  refine lv_i2b hx hb dX6_put_28 rfl ?_
  refine lv_topi (fun v11 ev11 => ?_)
  refine va_bast hx hb hK.1 hP hD hS 1 1 rfl rfl (by unfold vp_in; decide) dX6_put_29 (fun H locs hP hD hS => ?_)
  obtain ⟨g12, eg12⟩ : ∃ z, z = (upd g9 (Int32.toNatClampNeg 15) (vp_nar .byte v11)) := ⟨_, rfl⟩
  have hP : va_P D vwCl [(tp, .inr (6, [.int 15, .ref tb, .int 0, .int 0, .int 0])), (tb, .inl (K 1, 1400, .inl g12))] H := by rw [eg12]; exact hP
  have hD : va_D A [(tp, .inr (6, [.int 15, .ref tb, .int 0, .int 0, .int 0])), (tb, .inl (K 1, 1400, .inl g12))] := by rw [eg12]; exact hD
  refine lv_aload_n hx hb dX6_put_30 rfl (lv_at hl 1 rfl) ?_
  refine lv_dup hx hb dX6_put_31 rfl ?_
  refine va_get (D := D) (own := RX6) (ci := 6) (v := .int 15) (C := RX6) (T := TX6) (N := 5) hx hb hts inb_X6 hown hK.1 hP 0 rfl rfl 0 (by decide) (hts _ wd_42) (fun _ h9 => h9) rfl dX6_put_32 ?_
  refine lv_iconst (v := 1) hx hb dX6_put_35 (by decide) ?_
  refine lv_iadd hx hb dX6_put_36 ?_
  refine fn_top 16 (by decide) ?_
  refine va_put (D := D) (own := RX6) (ci := 6) (v := .int 16) (ty := .int) (C := RX6) (T := TX6) (N := 5) hx hb hts inb_X6 tyX6 tyX6_ok nmX6 hown hK.1 hP hD hS 0 rfl rfl 0 (by decide) (hts _ wd_42) (fun _ h9 => h9) rfl (by decide +kernel) rfl rfl (Nat.le_of_ble_eq_true rfl) dX6_put_37 (fun H locs hP hD hS => ?_)
  have hP : va_P D vwCl [(tp, .inr (6, [.int 16, .ref tb, .int 0, .int 0, .int 0])), (tb, .inl (K 1, 1400, .inl g12))] H := hP
  have hD : va_D A [(tp, .inr (6, [.int 16, .ref tb, .int 0, .int 0, .int 0])), (tb, .inl (K 1, 1400, .inl g12))] := hD
  refine lv_iinc (v := (-8)) (lv' := [(2, .int (-8)), (0, .ref tp), (1, .int p0)]) hx hb dX6_put_40 hl (k := 0) rfl (by decide) (by decide) rfl (fun ls hl => ?_)
  refine lv_goto (tgt := 3) hx hb dX6_put_43 (by decide) ?_
  refine lv_iload_n hx hb dX6_put_3 rfl (lv_at hl 0 rfl) ?_
  refine lv_if_lt (tgt := 46) hx hb dX6_put_4 (by decide) (fun _ => ?_) (fun h9 => absurd (by decide) h9)
  exact fn_vret hx hb hr hlocks hP hD hS g12 trivial [0, 1] (by decide) rfl dX6_put_46
set_option maxHeartbeats 4000000 in
set_option maxRecDepth 100000 in
theorem c_X6_put_16 (l : Launch) (D : va_G) (K : Nat → ClassId) (tp tb : Nat) (fb : Nat → Int32) (p0 : Int32) : fn_CV (S := Nat → Int32) l D K yX6_put (fn_ws yX6_put cX6_put 3 none) ({ frames := 4, cells := 0, slots := 0, locals := 100 }) [.ref tp, .int p0] [(tp, .inr (6, [.int 16, .ref tb, .int 0, .int 0, .int 0])), (tb, .inl (K 1, 1400, .inl fb))] (fun _ => True) (fun g => [(tp, .inr (6, [.int 20, .ref tb, .int 0, .int 0, .int 0])), (tb, .inl (K 1, 1400, .inl g))]) 0 0 := by
  refine fn_inV (cc := cX6_put) (maxL := 3) (ret := none) (by decide) rfl (Nat.le_of_ble_eq_true rfl) ?_
  intro p e s m below meth c A ls B hA hP hD hS hl
  obtain ⟨hx, hb, hr, hml, hts, hown, hlocks, hin, hK⟩ := B
  have hown : s.vm.findClass RX6 = some m.cls := hown
  have hts := fun w h => hts w (List.mem_cons_of_mem _ h)
  have hl : lv_has ls 3 [(0, .ref tp), (1, .int p0)] := hl
  refine lv_bipush (v := 24) hx hb dX6_put_0 (by decide) ?_
  refine lv_istore_n (lv' := [(2, .int 24), (0, .ref tp), (1, .int p0)]) hx hb dX6_put_2 rfl hl (by decide) rfl (fun ls hl => ?_)
  refine lv_iload_n hx hb dX6_put_3 rfl (lv_at hl 0 rfl) ?_
  refine lv_if_lt (tgt := 46) hx hb dX6_put_4 (by decide) (fun h9 => absurd h9 (by decide)) (fun _ => ?_)
  refine lv_aload_n hx hb dX6_put_7 rfl (lv_at hl 1 rfl) ?_
  refine va_get (D := D) (own := RX6) (ci := 6) (v := .int 16) (C := RX6) (T := TX6) (N := 5) hx hb hts inb_X6 hown hK.1 hP 0 rfl rfl 0 (by decide) (hts _ wd_42) (fun _ h9 => h9) rfl dX6_put_8 ?_
  refine lv_sipush (v := 1400) hx hb dX6_put_11 (by decide) ?_
  refine lv_icmp_ge (tgt := 46) hx hb dX6_put_14 (by decide) (fun h9 => absurd h9 (by decide)) (fun _ => ?_)
  refine lv_aload_n hx hb dX6_put_17 rfl (lv_at hl 1 rfl) ?_
  refine va_get (D := D) (own := RX6) (ci := 6) (v := .ref tb) (C := RX6) (T := TX6) (N := 5) hx hb hts inb_X6 hown hK.1 hP 0 rfl rfl 1 (by decide) (hts _ wd_44) (fun _ h9 => h9) rfl dX6_put_18 ?_
  refine lv_aload_n hx hb dX6_put_21 rfl (lv_at hl 1 rfl) ?_
  refine va_get (D := D) (own := RX6) (ci := 6) (v := .int 16) (C := RX6) (T := TX6) (N := 5) hx hb hts inb_X6 hown hK.1 hP 0 rfl rfl 0 (by decide) (hts _ wd_42) (fun _ h9 => h9) rfl dX6_put_22 ?_
  refine lv_iload_n hx hb dX6_put_25 rfl (lv_at hl 2 rfl) ?_
  refine lv_iload_n hx hb dX6_put_26 rfl (lv_at hl 0 rfl) ?_
  refine lv_ishr hx hb dX6_put_27 ?_
  refine lv_topi (fun v1 ev1 => ?_)
  refine lv_i2b hx hb dX6_put_28 rfl ?_
  refine lv_topi (fun v2 ev2 => ?_)
  refine va_bast hx hb hK.1 hP hD hS 1 1 rfl rfl (by unfold vp_in; decide) dX6_put_29 (fun H locs hP hD hS => ?_)
  obtain ⟨g3, eg3⟩ : ∃ z, z = (upd fb (Int32.toNatClampNeg 16) (vp_nar .byte v2)) := ⟨_, rfl⟩
  have hP : va_P D vwCl [(tp, .inr (6, [.int 16, .ref tb, .int 0, .int 0, .int 0])), (tb, .inl (K 1, 1400, .inl g3))] H := by rw [eg3]; exact hP
  have hD : va_D A [(tp, .inr (6, [.int 16, .ref tb, .int 0, .int 0, .int 0])), (tb, .inl (K 1, 1400, .inl g3))] := by rw [eg3]; exact hD
  refine lv_aload_n hx hb dX6_put_30 rfl (lv_at hl 1 rfl) ?_
  refine lv_dup hx hb dX6_put_31 rfl ?_
  refine fn_at 32 rfl ?_
  refine va_get (D := D) (own := RX6) (ci := 6) (v := .int 16) (C := RX6) (T := TX6) (N := 5) hx hb hts inb_X6 hown hK.1 hP 0 rfl rfl 0 (by decide) (hts _ wd_42) (fun _ h9 => h9) rfl dX6_put_32 ?_
  refine lv_iconst (v := 1) hx hb dX6_put_35 (by decide) ?_
  refine lv_iadd hx hb dX6_put_36 ?_
  refine fn_top 17 (by decide) ?_
  refine va_put (D := D) (own := RX6) (ci := 6) (v := .int 17) (ty := .int) (C := RX6) (T := TX6) (N := 5) hx hb hts inb_X6 tyX6 tyX6_ok nmX6 hown hK.1 hP hD hS 0 rfl rfl 0 (by decide) (hts _ wd_42) (fun _ h9 => h9) rfl (by decide +kernel) rfl rfl (Nat.le_of_ble_eq_true rfl) dX6_put_37 (fun H locs hP hD hS => ?_)
  have hP : va_P D vwCl [(tp, .inr (6, [.int 17, .ref tb, .int 0, .int 0, .int 0])), (tb, .inl (K 1, 1400, .inl g3))] H := hP
  have hD : va_D A [(tp, .inr (6, [.int 17, .ref tb, .int 0, .int 0, .int 0])), (tb, .inl (K 1, 1400, .inl g3))] := hD
  refine lv_iinc (v := 16) (lv' := [(2, .int 16), (0, .ref tp), (1, .int p0)]) hx hb dX6_put_40 hl (k := 0) rfl (by decide) (by decide) rfl (fun ls hl => ?_)
  refine lv_goto (tgt := 3) hx hb dX6_put_43 (by decide) ?_
  refine lv_iload_n hx hb dX6_put_3 rfl (lv_at hl 0 rfl) ?_
  refine lv_if_lt (tgt := 46) hx hb dX6_put_4 (by decide) (fun h9 => absurd h9 (by decide)) (fun _ => ?_)
  refine lv_aload_n hx hb dX6_put_7 rfl (lv_at hl 1 rfl) ?_
  refine va_get (D := D) (own := RX6) (ci := 6) (v := .int 17) (C := RX6) (T := TX6) (N := 5) hx hb hts inb_X6 hown hK.1 hP 0 rfl rfl 0 (by decide) (hts _ wd_42) (fun _ h9 => h9) rfl dX6_put_8 ?_
  refine lv_sipush (v := 1400) hx hb dX6_put_11 (by decide) ?_
  refine lv_icmp_ge (tgt := 46) hx hb dX6_put_14 (by decide) (fun h9 => absurd h9 (by decide)) (fun _ => ?_)
  refine lv_aload_n hx hb dX6_put_17 rfl (lv_at hl 1 rfl) ?_
  refine va_get (D := D) (own := RX6) (ci := 6) (v := .ref tb) (C := RX6) (T := TX6) (N := 5) hx hb hts inb_X6 hown hK.1 hP 0 rfl rfl 1 (by decide) (hts _ wd_44) (fun _ h9 => h9) rfl dX6_put_18 ?_
  refine lv_aload_n hx hb dX6_put_21 rfl (lv_at hl 1 rfl) ?_
  refine va_get (D := D) (own := RX6) (ci := 6) (v := .int 17) (C := RX6) (T := TX6) (N := 5) hx hb hts inb_X6 hown hK.1 hP 0 rfl rfl 0 (by decide) (hts _ wd_42) (fun _ h9 => h9) rfl dX6_put_22 ?_
  refine lv_iload_n hx hb dX6_put_25 rfl (lv_at hl 2 rfl) ?_
  refine lv_iload_n hx hb dX6_put_26 rfl (lv_at hl 0 rfl) ?_
  refine lv_ishr hx hb dX6_put_27 ?_
  refine lv_topi (fun v4 ev4 => ?_)
  refine lv_i2b hx hb dX6_put_28 rfl ?_
  refine lv_topi (fun v5 ev5 => ?_)
  refine fn_at 29 rfl ?_
  refine va_bast hx hb hK.1 hP hD hS 1 1 rfl rfl (by unfold vp_in; decide) dX6_put_29 (fun H locs hP hD hS => ?_)
  obtain ⟨g6, eg6⟩ : ∃ z, z = (upd g3 (Int32.toNatClampNeg 17) (vp_nar .byte v5)) := ⟨_, rfl⟩
  have hP : va_P D vwCl [(tp, .inr (6, [.int 17, .ref tb, .int 0, .int 0, .int 0])), (tb, .inl (K 1, 1400, .inl g6))] H := by rw [eg6]; exact hP
  have hD : va_D A [(tp, .inr (6, [.int 17, .ref tb, .int 0, .int 0, .int 0])), (tb, .inl (K 1, 1400, .inl g6))] := by rw [eg6]; exact hD
  refine lv_aload_n hx hb dX6_put_30 rfl (lv_at hl 1 rfl) ?_
  refine lv_dup hx hb dX6_put_31 rfl ?_
  refine va_get (D := D) (own := RX6) (ci := 6) (v := .int 17) (C := RX6) (T := TX6) (N := 5) hx hb hts inb_X6 hown hK.1 hP 0 rfl rfl 0 (by decide) (hts _ wd_42) (fun _ h9 => h9) rfl dX6_put_32 ?_
  refine lv_iconst (v := 1) hx hb dX6_put_35 (by decide) ?_
  refine lv_iadd hx hb dX6_put_36 ?_
  refine fn_top 18 (by decide) ?_
  refine va_put (D := D) (own := RX6) (ci := 6) (v := .int 18) (ty := .int) (C := RX6) (T := TX6) (N := 5) hx hb hts inb_X6 tyX6 tyX6_ok nmX6 hown hK.1 hP hD hS 0 rfl rfl 0 (by decide) (hts _ wd_42) (fun _ h9 => h9) rfl (by decide +kernel) rfl rfl (Nat.le_of_ble_eq_true rfl) dX6_put_37 (fun H locs hP hD hS => ?_)
  have hP : va_P D vwCl [(tp, .inr (6, [.int 18, .ref tb, .int 0, .int 0, .int 0])), (tb, .inl (K 1, 1400, .inl g6))] H := hP
  have hD : va_D A [(tp, .inr (6, [.int 18, .ref tb, .int 0, .int 0, .int 0])), (tb, .inl (K 1, 1400, .inl g6))] := hD
  refine lv_iinc (v := 8) (lv' := [(2, .int 8), (0, .ref tp), (1, .int p0)]) hx hb dX6_put_40 hl (k := 0) rfl (by decide) (by decide) rfl (fun ls hl => ?_)
  refine lv_goto (tgt := 3) hx hb dX6_put_43 (by decide) ?_
  refine lv_iload_n hx hb dX6_put_3 rfl (lv_at hl 0 rfl) ?_
  refine lv_if_lt (tgt := 46) hx hb dX6_put_4 (by decide) (fun h9 => absurd h9 (by decide)) (fun _ => ?_)
  refine lv_aload_n hx hb dX6_put_7 rfl (lv_at hl 1 rfl) ?_
  refine va_get (D := D) (own := RX6) (ci := 6) (v := .int 18) (C := RX6) (T := TX6) (N := 5) hx hb hts inb_X6 hown hK.1 hP 0 rfl rfl 0 (by decide) (hts _ wd_42) (fun _ h9 => h9) rfl dX6_put_8 ?_
  refine lv_sipush (v := 1400) hx hb dX6_put_11 (by decide) ?_
  refine lv_icmp_ge (tgt := 46) hx hb dX6_put_14 (by decide) (fun h9 => absurd h9 (by decide)) (fun _ => ?_)
  refine lv_aload_n hx hb dX6_put_17 rfl (lv_at hl 1 rfl) ?_
  refine va_get (D := D) (own := RX6) (ci := 6) (v := .ref tb) (C := RX6) (T := TX6) (N := 5) hx hb hts inb_X6 hown hK.1 hP 0 rfl rfl 1 (by decide) (hts _ wd_44) (fun _ h9 => h9) rfl dX6_put_18 ?_
  refine lv_aload_n hx hb dX6_put_21 rfl (lv_at hl 1 rfl) ?_
  refine va_get (D := D) (own := RX6) (ci := 6) (v := .int 18) (C := RX6) (T := TX6) (N := 5) hx hb hts inb_X6 hown hK.1 hP 0 rfl rfl 0 (by decide) (hts _ wd_42) (fun _ h9 => h9) rfl dX6_put_22 ?_
  refine lv_iload_n hx hb dX6_put_25 rfl (lv_at hl 2 rfl) ?_
  refine fn_at 26 rfl ?_
  refine lv_iload_n hx hb dX6_put_26 rfl (lv_at hl 0 rfl) ?_
  refine lv_ishr hx hb dX6_put_27 ?_
  refine lv_topi (fun v7 ev7 => ?_)
  refine lv_i2b hx hb dX6_put_28 rfl ?_
  refine lv_topi (fun v8 ev8 => ?_)
  refine va_bast hx hb hK.1 hP hD hS 1 1 rfl rfl (by unfold vp_in; decide) dX6_put_29 (fun H locs hP hD hS => ?_)
  obtain ⟨g9, eg9⟩ : ∃ z, z = (upd g6 (Int32.toNatClampNeg 18) (vp_nar .byte v8)) := ⟨_, rfl⟩
  have hP : va_P D vwCl [(tp, .inr (6, [.int 18, .ref tb, .int 0, .int 0, .int 0])), (tb, .inl (K 1, 1400, .inl g9))] H := by rw [eg9]; exact hP
  have hD : va_D A [(tp, .inr (6, [.int 18, .ref tb, .int 0, .int 0, .int 0])), (tb, .inl (K 1, 1400, .inl g9))] := by rw [eg9]; exact hD
  refine lv_aload_n hx hb dX6_put_30 rfl (lv_at hl 1 rfl) ?_
  refine lv_dup hx hb dX6_put_31 rfl ?_
  refine va_get (D := D) (own := RX6) (ci := 6) (v := .int 18) (C := RX6) (T := TX6) (N := 5) hx hb hts inb_X6 hown hK.1 hP 0 rfl rfl 0 (by decide) (hts _ wd_42) (fun _ h9 => h9) rfl dX6_put_32 ?_
  refine lv_iconst (v := 1) hx hb dX6_put_35 (by decide) ?_
  refine lv_iadd hx hb dX6_put_36 ?_
  refine fn_top 19 (by decide) ?_
  refine va_put (D := D) (own := RX6) (ci := 6) (v := .int 19) (ty := .int) (C := RX6) (T := TX6) (N := 5) hx hb hts inb_X6 tyX6 tyX6_ok nmX6 hown hK.1 hP hD hS 0 rfl rfl 0 (by decide) (hts _ wd_42) (fun _ h9 => h9) rfl (by decide +kernel) rfl rfl (Nat.le_of_ble_eq_true rfl) dX6_put_37 (fun H locs hP hD hS => ?_)
  have hP : va_P D vwCl [(tp, .inr (6, [.int 19, .ref tb, .int 0, .int 0, .int 0])), (tb, .inl (K 1, 1400, .inl g9))] H := hP
  have hD : va_D A [(tp, .inr (6, [.int 19, .ref tb, .int 0, .int 0, .int 0])), (tb, .inl (K 1, 1400, .inl g9))] := hD
  refine lv_iinc (v := 0) (lv' := [(2, .int 0), (0, .ref tp), (1, .int p0)]) hx hb dX6_put_40 hl (k := 0) rfl (by decide) (by decide) rfl (fun ls hl => ?_)
  refine lv_goto (tgt := 3) hx hb dX6_put_43 (by decide) ?_
  refine lv_iload_n hx hb dX6_put_3 rfl (lv_at hl 0 rfl) ?_
  refine lv_if_lt (tgt := 46) hx hb dX6_put_4 (by decide) (fun h9 => absurd h9 (by decide)) (fun _ => ?_)
  refine lv_aload_n hx hb dX6_put_7 rfl (lv_at hl 1 rfl) ?_
  refine va_get (D := D) (own := RX6) (ci := 6) (v := .int 19) (C := RX6) (T := TX6) (N := 5) hx hb hts inb_X6 hown hK.1 hP 0 rfl rfl 0 (by decide) (hts _ wd_42) (fun _ h9 => h9) rfl dX6_put_8 ?_
  refine lv_sipush (v := 1400) hx hb dX6_put_11 (by decide) ?_
  refine lv_icmp_ge (tgt := 46) hx hb dX6_put_14 (by decide) (fun h9 => absurd h9 (by decide)) (fun _ => ?_)
  refine lv_aload_n hx hb dX6_put_17 rfl (lv_at hl 1 rfl) ?_
  refine va_get (D := D) (own := RX6) (ci := 6) (v := .ref tb) (C := RX6) (T := TX6) (N := 5) hx hb hts inb_X6 hown hK.1 hP 0 rfl rfl 1 (by decide) (hts _ wd_44) (fun _ h9 => h9) rfl dX6_put_18 ?_
  refine fn_at 21 rfl ?_
  refine lv_aload_n hx hb dX6_put_21 rfl (lv_at hl 1 rfl) ?_
  refine va_get (D := D) (own := RX6) (ci := 6) (v := .int 19) (C := RX6) (T := TX6) (N := 5) hx hb hts inb_X6 hown hK.1 hP 0 rfl rfl 0 (by decide) (hts _ wd_42) (fun _ h9 => h9) rfl dX6_put_22 ?_
  refine lv_iload_n hx hb dX6_put_25 rfl (lv_at hl 2 rfl) ?_
  refine lv_iload_n hx hb dX6_put_26 rfl (lv_at hl 0 rfl) ?_
  refine lv_ishr hx hb dX6_put_27 ?_
  refine lv_topi (fun v10 ev10 => ?_)
  refine lv_i2b hx hb dX6_put_28 rfl ?_
  refine lv_topi (fun v11 ev11 => ?_)
  refine va_bast hx hb hK.1 hP hD hS 1 1 rfl rfl (by unfold vp_in; decide) dX6_put_29 (fun H locs hP hD hS => ?_)
  obtain ⟨g12, eg12⟩ : ∃ z, z = (upd g9 (Int32.toNatClampNeg 19) (vp_nar .byte v11)) := ⟨_, rfl⟩
  have hP : va_P D vwCl [(tp, .inr (6, [.int 19, .ref tb, .int 0, .int 0, .int 0])), (tb, .inl (K 1, 1400, .inl g12))] H := by rw [eg12]; exact hP
  have hD : va_D A [(tp, .inr (6, [.int 19, .ref tb, .int 0, .int 0, .int 0])), (tb, .inl (K 1, 1400, .inl g12))] := by rw [eg12]; exact hD
  refine lv_aload_n hx hb dX6_put_30 rfl (lv_at hl 1 rfl) ?_
  refine lv_dup hx hb dX6_put_31 rfl ?_
  refine va_get (D := D) (own := RX6) (ci := 6) (v := .int 19) (C := RX6) (T := TX6) (N := 5) hx hb hts inb_X6 hown hK.1 hP 0 rfl rfl 0 (by decide) (hts _ wd_42) (fun _ h9 => h9) rfl dX6_put_32 ?_
  refine lv_iconst (v := 1) hx hb dX6_put_35 (by decide) ?_
  refine lv_iadd hx hb dX6_put_36 ?_
  refine fn_top 20 (by decide) ?_
  refine va_put (D := D) (own := RX6) (ci := 6) (v := .int 20) (ty := .int) (C := RX6) (T := TX6) (N := 5) hx hb hts inb_X6 tyX6 tyX6_ok nmX6 hown hK.1 hP hD hS 0 rfl rfl 0 (by decide) (hts _ wd_42) (fun _ h9 => h9) rfl (by decide +kernel) rfl rfl (Nat.le_of_ble_eq_true rfl) dX6_put_37 (fun H locs hP hD hS => ?_)
  have hP : va_P D vwCl [(tp, .inr (6, [.int 20, .ref tb, .int 0, .int 0, .int 0])), (tb, .inl (K 1, 1400, .inl g12))] H := hP
  have hD : va_D A [(tp, .inr (6, [.int 20, .ref tb, .int 0, .int 0, .int 0])), (tb, .inl (K 1, 1400, .inl g12))] := hD
  refine lv_iinc (v := (-8)) (lv' := [(2, .int (-8)), (0, .ref tp), (1, .int p0)]) hx hb dX6_put_40 hl (k := 0) rfl (by decide) (by decide) rfl (fun ls hl => ?_)
  refine lv_goto (tgt := 3) hx hb dX6_put_43 (by decide) ?_
  refine lv_iload_n hx hb dX6_put_3 rfl (lv_at hl 0 rfl) ?_
  refine lv_if_lt (tgt := 46) hx hb dX6_put_4 (by decide) (fun _ => ?_) (fun h9 => absurd (by decide) h9)
  exact fn_vret hx hb hr hlocks hP hD hS g12 trivial [0, 1] (by decide) rfl dX6_put_46
theorem dX11_feed_0 : decode cX11_feed 0 = .ok (.aload_n 0, 1) := by decide +kernel
theorem dX11_feed_1 : decode cX11_feed 1 = .ok (.getfield 10, 3) := by decide +kernel
theorem dX11_feed_4 : decode cX11_feed 4 = .ok (.getfield 87, 3) := by decide +kernel
theorem dX11_feed_7 : decode cX11_feed 7 = .ok (.astore 6, 2) := by decide +kernel
theorem dX11_feed_9 : decode cX11_feed 9 = .ok (.aload 6, 2) := by decide +kernel
theorem dX11_feed_11 : decode cX11_feed 11 = .ok (.getfield 91, 3) := by decide +kernel
theorem dX11_feed_14 : decode cX11_feed 14 = .ok (.bipush 20, 2) := by decide +kernel
theorem dX11_feed_16 : decode cX11_feed 16 = .ok (.iadd, 1) := by decide +kernel
theorem dX11_feed_17 : decode cX11_feed 17 = .ok (.sipush 1400, 3) := by decide +kernel
theorem dX11_feed_20 : decode cX11_feed 20 = .ok (.if_icmp .le 5, 3) := by decide +kernel
theorem dX11_feed_25 : decode cX11_feed 25 = .ok (.aload 6, 2) := by decide +kernel
theorem dX11_feed_27 : decode cX11_feed 27 = .ok (.iload_n 1, 1) := by decide +kernel
theorem dX11_feed_28 : decode cX11_feed 28 = .ok (.invokevirtual 97, 3) := by decide +kernel
theorem dX11_feed_31 : decode cX11_feed 31 = .ok (.aload 6, 2) := by decide +kernel
theorem dX11_feed_33 : decode cX11_feed 33 = .ok (.iload_n 2, 1) := by decide +kernel
theorem dX11_feed_34 : decode cX11_feed 34 = .ok (.invokevirtual 97, 3) := by decide +kernel
theorem dX11_feed_37 : decode cX11_feed 37 = .ok (.aload 6, 2) := by decide +kernel
theorem dX11_feed_39 : decode cX11_feed 39 = .ok (.iload_n 3, 1) := by decide +kernel
theorem dX11_feed_40 : decode cX11_feed 40 = .ok (.invokevirtual 97, 3) := by decide +kernel
theorem dX11_feed_43 : decode cX11_feed 43 = .ok (.aload 6, 2) := by decide +kernel
theorem dX11_feed_45 : decode cX11_feed 45 = .ok (.iload 4, 2) := by decide +kernel
theorem dX11_feed_47 : decode cX11_feed 47 = .ok (.invokevirtual 97, 3) := by decide +kernel
theorem dX11_feed_50 : decode cX11_feed 50 = .ok (.aload 6, 2) := by decide +kernel
theorem dX11_feed_52 : decode cX11_feed 52 = .ok (.iload 5, 2) := by decide +kernel
theorem dX11_feed_54 : decode cX11_feed 54 = .ok (.invokevirtual 97, 3) := by decide +kernel
theorem dX11_feed_57 : decode cX11_feed 57 = .ok (.aload 6, 2) := by decide +kernel
theorem dX11_feed_59 : decode cX11_feed 59 = .ok (.getfield 91, 3) := by decide +kernel
theorem dX11_feed_62 : decode cX11_feed 62 = .ok (.ireturn, 1) := by decide +kernel
set_option maxHeartbeats 4000000 in
set_option maxRecDepth 100000 in
theorem c_X11_feed (l : Launch) (D : va_G) (K : Nat → ClassId) (rd tp tb td : Nat) (fb : Nat → Int32) (x0 : Nat) (fx : List Value) (hx0 : fx[0]? = some (.ref rd)) (p0 p1 p2 p3 p4 : Int32) : fn_CI (S := Unit) l D K yX11_feed (fn_ws yX11_feed cX11_feed 7 (some .int)) ({ frames := 8, cells := 0, slots := 0, locals := 200 }) [.ref x0, .int p0, .int p1, .int p2, .int p3, .int p4] [(x0, .inr (11, fx)), (rd, .inr (3, [.ref tp, .ref td, .int 0, .int (-1)])), (tp, .inr (6, [.int 0, .ref tb, .int 0, .int 0, .int 0])), (tb, .inl (K 1, 1400, .inl fb))] (fun r _ => r = 20) (fun _ => []) 0 0 := by
  refine fn_inI (cc := cX11_feed) (maxL := 7) (ret := (some .int)) (by decide) rfl (Nat.le_of_ble_eq_true rfl) ?_
  intro p e s m below meth c A ls B hA hP hD hS hl
  obtain ⟨hx, hb, hr, hml, hts, hown, hlocks, hin, hK⟩ := B
  have hown : s.vm.findClass RX11 = some m.cls := hown
  have hts := fun w h => hts w (List.mem_cons_of_mem _ h)
  have hl : lv_has ls 7 [(0, .ref x0), (1, .int p0), (2, .int p1), (3, .int p2), (4, .int p3), (5, .int p4)] := hl
  refine lv_aload_n hx hb dX11_feed_0 rfl (lv_at hl 0 rfl) ?_
  refine va_get (D := D) (own := RX11) (ci := 11) (v := .ref rd) (C := RX11) (T := TX11) (N := 13) hx hb hts inb_X11 hown hK.1 hP 0 rfl rfl 0 (by decide) (hts _ wd_422) (fun _ h9 => h9) hx0 dX11_feed_1 ?_
  refine va_getN (D := D) (own := RX11) (ci := 3) (v := .ref tp) (C := RX3) (T := TX3) (N := 4) hx hb hts inb_X3 hown hK.1 hP 1 rfl rfl 0 (by decide) (hK.nf 50 rfl) (fun _ h9 => h9) rfl dX11_feed_4 ?_
  refine lv_astore (lv' := [(6, .ref tp), (0, .ref x0), (1, .int p0), (2, .int p1), (3, .int p2), (4, .int p3), (5, .int p4)]) hx hb dX11_feed_7 hl (by decide) rfl (fun ls hl => ?_)
  refine lv_aload hx hb dX11_feed_9 (lv_at hl 0 rfl) ?_
  refine va_getN (D := D) (own := RX11) (ci := 6) (v := .int 0) (C := RX6) (T := TX6) (N := 5) hx hb hts inb_X6 hown hK.1 hP 2 rfl rfl 0 (by decide) (hK.nf 2 rfl) (fun _ h9 => h9) rfl dX11_feed_11 ?_
  refine lv_bipush (v := 20) hx hb dX11_feed_14 (by decide) ?_
  refine lv_iadd hx hb dX11_feed_16 ?_
  refine fn_top 20 (by decide) ?_
  refine lv_sipush (v := 1400) hx hb dX11_feed_17 (by decide) ?_
  refine lv_icmp_le (tgt := 25) hx hb dX11_feed_20 (by decide) (fun _ => ?_) (fun h9 => absurd (by decide) h9)
  refine lv_aload hx hb dX11_feed_25 (lv_at hl 0 rfl) ?_
  refine lv_iload_n hx hb dX11_feed_27 rfl (lv_at hl 2 rfl) ?_
  refine fn_gov (wc := [(tp, .inr (6, [.int 0, .ref tb, .int 0, .int 0, .int 0])), (tb, .inl (K 1, 1400, .inl fb))]) (wr := [(x0, .inr (11, fx)), (rd, .inr (3, [.ref tp, .ref td, .int 0, .int (-1)]))]) hK hP hD hS hA [2, 3] [0, 1] rfl rfl (by decide) (fun hp => va_runVN (C := RX6) (As := [.int p0]) (rest := []) ⟨hx, hb, hml, hown, hts⟩ (c_X6_put_0 (l := l) (D := D) (K := K) (tp := (tp)) (p0 := (p0)) (tb := (tb)) (fb := (fb)) _) ⟨va_cnB (own := RX11) 1 hts (fn_gin wd_469) rfl rfl rfl (hK.nw 93 rfl) (hts _ wd_3) (by decide +kernel) ⟨Nat.le_of_ble_eq_true rfl, Nat.le_of_ble_eq_true rfl⟩, hts _ wd_468, hts _ wp_0⟩ ⟨fn_blind, va_recv hK.1 hP (ci := 6) (q0 := 2) rfl rfl, hp⟩ rfl rfl hl.1 rfl (lv_room (Nat.le_of_ble_eq_true rfl)) dX11_feed_28 ⟨Nat.le_of_ble_eq_true rfl, Nat.le_of_ble_eq_true rfl⟩) (fun u1 H locs hwu1 hP hD hS => ?_)
  have hP : va_P D vwCl [(x0, .inr (11, fx)), (rd, .inr (3, [.ref tp, .ref td, .int 0, .int (-1)])), (tp, .inr (6, [.int 4, .ref tb, .int 0, .int 0, .int 0])), (tb, .inl (K 1, 1400, .inl u1))] H := hP
  have hD : va_D A [(x0, .inr (11, fx)), (rd, .inr (3, [.ref tp, .ref td, .int 0, .int (-1)])), (tp, .inr (6, [.int 4, .ref tb, .int 0, .int 0, .int 0])), (tb, .inl (K 1, 1400, .inl u1))] := hD
  refine lv_aload hx hb dX11_feed_31 (lv_at hl 0 rfl) ?_
  refine lv_iload_n hx hb dX11_feed_33 rfl (lv_at hl 3 rfl) ?_
  refine fn_gov (wc := [(tp, .inr (6, [.int 4, .ref tb, .int 0, .int 0, .int 0])), (tb, .inl (K 1, 1400, .inl u1))]) (wr := [(x0, .inr (11, fx)), (rd, .inr (3, [.ref tp, .ref td, .int 0, .int (-1)]))]) hK hP hD hS hA [2, 3] [0, 1] rfl rfl (by decide) (fun hp => va_runVN (C := RX6) (As := [.int p1]) (rest := []) ⟨hx, hb, hml, hown, hts⟩ (c_X6_put_4 (l := l) (D := D) (K := K) (tp := (tp)) (p0 := (p1)) (tb := (tb)) (fb := (u1)) _) ⟨va_cnB (own := RX11) 1 hts (fn_gin wd_469) rfl rfl rfl (hK.nw 93 rfl) (hts _ wd_3) (by decide +kernel) ⟨Nat.le_of_ble_eq_true rfl, Nat.le_of_ble_eq_true rfl⟩, hts _ wd_468, hts _ wp_0⟩ ⟨fn_blind, va_recv hK.1 hP (ci := 6) (q0 := 2) rfl rfl, hp⟩ rfl rfl hl.1 rfl (lv_room (Nat.le_of_ble_eq_true rfl)) dX11_feed_34 ⟨Nat.le_of_ble_eq_true rfl, Nat.le_of_ble_eq_true rfl⟩) (fun u3 H locs hwu3 hP hD hS => ?_)
  have hP : va_P D vwCl [(x0, .inr (11, fx)), (rd, .inr (3, [.ref tp, .ref td, .int 0, .int (-1)])), (tp, .inr (6, [.int 8, .ref tb, .int 0, .int 0, .int 0])), (tb, .inl (K 1, 1400, .inl u3))] H := hP
  have hD : va_D A [(x0, .inr (11, fx)), (rd, .inr (3, [.ref tp, .ref td, .int 0, .int (-1)])), (tp, .inr (6, [.int 8, .ref tb, .int 0, .int 0, .int 0])), (tb, .inl (K 1, 1400, .inl u3))] := hD
  refine lv_aload hx hb dX11_feed_37 (lv_at hl 0 rfl) ?_
  refine lv_iload_n hx hb dX11_feed_39 rfl (lv_at hl 4 rfl) ?_
  refine fn_gov (wc := [(tp, .inr (6, [.int 8, .ref tb, .int 0, .int 0, .int 0])), (tb, .inl (K 1, 1400, .inl u3))]) (wr := [(x0, .inr (11, fx)), (rd, .inr (3, [.ref tp, .ref td, .int 0, .int (-1)]))]) hK hP hD hS hA [2, 3] [0, 1] rfl rfl (by decide) (fun hp => va_runVN (C := RX6) (As := [.int p2]) (rest := []) ⟨hx, hb, hml, hown, hts⟩ (c_X6_put_8 (l := l) (D := D) (K := K) (tp := (tp)) (p0 := (p2)) (tb := (tb)) (fb := (u3)) _) ⟨va_cnB (own := RX11) 1 hts (fn_gin wd_469) rfl rfl rfl (hK.nw 93 rfl) (hts _ wd_3) (by decide +kernel) ⟨Nat.le_of_ble_eq_true rfl, Nat.le_of_ble_eq_true rfl⟩, hts _ wd_468, hts _ wp_0⟩ ⟨fn_blind, va_recv hK.1 hP (ci := 6) (q0 := 2) rfl rfl, hp⟩ rfl rfl hl.1 rfl (lv_room (Nat.le_of_ble_eq_true rfl)) dX11_feed_40 ⟨Nat.le_of_ble_eq_true rfl, Nat.le_of_ble_eq_true rfl⟩) (fun u5 H locs hwu5 hP hD hS => ?_)
  have hP : va_P D vwCl [(x0, .inr (11, fx)), (rd, .inr (3, [.ref tp, .ref td, .int 0, .int (-1)])), (tp, .inr (6, [.int 12, .ref tb, .int 0, .int 0, .int 0])), (tb, .inl (K 1, 1400, .inl u5))] H := hP
  have hD : va_D A [(x0, .inr (11, fx)), (rd, .inr (3, [.ref tp, .ref td, .int 0, .int (-1)])), (tp, .inr (6, [.int 12, .ref tb, .int 0, .int 0, .int 0])), (tb, .inl (K 1, 1400, .inl u5))] := hD
  refine fn_at 43 rfl ?_
  refine lv_aload hx hb dX11_feed_43 (lv_at hl 0 rfl) ?_
  refine lv_iload hx hb dX11_feed_45 (lv_at hl 5 rfl) ?_
  refine fn_gov (wc := [(tp, .inr (6, [.int 12, .ref tb, .int 0, .int 0, .int 0])), (tb, .inl (K 1, 1400, .inl u5))]) (wr := [(x0, .inr (11, fx)), (rd, .inr (3, [.ref tp, .ref td, .int 0, .int (-1)]))]) hK hP hD hS hA [2, 3] [0, 1] rfl rfl (by decide) (fun hp => va_runVN (C := RX6) (As := [.int p3]) (rest := []) ⟨hx, hb, hml, hown, hts⟩ (c_X6_put_12 (l := l) (D := D) (K := K) (tp := (tp)) (p0 := (p3)) (tb := (tb)) (fb := (u5)) _) ⟨va_cnB (own := RX11) 1 hts (fn_gin wd_469) rfl rfl rfl (hK.nw 93 rfl) (hts _ wd_3) (by decide +kernel) ⟨Nat.le_of_ble_eq_true rfl, Nat.le_of_ble_eq_true rfl⟩, hts _ wd_468, hts _ wp_0⟩ ⟨fn_blind, va_recv hK.1 hP (ci := 6) (q0 := 2) rfl rfl, hp⟩ rfl rfl hl.1 rfl (lv_room (Nat.le_of_ble_eq_true rfl)) dX11_feed_47 ⟨Nat.le_of_ble_eq_true rfl, Nat.le_of_ble_eq_true rfl⟩) (fun u7 H locs hwu7 hP hD hS => ?_)
  have hP : va_P D vwCl [(x0, .inr (11, fx)), (rd, .inr (3, [.ref tp, .ref td, .int 0, .int (-1)])), (tp, .inr (6, [.int 16, .ref tb, .int 0, .int 0, .int 0])), (tb, .inl (K 1, 1400, .inl u7))] H := hP
  have hD : va_D A [(x0, .inr (11, fx)), (rd, .inr (3, [.ref tp, .ref td, .int 0, .int (-1)])), (tp, .inr (6, [.int 16, .ref tb, .int 0, .int 0, .int 0])), (tb, .inl (K 1, 1400, .inl u7))] := hD
  refine lv_aload hx hb dX11_feed_50 (lv_at hl 0 rfl) ?_
  refine lv_iload hx hb dX11_feed_52 (lv_at hl 6 rfl) ?_
  refine fn_gov (wc := [(tp, .inr (6, [.int 16, .ref tb, .int 0, .int 0, .int 0])), (tb, .inl (K 1, 1400, .inl u7))]) (wr := [(x0, .inr (11, fx)), (rd, .inr (3, [.ref tp, .ref td, .int 0, .int (-1)]))]) hK hP hD hS hA [2, 3] [0, 1] rfl rfl (by decide) (fun hp => va_runVN (C := RX6) (As := [.int p4]) (rest := []) ⟨hx, hb, hml, hown, hts⟩ (c_X6_put_16 (l := l) (D := D) (K := K) (tp := (tp)) (p0 := (p4)) (tb := (tb)) (fb := (u7)) _) ⟨va_cnB (own := RX11) 1 hts (fn_gin wd_469) rfl rfl rfl (hK.nw 93 rfl) (hts _ wd_3) (by decide +kernel) ⟨Nat.le_of_ble_eq_true rfl, Nat.le_of_ble_eq_true rfl⟩, hts _ wd_468, hts _ wp_0⟩ ⟨fn_blind, va_recv hK.1 hP (ci := 6) (q0 := 2) rfl rfl, hp⟩ rfl rfl hl.1 rfl (lv_room (Nat.le_of_ble_eq_true rfl)) dX11_feed_54 ⟨Nat.le_of_ble_eq_true rfl, Nat.le_of_ble_eq_true rfl⟩) (fun u9 H locs hwu9 hP hD hS => ?_)
  have hP : va_P D vwCl [(x0, .inr (11, fx)), (rd, .inr (3, [.ref tp, .ref td, .int 0, .int (-1)])), (tp, .inr (6, [.int 20, .ref tb, .int 0, .int 0, .int 0])), (tb, .inl (K 1, 1400, .inl u9))] H := hP
  have hD : va_D A [(x0, .inr (11, fx)), (rd, .inr (3, [.ref tp, .ref td, .int 0, .int (-1)])), (tp, .inr (6, [.int 20, .ref tb, .int 0, .int 0, .int 0])), (tb, .inl (K 1, 1400, .inl u9))] := hD
  refine lv_aload hx hb dX11_feed_57 (lv_at hl 0 rfl) ?_
  refine va_getN (D := D) (own := RX11) (ci := 6) (v := .int 20) (C := RX6) (T := TX6) (N := 5) hx hb hts inb_X6 hown hK.1 hP 2 rfl rfl 0 (by decide) (hK.nf 2 rfl) (fun _ h9 => h9) rfl dX11_feed_59 ?_
  exact fn_iret hx hb hr hlocks rfl hP hD hS () (by first | rfl | decide) [] (by decide) rfl dX11_feed_62
theorem dX7_clear_0 : decode cX7_clear 0 = .ok (.aload_n 0, 1) := by decide +kernel
theorem dX7_clear_1 : decode cX7_clear 1 = .ok (.iconst 0, 1) := by decide +kernel
theorem dX7_clear_2 : decode cX7_clear 2 = .ok (.putfield 30, 3) := by decide +kernel
theorem dX7_clear_5 : decode cX7_clear 5 = .ok (.aload_n 0, 1) := by decide +kernel
theorem dX7_clear_6 : decode cX7_clear 6 = .ok (.iconst 0, 1) := by decide +kernel
theorem dX7_clear_7 : decode cX7_clear 7 = .ok (.putfield 34, 3) := by decide +kernel
theorem dX7_clear_10 : decode cX7_clear 10 = .ok (.aload_n 0, 1) := by decide +kernel
theorem dX7_clear_11 : decode cX7_clear 11 = .ok (.iconst 0, 1) := by decide +kernel
theorem dX7_clear_12 : decode cX7_clear 12 = .ok (.putfield 37, 3) := by decide +kernel
theorem dX7_clear_15 : decode cX7_clear 15 = .ok (.aload_n 0, 1) := by decide +kernel
theorem dX7_clear_16 : decode cX7_clear 16 = .ok (.iconst 0, 1) := by decide +kernel
theorem dX7_clear_17 : decode cX7_clear 17 = .ok (.putfield 40, 3) := by decide +kernel
theorem dX7_clear_20 : decode cX7_clear 20 = .ok (.aload_n 0, 1) := by decide +kernel
theorem dX7_clear_21 : decode cX7_clear 21 = .ok (.iconst 0, 1) := by decide +kernel
theorem dX7_clear_22 : decode cX7_clear 22 = .ok (.putfield 43, 3) := by decide +kernel
theorem dX7_clear_25 : decode cX7_clear 25 = .ok (.aload_n 0, 1) := by decide +kernel
theorem dX7_clear_26 : decode cX7_clear 26 = .ok (.iconst 0, 1) := by decide +kernel
theorem dX7_clear_27 : decode cX7_clear 27 = .ok (.putfield 46, 3) := by decide +kernel
theorem dX7_clear_30 : decode cX7_clear 30 = .ok (.aload_n 0, 1) := by decide +kernel
theorem dX7_clear_31 : decode cX7_clear 31 = .ok (.iconst 0, 1) := by decide +kernel
theorem dX7_clear_32 : decode cX7_clear 32 = .ok (.putfield 49, 3) := by decide +kernel
theorem dX7_clear_35 : decode cX7_clear 35 = .ok (.aload_n 0, 1) := by decide +kernel
theorem dX7_clear_36 : decode cX7_clear 36 = .ok (.iconst 0, 1) := by decide +kernel
theorem dX7_clear_37 : decode cX7_clear 37 = .ok (.putfield 52, 3) := by decide +kernel
theorem dX7_clear_40 : decode cX7_clear 40 = .ok (.aload_n 0, 1) := by decide +kernel
theorem dX7_clear_41 : decode cX7_clear 41 = .ok (.iconst 0, 1) := by decide +kernel
theorem dX7_clear_42 : decode cX7_clear 42 = .ok (.putfield 55, 3) := by decide +kernel
theorem dX7_clear_45 : decode cX7_clear 45 = .ok (.return_, 1) := by decide +kernel
set_option maxHeartbeats 4000000 in
set_option maxRecDepth 100000 in
theorem c_X7_clear (l : Launch) (D : va_G) (K : Nat → ClassId) (td d0 d1 d2 d3 d4 d5 : Nat) : fn_CV (S := Unit) l D K yX7_clear (fn_ws yX7_clear cX7_clear 1 none) ({ frames := 4, cells := 0, slots := 0, locals := 100 }) [.ref td] [(td, .inr (7, [.int 0, .int 0, .int 0, .int 0, .int 0, .int 0, .int 0, .int 0, .int 0, .ref d0, .ref d1, .ref d2, .ref d3, .ref d4, .ref d5]))] (fun _ => True) (fun _ => [(td, .inr (7, [.int 0, .int 0, .int 0, .int 0, .int 0, .int 0, .int 0, .int 0, .int 0, .ref d0, .ref d1, .ref d2, .ref d3, .ref d4, .ref d5]))]) 0 0 := by
  refine fn_inV (cc := cX7_clear) (maxL := 1) (ret := none) (by decide) rfl (Nat.le_of_ble_eq_true rfl) ?_
  intro p e s m below meth c A ls B hA hP hD hS hl
  obtain ⟨hx, hb, hr, hml, hts, hown, hlocks, hin, hK⟩ := B
  have hown : s.vm.findClass RX7 = some m.cls := hown
  have hts := fun w h => hts w (List.mem_cons_of_mem _ h)
  have hl : lv_has ls 1 [(0, .ref td)] := hl
  refine lv_aload_n hx hb dX7_clear_0 rfl (lv_at hl 0 rfl) ?_
  refine lv_iconst (v := 0) hx hb dX7_clear_1 (by decide) ?_
  refine va_put (D := D) (own := RX7) (ci := 7) (v := .int 0) (ty := .int) (C := RX7) (T := TX7) (N := 15) hx hb hts inb_X7 tyX7 tyX7_ok nmX7 hown hK.1 hP hD hS 0 rfl rfl 0 (by decide) (hts _ wd_68) (fun _ h9 => h9) rfl (by decide +kernel) rfl rfl (Nat.le_of_ble_eq_true rfl) dX7_clear_2 (fun H locs hP hD hS => ?_)
  have hP : va_P D vwCl [(td, .inr (7, [.int 0, .int 0, .int 0, .int 0, .int 0, .int 0, .int 0, .int 0, .int 0, .ref d0, .ref d1, .ref d2, .ref d3, .ref d4, .ref d5]))] H := hP
  have hD : va_D A [(td, .inr (7, [.int 0, .int 0, .int 0, .int 0, .int 0, .int 0, .int 0, .int 0, .int 0, .ref d0, .ref d1, .ref d2, .ref d3, .ref d4, .ref d5]))] := hD
  refine lv_aload_n hx hb dX7_clear_5 rfl (lv_at hl 0 rfl) ?_
  refine lv_iconst (v := 0) hx hb dX7_clear_6 (by decide) ?_
  refine va_put (D := D) (own := RX7) (ci := 7) (v := .int 0) (ty := .int) (C := RX7) (T := TX7) (N := 15) hx hb hts inb_X7 tyX7 tyX7_ok nmX7 hown hK.1 hP hD hS 0 rfl rfl 1 (by decide) (hts _ wd_72) (fun _ h9 => h9) rfl (by decide +kernel) rfl rfl (Nat.le_of_ble_eq_true rfl) dX7_clear_7 (fun H locs hP hD hS => ?_)
  have hP : va_P D vwCl [(td, .inr (7, [.int 0, .int 0, .int 0, .int 0, .int 0, .int 0, .int 0, .int 0, .int 0, .ref d0, .ref d1, .ref d2, .ref d3, .ref d4, .ref d5]))] H := hP
  have hD : va_D A [(td, .inr (7, [.int 0, .int 0, .int 0, .int 0, .int 0, .int 0, .int 0, .int 0, .int 0, .ref d0, .ref d1, .ref d2, .ref d3, .ref d4, .ref d5]))] := hD
  refine lv_aload_n hx hb dX7_clear_10 rfl (lv_at hl 0 rfl) ?_
  refine lv_iconst (v := 0) hx hb dX7_clear_11 (by decide) ?_
  refine va_put (D := D) (own := RX7) (ci := 7) (v := .int 0) (ty := .int) (C := RX7) (T := TX7) (N := 15) hx hb hts inb_X7 tyX7 tyX7_ok nmX7 hown hK.1 hP hD hS 0 rfl rfl 2 (by decide) (hts _ wd_75) (fun _ h9 => h9) rfl (by decide +kernel) rfl rfl (Nat.le_of_ble_eq_true rfl) dX7_clear_12 (fun H locs hP hD hS => ?_)
  have hP : va_P D vwCl [(td, .inr (7, [.int 0, .int 0, .int 0, .int 0, .int 0, .int 0, .int 0, .int 0, .int 0, .ref d0, .ref d1, .ref d2, .ref d3, .ref d4, .ref d5]))] H := hP
  have hD : va_D A [(td, .inr (7, [.int 0, .int 0, .int 0, .int 0, .int 0, .int 0, .int 0, .int 0, .int 0, .ref d0, .ref d1, .ref d2, .ref d3, .ref d4, .ref d5]))] := hD
  refine lv_aload_n hx hb dX7_clear_15 rfl (lv_at hl 0 rfl) ?_
  refine lv_iconst (v := 0) hx hb dX7_clear_16 (by decide) ?_
  refine va_put (D := D) (own := RX7) (ci := 7) (v := .int 0) (ty := .int) (C := RX7) (T := TX7) (N := 15) hx hb hts inb_X7 tyX7 tyX7_ok nmX7 hown hK.1 hP hD hS 0 rfl rfl 3 (by decide) (hts _ wd_80) (fun _ h9 => h9) rfl (by decide +kernel) rfl rfl (Nat.le_of_ble_eq_true rfl) dX7_clear_17 (fun H locs hP hD hS => ?_)
  have hP : va_P D vwCl [(td, .inr (7, [.int 0, .int 0, .int 0, .int 0, .int 0, .int 0, .int 0, .int 0, .int 0, .ref d0, .ref d1, .ref d2, .ref d3, .ref d4, .ref d5]))] H := hP
  have hD : va_D A [(td, .inr (7, [.int 0, .int 0, .int 0, .int 0, .int 0, .int 0, .int 0, .int 0, .int 0, .ref d0, .ref d1, .ref d2, .ref d3, .ref d4, .ref d5]))] := hD
  refine lv_aload_n hx hb dX7_clear_20 rfl (lv_at hl 0 rfl) ?_
  refine lv_iconst (v := 0) hx hb dX7_clear_21 (by decide) ?_
  refine va_put (D := D) (own := RX7) (ci := 7) (v := .int 0) (ty := .int) (C := RX7) (T := TX7) (N := 15) hx hb hts inb_X7 tyX7 tyX7_ok nmX7 hown hK.1 hP hD hS 0 rfl rfl 4 (by decide) (hts _ wd_87) (fun _ h9 => h9) rfl (by decide +kernel) rfl rfl (Nat.le_of_ble_eq_true rfl) dX7_clear_22 (fun H locs hP hD hS => ?_)
  have hP : va_P D vwCl [(td, .inr (7, [.int 0, .int 0, .int 0, .int 0, .int 0, .int 0, .int 0, .int 0, .int 0, .ref d0, .ref d1, .ref d2, .ref d3, .ref d4, .ref d5]))] H := hP
  have hD : va_D A [(td, .inr (7, [.int 0, .int 0, .int 0, .int 0, .int 0, .int 0, .int 0, .int 0, .int 0, .ref d0, .ref d1, .ref d2, .ref d3, .ref d4, .ref d5]))] := hD
  refine lv_aload_n hx hb dX7_clear_25 rfl (lv_at hl 0 rfl) ?_
  refine lv_iconst (v := 0) hx hb dX7_clear_26 (by decide) ?_
  refine va_put (D := D) (own := RX7) (ci := 7) (v := .int 0) (ty := .int) (C := RX7) (T := TX7) (N := 15) hx hb hts inb_X7 tyX7 tyX7_ok nmX7 hown hK.1 hP hD hS 0 rfl rfl 5 (by decide) (hts _ wd_92) (fun _ h9 => h9) rfl (by decide +kernel) rfl rfl (Nat.le_of_ble_eq_true rfl) dX7_clear_27 (fun H locs hP hD hS => ?_)
  have hP : va_P D vwCl [(td, .inr (7, [.int 0, .int 0, .int 0, .int 0, .int 0, .int 0, .int 0, .int 0, .int 0, .ref d0, .ref d1, .ref d2, .ref d3, .ref d4, .ref d5]))] H := hP
  have hD : va_D A [(td, .inr (7, [.int 0, .int 0, .int 0, .int 0, .int 0, .int 0, .int 0, .int 0, .int 0, .ref d0, .ref d1, .ref d2, .ref d3, .ref d4, .ref d5]))] := hD
  refine lv_aload_n hx hb dX7_clear_30 rfl (lv_at hl 0 rfl) ?_
  refine fn_at 31 rfl ?_
  refine lv_iconst (v := 0) hx hb dX7_clear_31 (by decide) ?_
  refine va_put (D := D) (own := RX7) (ci := 7) (v := .int 0) (ty := .int) (C := RX7) (T := TX7) (N := 15) hx hb hts inb_X7 tyX7 tyX7_ok nmX7 hown hK.1 hP hD hS 0 rfl rfl 6 (by decide) (hts _ wd_99) (fun _ h9 => h9) rfl (by decide +kernel) rfl rfl (Nat.le_of_ble_eq_true rfl) dX7_clear_32 (fun H locs hP hD hS => ?_)
  have hP : va_P D vwCl [(td, .inr (7, [.int 0, .int 0, .int 0, .int 0, .int 0, .int 0, .int 0, .int 0, .int 0, .ref d0, .ref d1, .ref d2, .ref d3, .ref d4, .ref d5]))] H := hP
  have hD : va_D A [(td, .inr (7, [.int 0, .int 0, .int 0, .int 0, .int 0, .int 0, .int 0, .int 0, .int 0, .ref d0, .ref d1, .ref d2, .ref d3, .ref d4, .ref d5]))] := hD
  refine lv_aload_n hx hb dX7_clear_35 rfl (lv_at hl 0 rfl) ?_
  refine lv_iconst (v := 0) hx hb dX7_clear_36 (by decide) ?_
  refine va_put (D := D) (own := RX7) (ci := 7) (v := .int 0) (ty := .int) (C := RX7) (T := TX7) (N := 15) hx hb hts inb_X7 tyX7 tyX7_ok nmX7 hown hK.1 hP hD hS 0 rfl rfl 7 (by decide) (hts _ wd_103) (fun _ h9 => h9) rfl (by decide +kernel) rfl rfl (Nat.le_of_ble_eq_true rfl) dX7_clear_37 (fun H locs hP hD hS => ?_)
  have hP : va_P D vwCl [(td, .inr (7, [.int 0, .int 0, .int 0, .int 0, .int 0, .int 0, .int 0, .int 0, .int 0, .ref d0, .ref d1, .ref d2, .ref d3, .ref d4, .ref d5]))] H := hP
  have hD : va_D A [(td, .inr (7, [.int 0, .int 0, .int 0, .int 0, .int 0, .int 0, .int 0, .int 0, .int 0, .ref d0, .ref d1, .ref d2, .ref d3, .ref d4, .ref d5]))] := hD
  refine lv_aload_n hx hb dX7_clear_40 rfl (lv_at hl 0 rfl) ?_
  refine lv_iconst (v := 0) hx hb dX7_clear_41 (by decide) ?_
  refine va_put (D := D) (own := RX7) (ci := 7) (v := .int 0) (ty := .int) (C := RX7) (T := TX7) (N := 15) hx hb hts inb_X7 tyX7 tyX7_ok nmX7 hown hK.1 hP hD hS 0 rfl rfl 8 (by decide) (hts _ wd_106) (fun _ h9 => h9) rfl (by decide +kernel) rfl rfl (Nat.le_of_ble_eq_true rfl) dX7_clear_42 (fun H locs hP hD hS => ?_)
  have hP : va_P D vwCl [(td, .inr (7, [.int 0, .int 0, .int 0, .int 0, .int 0, .int 0, .int 0, .int 0, .int 0, .ref d0, .ref d1, .ref d2, .ref d3, .ref d4, .ref d5]))] H := hP
  have hD : va_D A [(td, .inr (7, [.int 0, .int 0, .int 0, .int 0, .int 0, .int 0, .int 0, .int 0, .int 0, .ref d0, .ref d1, .ref d2, .ref d3, .ref d4, .ref d5]))] := hD
  exact fn_vret hx hb hr hlocks hP hD hS () trivial [0] (by decide) rfl dX7_clear_45
theorem dX6_moveOn_0 : decode cX6_moveOn 0 = .ok (.aload_n 0, 1) := by decide +kernel
theorem dX6_moveOn_1 : decode cX6_moveOn 1 = .ok (.aload_n 0, 1) := by decide +kernel
theorem dX6_moveOn_2 : decode cX6_moveOn 2 = .ok (.getfield 19, 3) := by decide +kernel
theorem dX6_moveOn_5 : decode cX6_moveOn 5 = .ok (.putfield 25, 3) := by decide +kernel
theorem dX6_moveOn_8 : decode cX6_moveOn 8 = .ok (.aload_n 0, 1) := by decide +kernel
theorem dX6_moveOn_9 : decode cX6_moveOn 9 = .ok (.getfield 25, 3) := by decide +kernel
theorem dX6_moveOn_12 : decode cX6_moveOn 12 = .ok (.aload_n 0, 1) := by decide +kernel
theorem dX6_moveOn_13 : decode cX6_moveOn 13 = .ok (.getfield 15, 3) := by decide +kernel
theorem dX6_moveOn_16 : decode cX6_moveOn 16 = .ok (.if_icmp .ge 44, 3) := by decide +kernel
theorem dX6_moveOn_60 : decode cX6_moveOn 60 = .ok (.aload_n 0, 1) := by decide +kernel
theorem dX6_moveOn_61 : decode cX6_moveOn 61 = .ok (.getfield 25, 3) := by decide +kernel
theorem dX6_moveOn_64 : decode cX6_moveOn 64 = .ok (.aload_n 0, 1) := by decide +kernel
theorem dX6_moveOn_65 : decode cX6_moveOn 65 = .ok (.getfield 15, 3) := by decide +kernel
theorem dX6_moveOn_68 : decode cX6_moveOn 68 = .ok (.if_icmp .lt 25, 3) := by decide +kernel
theorem dX6_moveOn_71 : decode cX6_moveOn 71 = .ok (.aload_n 0, 1) := by decide +kernel
theorem dX6_moveOn_72 : decode cX6_moveOn 72 = .ok (.iconst 0, 1) := by decide +kernel
theorem dX6_moveOn_73 : decode cX6_moveOn 73 = .ok (.putfield 28, 3) := by decide +kernel
theorem dX6_moveOn_76 : decode cX6_moveOn 76 = .ok (.aload_n 0, 1) := by decide +kernel
theorem dX6_moveOn_77 : decode cX6_moveOn 77 = .ok (.aload_n 0, 1) := by decide +kernel
theorem dX6_moveOn_78 : decode cX6_moveOn 78 = .ok (.getfield 15, 3) := by decide +kernel
theorem dX6_moveOn_81 : decode cX6_moveOn 81 = .ok (.putfield 25, 3) := by decide +kernel
theorem dX6_moveOn_84 : decode cX6_moveOn 84 = .ok (.aload_n 0, 1) := by decide +kernel
theorem dX6_moveOn_85 : decode cX6_moveOn 85 = .ok (.aload_n 0, 1) := by decide +kernel
theorem dX6_moveOn_86 : decode cX6_moveOn 86 = .ok (.getfield 15, 3) := by decide +kernel
theorem dX6_moveOn_89 : decode cX6_moveOn 89 = .ok (.putfield 19, 3) := by decide +kernel
theorem dX6_moveOn_92 : decode cX6_moveOn 92 = .ok (.return_, 1) := by decide +kernel
set_option maxHeartbeats 4000000 in
set_option maxRecDepth 100000 in
theorem c_X6_moveOn (l : Launch) (D : va_G) (K : Nat → ClassId) (tp tb : Nat) : fn_CV (S := Unit) l D K yX6_moveOn (fn_ws yX6_moveOn cX6_moveOn 1 none) ({ frames := 4, cells := 0, slots := 0, locals := 100 }) [.ref tp] [(tp, .inr (6, [.int 0, .ref tb, .int 0, .int 0, .int 0]))] (fun _ => True) (fun _ => [(tp, .inr (6, [.int 0, .ref tb, .int 0, .int 0, .int 0]))]) 0 0 := by
  refine fn_inV (cc := cX6_moveOn) (maxL := 1) (ret := none) (by decide) rfl (Nat.le_of_ble_eq_true rfl) ?_
  intro p e s m below meth c A ls B hA hP hD hS hl
  obtain ⟨hx, hb, hr, hml, hts, hown, hlocks, hin, hK⟩ := B
  have hown : s.vm.findClass RX6 = some m.cls := hown
  have hts := fun w h => hts w (List.mem_cons_of_mem _ h)
  have hl : lv_has ls 1 [(0, .ref tp)] := hl
  refine lv_aload_n hx hb dX6_moveOn_0 rfl (lv_at hl 0 rfl) ?_
  refine lv_aload_n hx hb dX6_moveOn_1 rfl (lv_at hl 0 rfl) ?_
  refine va_get (D := D) (own := RX6) (ci := 6) (v := .int 0) (C := RX6) (T := TX6) (N := 5) hx hb hts inb_X6 hown hK.1 hP 0 rfl rfl 4 (by decide) (hts _ wd_49) (fun _ h9 => h9) rfl dX6_moveOn_2 ?_
  refine va_put (D := D) (own := RX6) (ci := 6) (v := .int 0) (ty := .int) (C := RX6) (T := TX6) (N := 5) hx hb hts inb_X6 tyX6 tyX6_ok nmX6 hown hK.1 hP hD hS 0 rfl rfl 3 (by decide) (hts _ wd_48) (fun _ h9 => h9) rfl (by decide +kernel) rfl rfl (Nat.le_of_ble_eq_true rfl) dX6_moveOn_5 (fun H locs hP hD hS => ?_)
  have hP : va_P D vwCl [(tp, .inr (6, [.int 0, .ref tb, .int 0, .int 0, .int 0]))] H := hP
  have hD : va_D A [(tp, .inr (6, [.int 0, .ref tb, .int 0, .int 0, .int 0]))] := hD
  refine lv_aload_n hx hb dX6_moveOn_8 rfl (lv_at hl 0 rfl) ?_
  refine va_get (D := D) (own := RX6) (ci := 6) (v := .int 0) (C := RX6) (T := TX6) (N := 5) hx hb hts inb_X6 hown hK.1 hP 0 rfl rfl 3 (by decide) (hts _ wd_48) (fun _ h9 => h9) rfl dX6_moveOn_9 ?_
  refine lv_aload_n hx hb dX6_moveOn_12 rfl (lv_at hl 0 rfl) ?_
  refine va_get (D := D) (own := RX6) (ci := 6) (v := .int 0) (C := RX6) (T := TX6) (N := 5) hx hb hts inb_X6 hown hK.1 hP 0 rfl rfl 0 (by decide) (hts _ wd_42) (fun _ h9 => h9) rfl dX6_moveOn_13 ?_
  refine lv_icmp_ge (tgt := 60) hx hb dX6_moveOn_16 (by decide) (fun _ => ?_) (fun h9 => absurd (by decide) h9)
  refine lv_aload_n hx hb dX6_moveOn_60 rfl (lv_at hl 0 rfl) ?_
  refine va_get (D := D) (own := RX6) (ci := 6) (v := .int 0) (C := RX6) (T := TX6) (N := 5) hx hb hts inb_X6 hown hK.1 hP 0 rfl rfl 3 (by decide) (hts _ wd_48) (fun _ h9 => h9) rfl dX6_moveOn_61 ?_
  refine lv_aload_n hx hb dX6_moveOn_64 rfl (lv_at hl 0 rfl) ?_
  refine va_get (D := D) (own := RX6) (ci := 6) (v := .int 0) (C := RX6) (T := TX6) (N := 5) hx hb hts inb_X6 hown hK.1 hP 0 rfl rfl 0 (by decide) (hts _ wd_42) (fun _ h9 => h9) rfl dX6_moveOn_65 ?_
  refine lv_icmp_lt (tgt := 93) hx hb dX6_moveOn_68 (by decide) (fun h9 => absurd h9 (by decide)) (fun _ => ?_)
  refine lv_aload_n hx hb dX6_moveOn_71 rfl (lv_at hl 0 rfl) ?_
  refine lv_iconst (v := 0) hx hb dX6_moveOn_72 (by decide) ?_
  refine va_put (D := D) (own := RX6) (ci := 6) (v := .int 0) (ty := .int) (C := RX6) (T := TX6) (N := 5) hx hb hts inb_X6 tyX6 tyX6_ok nmX6 hown hK.1 hP hD hS 0 rfl rfl 2 (by decide) (hts _ wd_46) (fun _ h9 => h9) rfl (by decide +kernel) rfl rfl (Nat.le_of_ble_eq_true rfl) dX6_moveOn_73 (fun H locs hP hD hS => ?_)
  have hP : va_P D vwCl [(tp, .inr (6, [.int 0, .ref tb, .int 0, .int 0, .int 0]))] H := hP
  have hD : va_D A [(tp, .inr (6, [.int 0, .ref tb, .int 0, .int 0, .int 0]))] := hD
  refine lv_aload_n hx hb dX6_moveOn_76 rfl (lv_at hl 0 rfl) ?_
  refine lv_aload_n hx hb dX6_moveOn_77 rfl (lv_at hl 0 rfl) ?_
  refine fn_at 78 rfl ?_
  refine va_get (D := D) (own := RX6) (ci := 6) (v := .int 0) (C := RX6) (T := TX6) (N := 5) hx hb hts inb_X6 hown hK.1 hP 0 rfl rfl 0 (by decide) (hts _ wd_42) (fun _ h9 => h9) rfl dX6_moveOn_78 ?_
  refine va_put (D := D) (own := RX6) (ci := 6) (v := .int 0) (ty := .int) (C := RX6) (T := TX6) (N := 5) hx hb hts inb_X6 tyX6 tyX6_ok nmX6 hown hK.1 hP hD hS 0 rfl rfl 3 (by decide) (hts _ wd_48) (fun _ h9 => h9) rfl (by decide +kernel) rfl rfl (Nat.le_of_ble_eq_true rfl) dX6_moveOn_81 (fun H locs hP hD hS => ?_)
  have hP : va_P D vwCl [(tp, .inr (6, [.int 0, .ref tb, .int 0, .int 0, .int 0]))] H := hP
  have hD : va_D A [(tp, .inr (6, [.int 0, .ref tb, .int 0, .int 0, .int 0]))] := hD
  refine lv_aload_n hx hb dX6_moveOn_84 rfl (lv_at hl 0 rfl) ?_
  refine lv_aload_n hx hb dX6_moveOn_85 rfl (lv_at hl 0 rfl) ?_
  refine va_get (D := D) (own := RX6) (ci := 6) (v := .int 0) (C := RX6) (T := TX6) (N := 5) hx hb hts inb_X6 hown hK.1 hP 0 rfl rfl 0 (by decide) (hts _ wd_42) (fun _ h9 => h9) rfl dX6_moveOn_86 ?_
  refine va_put (D := D) (own := RX6) (ci := 6) (v := .int 0) (ty := .int) (C := RX6) (T := TX6) (N := 5) hx hb hts inb_X6 tyX6 tyX6_ok nmX6 hown hK.1 hP hD hS 0 rfl rfl 4 (by decide) (hts _ wd_49) (fun _ h9 => h9) rfl (by decide +kernel) rfl rfl (Nat.le_of_ble_eq_true rfl) dX6_moveOn_89 (fun H locs hP hD hS => ?_)
  have hP : va_P D vwCl [(tp, .inr (6, [.int 0, .ref tb, .int 0, .int 0, .int 0]))] H := hP
  have hD : va_D A [(tp, .inr (6, [.int 0, .ref tb, .int 0, .int 0, .int 0]))] := hD
  exact fn_vret hx hb hr hlocks hP hD hS () trivial [0] (by decide) rfl dX6_moveOn_92
theorem dX6_goToFirstToken_0 : decode cX6_goToFirstToken 0 = .ok (.aload_n 0, 1) := by decide +kernel
theorem dX6_goToFirstToken_1 : decode cX6_goToFirstToken 1 = .ok (.iconst 0, 1) := by decide +kernel
theorem dX6_goToFirstToken_2 : decode cX6_goToFirstToken 2 = .ok (.putfield 19, 3) := by decide +kernel
theorem dX6_goToFirstToken_5 : decode cX6_goToFirstToken 5 = .ok (.aload_n 0, 1) := by decide +kernel
theorem dX6_goToFirstToken_6 : decode cX6_goToFirstToken 6 = .ok (.invokevirtual 22, 3) := by decide +kernel
theorem dX6_goToFirstToken_9 : decode cX6_goToFirstToken 9 = .ok (.return_, 1) := by decide +kernel
set_option maxHeartbeats 4000000 in
set_option maxRecDepth 100000 in
theorem c_X6_goToFirstToken (l : Launch) (D : va_G) (K : Nat → ClassId) (tp tb : Nat) : fn_CV (S := Unit) l D K yX6_goToFirstToken (fn_ws yX6_goToFirstToken cX6_goToFirstToken 1 none) ({ frames := 8, cells := 0, slots := 0, locals := 200 }) [.ref tp] [(tp, .inr (6, [.int 0, .ref tb, .int 0, .int 0, .int 0]))] (fun _ => True) (fun _ => [(tp, .inr (6, [.int 0, .ref tb, .int 0, .int 0, .int 0]))]) 0 0 := by
  refine fn_inV (cc := cX6_goToFirstToken) (maxL := 1) (ret := none) (by decide) rfl (Nat.le_of_ble_eq_true rfl) ?_
  intro p e s m below meth c A ls B hA hP hD hS hl
  obtain ⟨hx, hb, hr, hml, hts, hown, hlocks, hin, hK⟩ := B
  have hown : s.vm.findClass RX6 = some m.cls := hown
  have hts := fun w h => hts w (List.mem_cons_of_mem _ h)
  have hl : lv_has ls 1 [(0, .ref tp)] := hl
  refine lv_aload_n hx hb dX6_goToFirstToken_0 rfl (lv_at hl 0 rfl) ?_
  refine lv_iconst (v := 0) hx hb dX6_goToFirstToken_1 (by decide) ?_
  refine va_put (D := D) (own := RX6) (ci := 6) (v := .int 0) (ty := .int) (C := RX6) (T := TX6) (N := 5) hx hb hts inb_X6 tyX6 tyX6_ok nmX6 hown hK.1 hP hD hS 0 rfl rfl 4 (by decide) (hts _ wd_49) (fun _ h9 => h9) rfl (by decide +kernel) rfl rfl (Nat.le_of_ble_eq_true rfl) dX6_goToFirstToken_2 (fun H locs hP hD hS => ?_)
  have hP : va_P D vwCl [(tp, .inr (6, [.int 0, .ref tb, .int 0, .int 0, .int 0]))] H := hP
  have hD : va_D A [(tp, .inr (6, [.int 0, .ref tb, .int 0, .int 0, .int 0]))] := hD
  refine lv_aload_n hx hb dX6_goToFirstToken_5 rfl (lv_at hl 0 rfl) ?_
  refine fn_gov (wc := [(tp, .inr (6, [.int 0, .ref tb, .int 0, .int 0, .int 0]))]) (wr := []) hK hP hD hS hA [0] [] rfl rfl (by decide) (fun hp => va_runV (C := RX6) (As := []) (rest := []) ⟨hx, hb, hml, hown, hts⟩ (c_X6_moveOn (l := l) (D := D) (K := K) (tp := (tp)) (tb := (tb)) _) (cwV 0 hts (fn_ginV (fn_gin wd_493) wd_490 wd_492 wp_4 wd_3) rfl rfl rfl (by decide +kernel) ⟨Nat.le_of_ble_eq_true rfl, Nat.le_of_ble_eq_true rfl⟩) ⟨fn_blind, va_recv hK.1 hP (ci := 6) (q0 := 0) rfl rfl, hp⟩ rfl rfl hl.1 rfl (lv_room (Nat.le_of_ble_eq_true rfl)) dX6_goToFirstToken_6 ⟨Nat.le_of_ble_eq_true rfl, Nat.le_of_ble_eq_true rfl⟩) (fun u1 H locs hwu1 hP hD hS => ?_)
  have hP : va_P D vwCl [(tp, .inr (6, [.int 0, .ref tb, .int 0, .int 0, .int 0]))] H := hP
  have hD : va_D A [(tp, .inr (6, [.int 0, .ref tb, .int 0, .int 0, .int 0]))] := hD
  exact fn_vret hx hb hr hlocks hP hD hS () trivial [0] (by decide) rfl dX6_goToFirstToken_9
theorem dX3_readLines_0 : decode cX3_readLines 0 = .ok (.aload_n 0, 1) := by decide +kernel
theorem dX3_readLines_1 : decode cX3_readLines 1 = .ok (.iconst 0, 1) := by decide +kernel
theorem dX3_readLines_2 : decode cX3_readLines 2 = .ok (.putfield 29, 3) := by decide +kernel
theorem dX3_readLines_5 : decode cX3_readLines 5 = .ok (.aload_n 0, 1) := by decide +kernel
theorem dX3_readLines_6 : decode cX3_readLines 6 = .ok (.iconst (-1), 1) := by decide +kernel
theorem dX3_readLines_7 : decode cX3_readLines 7 = .ok (.putfield 25, 3) := by decide +kernel
theorem dX3_readLines_10 : decode cX3_readLines 10 = .ok (.aload_n 0, 1) := by decide +kernel
theorem dX3_readLines_11 : decode cX3_readLines 11 = .ok (.getfield 21, 3) := by decide +kernel
theorem dX3_readLines_14 : decode cX3_readLines 14 = .ok (.invokevirtual 32, 3) := by decide +kernel
theorem dX3_readLines_17 : decode cX3_readLines 17 = .ok (.aload_n 0, 1) := by decide +kernel
theorem dX3_readLines_18 : decode cX3_readLines 18 = .ok (.getfield 12, 3) := by decide +kernel
theorem dX3_readLines_21 : decode cX3_readLines 21 = .ok (.invokevirtual 35, 3) := by decide +kernel
theorem dX3_readLines_24 : decode cX3_readLines 24 = .ok (.iconst 0, 1) := by decide +kernel
theorem dX3_readLines_25 : decode cX3_readLines 25 = .ok (.istore_n 1, 1) := by decide +kernel
theorem dX3_readLines_26 : decode cX3_readLines 26 = .ok (.iload_n 1, 1) := by decide +kernel
theorem dX3_readLines_27 : decode cX3_readLines 27 = .ok (.sipush 1400, 3) := by decide +kernel
theorem dX3_readLines_30 : decode cX3_readLines 30 = .ok (.if_icmp .ge 47, 3) := by decide +kernel
theorem dX3_readLines_33 : decode cX3_readLines 33 = .ok (.aload_n 0, 1) := by decide +kernel
theorem dX3_readLines_34 : decode cX3_readLines 34 = .ok (.getfield 12, 3) := by decide +kernel
theorem dX3_readLines_37 : decode cX3_readLines 37 = .ok (.getfield 38, 3) := by decide +kernel
theorem dX3_readLines_40 : decode cX3_readLines 40 = .ok (.ifCond .eq 37, 3) := by decide +kernel
theorem dX3_readLines_77 : decode cX3_readLines 77 = .ok (.return_, 1) := by decide +kernel
set_option maxHeartbeats 4000000 in
set_option maxRecDepth 100000 in
theorem c_X3_readLines (l : Launch) (D : va_G) (K : Nat → ClassId) (rd tp tb td d0 d1 d2 d3 d4 d5 : Nat) : fn_CV (S := Unit) l D K yX3_readLines (fn_ws yX3_readLines cX3_readLines 2 none) ({ frames := 12, cells := 0, slots := 0, locals := 300 }) [.ref rd] [(rd, .inr (3, [.ref tp, .ref td, .int 0, .int (-1)])), (tp, .inr (6, [.int 0, .ref tb, .int 0, .int 0, .int 0])), (td, .inr (7, [.int 0, .int 0, .int 0, .int 0, .int 0, .int 0, .int 0, .int 0, .int 0, .ref d0, .ref d1, .ref d2, .ref d3, .ref d4, .ref d5]))] (fun _ => True) (fun _ => [(rd, .inr (3, [.ref tp, .ref td, .int 0, .int (-1)])), (tp, .inr (6, [.int 0, .ref tb, .int 0, .int 0, .int 0])), (td, .inr (7, [.int 0, .int 0, .int 0, .int 0, .int 0, .int 0, .int 0, .int 0, .int 0, .ref d0, .ref d1, .ref d2, .ref d3, .ref d4, .ref d5]))]) 0 0 := by
  refine fn_inV (cc := cX3_readLines) (maxL := 2) (ret := none) (by decide) rfl (Nat.le_of_ble_eq_true rfl) ?_
  intro p e s m below meth c A ls B hA hP hD hS hl
  obtain ⟨hx, hb, hr, hml, hts, hown, hlocks, hin, hK⟩ := B
  have hown : s.vm.findClass RX3 = some m.cls := hown
  have hts := fun w h => hts w (List.mem_cons_of_mem _ h)
  have hl : lv_has ls 2 [(0, .ref rd)] := hl
  refine lv_aload_n hx hb dX3_readLines_0 rfl (lv_at hl 0 rfl) ?_
  refine lv_iconst (v := 0) hx hb dX3_readLines_1 (by decide) ?_
  refine va_put (D := D) (own := RX3) (ci := 3) (v := .int 0) (ty := .int) (C := RX3) (T := TX3) (N := 4) hx hb hts inb_X3 tyX3 tyX3_ok nmX3 hown hK.1 hP hD hS 0 rfl rfl 2 (by decide) (hts _ wd_163) (fun _ h9 => h9) rfl (by decide +kernel) rfl rfl (Nat.le_of_ble_eq_true rfl) dX3_readLines_2 (fun H locs hP hD hS => ?_)
  have hP : va_P D vwCl [(rd, .inr (3, [.ref tp, .ref td, .int 0, .int (-1)])), (tp, .inr (6, [.int 0, .ref tb, .int 0, .int 0, .int 0])), (td, .inr (7, [.int 0, .int 0, .int 0, .int 0, .int 0, .int 0, .int 0, .int 0, .int 0, .ref d0, .ref d1, .ref d2, .ref d3, .ref d4, .ref d5]))] H := hP
  have hD : va_D A [(rd, .inr (3, [.ref tp, .ref td, .int 0, .int (-1)])), (tp, .inr (6, [.int 0, .ref tb, .int 0, .int 0, .int 0])), (td, .inr (7, [.int 0, .int 0, .int 0, .int 0, .int 0, .int 0, .int 0, .int 0, .int 0, .ref d0, .ref d1, .ref d2, .ref d3, .ref d4, .ref d5]))] := hD
  refine lv_aload_n hx hb dX3_readLines_5 rfl (lv_at hl 0 rfl) ?_
  refine lv_iconst (v := (-1)) hx hb dX3_readLines_6 (by decide) ?_
  refine va_put (D := D) (own := RX3) (ci := 3) (v := .int (-1)) (ty := .int) (C := RX3) (T := TX3) (N := 4) hx hb hts inb_X3 tyX3 tyX3_ok nmX3 hown hK.1 hP hD hS 0 rfl rfl 3 (by decide) (hts _ wd_165) (fun _ h9 => h9) rfl (by decide +kernel) rfl rfl (Nat.le_of_ble_eq_true rfl) dX3_readLines_7 (fun H locs hP hD hS => ?_)
  have hP : va_P D vwCl [(rd, .inr (3, [.ref tp, .ref td, .int 0, .int (-1)])), (tp, .inr (6, [.int 0, .ref tb, .int 0, .int 0, .int 0])), (td, .inr (7, [.int 0, .int 0, .int 0, .int 0, .int 0, .int 0, .int 0, .int 0, .int 0, .ref d0, .ref d1, .ref d2, .ref d3, .ref d4, .ref d5]))] H := hP
  have hD : va_D A [(rd, .inr (3, [.ref tp, .ref td, .int 0, .int (-1)])), (tp, .inr (6, [.int 0, .ref tb, .int 0, .int 0, .int 0])), (td, .inr (7, [.int 0, .int 0, .int 0, .int 0, .int 0, .int 0, .int 0, .int 0, .int 0, .ref d0, .ref d1, .ref d2, .ref d3, .ref d4, .ref d5]))] := hD
  refine lv_aload_n hx hb dX3_readLines_10 rfl (lv_at hl 0 rfl) ?_
  refine va_get (D := D) (own := RX3) (ci := 3) (v := .ref td) (C := RX3) (T := TX3) (N := 4) hx hb hts inb_X3 hown hK.1 hP 0 rfl rfl 1 (by decide) (hts _ wd_161) (fun _ h9 => h9) rfl dX3_readLines_11 ?_
  refine fn_gov (wc := [(td, .inr (7, [.int 0, .int 0, .int 0, .int 0, .int 0, .int 0, .int 0, .int 0, .int 0, .ref d0, .ref d1, .ref d2, .ref d3, .ref d4, .ref d5]))]) (wr := [(rd, .inr (3, [.ref tp, .ref td, .int 0, .int (-1)])), (tp, .inr (6, [.int 0, .ref tb, .int 0, .int 0, .int 0]))]) hK hP hD hS hA [2] [0, 1] rfl rfl (by decide) (fun hp => va_runVN (C := RX7) (As := []) (rest := []) ⟨hx, hb, hml, hown, hts⟩ (c_X7_clear (l := l) (D := D) (K := K) (td := (td)) (d0 := (d0)) (d1 := (d1)) (d2 := (d2)) (d3 := (d3)) (d4 := (d4)) (d5 := (d5)) _) ⟨va_cnB (own := RX3) 0 hts (fn_gin wd_485) rfl rfl rfl (hK.nw 95 rfl) (hts _ wd_4) (by decide +kernel) ⟨Nat.le_of_ble_eq_true rfl, Nat.le_of_ble_eq_true rfl⟩, hts _ wd_484, hts _ wp_2⟩ ⟨fn_blind, va_recv hK.1 hP (ci := 7) (q0 := 2) rfl rfl, hp⟩ rfl rfl hl.1 rfl (lv_room (Nat.le_of_ble_eq_true rfl)) dX3_readLines_14 ⟨Nat.le_of_ble_eq_true rfl, Nat.le_of_ble_eq_true rfl⟩) (fun u1 H locs hwu1 hP hD hS => ?_)
  have hP : va_P D vwCl [(rd, .inr (3, [.ref tp, .ref td, .int 0, .int (-1)])), (tp, .inr (6, [.int 0, .ref tb, .int 0, .int 0, .int 0])), (td, .inr (7, [.int 0, .int 0, .int 0, .int 0, .int 0, .int 0, .int 0, .int 0, .int 0, .ref d0, .ref d1, .ref d2, .ref d3, .ref d4, .ref d5]))] H := hP
  have hD : va_D A [(rd, .inr (3, [.ref tp, .ref td, .int 0, .int (-1)])), (tp, .inr (6, [.int 0, .ref tb, .int 0, .int 0, .int 0])), (td, .inr (7, [.int 0, .int 0, .int 0, .int 0, .int 0, .int 0, .int 0, .int 0, .int 0, .ref d0, .ref d1, .ref d2, .ref d3, .ref d4, .ref d5]))] := hD
  refine lv_aload_n hx hb dX3_readLines_17 rfl (lv_at hl 0 rfl) ?_
  refine va_get (D := D) (own := RX3) (ci := 3) (v := .ref tp) (C := RX3) (T := TX3) (N := 4) hx hb hts inb_X3 hown hK.1 hP 0 rfl rfl 0 (by decide) (hts _ wd_159) (fun _ h9 => h9) rfl dX3_readLines_18 ?_
  refine fn_gov (wc := [(tp, .inr (6, [.int 0, .ref tb, .int 0, .int 0, .int 0]))]) (wr := [(rd, .inr (3, [.ref tp, .ref td, .int 0, .int (-1)])), (td, .inr (7, [.int 0, .int 0, .int 0, .int 0, .int 0, .int 0, .int 0, .int 0, .int 0, .ref d0, .ref d1, .ref d2, .ref d3, .ref d4, .ref d5]))]) hK hP hD hS hA [1] [0, 2] rfl rfl (by decide) (fun hp => va_runVN (C := RX6) (As := []) (rest := []) ⟨hx, hb, hml, hown, hts⟩ (c_X6_goToFirstToken (l := l) (D := D) (K := K) (tp := (tp)) (tb := (tb)) _) ⟨va_cnB (own := RX3) 0 hts (fn_gin wd_489) rfl rfl rfl (hK.nw 96 rfl) (hts _ wd_3) (by decide +kernel) ⟨Nat.le_of_ble_eq_true rfl, Nat.le_of_ble_eq_true rfl⟩, hts _ wd_488, hts _ wp_3⟩ ⟨fn_blind, va_recv hK.1 hP (ci := 6) (q0 := 1) rfl rfl, hp⟩ rfl rfl hl.1 rfl (lv_room (Nat.le_of_ble_eq_true rfl)) dX3_readLines_21 ⟨Nat.le_of_ble_eq_true rfl, Nat.le_of_ble_eq_true rfl⟩) (fun u3 H locs hwu3 hP hD hS => ?_)
  have hP : va_P D vwCl [(rd, .inr (3, [.ref tp, .ref td, .int 0, .int (-1)])), (td, .inr (7, [.int 0, .int 0, .int 0, .int 0, .int 0, .int 0, .int 0, .int 0, .int 0, .ref d0, .ref d1, .ref d2, .ref d3, .ref d4, .ref d5])), (tp, .inr (6, [.int 0, .ref tb, .int 0, .int 0, .int 0]))] H := hP
  have hD : va_D A [(rd, .inr (3, [.ref tp, .ref td, .int 0, .int (-1)])), (td, .inr (7, [.int 0, .int 0, .int 0, .int 0, .int 0, .int 0, .int 0, .int 0, .int 0, .ref d0, .ref d1, .ref d2, .ref d3, .ref d4, .ref d5])), (tp, .inr (6, [.int 0, .ref tb, .int 0, .int 0, .int 0]))] := hD
  refine lv_iconst (v := 0) hx hb dX3_readLines_24 (by decide) ?_
  refine lv_istore_n (lv' := [(1, .int 0), (0, .ref rd)]) hx hb dX3_readLines_25 rfl hl (by decide) rfl (fun ls hl => ?_)
  refine lv_iload_n hx hb dX3_readLines_26 rfl (lv_at hl 0 rfl) ?_
  refine lv_sipush (v := 1400) hx hb dX3_readLines_27 (by decide) ?_
  refine lv_icmp_ge (tgt := 77) hx hb dX3_readLines_30 (by decide) (fun h9 => absurd h9 (by decide)) (fun _ => ?_)
  refine lv_aload_n hx hb dX3_readLines_33 rfl (lv_at hl 1 rfl) ?_
  refine va_get (D := D) (own := RX3) (ci := 3) (v := .ref tp) (C := RX3) (T := TX3) (N := 4) hx hb hts inb_X3 hown hK.1 hP 0 rfl rfl 0 (by decide) (hts _ wd_159) (fun _ h9 => h9) rfl dX3_readLines_34 ?_
  refine fn_at 37 rfl ?_
  refine va_getN (D := D) (own := RX3) (ci := 6) (v := .int 0) (C := RX6) (T := TX6) (N := 5) hx hb hts inb_X6 hown hK.1 hP 2 rfl rfl 2 (by decide) (hK.nf 3 rfl) (fun _ h9 => h9) rfl dX3_readLines_37 ?_
  refine lv_if_eq (tgt := 77) hx hb dX3_readLines_40 (by decide) (fun _ => ?_) (fun h9 => absurd (by decide) h9)
  exact fn_vret hx hb hr hlocks hP hD hS () trivial [0, 2, 1] (by decide) rfl dX3_readLines_77
theorem dX7_copyFrom_0 : decode cX7_copyFrom 0 = .ok (.aload_n 0, 1) := by decide +kernel
theorem dX7_copyFrom_1 : decode cX7_copyFrom 1 = .ok (.aload_n 1, 1) := by decide +kernel
theorem dX7_copyFrom_2 : decode cX7_copyFrom 2 = .ok (.getfield 30, 3) := by decide +kernel
theorem dX7_copyFrom_5 : decode cX7_copyFrom 5 = .ok (.putfield 30, 3) := by decide +kernel
theorem dX7_copyFrom_8 : decode cX7_copyFrom 8 = .ok (.aload_n 0, 1) := by decide +kernel
theorem dX7_copyFrom_9 : decode cX7_copyFrom 9 = .ok (.aload_n 1, 1) := by decide +kernel
theorem dX7_copyFrom_10 : decode cX7_copyFrom 10 = .ok (.getfield 34, 3) := by decide +kernel
theorem dX7_copyFrom_13 : decode cX7_copyFrom 13 = .ok (.putfield 34, 3) := by decide +kernel
theorem dX7_copyFrom_16 : decode cX7_copyFrom 16 = .ok (.aload_n 0, 1) := by decide +kernel
theorem dX7_copyFrom_17 : decode cX7_copyFrom 17 = .ok (.aload_n 1, 1) := by decide +kernel
theorem dX7_copyFrom_18 : decode cX7_copyFrom 18 = .ok (.getfield 37, 3) := by decide +kernel
theorem dX7_copyFrom_21 : decode cX7_copyFrom 21 = .ok (.putfield 37, 3) := by decide +kernel
theorem dX7_copyFrom_24 : decode cX7_copyFrom 24 = .ok (.aload_n 0, 1) := by decide +kernel
theorem dX7_copyFrom_25 : decode cX7_copyFrom 25 = .ok (.aload_n 1, 1) := by decide +kernel
theorem dX7_copyFrom_26 : decode cX7_copyFrom 26 = .ok (.getfield 40, 3) := by decide +kernel
theorem dX7_copyFrom_29 : decode cX7_copyFrom 29 = .ok (.putfield 40, 3) := by decide +kernel
theorem dX7_copyFrom_32 : decode cX7_copyFrom 32 = .ok (.aload_n 0, 1) := by decide +kernel
theorem dX7_copyFrom_33 : decode cX7_copyFrom 33 = .ok (.aload_n 1, 1) := by decide +kernel
theorem dX7_copyFrom_34 : decode cX7_copyFrom 34 = .ok (.getfield 43, 3) := by decide +kernel
theorem dX7_copyFrom_37 : decode cX7_copyFrom 37 = .ok (.putfield 43, 3) := by decide +kernel
theorem dX7_copyFrom_40 : decode cX7_copyFrom 40 = .ok (.aload_n 0, 1) := by decide +kernel
theorem dX7_copyFrom_41 : decode cX7_copyFrom 41 = .ok (.aload_n 1, 1) := by decide +kernel
theorem dX7_copyFrom_42 : decode cX7_copyFrom 42 = .ok (.getfield 46, 3) := by decide +kernel
theorem dX7_copyFrom_45 : decode cX7_copyFrom 45 = .ok (.putfield 46, 3) := by decide +kernel
theorem dX7_copyFrom_48 : decode cX7_copyFrom 48 = .ok (.aload_n 0, 1) := by decide +kernel
theorem dX7_copyFrom_49 : decode cX7_copyFrom 49 = .ok (.aload_n 1, 1) := by decide +kernel
theorem dX7_copyFrom_50 : decode cX7_copyFrom 50 = .ok (.getfield 49, 3) := by decide +kernel
theorem dX7_copyFrom_53 : decode cX7_copyFrom 53 = .ok (.putfield 49, 3) := by decide +kernel
theorem dX7_copyFrom_56 : decode cX7_copyFrom 56 = .ok (.aload_n 0, 1) := by decide +kernel
theorem dX7_copyFrom_57 : decode cX7_copyFrom 57 = .ok (.aload_n 1, 1) := by decide +kernel
theorem dX7_copyFrom_58 : decode cX7_copyFrom 58 = .ok (.getfield 52, 3) := by decide +kernel
theorem dX7_copyFrom_61 : decode cX7_copyFrom 61 = .ok (.putfield 52, 3) := by decide +kernel
theorem dX7_copyFrom_64 : decode cX7_copyFrom 64 = .ok (.aload_n 0, 1) := by decide +kernel
theorem dX7_copyFrom_65 : decode cX7_copyFrom 65 = .ok (.aload_n 1, 1) := by decide +kernel
theorem dX7_copyFrom_66 : decode cX7_copyFrom 66 = .ok (.getfield 55, 3) := by decide +kernel
theorem dX7_copyFrom_69 : decode cX7_copyFrom 69 = .ok (.putfield 55, 3) := by decide +kernel
theorem dX7_copyFrom_72 : decode cX7_copyFrom 72 = .ok (.aload_n 1, 1) := by decide +kernel
theorem dX7_copyFrom_73 : decode cX7_copyFrom 73 = .ok (.getfield 9, 3) := by decide +kernel
theorem dX7_copyFrom_76 : decode cX7_copyFrom 76 = .ok (.iconst 0, 1) := by decide +kernel
theorem dX7_copyFrom_77 : decode cX7_copyFrom 77 = .ok (.aload_n 0, 1) := by decide +kernel
theorem dX7_copyFrom_78 : decode cX7_copyFrom 78 = .ok (.getfield 9, 3) := by decide +kernel
theorem dX7_copyFrom_81 : decode cX7_copyFrom 81 = .ok (.iconst 0, 1) := by decide +kernel
theorem dX7_copyFrom_82 : decode cX7_copyFrom 82 = .ok (.iconst 5, 1) := by decide +kernel
theorem dX7_copyFrom_83 : decode cX7_copyFrom 83 = .ok (.invokestatic 58, 3) := by decide +kernel
theorem dX7_copyFrom_86 : decode cX7_copyFrom 86 = .ok (.aload_n 1, 1) := by decide +kernel
theorem dX7_copyFrom_87 : decode cX7_copyFrom 87 = .ok (.getfield 15, 3) := by decide +kernel
theorem dX7_copyFrom_90 : decode cX7_copyFrom 90 = .ok (.iconst 0, 1) := by decide +kernel
theorem dX7_copyFrom_91 : decode cX7_copyFrom 91 = .ok (.aload_n 0, 1) := by decide +kernel
theorem dX7_copyFrom_92 : decode cX7_copyFrom 92 = .ok (.getfield 15, 3) := by decide +kernel
theorem dX7_copyFrom_95 : decode cX7_copyFrom 95 = .ok (.iconst 0, 1) := by decide +kernel
theorem dX7_copyFrom_96 : decode cX7_copyFrom 96 = .ok (.bipush 6, 2) := by decide +kernel
theorem dX7_copyFrom_98 : decode cX7_copyFrom 98 = .ok (.invokestatic 58, 3) := by decide +kernel
theorem dX7_copyFrom_101 : decode cX7_copyFrom 101 = .ok (.aload_n 1, 1) := by decide +kernel
theorem dX7_copyFrom_102 : decode cX7_copyFrom 102 = .ok (.getfield 18, 3) := by decide +kernel
theorem dX7_copyFrom_105 : decode cX7_copyFrom 105 = .ok (.iconst 0, 1) := by decide +kernel
theorem dX7_copyFrom_106 : decode cX7_copyFrom 106 = .ok (.aload_n 0, 1) := by decide +kernel
theorem dX7_copyFrom_107 : decode cX7_copyFrom 107 = .ok (.getfield 18, 3) := by decide +kernel
theorem dX7_copyFrom_110 : decode cX7_copyFrom 110 = .ok (.iconst 0, 1) := by decide +kernel
theorem dX7_copyFrom_111 : decode cX7_copyFrom 111 = .ok (.bipush 12, 2) := by decide +kernel
theorem dX7_copyFrom_113 : decode cX7_copyFrom 113 = .ok (.invokestatic 58, 3) := by decide +kernel
theorem dX7_copyFrom_116 : decode cX7_copyFrom 116 = .ok (.aload_n 1, 1) := by decide +kernel
theorem dX7_copyFrom_117 : decode cX7_copyFrom 117 = .ok (.getfield 21, 3) := by decide +kernel
theorem dX7_copyFrom_120 : decode cX7_copyFrom 120 = .ok (.iconst 0, 1) := by decide +kernel
theorem dX7_copyFrom_121 : decode cX7_copyFrom 121 = .ok (.aload_n 0, 1) := by decide +kernel
theorem dX7_copyFrom_122 : decode cX7_copyFrom 122 = .ok (.getfield 21, 3) := by decide +kernel
theorem dX7_copyFrom_125 : decode cX7_copyFrom 125 = .ok (.iconst 0, 1) := by decide +kernel
theorem dX7_copyFrom_126 : decode cX7_copyFrom 126 = .ok (.bipush 24, 2) := by decide +kernel
theorem dX7_copyFrom_128 : decode cX7_copyFrom 128 = .ok (.invokestatic 58, 3) := by decide +kernel
theorem dX7_copyFrom_131 : decode cX7_copyFrom 131 = .ok (.aload_n 1, 1) := by decide +kernel
theorem dX7_copyFrom_132 : decode cX7_copyFrom 132 = .ok (.getfield 24, 3) := by decide +kernel
theorem dX7_copyFrom_135 : decode cX7_copyFrom 135 = .ok (.iconst 0, 1) := by decide +kernel
theorem dX7_copyFrom_136 : decode cX7_copyFrom 136 = .ok (.aload_n 0, 1) := by decide +kernel
theorem dX7_copyFrom_137 : decode cX7_copyFrom 137 = .ok (.getfield 24, 3) := by decide +kernel
theorem dX7_copyFrom_140 : decode cX7_copyFrom 140 = .ok (.iconst 0, 1) := by decide +kernel
theorem dX7_copyFrom_141 : decode cX7_copyFrom 141 = .ok (.bipush 24, 2) := by decide +kernel
theorem dX7_copyFrom_143 : decode cX7_copyFrom 143 = .ok (.invokestatic 58, 3) := by decide +kernel
theorem dX7_copyFrom_146 : decode cX7_copyFrom 146 = .ok (.aload_n 1, 1) := by decide +kernel
theorem dX7_copyFrom_147 : decode cX7_copyFrom 147 = .ok (.getfield 27, 3) := by decide +kernel
theorem dX7_copyFrom_150 : decode cX7_copyFrom 150 = .ok (.iconst 0, 1) := by decide +kernel
theorem dX7_copyFrom_151 : decode cX7_copyFrom 151 = .ok (.aload_n 0, 1) := by decide +kernel
theorem dX7_copyFrom_152 : decode cX7_copyFrom 152 = .ok (.getfield 27, 3) := by decide +kernel
theorem dX7_copyFrom_155 : decode cX7_copyFrom 155 = .ok (.iconst 0, 1) := by decide +kernel
theorem dX7_copyFrom_156 : decode cX7_copyFrom 156 = .ok (.bipush 24, 2) := by decide +kernel
theorem dX7_copyFrom_158 : decode cX7_copyFrom 158 = .ok (.invokestatic 58, 3) := by decide +kernel
theorem dX7_copyFrom_161 : decode cX7_copyFrom 161 = .ok (.return_, 1) := by decide +kernel
set_option maxHeartbeats 4000000 in
set_option maxRecDepth 100000 in
theorem c_X7_copyFrom (l : Launch) (D : va_G) (K : Nat → ClassId) (o0 o1 a0 a1 a2 a3 a4 a5 b0 b1 b2 b3 b4 b5 : Nat) (fa0 fa1 fa2 fa3 fa4 fa5 fb0 fb1 fb2 fb3 fb4 fb5 : Nat → Int32) : fn_CV (S := Nat → Nat → Int32) l D K yX7_copyFrom (fn_ws yX7_copyFrom cX7_copyFrom 2 none) ({ frames := 4, cells := 0, slots := 0, locals := 100 }) [.ref o0, .ref o1] [(o0, .inr (7, [.int 0, .int 0, .int 0, .int 0, .int 0, .int 0, .int 0, .int 0, .int 0, .ref a0, .ref a1, .ref a2, .ref a3, .ref a4, .ref a5])), (a0, .inl (K 0, 5, .inl fa0)), (a1, .inl (K 0, 6, .inl fa1)), (a2, .inl (K 0, 12, .inl fa2)), (a3, .inl (K 0, 24, .inl fa3)), (a4, .inl (K 0, 24, .inl fa4)), (a5, .inl (K 0, 24, .inl fa5)), (o1, .inr (7, [.int 0, .int 0, .int 0, .int 0, .int 0, .int 0, .int 0, .int 0, .int 0, .ref b0, .ref b1, .ref b2, .ref b3, .ref b4, .ref b5])), (b0, .inl (K 0, 5, .inl fb0)), (b1, .inl (K 0, 6, .inl fb1)), (b2, .inl (K 0, 12, .inl fb2)), (b3, .inl (K 0, 24, .inl fb3)), (b4, .inl (K 0, 24, .inl fb4)), (b5, .inl (K 0, 24, .inl fb5))] (fun _ => True) (fun u => [(o0, .inr (7, [.int 0, .int 0, .int 0, .int 0, .int 0, .int 0, .int 0, .int 0, .int 0, .ref a0, .ref a1, .ref a2, .ref a3, .ref a4, .ref a5])), (a0, .inl (K 0, 5, .inl (u 0))), (a1, .inl (K 0, 6, .inl (u 1))), (a2, .inl (K 0, 12, .inl (u 2))), (a3, .inl (K 0, 24, .inl (u 3))), (a4, .inl (K 0, 24, .inl (u 4))), (a5, .inl (K 0, 24, .inl (u 5))), (o1, .inr (7, [.int 0, .int 0, .int 0, .int 0, .int 0, .int 0, .int 0, .int 0, .int 0, .ref b0, .ref b1, .ref b2, .ref b3, .ref b4, .ref b5])), (b0, .inl (K 0, 5, .inl fb0)), (b1, .inl (K 0, 6, .inl fb1)), (b2, .inl (K 0, 12, .inl fb2)), (b3, .inl (K 0, 24, .inl fb3)), (b4, .inl (K 0, 24, .inl fb4)), (b5, .inl (K 0, 24, .inl fb5))]) 0 0 := by
  refine fn_inV (cc := cX7_copyFrom) (maxL := 2) (ret := none) (by decide) rfl (Nat.le_of_ble_eq_true rfl) ?_
  intro p e s m below meth c A ls B hA hP hD hS hl
  obtain ⟨hx, hb, hr, hml, hts, hown, hlocks, hin, hK⟩ := B
  have hown : s.vm.findClass RX7 = some m.cls := hown
  have hts := fun w h => hts w (List.mem_cons_of_mem _ h)
  have hl : lv_has ls 2 [(0, .ref o0), (1, .ref o1)] := hl
  refine lv_aload_n hx hb dX7_copyFrom_0 rfl (lv_at hl 0 rfl) ?_
  refine lv_aload_n hx hb dX7_copyFrom_1 rfl (lv_at hl 1 rfl) ?_
  refine va_get (D := D) (own := RX7) (ci := 7) (v := .int 0) (C := RX7) (T := TX7) (N := 15) hx hb hts inb_X7 hown hK.1 hP 7 rfl rfl 0 (by decide) (hts _ wd_68) (fun _ h9 => h9) rfl dX7_copyFrom_2 ?_
  refine va_put (D := D) (own := RX7) (ci := 7) (v := .int 0) (ty := .int) (C := RX7) (T := TX7) (N := 15) hx hb hts inb_X7 tyX7 tyX7_ok nmX7 hown hK.1 hP hD hS 0 rfl rfl 0 (by decide) (hts _ wd_68) (fun _ h9 => h9) rfl (by decide +kernel) rfl rfl (Nat.le_of_ble_eq_true rfl) dX7_copyFrom_5 (fun H locs hP hD hS => ?_)
  have hP : va_P D vwCl [(o0, .inr (7, [.int 0, .int 0, .int 0, .int 0, .int 0, .int 0, .int 0, .int 0, .int 0, .ref a0, .ref a1, .ref a2, .ref a3, .ref a4, .ref a5])), (a0, .inl (K 0, 5, .inl fa0)), (a1, .inl (K 0, 6, .inl fa1)), (a2, .inl (K 0, 12, .inl fa2)), (a3, .inl (K 0, 24, .inl fa3)), (a4, .inl (K 0, 24, .inl fa4)), (a5, .inl (K 0, 24, .inl fa5)), (o1, .inr (7, [.int 0, .int 0, .int 0, .int 0, .int 0, .int 0, .int 0, .int 0, .int 0, .ref b0, .ref b1, .ref b2, .ref b3, .ref b4, .ref b5])), (b0, .inl (K 0, 5, .inl fb0)), (b1, .inl (K 0, 6, .inl fb1)), (b2, .inl (K 0, 12, .inl fb2)), (b3, .inl (K 0, 24, .inl fb3)), (b4, .inl (K 0, 24, .inl fb4)), (b5, .inl (K 0, 24, .inl fb5))] H := hP
  have hD : va_D A [(o0, .inr (7, [.int 0, .int 0, .int 0, .int 0, .int 0, .int 0, .int 0, .int 0, .int 0, .ref a0, .ref a1, .ref a2, .ref a3, .ref a4, .ref a5])), (a0, .inl (K 0, 5, .inl fa0)), (a1, .inl (K 0, 6, .inl fa1)), (a2, .inl (K 0, 12, .inl fa2)), (a3, .inl (K 0, 24, .inl fa3)), (a4, .inl (K 0, 24, .inl fa4)), (a5, .inl (K 0, 24, .inl fa5)), (o1, .inr (7, [.int 0, .int 0, .int 0, .int 0, .int 0, .int 0, .int 0, .int 0, .int 0, .ref b0, .ref b1, .ref b2, .ref b3, .ref b4, .ref b5])), (b0, .inl (K 0, 5, .inl fb0)), (b1, .inl (K 0, 6, .inl fb1)), (b2, .inl (K 0, 12, .inl fb2)), (b3, .inl (K 0, 24, .inl fb3)), (b4, .inl (K 0, 24, .inl fb4)), (b5, .inl (K 0, 24, .inl fb5))] := hD
  refine lv_aload_n hx hb dX7_copyFrom_8 rfl (lv_at hl 0 rfl) ?_
  refine lv_aload_n hx hb dX7_copyFrom_9 rfl (lv_at hl 1 rfl) ?_
  refine va_get (D := D) (own := RX7) (ci := 7) (v := .int 0) (C := RX7) (T := TX7) (N := 15) hx hb hts inb_X7 hown hK.1 hP 7 rfl rfl 1 (by decide) (hts _ wd_72) (fun _ h9 => h9) rfl dX7_copyFrom_10 ?_
  refine va_put (D := D) (own := RX7) (ci := 7) (v := .int 0) (ty := .int) (C := RX7) (T := TX7) (N := 15) hx hb hts inb_X7 tyX7 tyX7_ok nmX7 hown hK.1 hP hD hS 0 rfl rfl 1 (by decide) (hts _ wd_72) (fun _ h9 => h9) rfl (by decide +kernel) rfl rfl (Nat.le_of_ble_eq_true rfl) dX7_copyFrom_13 (fun H locs hP hD hS => ?_)
  have hP : va_P D vwCl [(o0, .inr (7, [.int 0, .int 0, .int 0, .int 0, .int 0, .int 0, .int 0, .int 0, .int 0, .ref a0, .ref a1, .ref a2, .ref a3, .ref a4, .ref a5])), (a0, .inl (K 0, 5, .inl fa0)), (a1, .inl (K 0, 6, .inl fa1)), (a2, .inl (K 0, 12, .inl fa2)), (a3, .inl (K 0, 24, .inl fa3)), (a4, .inl (K 0, 24, .inl fa4)), (a5, .inl (K 0, 24, .inl fa5)), (o1, .inr (7, [.int 0, .int 0, .int 0, .int 0, .int 0, .int 0, .int 0, .int 0, .int 0, .ref b0, .ref b1, .ref b2, .ref b3, .ref b4, .ref b5])), (b0, .inl (K 0, 5, .inl fb0)), (b1, .inl (K 0, 6, .inl fb1)), (b2, .inl (K 0, 12, .inl fb2)), (b3, .inl (K 0, 24, .inl fb3)), (b4, .inl (K 0, 24, .inl fb4)), (b5, .inl (K 0, 24, .inl fb5))] H := hP
  have hD : va_D A [(o0, .inr (7, [.int 0, .int 0, .int 0, .int 0, .int 0, .int 0, .int 0, .int 0, .int 0, .ref a0, .ref a1, .ref a2, .ref a3, .ref a4, .ref a5])), (a0, .inl (K 0, 5, .inl fa0)), (a1, .inl (K 0, 6, .inl fa1)), (a2, .inl (K 0, 12, .inl fa2)), (a3, .inl (K 0, 24, .inl fa3)), (a4, .inl (K 0, 24, .inl fa4)), (a5, .inl (K 0, 24, .inl fa5)), (o1, .inr (7, [.int 0, .int 0, .int 0, .int 0, .int 0, .int 0, .int 0, .int 0, .int 0, .ref b0, .ref b1, .ref b2, .ref b3, .ref b4, .ref b5])), (b0, .inl (K 0, 5, .inl fb0)), (b1, .inl (K 0, 6, .inl fb1)), (b2, .inl (K 0, 12, .inl fb2)), (b3, .inl (K 0, 24, .inl fb3)), (b4, .inl (K 0, 24, .inl fb4)), (b5, .inl (K 0, 24, .inl fb5))] := hD
  refine lv_aload_n hx hb dX7_copyFrom_16 rfl (lv_at hl 0 rfl) ?_
  refine lv_aload_n hx hb dX7_copyFrom_17 rfl (lv_at hl 1 rfl) ?_
  refine va_get (D := D) (own := RX7) (ci := 7) (v := .int 0) (C := RX7) (T := TX7) (N := 15) hx hb hts inb_X7 hown hK.1 hP 7 rfl rfl 2 (by decide) (hts _ wd_75) (fun _ h9 => h9) rfl dX7_copyFrom_18 ?_
  refine va_put (D := D) (own := RX7) (ci := 7) (v := .int 0) (ty := .int) (C := RX7) (T := TX7) (N := 15) hx hb hts inb_X7 tyX7 tyX7_ok nmX7 hown hK.1 hP hD hS 0 rfl rfl 2 (by decide) (hts _ wd_75) (fun _ h9 => h9) rfl (by decide +kernel) rfl rfl (Nat.le_of_ble_eq_true rfl) dX7_copyFrom_21 (fun H locs hP hD hS => ?_)
  have hP : va_P D vwCl [(o0, .inr (7, [.int 0, .int 0, .int 0, .int 0, .int 0, .int 0, .int 0, .int 0, .int 0, .ref a0, .ref a1, .ref a2, .ref a3, .ref a4, .ref a5])), (a0, .inl (K 0, 5, .inl fa0)), (a1, .inl (K 0, 6, .inl fa1)), (a2, .inl (K 0, 12, .inl fa2)), (a3, .inl (K 0, 24, .inl fa3)), (a4, .inl (K 0, 24, .inl fa4)), (a5, .inl (K 0, 24, .inl fa5)), (o1, .inr (7, [.int 0, .int 0, .int 0, .int 0, .int 0, .int 0, .int 0, .int 0, .int 0, .ref b0, .ref b1, .ref b2, .ref b3, .ref b4, .ref b5])), (b0, .inl (K 0, 5, .inl fb0)), (b1, .inl (K 0, 6, .inl fb1)), (b2, .inl (K 0, 12, .inl fb2)), (b3, .inl (K 0, 24, .inl fb3)), (b4, .inl (K 0, 24, .inl fb4)), (b5, .inl (K 0, 24, .inl fb5))] H := hP
  have hD : va_D A [(o0, .inr (7, [.int 0, .int 0, .int 0, .int 0, .int 0, .int 0, .int 0, .int 0, .int 0, .ref a0, .ref a1, .ref a2, .ref a3, .ref a4, .ref a5])), (a0, .inl (K 0, 5, .inl fa0)), (a1, .inl (K 0, 6, .inl fa1)), (a2, .inl (K 0, 12, .inl fa2)), (a3, .inl (K 0, 24, .inl fa3)), (a4, .inl (K 0, 24, .inl fa4)), (a5, .inl (K 0, 24, .inl fa5)), (o1, .inr (7, [.int 0, .int 0, .int 0, .int 0, .int 0, .int 0, .int 0, .int 0, .int 0, .ref b0, .ref b1, .ref b2, .ref b3, .ref b4, .ref b5])), (b0, .inl (K 0, 5, .inl fb0)), (b1, .inl (K 0, 6, .inl fb1)), (b2, .inl (K 0, 12, .inl fb2)), (b3, .inl (K 0, 24, .inl fb3)), (b4, .inl (K 0, 24, .inl fb4)), (b5, .inl (K 0, 24, .inl fb5))] := hD
  refine lv_aload_n hx hb dX7_copyFrom_24 rfl (lv_at hl 0 rfl) ?_
  refine lv_aload_n hx hb dX7_copyFrom_25 rfl (lv_at hl 1 rfl) ?_
  refine va_get (D := D) (own := RX7) (ci := 7) (v := .int 0) (C := RX7) (T := TX7) (N := 15) hx hb hts inb_X7 hown hK.1 hP 7 rfl rfl 3 (by decide) (hts _ wd_80) (fun _ h9 => h9) rfl dX7_copyFrom_26 ?_
  refine va_put (D := D) (own := RX7) (ci := 7) (v := .int 0) (ty := .int) (C := RX7) (T := TX7) (N := 15) hx hb hts inb_X7 tyX7 tyX7_ok nmX7 hown hK.1 hP hD hS 0 rfl rfl 3 (by decide) (hts _ wd_80) (fun _ h9 => h9) rfl (by decide +kernel) rfl rfl (Nat.le_of_ble_eq_true rfl) dX7_copyFrom_29 (fun H locs hP hD hS => ?_)
  have hP : va_P D vwCl [(o0, .inr (7, [.int 0, .int 0, .int 0, .int 0, .int 0, .int 0, .int 0, .int 0, .int 0, .ref a0, .ref a1, .ref a2, .ref a3, .ref a4, .ref a5])), (a0, .inl (K 0, 5, .inl fa0)), (a1, .inl (K 0, 6, .inl fa1)), (a2, .inl (K 0, 12, .inl fa2)), (a3, .inl (K 0, 24, .inl fa3)), (a4, .inl (K 0, 24, .inl fa4)), (a5, .inl (K 0, 24, .inl fa5)), (o1, .inr (7, [.int 0, .int 0, .int 0, .int 0, .int 0, .int 0, .int 0, .int 0, .int 0, .ref b0, .ref b1, .ref b2, .ref b3, .ref b4, .ref b5])), (b0, .inl (K 0, 5, .inl fb0)), (b1, .inl (K 0, 6, .inl fb1)), (b2, .inl (K 0, 12, .inl fb2)), (b3, .inl (K 0, 24, .inl fb3)), (b4, .inl (K 0, 24, .inl fb4)), (b5, .inl (K 0, 24, .inl fb5))] H := hP
  have hD : va_D A [(o0, .inr (7, [.int 0, .int 0, .int 0, .int 0, .int 0, .int 0, .int 0, .int 0, .int 0, .ref a0, .ref a1, .ref a2, .ref a3, .ref a4, .ref a5])), (a0, .inl (K 0, 5, .inl fa0)), (a1, .inl (K 0, 6, .inl fa1)), (a2, .inl (K 0, 12, .inl fa2)), (a3, .inl (K 0, 24, .inl fa3)), (a4, .inl (K 0, 24, .inl fa4)), (a5, .inl (K 0, 24, .inl fa5)), (o1, .inr (7, [.int 0, .int 0, .int 0, .int 0, .int 0, .int 0, .int 0, .int 0, .int 0, .ref b0, .ref b1, .ref b2, .ref b3, .ref b4, .ref b5])), (b0, .inl (K 0, 5, .inl fb0)), (b1, .inl (K 0, 6, .inl fb1)), (b2, .inl (K 0, 12, .inl fb2)), (b3, .inl (K 0, 24, .inl fb3)), (b4, .inl (K 0, 24, .inl fb4)), (b5, .inl (K 0, 24, .inl fb5))] := hD
  refine lv_aload_n hx hb dX7_copyFrom_32 rfl (lv_at hl 0 rfl) ?_
  refine lv_aload_n hx hb dX7_copyFrom_33 rfl (lv_at hl 1 rfl) ?_
  refine va_get (D := D) (own := RX7) (ci := 7) (v := .int 0) (C := RX7) (T := TX7) (N := 15) hx hb hts inb_X7 hown hK.1 hP 7 rfl rfl 4 (by decide) (hts _ wd_87) (fun _ h9 => h9) rfl dX7_copyFrom_34 ?_
  refine fn_at 37 rfl ?_
  refine va_put (D := D) (own := RX7) (ci := 7) (v := .int 0) (ty := .int) (C := RX7) (T := TX7) (N := 15) hx hb hts inb_X7 tyX7 tyX7_ok nmX7 hown hK.1 hP hD hS 0 rfl rfl 4 (by decide) (hts _ wd_87) (fun _ h9 => h9) rfl (by decide +kernel) rfl rfl (Nat.le_of_ble_eq_true rfl) dX7_copyFrom_37 (fun H locs hP hD hS => ?_)
  have hP : va_P D vwCl [(o0, .inr (7, [.int 0, .int 0, .int 0, .int 0, .int 0, .int 0, .int 0, .int 0, .int 0, .ref a0, .ref a1, .ref a2, .ref a3, .ref a4, .ref a5])), (a0, .inl (K 0, 5, .inl fa0)), (a1, .inl (K 0, 6, .inl fa1)), (a2, .inl (K 0, 12, .inl fa2)), (a3, .inl (K 0, 24, .inl fa3)), (a4, .inl (K 0, 24, .inl fa4)), (a5, .inl (K 0, 24, .inl fa5)), (o1, .inr (7, [.int 0, .int 0, .int 0, .int 0, .int 0, .int 0, .int 0, .int 0, .int 0, .ref b0, .ref b1, .ref b2, .ref b3, .ref b4, .ref b5])), (b0, .inl (K 0, 5, .inl fb0)), (b1, .inl (K 0, 6, .inl fb1)), (b2, .inl (K 0, 12, .inl fb2)), (b3, .inl (K 0, 24, .inl fb3)), (b4, .inl (K 0, 24, .inl fb4)), (b5, .inl (K 0, 24, .inl fb5))] H := hP
  have hD : va_D A [(o0, .inr (7, [.int 0, .int 0, .int 0, .int 0, .int 0, .int 0, .int 0, .int 0, .int 0, .ref a0, .ref a1, .ref a2, .ref a3, .ref a4, .ref a5])), (a0, .inl (K 0, 5, .inl fa0)), (a1, .inl (K 0, 6, .inl fa1)), (a2, .inl (K 0, 12, .inl fa2)), (a3, .inl (K 0, 24, .inl fa3)), (a4, .inl (K 0, 24, .inl fa4)), (a5, .inl (K 0, 24, .inl fa5)), (o1, .inr (7, [.int 0, .int 0, .int 0, .int 0, .int 0, .int 0, .int 0, .int 0, .int 0, .ref b0, .ref b1, .ref b2, .ref b3, .ref b4, .ref b5])), (b0, .inl (K 0, 5, .inl fb0)), (b1, .inl (K 0, 6, .inl fb1)), (b2, .inl (K 0, 12, .inl fb2)), (b3, .inl (K 0, 24, .inl fb3)), (b4, .inl (K 0, 24, .inl fb4)), (b5, .inl (K 0, 24, .inl fb5))] := hD
  refine lv_aload_n hx hb dX7_copyFrom_40 rfl (lv_at hl 0 rfl) ?_
  refine lv_aload_n hx hb dX7_copyFrom_41 rfl (lv_at hl 1 rfl) ?_
  refine va_get (D := D) (own := RX7) (ci := 7) (v := .int 0) (C := RX7) (T := TX7) (N := 15) hx hb hts inb_X7 hown hK.1 hP 7 rfl rfl 5 (by decide) (hts _ wd_92) (fun _ h9 => h9) rfl dX7_copyFrom_42 ?_
  refine va_put (D := D) (own := RX7) (ci := 7) (v := .int 0) (ty := .int) (C := RX7) (T := TX7) (N := 15) hx hb hts inb_X7 tyX7 tyX7_ok nmX7 hown hK.1 hP hD hS 0 rfl rfl 5 (by decide) (hts _ wd_92) (fun _ h9 => h9) rfl (by decide +kernel) rfl rfl (Nat.le_of_ble_eq_true rfl) dX7_copyFrom_45 (fun H locs hP hD hS => ?_)
  have hP : va_P D vwCl [(o0, .inr (7, [.int 0, .int 0, .int 0, .int 0, .int 0, .int 0, .int 0, .int 0, .int 0, .ref a0, .ref a1, .ref a2, .ref a3, .ref a4, .ref a5])), (a0, .inl (K 0, 5, .inl fa0)), (a1, .inl (K 0, 6, .inl fa1)), (a2, .inl (K 0, 12, .inl fa2)), (a3, .inl (K 0, 24, .inl fa3)), (a4, .inl (K 0, 24, .inl fa4)), (a5, .inl (K 0, 24, .inl fa5)), (o1, .inr (7, [.int 0, .int 0, .int 0, .int 0, .int 0, .int 0, .int 0, .int 0, .int 0, .ref b0, .ref b1, .ref b2, .ref b3, .ref b4, .ref b5])), (b0, .inl (K 0, 5, .inl fb0)), (b1, .inl (K 0, 6, .inl fb1)), (b2, .inl (K 0, 12, .inl fb2)), (b3, .inl (K 0, 24, .inl fb3)), (b4, .inl (K 0, 24, .inl fb4)), (b5, .inl (K 0, 24, .inl fb5))] H := hP
  have hD : va_D A [(o0, .inr (7, [.int 0, .int 0, .int 0, .int 0, .int 0, .int 0, .int 0, .int 0, .int 0, .ref a0, .ref a1, .ref a2, .ref a3, .ref a4, .ref a5])), (a0, .inl (K 0, 5, .inl fa0)), (a1, .inl (K 0, 6, .inl fa1)), (a2, .inl (K 0, 12, .inl fa2)), (a3, .inl (K 0, 24, .inl fa3)), (a4, .inl (K 0, 24, .inl fa4)), (a5, .inl (K 0, 24, .inl fa5)), (o1, .inr (7, [.int 0, .int 0, .int 0, .int 0, .int 0, .int 0, .int 0, .int 0, .int 0, .ref b0, .ref b1, .ref b2, .ref b3, .ref b4, .ref b5])), (b0, .inl (K 0, 5, .inl fb0)), (b1, .inl (K 0, 6, .inl fb1)), (b2, .inl (K 0, 12, .inl fb2)), (b3, .inl (K 0, 24, .inl fb3)), (b4, .inl (K 0, 24, .inl fb4)), (b5, .inl (K 0, 24, .inl fb5))] := hD
  refine lv_aload_n hx hb dX7_copyFrom_48 rfl (lv_at hl 0 rfl) ?_
  refine lv_aload_n hx hb dX7_copyFrom_49 rfl (lv_at hl 1 rfl) ?_
  refine va_get (D := D) (own := RX7) (ci := 7) (v := .int 0) (C := RX7) (T := TX7) (N := 15) hx hb hts inb_X7 hown hK.1 hP 7 rfl rfl 6 (by decide) (hts _ wd_99) (fun _ h9 => h9) rfl dX7_copyFrom_50 ?_
  refine va_put (D := D) (own := RX7) (ci := 7) (v := .int 0) (ty := .int) (C := RX7) (T := TX7) (N := 15) hx hb hts inb_X7 tyX7 tyX7_ok nmX7 hown hK.1 hP hD hS 0 rfl rfl 6 (by decide) (hts _ wd_99) (fun _ h9 => h9) rfl (by decide +kernel) rfl rfl (Nat.le_of_ble_eq_true rfl) dX7_copyFrom_53 (fun H locs hP hD hS => ?_)
  have hP : va_P D vwCl [(o0, .inr (7, [.int 0, .int 0, .int 0, .int 0, .int 0, .int 0, .int 0, .int 0, .int 0, .ref a0, .ref a1, .ref a2, .ref a3, .ref a4, .ref a5])), (a0, .inl (K 0, 5, .inl fa0)), (a1, .inl (K 0, 6, .inl fa1)), (a2, .inl (K 0, 12, .inl fa2)), (a3, .inl (K 0, 24, .inl fa3)), (a4, .inl (K 0, 24, .inl fa4)), (a5, .inl (K 0, 24, .inl fa5)), (o1, .inr (7, [.int 0, .int 0, .int 0, .int 0, .int 0, .int 0, .int 0, .int 0, .int 0, .ref b0, .ref b1, .ref b2, .ref b3, .ref b4, .ref b5])), (b0, .inl (K 0, 5, .inl fb0)), (b1, .inl (K 0, 6, .inl fb1)), (b2, .inl (K 0, 12, .inl fb2)), (b3, .inl (K 0, 24, .inl fb3)), (b4, .inl (K 0, 24, .inl fb4)), (b5, .inl (K 0, 24, .inl fb5))] H := hP
  have hD : va_D A [(o0, .inr (7, [.int 0, .int 0, .int 0, .int 0, .int 0, .int 0, .int 0, .int 0, .int 0, .ref a0, .ref a1, .ref a2, .ref a3, .ref a4, .ref a5])), (a0, .inl (K 0, 5, .inl fa0)), (a1, .inl (K 0, 6, .inl fa1)), (a2, .inl (K 0, 12, .inl fa2)), (a3, .inl (K 0, 24, .inl fa3)), (a4, .inl (K 0, 24, .inl fa4)), (a5, .inl (K 0, 24, .inl fa5)), (o1, .inr (7, [.int 0, .int 0, .int 0, .int 0, .int 0, .int 0, .int 0, .int 0, .int 0, .ref b0, .ref b1, .ref b2, .ref b3, .ref b4, .ref b5])), (b0, .inl (K 0, 5, .inl fb0)), (b1, .inl (K 0, 6, .inl fb1)), (b2, .inl (K 0, 12, .inl fb2)), (b3, .inl (K 0, 24, .inl fb3)), (b4, .inl (K 0, 24, .inl fb4)), (b5, .inl (K 0, 24, .inl fb5))] := hD
  refine lv_aload_n hx hb dX7_copyFrom_56 rfl (lv_at hl 0 rfl) ?_
  refine lv_aload_n hx hb dX7_copyFrom_57 rfl (lv_at hl 1 rfl) ?_
  refine va_get (D := D) (own := RX7) (ci := 7) (v := .int 0) (C := RX7) (T := TX7) (N := 15) hx hb hts inb_X7 hown hK.1 hP 7 rfl rfl 7 (by decide) (hts _ wd_103) (fun _ h9 => h9) rfl dX7_copyFrom_58 ?_
  refine va_put (D := D) (own := RX7) (ci := 7) (v := .int 0) (ty := .int) (C := RX7) (T := TX7) (N := 15) hx hb hts inb_X7 tyX7 tyX7_ok nmX7 hown hK.1 hP hD hS 0 rfl rfl 7 (by decide) (hts _ wd_103) (fun _ h9 => h9) rfl (by decide +kernel) rfl rfl (Nat.le_of_ble_eq_true rfl) dX7_copyFrom_61 (fun H locs hP hD hS => ?_)
  have hP : va_P D vwCl [(o0, .inr (7, [.int 0, .int 0, .int 0, .int 0, .int 0, .int 0, .int 0, .int 0, .int 0, .ref a0, .ref a1, .ref a2, .ref a3, .ref a4, .ref a5])), (a0, .inl (K 0, 5, .inl fa0)), (a1, .inl (K 0, 6, .inl fa1)), (a2, .inl (K 0, 12, .inl fa2)), (a3, .inl (K 0, 24, .inl fa3)), (a4, .inl (K 0, 24, .inl fa4)), (a5, .inl (K 0, 24, .inl fa5)), (o1, .inr (7, [.int 0, .int 0, .int 0, .int 0, .int 0, .int 0, .int 0, .int 0, .int 0, .ref b0, .ref b1, .ref b2, .ref b3, .ref b4, .ref b5])), (b0, .inl (K 0, 5, .inl fb0)), (b1, .inl (K 0, 6, .inl fb1)), (b2, .inl (K 0, 12, .inl fb2)), (b3, .inl (K 0, 24, .inl fb3)), (b4, .inl (K 0, 24, .inl fb4)), (b5, .inl (K 0, 24, .inl fb5))] H := hP
  have hD : va_D A [(o0, .inr (7, [.int 0, .int 0, .int 0, .int 0, .int 0, .int 0, .int 0, .int 0, .int 0, .ref a0, .ref a1, .ref a2, .ref a3, .ref a4, .ref a5])), (a0, .inl (K 0, 5, .inl fa0)), (a1, .inl (K 0, 6, .inl fa1)), (a2, .inl (K 0, 12, .inl fa2)), (a3, .inl (K 0, 24, .inl fa3)), (a4, .inl (K 0, 24, .inl fa4)), (a5, .inl (K 0, 24, .inl fa5)), (o1, .inr (7, [.int 0, .int 0, .int 0, .int 0, .int 0, .int 0, .int 0, .int 0, .int 0, .ref b0, .ref b1, .ref b2, .ref b3, .ref b4, .ref b5])), (b0, .inl (K 0, 5, .inl fb0)), (b1, .inl (K 0, 6, .inl fb1)), (b2, .inl (K 0, 12, .inl fb2)), (b3, .inl (K 0, 24, .inl fb3)), (b4, .inl (K 0, 24, .inl fb4)), (b5, .inl (K 0, 24, .inl fb5))] := hD
  refine lv_aload_n hx hb dX7_copyFrom_64 rfl (lv_at hl 0 rfl) ?_
  refine lv_aload_n hx hb dX7_copyFrom_65 rfl (lv_at hl 1 rfl) ?_
  refine va_get (D := D) (own := RX7) (ci := 7) (v := .int 0) (C := RX7) (T := TX7) (N := 15) hx hb hts inb_X7 hown hK.1 hP 7 rfl rfl 8 (by decide) (hts _ wd_106) (fun _ h9 => h9) rfl dX7_copyFrom_66 ?_
  refine va_put (D := D) (own := RX7) (ci := 7) (v := .int 0) (ty := .int) (C := RX7) (T := TX7) (N := 15) hx hb hts inb_X7 tyX7 tyX7_ok nmX7 hown hK.1 hP hD hS 0 rfl rfl 8 (by decide) (hts _ wd_106) (fun _ h9 => h9) rfl (by decide +kernel) rfl rfl (Nat.le_of_ble_eq_true rfl) dX7_copyFrom_69 (fun H locs hP hD hS => ?_)
  have hP : va_P D vwCl [(o0, .inr (7, [.int 0, .int 0, .int 0, .int 0, .int 0, .int 0, .int 0, .int 0, .int 0, .ref a0, .ref a1, .ref a2, .ref a3, .ref a4, .ref a5])), (a0, .inl (K 0, 5, .inl fa0)), (a1, .inl (K 0, 6, .inl fa1)), (a2, .inl (K 0, 12, .inl fa2)), (a3, .inl (K 0, 24, .inl fa3)), (a4, .inl (K 0, 24, .inl fa4)), (a5, .inl (K 0, 24, .inl fa5)), (o1, .inr (7, [.int 0, .int 0, .int 0, .int 0, .int 0, .int 0, .int 0, .int 0, .int 0, .ref b0, .ref b1, .ref b2, .ref b3, .ref b4, .ref b5])), (b0, .inl (K 0, 5, .inl fb0)), (b1, .inl (K 0, 6, .inl fb1)), (b2, .inl (K 0, 12, .inl fb2)), (b3, .inl (K 0, 24, .inl fb3)), (b4, .inl (K 0, 24, .inl fb4)), (b5, .inl (K 0, 24, .inl fb5))] H := hP
  have hD : va_D A [(o0, .inr (7, [.int 0, .int 0, .int 0, .int 0, .int 0, .int 0, .int 0, .int 0, .int 0, .ref a0, .ref a1, .ref a2, .ref a3, .ref a4, .ref a5])), (a0, .inl (K 0, 5, .inl fa0)), (a1, .inl (K 0, 6, .inl fa1)), (a2, .inl (K 0, 12, .inl fa2)), (a3, .inl (K 0, 24, .inl fa3)), (a4, .inl (K 0, 24, .inl fa4)), (a5, .inl (K 0, 24, .inl fa5)), (o1, .inr (7, [.int 0, .int 0, .int 0, .int 0, .int 0, .int 0, .int 0, .int 0, .int 0, .ref b0, .ref b1, .ref b2, .ref b3, .ref b4, .ref b5])), (b0, .inl (K 0, 5, .inl fb0)), (b1, .inl (K 0, 6, .inl fb1)), (b2, .inl (K 0, 12, .inl fb2)), (b3, .inl (K 0, 24, .inl fb3)), (b4, .inl (K 0, 24, .inl fb4)), (b5, .inl (K 0, 24, .inl fb5))] := hD
  refine lv_aload_n hx hb dX7_copyFrom_72 rfl (lv_at hl 1 rfl) ?_
  refine va_get (D := D) (own := RX7) (ci := 7) (v := .ref b0) (C := RX7) (T := TX7) (N := 15) hx hb hts inb_X7 hown hK.1 hP 7 rfl rfl 9 (by decide) (hts _ wd_109) (fun _ h9 => h9) rfl dX7_copyFrom_73 ?_
  refine lv_iconst (v := 0) hx hb dX7_copyFrom_76 (by decide) ?_
  refine fn_at 77 rfl ?_
  refine lv_aload_n hx hb dX7_copyFrom_77 rfl (lv_at hl 0 rfl) ?_
  refine va_get (D := D) (own := RX7) (ci := 7) (v := .ref a0) (C := RX7) (T := TX7) (N := 15) hx hb hts inb_X7 hown hK.1 hP 0 rfl rfl 9 (by decide) (hts _ wd_109) (fun _ h9 => h9) rfl dX7_copyFrom_78 ?_
  refine lv_iconst (v := 0) hx hb dX7_copyFrom_81 (by decide) ?_
  refine lv_iconst (v := 5) hx hb dX7_copyFrom_82 (by decide) ?_
  refine va_copyi (own := RX7) (ty := .int) hx hb (hml.trans hl.1.symm) hown (hts _ wd_620) (hts _ wd_622) (hts _ wd_621) (hts _ wd_19) hK.1 hP hD hS 8 1 0 0 rfl rfl rfl rfl rfl (by decide) (by decide) (by decide) (by decide) (by decide) (fun _ _ => rfl) (Nat.le_of_ble_eq_true rfl) (Nat.le_of_ble_eq_true rfl) dX7_copyFrom_83 (fun H locs hP hD hS => ?_)
  obtain ⟨g1, eg1⟩ : ∃ z, z = (va_cpy fb0 fa0 (Int32.toNatClampNeg 0) (Int32.toNatClampNeg 0) (Int32.toNatClampNeg 5)) := ⟨_, rfl⟩
  have hP : va_P D vwCl [(o0, .inr (7, [.int 0, .int 0, .int 0, .int 0, .int 0, .int 0, .int 0, .int 0, .int 0, .ref a0, .ref a1, .ref a2, .ref a3, .ref a4, .ref a5])), (a0, .inl (K 0, 5, .inl g1)), (a1, .inl (K 0, 6, .inl fa1)), (a2, .inl (K 0, 12, .inl fa2)), (a3, .inl (K 0, 24, .inl fa3)), (a4, .inl (K 0, 24, .inl fa4)), (a5, .inl (K 0, 24, .inl fa5)), (o1, .inr (7, [.int 0, .int 0, .int 0, .int 0, .int 0, .int 0, .int 0, .int 0, .int 0, .ref b0, .ref b1, .ref b2, .ref b3, .ref b4, .ref b5])), (b0, .inl (K 0, 5, .inl fb0)), (b1, .inl (K 0, 6, .inl fb1)), (b2, .inl (K 0, 12, .inl fb2)), (b3, .inl (K 0, 24, .inl fb3)), (b4, .inl (K 0, 24, .inl fb4)), (b5, .inl (K 0, 24, .inl fb5))] H := by rw [eg1]; exact hP
  have hD : va_D A [(o0, .inr (7, [.int 0, .int 0, .int 0, .int 0, .int 0, .int 0, .int 0, .int 0, .int 0, .ref a0, .ref a1, .ref a2, .ref a3, .ref a4, .ref a5])), (a0, .inl (K 0, 5, .inl g1)), (a1, .inl (K 0, 6, .inl fa1)), (a2, .inl (K 0, 12, .inl fa2)), (a3, .inl (K 0, 24, .inl fa3)), (a4, .inl (K 0, 24, .inl fa4)), (a5, .inl (K 0, 24, .inl fa5)), (o1, .inr (7, [.int 0, .int 0, .int 0, .int 0, .int 0, .int 0, .int 0, .int 0, .int 0, .ref b0, .ref b1, .ref b2, .ref b3, .ref b4, .ref b5])), (b0, .inl (K 0, 5, .inl fb0)), (b1, .inl (K 0, 6, .inl fb1)), (b2, .inl (K 0, 12, .inl fb2)), (b3, .inl (K 0, 24, .inl fb3)), (b4, .inl (K 0, 24, .inl fb4)), (b5, .inl (K 0, 24, .inl fb5))] := by rw [eg1]; exact hD
  refine lv_aload_n hx hb dX7_copyFrom_86 rfl (lv_at hl 1 rfl) ?_
  refine va_get (D := D) (own := RX7) (ci := 7) (v := .ref b1) (C := RX7) (T := TX7) (N := 15) hx hb hts inb_X7 hown hK.1 hP 7 rfl rfl 10 (by decide) (hts _ wd_111) (fun _ h9 => h9) rfl dX7_copyFrom_87 ?_
  refine lv_iconst (v := 0) hx hb dX7_copyFrom_90 (by decide) ?_
  refine lv_aload_n hx hb dX7_copyFrom_91 rfl (lv_at hl 0 rfl) ?_
  refine va_get (D := D) (own := RX7) (ci := 7) (v := .ref a1) (C := RX7) (T := TX7) (N := 15) hx hb hts inb_X7 hown hK.1 hP 0 rfl rfl 10 (by decide) (hts _ wd_111) (fun _ h9 => h9) rfl dX7_copyFrom_92 ?_
  refine lv_iconst (v := 0) hx hb dX7_copyFrom_95 (by decide) ?_
  refine lv_bipush (v := 6) hx hb dX7_copyFrom_96 (by decide) ?_
  refine va_copyi (own := RX7) (ty := .int) hx hb (hml.trans hl.1.symm) hown (hts _ wd_620) (hts _ wd_622) (hts _ wd_621) (hts _ wd_19) hK.1 hP hD hS 9 2 0 0 rfl rfl rfl rfl rfl (by decide) (by decide) (by decide) (by decide) (by decide) (fun _ _ => rfl) (Nat.le_of_ble_eq_true rfl) (Nat.le_of_ble_eq_true rfl) dX7_copyFrom_98 (fun H locs hP hD hS => ?_)
  obtain ⟨g2, eg2⟩ : ∃ z, z = (va_cpy fb1 fa1 (Int32.toNatClampNeg 0) (Int32.toNatClampNeg 0) (Int32.toNatClampNeg 6)) := ⟨_, rfl⟩
  have hP : va_P D vwCl [(o0, .inr (7, [.int 0, .int 0, .int 0, .int 0, .int 0, .int 0, .int 0, .int 0, .int 0, .ref a0, .ref a1, .ref a2, .ref a3, .ref a4, .ref a5])), (a0, .inl (K 0, 5, .inl g1)), (a1, .inl (K 0, 6, .inl g2)), (a2, .inl (K 0, 12, .inl fa2)), (a3, .inl (K 0, 24, .inl fa3)), (a4, .inl (K 0, 24, .inl fa4)), (a5, .inl (K 0, 24, .inl fa5)), (o1, .inr (7, [.int 0, .int 0, .int 0, .int 0, .int 0, .int 0, .int 0, .int 0, .int 0, .ref b0, .ref b1, .ref b2, .ref b3, .ref b4, .ref b5])), (b0, .inl (K 0, 5, .inl fb0)), (b1, .inl (K 0, 6, .inl fb1)), (b2, .inl (K 0, 12, .inl fb2)), (b3, .inl (K 0, 24, .inl fb3)), (b4, .inl (K 0, 24, .inl fb4)), (b5, .inl (K 0, 24, .inl fb5))] H := by rw [eg2]; exact hP
  have hD : va_D A [(o0, .inr (7, [.int 0, .int 0, .int 0, .int 0, .int 0, .int 0, .int 0, .int 0, .int 0, .ref a0, .ref a1, .ref a2, .ref a3, .ref a4, .ref a5])), (a0, .inl (K 0, 5, .inl g1)), (a1, .inl (K 0, 6, .inl g2)), (a2, .inl (K 0, 12, .inl fa2)), (a3, .inl (K 0, 24, .inl fa3)), (a4, .inl (K 0, 24, .inl fa4)), (a5, .inl (K 0, 24, .inl fa5)), (o1, .inr (7, [.int 0, .int 0, .int 0, .int 0, .int 0, .int 0, .int 0, .int 0, .int 0, .ref b0, .ref b1, .ref b2, .ref b3, .ref b4, .ref b5])), (b0, .inl (K 0, 5, .inl fb0)), (b1, .inl (K 0, 6, .inl fb1)), (b2, .inl (K 0, 12, .inl fb2)), (b3, .inl (K 0, 24, .inl fb3)), (b4, .inl (K 0, 24, .inl fb4)), (b5, .inl (K 0, 24, .inl fb5))] := by rw [eg2]; exact hD
  refine lv_aload_n hx hb dX7_copyFrom_101 rfl (lv_at hl 1 rfl) ?_
  refine va_get (D := D) (own := RX7) (ci := 7) (v := .ref b2) (C := RX7) (T := TX7) (N := 15) hx hb hts inb_X7 hown hK.1 hP 7 rfl rfl 11 (by decide) (hts _ wd_113) (fun _ h9 => h9) rfl dX7_copyFrom_102 ?_
  refine lv_iconst (v := 0) hx hb dX7_copyFrom_105 (by decide) ?_
  refine lv_aload_n hx hb dX7_copyFrom_106 rfl (lv_at hl 0 rfl) ?_
  refine va_get (D := D) (own := RX7) (ci := 7) (v := .ref a2) (C := RX7) (T := TX7) (N := 15) hx hb hts inb_X7 hown hK.1 hP 0 rfl rfl 11 (by decide) (hts _ wd_113) (fun _ h9 => h9) rfl dX7_copyFrom_107 ?_
  refine lv_iconst (v := 0) hx hb dX7_copyFrom_110 (by decide) ?_
  refine lv_bipush (v := 12) hx hb dX7_copyFrom_111 (by decide) ?_
  refine fn_at 113 rfl ?_
  refine va_copyi (own := RX7) (ty := .int) hx hb (hml.trans hl.1.symm) hown (hts _ wd_620) (hts _ wd_622) (hts _ wd_621) (hts _ wd_19) hK.1 hP hD hS 10 3 0 0 rfl rfl rfl rfl rfl (by decide) (by decide) (by decide) (by decide) (by decide) (fun _ _ => rfl) (Nat.le_of_ble_eq_true rfl) (Nat.le_of_ble_eq_true rfl) dX7_copyFrom_113 (fun H locs hP hD hS => ?_)
  obtain ⟨g3, eg3⟩ : ∃ z, z = (va_cpy fb2 fa2 (Int32.toNatClampNeg 0) (Int32.toNatClampNeg 0) (Int32.toNatClampNeg 12)) := ⟨_, rfl⟩
  have hP : va_P D vwCl [(o0, .inr (7, [.int 0, .int 0, .int 0, .int 0, .int 0, .int 0, .int 0, .int 0, .int 0, .ref a0, .ref a1, .ref a2, .ref a3, .ref a4, .ref a5])), (a0, .inl (K 0, 5, .inl g1)), (a1, .inl (K 0, 6, .inl g2)), (a2, .inl (K 0, 12, .inl g3)), (a3, .inl (K 0, 24, .inl fa3)), (a4, .inl (K 0, 24, .inl fa4)), (a5, .inl (K 0, 24, .inl fa5)), (o1, .inr (7, [.int 0, .int 0, .int 0, .int 0, .int 0, .int 0, .int 0, .int 0, .int 0, .ref b0, .ref b1, .ref b2, .ref b3, .ref b4, .ref b5])), (b0, .inl (K 0, 5, .inl fb0)), (b1, .inl (K 0, 6, .inl fb1)), (b2, .inl (K 0, 12, .inl fb2)), (b3, .inl (K 0, 24, .inl fb3)), (b4, .inl (K 0, 24, .inl fb4)), (b5, .inl (K 0, 24, .inl fb5))] H := by rw [eg3]; exact hP
  have hD : va_D A [(o0, .inr (7, [.int 0, .int 0, .int 0, .int 0, .int 0, .int 0, .int 0, .int 0, .int 0, .ref a0, .ref a1, .ref a2, .ref a3, .ref a4, .ref a5])), (a0, .inl (K 0, 5, .inl g1)), (a1, .inl (K 0, 6, .inl g2)), (a2, .inl (K 0, 12, .inl g3)), (a3, .inl (K 0, 24, .inl fa3)), (a4, .inl (K 0, 24, .inl fa4)), (a5, .inl (K 0, 24, .inl fa5)), (o1, .inr (7, [.int 0, .int 0, .int 0, .int 0, .int 0, .int 0, .int 0, .int 0, .int 0, .ref b0, .ref b1, .ref b2, .ref b3, .ref b4, .ref b5])), (b0, .inl (K 0, 5, .inl fb0)), (b1, .inl (K 0, 6, .inl fb1)), (b2, .inl (K 0, 12, .inl fb2)), (b3, .inl (K 0, 24, .inl fb3)), (b4, .inl (K 0, 24, .inl fb4)), (b5, .inl (K 0, 24, .inl fb5))] := by rw [eg3]; exact hD
  refine lv_aload_n hx hb dX7_copyFrom_116 rfl (lv_at hl 1 rfl) ?_
  refine va_get (D := D) (own := RX7) (ci := 7) (v := .ref b3) (C := RX7) (T := TX7) (N := 15) hx hb hts inb_X7 hown hK.1 hP 7 rfl rfl 12 (by decide) (hts _ wd_116) (fun _ h9 => h9) rfl dX7_copyFrom_117 ?_
  refine lv_iconst (v := 0) hx hb dX7_copyFrom_120 (by decide) ?_
  refine lv_aload_n hx hb dX7_copyFrom_121 rfl (lv_at hl 0 rfl) ?_
  refine va_get (D := D) (own := RX7) (ci := 7) (v := .ref a3) (C := RX7) (T := TX7) (N := 15) hx hb hts inb_X7 hown hK.1 hP 0 rfl rfl 12 (by decide) (hts _ wd_116) (fun _ h9 => h9) rfl dX7_copyFrom_122 ?_
  refine lv_iconst (v := 0) hx hb dX7_copyFrom_125 (by decide) ?_
  refine lv_bipush (v := 24) hx hb dX7_copyFrom_126 (by decide) ?_
  refine va_copyi (own := RX7) (ty := .int) hx hb (hml.trans hl.1.symm) hown (hts _ wd_620) (hts _ wd_622) (hts _ wd_621) (hts _ wd_19) hK.1 hP hD hS 11 4 0 0 rfl rfl rfl rfl rfl (by decide) (by decide) (by decide) (by decide) (by decide) (fun _ _ => rfl) (Nat.le_of_ble_eq_true rfl) (Nat.le_of_ble_eq_true rfl) dX7_copyFrom_128 (fun H locs hP hD hS => ?_)
  obtain ⟨g4, eg4⟩ : ∃ z, z = (va_cpy fb3 fa3 (Int32.toNatClampNeg 0) (Int32.toNatClampNeg 0) (Int32.toNatClampNeg 24)) := ⟨_, rfl⟩
  have hP : va_P D vwCl [(o0, .inr (7, [.int 0, .int 0, .int 0, .int 0, .int 0, .int 0, .int 0, .int 0, .int 0, .ref a0, .ref a1, .ref a2, .ref a3, .ref a4, .ref a5])), (a0, .inl (K 0, 5, .inl g1)), (a1, .inl (K 0, 6, .inl g2)), (a2, .inl (K 0, 12, .inl g3)), (a3, .inl (K 0, 24, .inl g4)), (a4, .inl (K 0, 24, .inl fa4)), (a5, .inl (K 0, 24, .inl fa5)), (o1, .inr (7, [.int 0, .int 0, .int 0, .int 0, .int 0, .int 0, .int 0, .int 0, .int 0, .ref b0, .ref b1, .ref b2, .ref b3, .ref b4, .ref b5])), (b0, .inl (K 0, 5, .inl fb0)), (b1, .inl (K 0, 6, .inl fb1)), (b2, .inl (K 0, 12, .inl fb2)), (b3, .inl (K 0, 24, .inl fb3)), (b4, .inl (K 0, 24, .inl fb4)), (b5, .inl (K 0, 24, .inl fb5))] H := by rw [eg4]; exact hP
  have hD : va_D A [(o0, .inr (7, [.int 0, .int 0, .int 0, .int 0, .int 0, .int 0, .int 0, .int 0, .int 0, .ref a0, .ref a1, .ref a2, .ref a3, .ref a4, .ref a5])), (a0, .inl (K 0, 5, .inl g1)), (a1, .inl (K 0, 6, .inl g2)), (a2, .inl (K 0, 12, .inl g3)), (a3, .inl (K 0, 24, .inl g4)), (a4, .inl (K 0, 24, .inl fa4)), (a5, .inl (K 0, 24, .inl fa5)), (o1, .inr (7, [.int 0, .int 0, .int 0, .int 0, .int 0, .int 0, .int 0, .int 0, .int 0, .ref b0, .ref b1, .ref b2, .ref b3, .ref b4, .ref b5])), (b0, .inl (K 0, 5, .inl fb0)), (b1, .inl (K 0, 6, .inl fb1)), (b2, .inl (K 0, 12, .inl fb2)), (b3, .inl (K 0, 24, .inl fb3)), (b4, .inl (K 0, 24, .inl fb4)), (b5, .inl (K 0, 24, .inl fb5))] := by rw [eg4]; exact hD
  refine lv_aload_n hx hb dX7_copyFrom_131 rfl (lv_at hl 1 rfl) ?_
  refine va_get (D := D) (own := RX7) (ci := 7) (v := .ref b4) (C := RX7) (T := TX7) (N := 15) hx hb hts inb_X7 hown hK.1 hP 7 rfl rfl 13 (by decide) (hts _ wd_122) (fun _ h9 => h9) rfl dX7_copyFrom_132 ?_
  refine lv_iconst (v := 0) hx hb dX7_copyFrom_135 (by decide) ?_
  refine lv_aload_n hx hb dX7_copyFrom_136 rfl (lv_at hl 0 rfl) ?_
  refine va_get (D := D) (own := RX7) (ci := 7) (v := .ref a4) (C := RX7) (T := TX7) (N := 15) hx hb hts inb_X7 hown hK.1 hP 0 rfl rfl 13 (by decide) (hts _ wd_122) (fun _ h9 => h9) rfl dX7_copyFrom_137 ?_
  refine lv_iconst (v := 0) hx hb dX7_copyFrom_140 (by decide) ?_
  refine lv_bipush (v := 24) hx hb dX7_copyFrom_141 (by decide) ?_
  refine va_copyi (own := RX7) (ty := .int) hx hb (hml.trans hl.1.symm) hown (hts _ wd_620) (hts _ wd_622) (hts _ wd_621) (hts _ wd_19) hK.1 hP hD hS 12 5 0 0 rfl rfl rfl rfl rfl (by decide) (by decide) (by decide) (by decide) (by decide) (fun _ _ => rfl) (Nat.le_of_ble_eq_true rfl) (Nat.le_of_ble_eq_true rfl) dX7_copyFrom_143 (fun H locs hP hD hS => ?_)
  obtain ⟨g5, eg5⟩ : ∃ z, z = (va_cpy fb4 fa4 (Int32.toNatClampNeg 0) (Int32.toNatClampNeg 0) (Int32.toNatClampNeg 24)) := ⟨_, rfl⟩
  have hP : va_P D vwCl [(o0, .inr (7, [.int 0, .int 0, .int 0, .int 0, .int 0, .int 0, .int 0, .int 0, .int 0, .ref a0, .ref a1, .ref a2, .ref a3, .ref a4, .ref a5])), (a0, .inl (K 0, 5, .inl g1)), (a1, .inl (K 0, 6, .inl g2)), (a2, .inl (K 0, 12, .inl g3)), (a3, .inl (K 0, 24, .inl g4)), (a4, .inl (K 0, 24, .inl g5)), (a5, .inl (K 0, 24, .inl fa5)), (o1, .inr (7, [.int 0, .int 0, .int 0, .int 0, .int 0, .int 0, .int 0, .int 0, .int 0, .ref b0, .ref b1, .ref b2, .ref b3, .ref b4, .ref b5])), (b0, .inl (K 0, 5, .inl fb0)), (b1, .inl (K 0, 6, .inl fb1)), (b2, .inl (K 0, 12, .inl fb2)), (b3, .inl (K 0, 24, .inl fb3)), (b4, .inl (K 0, 24, .inl fb4)), (b5, .inl (K 0, 24, .inl fb5))] H := by rw [eg5]; exact hP
  have hD : va_D A [(o0, .inr (7, [.int 0, .int 0, .int 0, .int 0, .int 0, .int 0, .int 0, .int 0, .int 0, .ref a0, .ref a1, .ref a2, .ref a3, .ref a4, .ref a5])), (a0, .inl (K 0, 5, .inl g1)), (a1, .inl (K 0, 6, .inl g2)), (a2, .inl (K 0, 12, .inl g3)), (a3, .inl (K 0, 24, .inl g4)), (a4, .inl (K 0, 24, .inl g5)), (a5, .inl (K 0, 24, .inl fa5)), (o1, .inr (7, [.int 0, .int 0, .int 0, .int 0, .int 0, .int 0, .int 0, .int 0, .int 0, .ref b0, .ref b1, .ref b2, .ref b3, .ref b4, .ref b5])), (b0, .inl (K 0, 5, .inl fb0)), (b1, .inl (K 0, 6, .inl fb1)), (b2, .inl (K 0, 12, .inl fb2)), (b3, .inl (K 0, 24, .inl fb3)), (b4, .inl (K 0, 24, .inl fb4)), (b5, .inl (K 0, 24, .inl fb5))] := by rw [eg5]; exact hD
  refine lv_aload_n hx hb dX7_copyFrom_146 rfl (lv_at hl 1 rfl) ?_
  refine va_get (D := D) (own := RX7) (ci := 7) (v := .ref b5) (C := RX7) (T := TX7) (N := 15) hx hb hts inb_X7 hown hK.1 hP 7 rfl rfl 14 (by decide) (hts _ wd_125) (fun _ h9 => h9) rfl dX7_copyFrom_147 ?_
  refine lv_iconst (v := 0) hx hb dX7_copyFrom_150 (by decide) ?_
  refine fn_at 151 rfl ?_
  refine lv_aload_n hx hb dX7_copyFrom_151 rfl (lv_at hl 0 rfl) ?_
  refine va_get (D := D) (own := RX7) (ci := 7) (v := .ref a5) (C := RX7) (T := TX7) (N := 15) hx hb hts inb_X7 hown hK.1 hP 0 rfl rfl 14 (by decide) (hts _ wd_125) (fun _ h9 => h9) rfl dX7_copyFrom_152 ?_
  refine lv_iconst (v := 0) hx hb dX7_copyFrom_155 (by decide) ?_
  refine lv_bipush (v := 24) hx hb dX7_copyFrom_156 (by decide) ?_
  refine va_copyi (own := RX7) (ty := .int) hx hb (hml.trans hl.1.symm) hown (hts _ wd_620) (hts _ wd_622) (hts _ wd_621) (hts _ wd_19) hK.1 hP hD hS 13 6 0 0 rfl rfl rfl rfl rfl (by decide) (by decide) (by decide) (by decide) (by decide) (fun _ _ => rfl) (Nat.le_of_ble_eq_true rfl) (Nat.le_of_ble_eq_true rfl) dX7_copyFrom_158 (fun H locs hP hD hS => ?_)
  obtain ⟨g6, eg6⟩ : ∃ z, z = (va_cpy fb5 fa5 (Int32.toNatClampNeg 0) (Int32.toNatClampNeg 0) (Int32.toNatClampNeg 24)) := ⟨_, rfl⟩
  have hP : va_P D vwCl [(o0, .inr (7, [.int 0, .int 0, .int 0, .int 0, .int 0, .int 0, .int 0, .int 0, .int 0, .ref a0, .ref a1, .ref a2, .ref a3, .ref a4, .ref a5])), (a0, .inl (K 0, 5, .inl g1)), (a1, .inl (K 0, 6, .inl g2)), (a2, .inl (K 0, 12, .inl g3)), (a3, .inl (K 0, 24, .inl g4)), (a4, .inl (K 0, 24, .inl g5)), (a5, .inl (K 0, 24, .inl g6)), (o1, .inr (7, [.int 0, .int 0, .int 0, .int 0, .int 0, .int 0, .int 0, .int 0, .int 0, .ref b0, .ref b1, .ref b2, .ref b3, .ref b4, .ref b5])), (b0, .inl (K 0, 5, .inl fb0)), (b1, .inl (K 0, 6, .inl fb1)), (b2, .inl (K 0, 12, .inl fb2)), (b3, .inl (K 0, 24, .inl fb3)), (b4, .inl (K 0, 24, .inl fb4)), (b5, .inl (K 0, 24, .inl fb5))] H := by rw [eg6]; exact hP
  have hD : va_D A [(o0, .inr (7, [.int 0, .int 0, .int 0, .int 0, .int 0, .int 0, .int 0, .int 0, .int 0, .ref a0, .ref a1, .ref a2, .ref a3, .ref a4, .ref a5])), (a0, .inl (K 0, 5, .inl g1)), (a1, .inl (K 0, 6, .inl g2)), (a2, .inl (K 0, 12, .inl g3)), (a3, .inl (K 0, 24, .inl g4)), (a4, .inl (K 0, 24, .inl g5)), (a5, .inl (K 0, 24, .inl g6)), (o1, .inr (7, [.int 0, .int 0, .int 0, .int 0, .int 0, .int 0, .int 0, .int 0, .int 0, .ref b0, .ref b1, .ref b2, .ref b3, .ref b4, .ref b5])), (b0, .inl (K 0, 5, .inl fb0)), (b1, .inl (K 0, 6, .inl fb1)), (b2, .inl (K 0, 12, .inl fb2)), (b3, .inl (K 0, 24, .inl fb3)), (b4, .inl (K 0, 24, .inl fb4)), (b5, .inl (K 0, 24, .inl fb5))] := by rw [eg6]; exact hD
  exact fn_vret hx hb hr hlocks hP hD hS (fun k => ([g1, g2, g3, g4, g5, g6] : List (Nat → Int32)).getD k g1) trivial [0, 1, 2, 3, 4, 5, 6, 7, 8, 9, 10, 11, 12, 13] (by decide) rfl dX7_copyFrom_161
theorem dX5_copyFrom_0 : decode cX5_copyFrom 0 = .ok (.aload_n 0, 1) := by decide +kernel
theorem dX5_copyFrom_1 : decode cX5_copyFrom 1 = .ok (.aload_n 1, 1) := by decide +kernel
theorem dX5_copyFrom_2 : decode cX5_copyFrom 2 = .ok (.getfield 33, 3) := by decide +kernel
theorem dX5_copyFrom_5 : decode cX5_copyFrom 5 = .ok (.putfield 33, 3) := by decide +kernel
theorem dX5_copyFrom_8 : decode cX5_copyFrom 8 = .ok (.aload_n 1, 1) := by decide +kernel
theorem dX5_copyFrom_9 : decode cX5_copyFrom 9 = .ok (.getfield 9, 3) := by decide +kernel
theorem dX5_copyFrom_12 : decode cX5_copyFrom 12 = .ok (.iconst 0, 1) := by decide +kernel
theorem dX5_copyFrom_13 : decode cX5_copyFrom 13 = .ok (.aload_n 0, 1) := by decide +kernel
theorem dX5_copyFrom_14 : decode cX5_copyFrom 14 = .ok (.getfield 9, 3) := by decide +kernel
theorem dX5_copyFrom_17 : decode cX5_copyFrom 17 = .ok (.iconst 0, 1) := by decide +kernel
theorem dX5_copyFrom_18 : decode cX5_copyFrom 18 = .ok (.iconst 5, 1) := by decide +kernel
theorem dX5_copyFrom_19 : decode cX5_copyFrom 19 = .ok (.invokestatic 52, 3) := by decide +kernel
theorem dX5_copyFrom_22 : decode cX5_copyFrom 22 = .ok (.aload_n 1, 1) := by decide +kernel
theorem dX5_copyFrom_23 : decode cX5_copyFrom 23 = .ok (.getfield 15, 3) := by decide +kernel
theorem dX5_copyFrom_26 : decode cX5_copyFrom 26 = .ok (.iconst 0, 1) := by decide +kernel
theorem dX5_copyFrom_27 : decode cX5_copyFrom 27 = .ok (.aload_n 0, 1) := by decide +kernel
theorem dX5_copyFrom_28 : decode cX5_copyFrom 28 = .ok (.getfield 15, 3) := by decide +kernel
theorem dX5_copyFrom_31 : decode cX5_copyFrom 31 = .ok (.iconst 0, 1) := by decide +kernel
theorem dX5_copyFrom_32 : decode cX5_copyFrom 32 = .ok (.sipush 150, 3) := by decide +kernel
theorem dX5_copyFrom_35 : decode cX5_copyFrom 35 = .ok (.invokestatic 52, 3) := by decide +kernel
theorem dX5_copyFrom_38 : decode cX5_copyFrom 38 = .ok (.aload_n 1, 1) := by decide +kernel
theorem dX5_copyFrom_39 : decode cX5_copyFrom 39 = .ok (.getfield 18, 3) := by decide +kernel
theorem dX5_copyFrom_42 : decode cX5_copyFrom 42 = .ok (.iconst 0, 1) := by decide +kernel
theorem dX5_copyFrom_43 : decode cX5_copyFrom 43 = .ok (.aload_n 0, 1) := by decide +kernel
theorem dX5_copyFrom_44 : decode cX5_copyFrom 44 = .ok (.getfield 18, 3) := by decide +kernel
theorem dX5_copyFrom_47 : decode cX5_copyFrom 47 = .ok (.iconst 0, 1) := by decide +kernel
theorem dX5_copyFrom_48 : decode cX5_copyFrom 48 = .ok (.bipush 24, 2) := by decide +kernel
theorem dX5_copyFrom_50 : decode cX5_copyFrom 50 = .ok (.invokestatic 52, 3) := by decide +kernel
theorem dX5_copyFrom_53 : decode cX5_copyFrom 53 = .ok (.aload_n 1, 1) := by decide +kernel
theorem dX5_copyFrom_54 : decode cX5_copyFrom 54 = .ok (.getfield 21, 3) := by decide +kernel
theorem dX5_copyFrom_57 : decode cX5_copyFrom 57 = .ok (.iconst 0, 1) := by decide +kernel
theorem dX5_copyFrom_58 : decode cX5_copyFrom 58 = .ok (.aload_n 0, 1) := by decide +kernel
theorem dX5_copyFrom_59 : decode cX5_copyFrom 59 = .ok (.getfield 21, 3) := by decide +kernel
theorem dX5_copyFrom_62 : decode cX5_copyFrom 62 = .ok (.iconst 0, 1) := by decide +kernel
theorem dX5_copyFrom_63 : decode cX5_copyFrom 63 = .ok (.bipush 40, 2) := by decide +kernel
theorem dX5_copyFrom_65 : decode cX5_copyFrom 65 = .ok (.invokestatic 52, 3) := by decide +kernel
theorem dX5_copyFrom_68 : decode cX5_copyFrom 68 = .ok (.aload_n 1, 1) := by decide +kernel
theorem dX5_copyFrom_69 : decode cX5_copyFrom 69 = .ok (.getfield 24, 3) := by decide +kernel
theorem dX5_copyFrom_72 : decode cX5_copyFrom 72 = .ok (.iconst 0, 1) := by decide +kernel
theorem dX5_copyFrom_73 : decode cX5_copyFrom 73 = .ok (.aload_n 0, 1) := by decide +kernel
theorem dX5_copyFrom_74 : decode cX5_copyFrom 74 = .ok (.getfield 24, 3) := by decide +kernel
theorem dX5_copyFrom_77 : decode cX5_copyFrom 77 = .ok (.iconst 0, 1) := by decide +kernel
theorem dX5_copyFrom_78 : decode cX5_copyFrom 78 = .ok (.bipush 40, 2) := by decide +kernel
theorem dX5_copyFrom_80 : decode cX5_copyFrom 80 = .ok (.invokestatic 52, 3) := by decide +kernel
theorem dX5_copyFrom_83 : decode cX5_copyFrom 83 = .ok (.aload_n 1, 1) := by decide +kernel
theorem dX5_copyFrom_84 : decode cX5_copyFrom 84 = .ok (.getfield 27, 3) := by decide +kernel
theorem dX5_copyFrom_87 : decode cX5_copyFrom 87 = .ok (.iconst 0, 1) := by decide +kernel
theorem dX5_copyFrom_88 : decode cX5_copyFrom 88 = .ok (.aload_n 0, 1) := by decide +kernel
theorem dX5_copyFrom_89 : decode cX5_copyFrom 89 = .ok (.getfield 27, 3) := by decide +kernel
theorem dX5_copyFrom_92 : decode cX5_copyFrom 92 = .ok (.iconst 0, 1) := by decide +kernel
theorem dX5_copyFrom_93 : decode cX5_copyFrom 93 = .ok (.bipush 40, 2) := by decide +kernel
theorem dX5_copyFrom_95 : decode cX5_copyFrom 95 = .ok (.invokestatic 52, 3) := by decide +kernel
theorem dX5_copyFrom_98 : decode cX5_copyFrom 98 = .ok (.aload_n 1, 1) := by decide +kernel
theorem dX5_copyFrom_99 : decode cX5_copyFrom 99 = .ok (.getfield 30, 3) := by decide +kernel
theorem dX5_copyFrom_102 : decode cX5_copyFrom 102 = .ok (.iconst 0, 1) := by decide +kernel
theorem dX5_copyFrom_103 : decode cX5_copyFrom 103 = .ok (.aload_n 0, 1) := by decide +kernel
theorem dX5_copyFrom_104 : decode cX5_copyFrom 104 = .ok (.getfield 30, 3) := by decide +kernel
theorem dX5_copyFrom_107 : decode cX5_copyFrom 107 = .ok (.iconst 0, 1) := by decide +kernel
theorem dX5_copyFrom_108 : decode cX5_copyFrom 108 = .ok (.bipush 40, 2) := by decide +kernel
theorem dX5_copyFrom_110 : decode cX5_copyFrom 110 = .ok (.invokestatic 52, 3) := by decide +kernel
theorem dX5_copyFrom_113 : decode cX5_copyFrom 113 = .ok (.return_, 1) := by decide +kernel
set_option maxHeartbeats 4000000 in
set_option maxRecDepth 100000 in
theorem c_X5_copyFrom (l : Launch) (D : va_G) (K : Nat → ClassId) (o0 o1 a0 a1 a2 a3 a4 a5 a6 b0 b1 b2 b3 b4 b5 b6 : Nat) (fa0 fa1 fa2 fa3 fa4 fa5 fa6 fb0 fb1 fb2 fb3 fb4 fb5 fb6 : Nat → Int32) : fn_CV (S := Nat → Nat → Int32) l D K yX5_copyFrom (fn_ws yX5_copyFrom cX5_copyFrom 2 none) ({ frames := 4, cells := 0, slots := 0, locals := 100 }) [.ref o0, .ref o1] [(o0, .inr (5, [.int 0, .ref a0, .ref a1, .ref a2, .ref a3, .ref a4, .ref a5, .ref a6])), (a0, .inl (K 0, 5, .inl fa0)), (a1, .inl (K 0, 150, .inl fa1)), (a2, .inl (K 0, 24, .inl fa2)), (a3, .inl (K 0, 40, .inl fa3)), (a4, .inl (K 0, 40, .inl fa4)), (a5, .inl (K 0, 40, .inl fa5)), (a6, .inl (K 0, 40, .inl fa6)), (o1, .inr (5, [.int 0, .ref b0, .ref b1, .ref b2, .ref b3, .ref b4, .ref b5, .ref b6])), (b0, .inl (K 0, 5, .inl fb0)), (b1, .inl (K 0, 150, .inl fb1)), (b2, .inl (K 0, 24, .inl fb2)), (b3, .inl (K 0, 40, .inl fb3)), (b4, .inl (K 0, 40, .inl fb4)), (b5, .inl (K 0, 40, .inl fb5)), (b6, .inl (K 0, 40, .inl fb6))] (fun _ => True) (fun u => [(o0, .inr (5, [.int 0, .ref a0, .ref a1, .ref a2, .ref a3, .ref a4, .ref a5, .ref a6])), (a0, .inl (K 0, 5, .inl (u 0))), (a1, .inl (K 0, 150, .inl (u 1))), (a2, .inl (K 0, 24, .inl (u 2))), (a3, .inl (K 0, 40, .inl (u 3))), (a4, .inl (K 0, 40, .inl (u 4))), (a5, .inl (K 0, 40, .inl (u 5))), (a6, .inl (K 0, 40, .inl (u 6))), (o1, .inr (5, [.int 0, .ref b0, .ref b1, .ref b2, .ref b3, .ref b4, .ref b5, .ref b6])), (b0, .inl (K 0, 5, .inl fb0)), (b1, .inl (K 0, 150, .inl fb1)), (b2, .inl (K 0, 24, .inl fb2)), (b3, .inl (K 0, 40, .inl fb3)), (b4, .inl (K 0, 40, .inl fb4)), (b5, .inl (K 0, 40, .inl fb5)), (b6, .inl (K 0, 40, .inl fb6))]) 0 0 := by
  refine fn_inV (cc := cX5_copyFrom) (maxL := 2) (ret := none) (by decide) rfl (Nat.le_of_ble_eq_true rfl) ?_
  intro p e s m below meth c A ls B hA hP hD hS hl
  obtain ⟨hx, hb, hr, hml, hts, hown, hlocks, hin, hK⟩ := B
  have hown : s.vm.findClass RX5 = some m.cls := hown
  have hts := fun w h => hts w (List.mem_cons_of_mem _ h)
  have hl : lv_has ls 2 [(0, .ref o0), (1, .ref o1)] := hl
  refine lv_aload_n hx hb dX5_copyFrom_0 rfl (lv_at hl 0 rfl) ?_
  refine lv_aload_n hx hb dX5_copyFrom_1 rfl (lv_at hl 1 rfl) ?_
  refine va_get (D := D) (own := RX5) (ci := 5) (v := .int 0) (C := RX5) (T := TX5) (N := 8) hx hb hts inb_X5 hown hK.1 hP 8 rfl rfl 0 (by decide) (hts _ wd_184) (fun _ h9 => h9) rfl dX5_copyFrom_2 ?_
  refine va_put (D := D) (own := RX5) (ci := 5) (v := .int 0) (ty := .int) (C := RX5) (T := TX5) (N := 8) hx hb hts inb_X5 tyX5 tyX5_ok nmX5 hown hK.1 hP hD hS 0 rfl rfl 0 (by decide) (hts _ wd_184) (fun _ h9 => h9) rfl (by decide +kernel) rfl rfl (Nat.le_of_ble_eq_true rfl) dX5_copyFrom_5 (fun H locs hP hD hS => ?_)
  have hP : va_P D vwCl [(o0, .inr (5, [.int 0, .ref a0, .ref a1, .ref a2, .ref a3, .ref a4, .ref a5, .ref a6])), (a0, .inl (K 0, 5, .inl fa0)), (a1, .inl (K 0, 150, .inl fa1)), (a2, .inl (K 0, 24, .inl fa2)), (a3, .inl (K 0, 40, .inl fa3)), (a4, .inl (K 0, 40, .inl fa4)), (a5, .inl (K 0, 40, .inl fa5)), (a6, .inl (K 0, 40, .inl fa6)), (o1, .inr (5, [.int 0, .ref b0, .ref b1, .ref b2, .ref b3, .ref b4, .ref b5, .ref b6])), (b0, .inl (K 0, 5, .inl fb0)), (b1, .inl (K 0, 150, .inl fb1)), (b2, .inl (K 0, 24, .inl fb2)), (b3, .inl (K 0, 40, .inl fb3)), (b4, .inl (K 0, 40, .inl fb4)), (b5, .inl (K 0, 40, .inl fb5)), (b6, .inl (K 0, 40, .inl fb6))] H := hP
  have hD : va_D A [(o0, .inr (5, [.int 0, .ref a0, .ref a1, .ref a2, .ref a3, .ref a4, .ref a5, .ref a6])), (a0, .inl (K 0, 5, .inl fa0)), (a1, .inl (K 0, 150, .inl fa1)), (a2, .inl (K 0, 24, .inl fa2)), (a3, .inl (K 0, 40, .inl fa3)), (a4, .inl (K 0, 40, .inl fa4)), (a5, .inl (K 0, 40, .inl fa5)), (a6, .inl (K 0, 40, .inl fa6)), (o1, .inr (5, [.int 0, .ref b0, .ref b1, .ref b2, .ref b3, .ref b4, .ref b5, .ref b6])), (b0, .inl (K 0, 5, .inl fb0)), (b1, .inl (K 0, 150, .inl fb1)), (b2, .inl (K 0, 24, .inl fb2)), (b3, .inl (K 0, 40, .inl fb3)), (b4, .inl (K 0, 40, .inl fb4)), (b5, .inl (K 0, 40, .inl fb5)), (b6, .inl (K 0, 40, .inl fb6))] := hD
  refine lv_aload_n hx hb dX5_copyFrom_8 rfl (lv_at hl 1 rfl) ?_
  refine va_get (D := D) (own := RX5) (ci := 5) (v := .ref b0) (C := RX5) (T := TX5) (N := 8) hx hb hts inb_X5 hown hK.1 hP 8 rfl rfl 1 (by decide) (hts _ wd_186) (fun _ h9 => h9) rfl dX5_copyFrom_9 ?_
  refine lv_iconst (v := 0) hx hb dX5_copyFrom_12 (by decide) ?_
  refine lv_aload_n hx hb dX5_copyFrom_13 rfl (lv_at hl 0 rfl) ?_
  refine va_get (D := D) (own := RX5) (ci := 5) (v := .ref a0) (C := RX5) (T := TX5) (N := 8) hx hb hts inb_X5 hown hK.1 hP 0 rfl rfl 1 (by decide) (hts _ wd_186) (fun _ h9 => h9) rfl dX5_copyFrom_14 ?_
  refine lv_iconst (v := 0) hx hb dX5_copyFrom_17 (by decide) ?_
  refine lv_iconst (v := 5) hx hb dX5_copyFrom_18 (by decide) ?_
  refine va_copyi (own := RX5) (ty := .int) hx hb (hml.trans hl.1.symm) hown (hts _ wd_631) (hts _ wd_622) (hts _ wd_621) (hts _ wd_19) hK.1 hP hD hS 9 1 0 0 rfl rfl rfl rfl rfl (by decide) (by decide) (by decide) (by decide) (by decide) (fun _ _ => rfl) (Nat.le_of_ble_eq_true rfl) (Nat.le_of_ble_eq_true rfl) dX5_copyFrom_19 (fun H locs hP hD hS => ?_)
  obtain ⟨g1, eg1⟩ : ∃ z, z = (va_cpy fb0 fa0 (Int32.toNatClampNeg 0) (Int32.toNatClampNeg 0) (Int32.toNatClampNeg 5)) := ⟨_, rfl⟩
  have hP : va_P D vwCl [(o0, .inr (5, [.int 0, .ref a0, .ref a1, .ref a2, .ref a3, .ref a4, .ref a5, .ref a6])), (a0, .inl (K 0, 5, .inl g1)), (a1, .inl (K 0, 150, .inl fa1)), (a2, .inl (K 0, 24, .inl fa2)), (a3, .inl (K 0, 40, .inl fa3)), (a4, .inl (K 0, 40, .inl fa4)), (a5, .inl (K 0, 40, .inl fa5)), (a6, .inl (K 0, 40, .inl fa6)), (o1, .inr (5, [.int 0, .ref b0, .ref b1, .ref b2, .ref b3, .ref b4, .ref b5, .ref b6])), (b0, .inl (K 0, 5, .inl fb0)), (b1, .inl (K 0, 150, .inl fb1)), (b2, .inl (K 0, 24, .inl fb2)), (b3, .inl (K 0, 40, .inl fb3)), (b4, .inl (K 0, 40, .inl fb4)), (b5, .inl (K 0, 40, .inl fb5)), (b6, .inl (K 0, 40, .inl fb6))] H := by rw [eg1]; exact hP
  have hD : va_D A [(o0, .inr (5, [.int 0, .ref a0, .ref a1, .ref a2, .ref a3, .ref a4, .ref a5, .ref a6])), (a0, .inl (K 0, 5, .inl g1)), (a1, .inl (K 0, 150, .inl fa1)), (a2, .inl (K 0, 24, .inl fa2)), (a3, .inl (K 0, 40, .inl fa3)), (a4, .inl (K 0, 40, .inl fa4)), (a5, .inl (K 0, 40, .inl fa5)), (a6, .inl (K 0, 40, .inl fa6)), (o1, .inr (5, [.int 0, .ref b0, .ref b1, .ref b2, .ref b3, .ref b4, .ref b5, .ref b6])), (b0, .inl (K 0, 5, .inl fb0)), (b1, .inl (K 0, 150, .inl fb1)), (b2, .inl (K 0, 24, .inl fb2)), (b3, .inl (K 0, 40, .inl fb3)), (b4, .inl (K 0, 40, .inl fb4)), (b5, .inl (K 0, 40, .inl fb5)), (b6, .inl (K 0, 40, .inl fb6))] := by rw [eg1]; exact hD
  refine lv_aload_n hx hb dX5_copyFrom_22 rfl (lv_at hl 1 rfl) ?_
  refine va_get (D := D) (own := RX5) (ci := 5) (v := .ref b1) (C := RX5) (T := TX5) (N := 8) hx hb hts inb_X5 hown hK.1 hP 8 rfl rfl 2 (by decide) (hts _ wd_190) (fun _ h9 => h9) rfl dX5_copyFrom_23 ?_
  refine lv_iconst (v := 0) hx hb dX5_copyFrom_26 (by decide) ?_
  refine lv_aload_n hx hb dX5_copyFrom_27 rfl (lv_at hl 0 rfl) ?_
  refine va_get (D := D) (own := RX5) (ci := 5) (v := .ref a1) (C := RX5) (T := TX5) (N := 8) hx hb hts inb_X5 hown hK.1 hP 0 rfl rfl 2 (by decide) (hts _ wd_190) (fun _ h9 => h9) rfl dX5_copyFrom_28 ?_
  refine lv_iconst (v := 0) hx hb dX5_copyFrom_31 (by decide) ?_
  refine lv_sipush (v := 150) hx hb dX5_copyFrom_32 (by decide) ?_
  refine fn_at 35 rfl ?_
  refine va_copyi (own := RX5) (ty := .int) hx hb (hml.trans hl.1.symm) hown (hts _ wd_631) (hts _ wd_622) (hts _ wd_621) (hts _ wd_19) hK.1 hP hD hS 10 2 0 0 rfl rfl rfl rfl rfl (by decide) (by decide) (by decide) (by decide) (by decide) (fun _ _ => rfl) (Nat.le_of_ble_eq_true rfl) (Nat.le_of_ble_eq_true rfl) dX5_copyFrom_35 (fun H locs hP hD hS => ?_)
  obtain ⟨g2, eg2⟩ : ∃ z, z = (va_cpy fb1 fa1 (Int32.toNatClampNeg 0) (Int32.toNatClampNeg 0) (Int32.toNatClampNeg 150)) := ⟨_, rfl⟩
  have hP : va_P D vwCl [(o0, .inr (5, [.int 0, .ref a0, .ref a1, .ref a2, .ref a3, .ref a4, .ref a5, .ref a6])), (a0, .inl (K 0, 5, .inl g1)), (a1, .inl (K 0, 150, .inl g2)), (a2, .inl (K 0, 24, .inl fa2)), (a3, .inl (K 0, 40, .inl fa3)), (a4, .inl (K 0, 40, .inl fa4)), (a5, .inl (K 0, 40, .inl fa5)), (a6, .inl (K 0, 40, .inl fa6)), (o1, .inr (5, [.int 0, .ref b0, .ref b1, .ref b2, .ref b3, .ref b4, .ref b5, .ref b6])), (b0, .inl (K 0, 5, .inl fb0)), (b1, .inl (K 0, 150, .inl fb1)), (b2, .inl (K 0, 24, .inl fb2)), (b3, .inl (K 0, 40, .inl fb3)), (b4, .inl (K 0, 40, .inl fb4)), (b5, .inl (K 0, 40, .inl fb5)), (b6, .inl (K 0, 40, .inl fb6))] H := by rw [eg2]; exact hP
  have hD : va_D A [(o0, .inr (5, [.int 0, .ref a0, .ref a1, .ref a2, .ref a3, .ref a4, .ref a5, .ref a6])), (a0, .inl (K 0, 5, .inl g1)), (a1, .inl (K 0, 150, .inl g2)), (a2, .inl (K 0, 24, .inl fa2)), (a3, .inl (K 0, 40, .inl fa3)), (a4, .inl (K 0, 40, .inl fa4)), (a5, .inl (K 0, 40, .inl fa5)), (a6, .inl (K 0, 40, .inl fa6)), (o1, .inr (5, [.int 0, .ref b0, .ref b1, .ref b2, .ref b3, .ref b4, .ref b5, .ref b6])), (b0, .inl (K 0, 5, .inl fb0)), (b1, .inl (K 0, 150, .inl fb1)), (b2, .inl (K 0, 24, .inl fb2)), (b3, .inl (K 0, 40, .inl fb3)), (b4, .inl (K 0, 40, .inl fb4)), (b5, .inl (K 0, 40, .inl fb5)), (b6, .inl (K 0, 40, .inl fb6))] := by rw [eg2]; exact hD
  refine lv_aload_n hx hb dX5_copyFrom_38 rfl (lv_at hl 1 rfl) ?_
  refine va_get (D := D) (own := RX5) (ci := 5) (v := .ref b2) (C := RX5) (T := TX5) (N := 8) hx hb hts inb_X5 hown hK.1 hP 8 rfl rfl 3 (by decide) (hts _ wd_191) (fun _ h9 => h9) rfl dX5_copyFrom_39 ?_
  refine lv_iconst (v := 0) hx hb dX5_copyFrom_42 (by decide) ?_
  refine lv_aload_n hx hb dX5_copyFrom_43 rfl (lv_at hl 0 rfl) ?_
  refine va_get (D := D) (own := RX5) (ci := 5) (v := .ref a2) (C := RX5) (T := TX5) (N := 8) hx hb hts inb_X5 hown hK.1 hP 0 rfl rfl 3 (by decide) (hts _ wd_191) (fun _ h9 => h9) rfl dX5_copyFrom_44 ?_
  refine lv_iconst (v := 0) hx hb dX5_copyFrom_47 (by decide) ?_
  refine lv_bipush (v := 24) hx hb dX5_copyFrom_48 (by decide) ?_
  refine va_copyi (own := RX5) (ty := .int) hx hb (hml.trans hl.1.symm) hown (hts _ wd_631) (hts _ wd_622) (hts _ wd_621) (hts _ wd_19) hK.1 hP hD hS 11 3 0 0 rfl rfl rfl rfl rfl (by decide) (by decide) (by decide) (by decide) (by decide) (fun _ _ => rfl) (Nat.le_of_ble_eq_true rfl) (Nat.le_of_ble_eq_true rfl) dX5_copyFrom_50 (fun H locs hP hD hS => ?_)
  obtain ⟨g3, eg3⟩ : ∃ z, z = (va_cpy fb2 fa2 (Int32.toNatClampNeg 0) (Int32.toNatClampNeg 0) (Int32.toNatClampNeg 24)) := ⟨_, rfl⟩
  have hP : va_P D vwCl [(o0, .inr (5, [.int 0, .ref a0, .ref a1, .ref a2, .ref a3, .ref a4, .ref a5, .ref a6])), (a0, .inl (K 0, 5, .inl g1)), (a1, .inl (K 0, 150, .inl g2)), (a2, .inl (K 0, 24, .inl g3)), (a3, .inl (K 0, 40, .inl fa3)), (a4, .inl (K 0, 40, .inl fa4)), (a5, .inl (K 0, 40, .inl fa5)), (a6, .inl (K 0, 40, .inl fa6)), (o1, .inr (5, [.int 0, .ref b0, .ref b1, .ref b2, .ref b3, .ref b4, .ref b5, .ref b6])), (b0, .inl (K 0, 5, .inl fb0)), (b1, .inl (K 0, 150, .inl fb1)), (b2, .inl (K 0, 24, .inl fb2)), (b3, .inl (K 0, 40, .inl fb3)), (b4, .inl (K 0, 40, .inl fb4)), (b5, .inl (K 0, 40, .inl fb5)), (b6, .inl (K 0, 40, .inl fb6))] H := by rw [eg3]; exact hP
  have hD : va_D A [(o0, .inr (5, [.int 0, .ref a0, .ref a1, .ref a2, .ref a3, .ref a4, .ref a5, .ref a6])), (a0, .inl (K 0, 5, .inl g1)), (a1, .inl (K 0, 150, .inl g2)), (a2, .inl (K 0, 24, .inl g3)), (a3, .inl (K 0, 40, .inl fa3)), (a4, .inl (K 0, 40, .inl fa4)), (a5, .inl (K 0, 40, .inl fa5)), (a6, .inl (K 0, 40, .inl fa6)), (o1, .inr (5, [.int 0, .ref b0, .ref b1, .ref b2, .ref b3, .ref b4, .ref b5, .ref b6])), (b0, .inl (K 0, 5, .inl fb0)), (b1, .inl (K 0, 150, .inl fb1)), (b2, .inl (K 0, 24, .inl fb2)), (b3, .inl (K 0, 40, .inl fb3)), (b4, .inl (K 0, 40, .inl fb4)), (b5, .inl (K 0, 40, .inl fb5)), (b6, .inl (K 0, 40, .inl fb6))] := by rw [eg3]; exact hD
  refine lv_aload_n hx hb dX5_copyFrom_53 rfl (lv_at hl 1 rfl) ?_
  refine va_get (D := D) (own := RX5) (ci := 5) (v := .ref b3) (C := RX5) (T := TX5) (N := 8) hx hb hts inb_X5 hown hK.1 hP 8 rfl rfl 4 (by decide) (hts _ wd_194) (fun _ h9 => h9) rfl dX5_copyFrom_54 ?_
  refine lv_iconst (v := 0) hx hb dX5_copyFrom_57 (by decide) ?_
  refine lv_aload_n hx hb dX5_copyFrom_58 rfl (lv_at hl 0 rfl) ?_
  refine va_get (D := D) (own := RX5) (ci := 5) (v := .ref a3) (C := RX5) (T := TX5) (N := 8) hx hb hts inb_X5 hown hK.1 hP 0 rfl rfl 4 (by decide) (hts _ wd_194) (fun _ h9 => h9) rfl dX5_copyFrom_59 ?_
  refine lv_iconst (v := 0) hx hb dX5_copyFrom_62 (by decide) ?_
  refine lv_bipush (v := 40) hx hb dX5_copyFrom_63 (by decide) ?_
  refine va_copyi (own := RX5) (ty := .int) hx hb (hml.trans hl.1.symm) hown (hts _ wd_631) (hts _ wd_622) (hts _ wd_621) (hts _ wd_19) hK.1 hP hD hS 12 4 0 0 rfl rfl rfl rfl rfl (by decide) (by decide) (by decide) (by decide) (by decide) (fun _ _ => rfl) (Nat.le_of_ble_eq_true rfl) (Nat.le_of_ble_eq_true rfl) dX5_copyFrom_65 (fun H locs hP hD hS => ?_)
  obtain ⟨g4, eg4⟩ : ∃ z, z = (va_cpy fb3 fa3 (Int32.toNatClampNeg 0) (Int32.toNatClampNeg 0) (Int32.toNatClampNeg 40)) := ⟨_, rfl⟩
  have hP : va_P D vwCl [(o0, .inr (5, [.int 0, .ref a0, .ref a1, .ref a2, .ref a3, .ref a4, .ref a5, .ref a6])), (a0, .inl (K 0, 5, .inl g1)), (a1, .inl (K 0, 150, .inl g2)), (a2, .inl (K 0, 24, .inl g3)), (a3, .inl (K 0, 40, .inl g4)), (a4, .inl (K 0, 40, .inl fa4)), (a5, .inl (K 0, 40, .inl fa5)), (a6, .inl (K 0, 40, .inl fa6)), (o1, .inr (5, [.int 0, .ref b0, .ref b1, .ref b2, .ref b3, .ref b4, .ref b5, .ref b6])), (b0, .inl (K 0, 5, .inl fb0)), (b1, .inl (K 0, 150, .inl fb1)), (b2, .inl (K 0, 24, .inl fb2)), (b3, .inl (K 0, 40, .inl fb3)), (b4, .inl (K 0, 40, .inl fb4)), (b5, .inl (K 0, 40, .inl fb5)), (b6, .inl (K 0, 40, .inl fb6))] H := by rw [eg4]; exact hP
  have hD : va_D A [(o0, .inr (5, [.int 0, .ref a0, .ref a1, .ref a2, .ref a3, .ref a4, .ref a5, .ref a6])), (a0, .inl (K 0, 5, .inl g1)), (a1, .inl (K 0, 150, .inl g2)), (a2, .inl (K 0, 24, .inl g3)), (a3, .inl (K 0, 40, .inl g4)), (a4, .inl (K 0, 40, .inl fa4)), (a5, .inl (K 0, 40, .inl fa5)), (a6, .inl (K 0, 40, .inl fa6)), (o1, .inr (5, [.int 0, .ref b0, .ref b1, .ref b2, .ref b3, .ref b4, .ref b5, .ref b6])), (b0, .inl (K 0, 5, .inl fb0)), (b1, .inl (K 0, 150, .inl fb1)), (b2, .inl (K 0, 24, .inl fb2)), (b3, .inl (K 0, 40, .inl fb3)), (b4, .inl (K 0, 40, .inl fb4)), (b5, .inl (K 0, 40, .inl fb5)), (b6, .inl (K 0, 40, .inl fb6))] := by rw [eg4]; exact hD
  refine lv_aload_n hx hb dX5_copyFrom_68 rfl (lv_at hl 1 rfl) ?_
  refine va_get (D := D) (own := RX5) (ci := 5) (v := .ref b4) (C := RX5) (T := TX5) (N := 8) hx hb hts inb_X5 hown hK.1 hP 8 rfl rfl 5 (by decide) (hts _ wd_195) (fun _ h9 => h9) rfl dX5_copyFrom_69 ?_
  refine lv_iconst (v := 0) hx hb dX5_copyFrom_72 (by decide) ?_
  refine fn_at 73 rfl ?_
  refine lv_aload_n hx hb dX5_copyFrom_73 rfl (lv_at hl 0 rfl) ?_
  refine va_get (D := D) (own := RX5) (ci := 5) (v := .ref a4) (C := RX5) (T := TX5) (N := 8) hx hb hts inb_X5 hown hK.1 hP 0 rfl rfl 5 (by decide) (hts _ wd_195) (fun _ h9 => h9) rfl dX5_copyFrom_74 ?_
  refine lv_iconst (v := 0) hx hb dX5_copyFrom_77 (by decide) ?_
  refine lv_bipush (v := 40) hx hb dX5_copyFrom_78 (by decide) ?_
  refine va_copyi (own := RX5) (ty := .int) hx hb (hml.trans hl.1.symm) hown (hts _ wd_631) (hts _ wd_622) (hts _ wd_621) (hts _ wd_19) hK.1 hP hD hS 13 5 0 0 rfl rfl rfl rfl rfl (by decide) (by decide) (by decide) (by decide) (by decide) (fun _ _ => rfl) (Nat.le_of_ble_eq_true rfl) (Nat.le_of_ble_eq_true rfl) dX5_copyFrom_80 (fun H locs hP hD hS => ?_)
  obtain ⟨g5, eg5⟩ : ∃ z, z = (va_cpy fb4 fa4 (Int32.toNatClampNeg 0) (Int32.toNatClampNeg 0) (Int32.toNatClampNeg 40)) := ⟨_, rfl⟩
  have hP : va_P D vwCl [(o0, .inr (5, [.int 0, .ref a0, .ref a1, .ref a2, .ref a3, .ref a4, .ref a5, .ref a6])), (a0, .inl (K 0, 5, .inl g1)), (a1, .inl (K 0, 150, .inl g2)), (a2, .inl (K 0, 24, .inl g3)), (a3, .inl (K 0, 40, .inl g4)), (a4, .inl (K 0, 40, .inl g5)), (a5, .inl (K 0, 40, .inl fa5)), (a6, .inl (K 0, 40, .inl fa6)), (o1, .inr (5, [.int 0, .ref b0, .ref b1, .ref b2, .ref b3, .ref b4, .ref b5, .ref b6])), (b0, .inl (K 0, 5, .inl fb0)), (b1, .inl (K 0, 150, .inl fb1)), (b2, .inl (K 0, 24, .inl fb2)), (b3, .inl (K 0, 40, .inl fb3)), (b4, .inl (K 0, 40, .inl fb4)), (b5, .inl (K 0, 40, .inl fb5)), (b6, .inl (K 0, 40, .inl fb6))] H := by rw [eg5]; exact hP
  have hD : va_D A [(o0, .inr (5, [.int 0, .ref a0, .ref a1, .ref a2, .ref a3, .ref a4, .ref a5, .ref a6])), (a0, .inl (K 0, 5, .inl g1)), (a1, .inl (K 0, 150, .inl g2)), (a2, .inl (K 0, 24, .inl g3)), (a3, .inl (K 0, 40, .inl g4)), (a4, .inl (K 0, 40, .inl g5)), (a5, .inl (K 0, 40, .inl fa5)), (a6, .inl (K 0, 40, .inl fa6)), (o1, .inr (5, [.int 0, .ref b0, .ref b1, .ref b2, .ref b3, .ref b4, .ref b5, .ref b6])), (b0, .inl (K 0, 5, .inl fb0)), (b1, .inl (K 0, 150, .inl fb1)), (b2, .inl (K 0, 24, .inl fb2)), (b3, .inl (K 0, 40, .inl fb3)), (b4, .inl (K 0, 40, .inl fb4)), (b5, .inl (K 0, 40, .inl fb5)), (b6, .inl (K 0, 40, .inl fb6))] := by rw [eg5]; exact hD
  refine lv_aload_n hx hb dX5_copyFrom_83 rfl (lv_at hl 1 rfl) ?_
  refine va_get (D := D) (own := RX5) (ci := 5) (v := .ref b5) (C := RX5) (T := TX5) (N := 8) hx hb hts inb_X5 hown hK.1 hP 8 rfl rfl 6 (by decide) (hts _ wd_196) (fun _ h9 => h9) rfl dX5_copyFrom_84 ?_
  refine lv_iconst (v := 0) hx hb dX5_copyFrom_87 (by decide) ?_
  refine lv_aload_n hx hb dX5_copyFrom_88 rfl (lv_at hl 0 rfl) ?_
  refine va_get (D := D) (own := RX5) (ci := 5) (v := .ref a5) (C := RX5) (T := TX5) (N := 8) hx hb hts inb_X5 hown hK.1 hP 0 rfl rfl 6 (by decide) (hts _ wd_196) (fun _ h9 => h9) rfl dX5_copyFrom_89 ?_
  refine lv_iconst (v := 0) hx hb dX5_copyFrom_92 (by decide) ?_
  refine lv_bipush (v := 40) hx hb dX5_copyFrom_93 (by decide) ?_
  refine va_copyi (own := RX5) (ty := .int) hx hb (hml.trans hl.1.symm) hown (hts _ wd_631) (hts _ wd_622) (hts _ wd_621) (hts _ wd_19) hK.1 hP hD hS 14 6 0 0 rfl rfl rfl rfl rfl (by decide) (by decide) (by decide) (by decide) (by decide) (fun _ _ => rfl) (Nat.le_of_ble_eq_true rfl) (Nat.le_of_ble_eq_true rfl) dX5_copyFrom_95 (fun H locs hP hD hS => ?_)
  obtain ⟨g6, eg6⟩ : ∃ z, z = (va_cpy fb5 fa5 (Int32.toNatClampNeg 0) (Int32.toNatClampNeg 0) (Int32.toNatClampNeg 40)) := ⟨_, rfl⟩
  have hP : va_P D vwCl [(o0, .inr (5, [.int 0, .ref a0, .ref a1, .ref a2, .ref a3, .ref a4, .ref a5, .ref a6])), (a0, .inl (K 0, 5, .inl g1)), (a1, .inl (K 0, 150, .inl g2)), (a2, .inl (K 0, 24, .inl g3)), (a3, .inl (K 0, 40, .inl g4)), (a4, .inl (K 0, 40, .inl g5)), (a5, .inl (K 0, 40, .inl g6)), (a6, .inl (K 0, 40, .inl fa6)), (o1, .inr (5, [.int 0, .ref b0, .ref b1, .ref b2, .ref b3, .ref b4, .ref b5, .ref b6])), (b0, .inl (K 0, 5, .inl fb0)), (b1, .inl (K 0, 150, .inl fb1)), (b2, .inl (K 0, 24, .inl fb2)), (b3, .inl (K 0, 40, .inl fb3)), (b4, .inl (K 0, 40, .inl fb4)), (b5, .inl (K 0, 40, .inl fb5)), (b6, .inl (K 0, 40, .inl fb6))] H := by rw [eg6]; exact hP
  have hD : va_D A [(o0, .inr (5, [.int 0, .ref a0, .ref a1, .ref a2, .ref a3, .ref a4, .ref a5, .ref a6])), (a0, .inl (K 0, 5, .inl g1)), (a1, .inl (K 0, 150, .inl g2)), (a2, .inl (K 0, 24, .inl g3)), (a3, .inl (K 0, 40, .inl g4)), (a4, .inl (K 0, 40, .inl g5)), (a5, .inl (K 0, 40, .inl g6)), (a6, .inl (K 0, 40, .inl fa6)), (o1, .inr (5, [.int 0, .ref b0, .ref b1, .ref b2, .ref b3, .ref b4, .ref b5, .ref b6])), (b0, .inl (K 0, 5, .inl fb0)), (b1, .inl (K 0, 150, .inl fb1)), (b2, .inl (K 0, 24, .inl fb2)), (b3, .inl (K 0, 40, .inl fb3)), (b4, .inl (K 0, 40, .inl fb4)), (b5, .inl (K 0, 40, .inl fb5)), (b6, .inl (K 0, 40, .inl fb6))] := by rw [eg6]; exact hD
  refine lv_aload_n hx hb dX5_copyFrom_98 rfl (lv_at hl 1 rfl) ?_
  refine va_get (D := D) (own := RX5) (ci := 5) (v := .ref b6) (C := RX5) (T := TX5) (N := 8) hx hb hts inb_X5 hown hK.1 hP 8 rfl rfl 7 (by decide) (hts _ wd_197) (fun _ h9 => h9) rfl dX5_copyFrom_99 ?_
  refine lv_iconst (v := 0) hx hb dX5_copyFrom_102 (by decide) ?_
  refine lv_aload_n hx hb dX5_copyFrom_103 rfl (lv_at hl 0 rfl) ?_
  refine va_get (D := D) (own := RX5) (ci := 5) (v := .ref a6) (C := RX5) (T := TX5) (N := 8) hx hb hts inb_X5 hown hK.1 hP 0 rfl rfl 7 (by decide) (hts _ wd_197) (fun _ h9 => h9) rfl dX5_copyFrom_104 ?_
  refine lv_iconst (v := 0) hx hb dX5_copyFrom_107 (by decide) ?_
  refine lv_bipush (v := 40) hx hb dX5_copyFrom_108 (by decide) ?_
  refine fn_at 110 rfl ?_
  refine va_copyi (own := RX5) (ty := .int) hx hb (hml.trans hl.1.symm) hown (hts _ wd_631) (hts _ wd_622) (hts _ wd_621) (hts _ wd_19) hK.1 hP hD hS 15 7 0 0 rfl rfl rfl rfl rfl (by decide) (by decide) (by decide) (by decide) (by decide) (fun _ _ => rfl) (Nat.le_of_ble_eq_true rfl) (Nat.le_of_ble_eq_true rfl) dX5_copyFrom_110 (fun H locs hP hD hS => ?_)
  obtain ⟨g7, eg7⟩ : ∃ z, z = (va_cpy fb6 fa6 (Int32.toNatClampNeg 0) (Int32.toNatClampNeg 0) (Int32.toNatClampNeg 40)) := ⟨_, rfl⟩
  have hP : va_P D vwCl [(o0, .inr (5, [.int 0, .ref a0, .ref a1, .ref a2, .ref a3, .ref a4, .ref a5, .ref a6])), (a0, .inl (K 0, 5, .inl g1)), (a1, .inl (K 0, 150, .inl g2)), (a2, .inl (K 0, 24, .inl g3)), (a3, .inl (K 0, 40, .inl g4)), (a4, .inl (K 0, 40, .inl g5)), (a5, .inl (K 0, 40, .inl g6)), (a6, .inl (K 0, 40, .inl g7)), (o1, .inr (5, [.int 0, .ref b0, .ref b1, .ref b2, .ref b3, .ref b4, .ref b5, .ref b6])), (b0, .inl (K 0, 5, .inl fb0)), (b1, .inl (K 0, 150, .inl fb1)), (b2, .inl (K 0, 24, .inl fb2)), (b3, .inl (K 0, 40, .inl fb3)), (b4, .inl (K 0, 40, .inl fb4)), (b5, .inl (K 0, 40, .inl fb5)), (b6, .inl (K 0, 40, .inl fb6))] H := by rw [eg7]; exact hP
  have hD : va_D A [(o0, .inr (5, [.int 0, .ref a0, .ref a1, .ref a2, .ref a3, .ref a4, .ref a5, .ref a6])), (a0, .inl (K 0, 5, .inl g1)), (a1, .inl (K 0, 150, .inl g2)), (a2, .inl (K 0, 24, .inl g3)), (a3, .inl (K 0, 40, .inl g4)), (a4, .inl (K 0, 40, .inl g5)), (a5, .inl (K 0, 40, .inl g6)), (a6, .inl (K 0, 40, .inl g7)), (o1, .inr (5, [.int 0, .ref b0, .ref b1, .ref b2, .ref b3, .ref b4, .ref b5, .ref b6])), (b0, .inl (K 0, 5, .inl fb0)), (b1, .inl (K 0, 150, .inl fb1)), (b2, .inl (K 0, 24, .inl fb2)), (b3, .inl (K 0, 40, .inl fb3)), (b4, .inl (K 0, 40, .inl fb4)), (b5, .inl (K 0, 40, .inl fb5)), (b6, .inl (K 0, 40, .inl fb6))] := by rw [eg7]; exact hD
  exact fn_vret hx hb hr hlocks hP hD hS (fun k => ([g1, g2, g3, g4, g5, g6, g7] : List (Nat → Int32)).getD k g1) trivial [0, 1, 2, 3, 4, 5, 6, 7, 8, 9, 10, 11, 12, 13, 14, 15] (by decide) rfl dX5_copyFrom_113
theorem dX5_lay_0 : decode cX5_lay 0 = .ok (.aload_n 0, 1) := by decide +kernel
theorem dX5_lay_1 : decode cX5_lay 1 = .ok (.iconst 0, 1) := by decide +kernel
theorem dX5_lay_2 : decode cX5_lay 2 = .ok (.putfield 33, 3) := by decide +kernel
theorem dX5_lay_5 : decode cX5_lay 5 = .ok (.iconst 0, 1) := by decide +kernel
theorem dX5_lay_6 : decode cX5_lay 6 = .ok (.istore_n 2, 1) := by decide +kernel
theorem dX5_lay_7 : decode cX5_lay 7 = .ok (.iload_n 2, 1) := by decide +kernel
theorem dX5_lay_8 : decode cX5_lay 8 = .ok (.aload_n 1, 1) := by decide +kernel
theorem dX5_lay_9 : decode cX5_lay 9 = .ok (.getfield 37, 3) := by decide +kernel
theorem dX5_lay_12 : decode cX5_lay 12 = .ok (.if_icmp .ge 57, 3) := by decide +kernel
theorem dX5_lay_69 : decode cX5_lay 69 = .ok (.aload_n 1, 1) := by decide +kernel
theorem dX5_lay_70 : decode cX5_lay 70 = .ok (.getfield 49, 3) := by decide +kernel
theorem dX5_lay_73 : decode cX5_lay 73 = .ok (.iconst 0, 1) := by decide +kernel
theorem dX5_lay_74 : decode cX5_lay 74 = .ok (.aload_n 0, 1) := by decide +kernel
theorem dX5_lay_75 : decode cX5_lay 75 = .ok (.getfield 18, 3) := by decide +kernel
theorem dX5_lay_78 : decode cX5_lay 78 = .ok (.iconst 0, 1) := by decide +kernel
theorem dX5_lay_79 : decode cX5_lay 79 = .ok (.bipush 24, 2) := by decide +kernel
theorem dX5_lay_81 : decode cX5_lay 81 = .ok (.invokestatic 52, 3) := by decide +kernel
theorem dX5_lay_84 : decode cX5_lay 84 = .ok (.return_, 1) := by decide +kernel
set_option maxHeartbeats 4000000 in
set_option maxRecDepth 100000 in
theorem c_X5_lay (l : Launch) (D : va_G) (K : Nat → ClassId) (sh t0 s0 s1 s2 s3 s4 s5 s6 t0_ t1_ t2_ t3_ t4_ t5_ : Nat) (fs2 ft5_ : Nat → Int32) : fn_CV (S := Nat → Int32) l D K yX5_lay (fn_ws yX5_lay cX5_lay 4 none) ({ frames := 4, cells := 0, slots := 0, locals := 100 }) [.ref sh, .ref t0] [(sh, .inr (5, [.int 0, .ref s0, .ref s1, .ref s2, .ref s3, .ref s4, .ref s5, .ref s6])), (s2, .inl (K 0, 24, .inl fs2)), (t0, .inr (7, [.int 0, .int 0, .int 0, .int 0, .int 0, .int 0, .int 0, .int 0, .int 0, .ref t0_, .ref t1_, .ref t2_, .ref t3_, .ref t4_, .ref t5_])), (t5_, .inl (K 0, 24, .inl ft5_))] (fun _ => True) (fun u => [(sh, .inr (5, [.int 0, .ref s0, .ref s1, .ref s2, .ref s3, .ref s4, .ref s5, .ref s6])), (s2, .inl (K 0, 24, .inl u)), (t0, .inr (7, [.int 0, .int 0, .int 0, .int 0, .int 0, .int 0, .int 0, .int 0, .int 0, .ref t0_, .ref t1_, .ref t2_, .ref t3_, .ref t4_, .ref t5_])), (t5_, .inl (K 0, 24, .inl ft5_))]) 0 0 := by
  refine fn_inV (cc := cX5_lay) (maxL := 4) (ret := none) (by decide) rfl (Nat.le_of_ble_eq_true rfl) ?_
  intro p e s m below meth c A ls B hA hP hD hS hl
  obtain ⟨hx, hb, hr, hml, hts, hown, hlocks, hin, hK⟩ := B
  have hown : s.vm.findClass RX5 = some m.cls := hown
  have hts := fun w h => hts w (List.mem_cons_of_mem _ h)
  have hl : lv_has ls 4 [(0, .ref sh), (1, .ref t0)] := hl
  refine lv_aload_n hx hb dX5_lay_0 rfl (lv_at hl 0 rfl) ?_
  refine lv_iconst (v := 0) hx hb dX5_lay_1 (by decide) ?_
  refine va_put (D := D) (own := RX5) (ci := 5) (v := .int 0) (ty := .int) (C := RX5) (T := TX5) (N := 8) hx hb hts inb_X5 tyX5 tyX5_ok nmX5 hown hK.1 hP hD hS 0 rfl rfl 0 (by decide) (hts _ wd_184) (fun _ h9 => h9) rfl (by decide +kernel) rfl rfl (Nat.le_of_ble_eq_true rfl) dX5_lay_2 (fun H locs hP hD hS => ?_)
  have hP : va_P D vwCl [(sh, .inr (5, [.int 0, .ref s0, .ref s1, .ref s2, .ref s3, .ref s4, .ref s5, .ref s6])), (s2, .inl (K 0, 24, .inl fs2)), (t0, .inr (7, [.int 0, .int 0, .int 0, .int 0, .int 0, .int 0, .int 0, .int 0, .int 0, .ref t0_, .ref t1_, .ref t2_, .ref t3_, .ref t4_, .ref t5_])), (t5_, .inl (K 0, 24, .inl ft5_))] H := hP
  have hD : va_D A [(sh, .inr (5, [.int 0, .ref s0, .ref s1, .ref s2, .ref s3, .ref s4, .ref s5, .ref s6])), (s2, .inl (K 0, 24, .inl fs2)), (t0, .inr (7, [.int 0, .int 0, .int 0, .int 0, .int 0, .int 0, .int 0, .int 0, .int 0, .ref t0_, .ref t1_, .ref t2_, .ref t3_, .ref t4_, .ref t5_])), (t5_, .inl (K 0, 24, .inl ft5_))] := hD
  refine lv_iconst (v := 0) hx hb dX5_lay_5 (by decide) ?_
  refine lv_istore_n (lv' := [(2, .int 0), (0, .ref sh), (1, .ref t0)]) hx hb dX5_lay_6 rfl hl (by decide) rfl (fun ls hl => ?_)
  refine lv_iload_n hx hb dX5_lay_7 rfl (lv_at hl 0 rfl) ?_
  refine lv_aload_n hx hb dX5_lay_8 rfl (lv_at hl 2 rfl) ?_
  refine va_getN (D := D) (own := RX5) (ci := 7) (v := .int 0) (C := RX7) (T := TX7) (N := 15) hx hb hts inb_X7 hown hK.1 hP 2 rfl rfl 3 (by decide) (hK.nf 14 rfl) (fun _ h9 => h9) rfl dX5_lay_9 ?_
  refine lv_icmp_ge (tgt := 69) hx hb dX5_lay_12 (by decide) (fun _ => ?_) (fun h9 => absurd (by decide) h9)
  refine lv_aload_n hx hb dX5_lay_69 rfl (lv_at hl 2 rfl) ?_
  refine va_getN (D := D) (own := RX5) (ci := 7) (v := .ref t5_) (C := RX7) (T := TX7) (N := 15) hx hb hts inb_X7 hown hK.1 hP 2 rfl rfl 14 (by decide) (hK.nf 49 rfl) (fun _ h9 => h9) rfl dX5_lay_70 ?_
  refine lv_iconst (v := 0) hx hb dX5_lay_73 (by decide) ?_
  refine lv_aload_n hx hb dX5_lay_74 rfl (lv_at hl 1 rfl) ?_
  refine va_get (D := D) (own := RX5) (ci := 5) (v := .ref s2) (C := RX5) (T := TX5) (N := 8) hx hb hts inb_X5 hown hK.1 hP 0 rfl rfl 3 (by decide) (hts _ wd_191) (fun _ h9 => h9) rfl dX5_lay_75 ?_
  refine lv_iconst (v := 0) hx hb dX5_lay_78 (by decide) ?_
  refine lv_bipush (v := 24) hx hb dX5_lay_79 (by decide) ?_
  refine va_copyi (own := RX5) (ty := .int) hx hb (hml.trans hl.1.symm) hown (hts _ wd_631) (hts _ wd_622) (hts _ wd_621) (hts _ wd_19) hK.1 hP hD hS 3 1 0 0 rfl rfl rfl rfl rfl (by decide) (by decide) (by decide) (by decide) (by decide) (fun _ _ => rfl) (Nat.le_of_ble_eq_true rfl) (Nat.le_of_ble_eq_true rfl) dX5_lay_81 (fun H locs hP hD hS => ?_)
  obtain ⟨g1, eg1⟩ : ∃ z, z = (va_cpy ft5_ fs2 (Int32.toNatClampNeg 0) (Int32.toNatClampNeg 0) (Int32.toNatClampNeg 24)) := ⟨_, rfl⟩
  have hP : va_P D vwCl [(sh, .inr (5, [.int 0, .ref s0, .ref s1, .ref s2, .ref s3, .ref s4, .ref s5, .ref s6])), (s2, .inl (K 0, 24, .inl g1)), (t0, .inr (7, [.int 0, .int 0, .int 0, .int 0, .int 0, .int 0, .int 0, .int 0, .int 0, .ref t0_, .ref t1_, .ref t2_, .ref t3_, .ref t4_, .ref t5_])), (t5_, .inl (K 0, 24, .inl ft5_))] H := by rw [eg1]; exact hP
  have hD : va_D A [(sh, .inr (5, [.int 0, .ref s0, .ref s1, .ref s2, .ref s3, .ref s4, .ref s5, .ref s6])), (s2, .inl (K 0, 24, .inl g1)), (t0, .inr (7, [.int 0, .int 0, .int 0, .int 0, .int 0, .int 0, .int 0, .int 0, .int 0, .ref t0_, .ref t1_, .ref t2_, .ref t3_, .ref t4_, .ref t5_])), (t5_, .inl (K 0, 24, .inl ft5_))] := by rw [eg1]; exact hD
  exact fn_vret hx hb hr hlocks hP hD hS g1 trivial [0, 1, 2, 3] (by decide) rfl dX5_lay_84
theorem dX10_locatePages_0 : decode cX10_locatePages 0 = .ok (.aload_n 0, 1) := by decide +kernel
theorem dX10_locatePages_1 : decode cX10_locatePages 1 = .ok (.getfield 9, 3) := by decide +kernel
theorem dX10_locatePages_4 : decode cX10_locatePages 4 = .ok (.iconst (-1), 1) := by decide +kernel
theorem dX10_locatePages_5 : decode cX10_locatePages 5 = .ok (.invokestatic 35, 3) := by decide +kernel
theorem dX10_locatePages_8 : decode cX10_locatePages 8 = .ok (.aload_n 0, 1) := by decide +kernel
theorem dX10_locatePages_9 : decode cX10_locatePages 9 = .ok (.iconst 0, 1) := by decide +kernel
theorem dX10_locatePages_10 : decode cX10_locatePages 10 = .ok (.putfield 59, 3) := by decide +kernel
theorem dX10_locatePages_13 : decode cX10_locatePages 13 = .ok (.iconst 0, 1) := by decide +kernel
theorem dX10_locatePages_14 : decode cX10_locatePages 14 = .ok (.istore_n 3, 1) := by decide +kernel
theorem dX10_locatePages_15 : decode cX10_locatePages 15 = .ok (.iload_n 3, 1) := by decide +kernel
theorem dX10_locatePages_16 : decode cX10_locatePages 16 = .ok (.aload_n 1, 1) := by decide +kernel
theorem dX10_locatePages_17 : decode cX10_locatePages 17 = .ok (.getfield 62, 3) := by decide +kernel
theorem dX10_locatePages_20 : decode cX10_locatePages 20 = .ok (.if_icmp .ge 75, 3) := by decide +kernel
theorem dX10_locatePages_95 : decode cX10_locatePages 95 = .ok (.return_, 1) := by decide +kernel
set_option maxHeartbeats 4000000 in
set_option maxRecDepth 100000 in
theorem c_X10_locatePages (l : Launch) (D : va_G) (K : Nat → ClassId) (wb sh t0 w0 w1 w2 w3 s0 s1 s2 s3 s4 s5 s6 t0_ t1_ t2_ t3_ t4_ t5_ : Nat) (fw0 : Nat → Int32) : fn_CV (S := Nat → Nat → Int32) l D K yX10_locatePages (fn_ws yX10_locatePages cX10_locatePages 6 none) ({ frames := 8, cells := 0, slots := 0, locals := 200 }) [.ref wb, .ref t0, .ref sh] [(wb, .inr (10, [.int 0, .int 0, .ref w0, .ref w1, .ref w2, .ref w3, .int 0])), (w0, .inl (K 0, 12, .inl fw0)), (t0, .inr (7, [.int 0, .int 0, .int 0, .int 0, .int 0, .int 0, .int 0, .int 0, .int 0, .ref t0_, .ref t1_, .ref t2_, .ref t3_, .ref t4_, .ref t5_])), (sh, .inr (5, [.int 0, .ref s0, .ref s1, .ref s2, .ref s3, .ref s4, .ref s5, .ref s6]))] (fun _ => True) (fun u => [(wb, .inr (10, [.int 0, .int 0, .ref w0, .ref w1, .ref w2, .ref w3, .int 0])), (w0, .inl (K 0, 12, .inl (u 0))), (t0, .inr (7, [.int 0, .int 0, .int 0, .int 0, .int 0, .int 0, .int 0, .int 0, .int 0, .ref t0_, .ref t1_, .ref t2_, .ref t3_, .ref t4_, .ref t5_])), (sh, .inr (5, [.int 0, .ref s0, .ref s1, .ref s2, .ref s3, .ref s4, .ref s5, .ref s6]))]) 0 0 := by
  refine fn_inV (cc := cX10_locatePages) (maxL := 6) (ret := none) (by decide) rfl (Nat.le_of_ble_eq_true rfl) ?_
  intro p e s m below meth c A ls B hA hP hD hS hl
  obtain ⟨hx, hb, hr, hml, hts, hown, hlocks, hin, hK⟩ := B
  have hown : s.vm.findClass RX10 = some m.cls := hown
  have hts := fun w h => hts w (List.mem_cons_of_mem _ h)
  have hl : lv_has ls 6 [(0, .ref wb), (1, .ref t0), (2, .ref sh)] := hl
  refine lv_aload_n hx hb dX10_locatePages_0 rfl (lv_at hl 0 rfl) ?_
  refine va_get (D := D) (own := RX10) (ci := 10) (v := .ref w0) (C := RX10) (T := TX10) (N := 7) hx hb hts inb_X10 hown hK.1 hP 0 rfl rfl 2 (by decide) (hts _ wd_228) (fun _ h9 => h9) rfl dX10_locatePages_1 ?_
  refine lv_iconst (v := (-1)) hx hb dX10_locatePages_4 (by decide) ?_
  refine fn_gov (wc := [(w0, .inl (K 0, 12, .inl fw0))]) (wr := [(wb, .inr (10, [.int 0, .int 0, .ref w0, .ref w1, .ref w2, .ref w3, .int 0])), (t0, .inr (7, [.int 0, .int 0, .int 0, .int 0, .int 0, .int 0, .int 0, .int 0, .int 0, .ref t0_, .ref t1_, .ref t2_, .ref t3_, .ref t4_, .ref t5_])), (sh, .inr (5, [.int 0, .ref s0, .ref s1, .ref s2, .ref s3, .ref s4, .ref s5, .ref s6]))]) hK hP hD hS hA [1] [0, 2, 3] rfl rfl (by decide) (fun hp => va_runS (As := [.ref w0, .int (-1)]) (rest := []) ⟨hx, hb, hml, hown, hts⟩ (c_J7_fill_53178 (l := l) (D := D) (K := K) (a0 := (w0)) (p1 := ((-1))) (n := 12) (f := (fw0)) (hn := (by decide)) _) (va_cwS 2 hts (fn_ginS (fn_gin wd_646) wd_644 wd_645 wd_20) rfl rfl rfl (by decide +kernel) ⟨Nat.le_of_ble_eq_true rfl, Nat.le_of_ble_eq_true rfl⟩) ⟨fn_blind, hp⟩ rfl rfl hl.1 rfl (lv_room (Nat.le_of_ble_eq_true rfl)) dX10_locatePages_5 ⟨Nat.le_of_ble_eq_true rfl, Nat.le_of_ble_eq_true rfl⟩) (fun u1 H locs hwu1 hP hD hS => ?_)
  have hP : va_P D vwCl [(wb, .inr (10, [.int 0, .int 0, .ref w0, .ref w1, .ref w2, .ref w3, .int 0])), (t0, .inr (7, [.int 0, .int 0, .int 0, .int 0, .int 0, .int 0, .int 0, .int 0, .int 0, .ref t0_, .ref t1_, .ref t2_, .ref t3_, .ref t4_, .ref t5_])), (sh, .inr (5, [.int 0, .ref s0, .ref s1, .ref s2, .ref s3, .ref s4, .ref s5, .ref s6])), (w0, .inl (K 0, 12, .inl u1))] H := hP
  have hD : va_D A [(wb, .inr (10, [.int 0, .int 0, .ref w0, .ref w1, .ref w2, .ref w3, .int 0])), (t0, .inr (7, [.int 0, .int 0, .int 0, .int 0, .int 0, .int 0, .int 0, .int 0, .int 0, .ref t0_, .ref t1_, .ref t2_, .ref t3_, .ref t4_, .ref t5_])), (sh, .inr (5, [.int 0, .ref s0, .ref s1, .ref s2, .ref s3, .ref s4, .ref s5, .ref s6])), (w0, .inl (K 0, 12, .inl u1))] := hD
  refine lv_aload_n hx hb dX10_locatePages_8 rfl (lv_at hl 0 rfl) ?_
  refine lv_iconst (v := 0) hx hb dX10_locatePages_9 (by decide) ?_
  refine va_put (D := D) (own := RX10) (ci := 10) (v := .int 0) (ty := .int) (C := RX10) (T := TX10) (N := 7) hx hb hts inb_X10 tyX10 tyX10_ok nmX10 hown hK.1 hP hD hS 0 rfl rfl 1 (by decide) (hts _ wd_227) (fun _ h9 => h9) rfl (by decide +kernel) rfl rfl (Nat.le_of_ble_eq_true rfl) dX10_locatePages_10 (fun H locs hP hD hS => ?_)
  have hP : va_P D vwCl [(wb, .inr (10, [.int 0, .int 0, .ref w0, .ref w1, .ref w2, .ref w3, .int 0])), (t0, .inr (7, [.int 0, .int 0, .int 0, .int 0, .int 0, .int 0, .int 0, .int 0, .int 0, .ref t0_, .ref t1_, .ref t2_, .ref t3_, .ref t4_, .ref t5_])), (sh, .inr (5, [.int 0, .ref s0, .ref s1, .ref s2, .ref s3, .ref s4, .ref s5, .ref s6])), (w0, .inl (K 0, 12, .inl u1))] H := hP
  have hD : va_D A [(wb, .inr (10, [.int 0, .int 0, .ref w0, .ref w1, .ref w2, .ref w3, .int 0])), (t0, .inr (7, [.int 0, .int 0, .int 0, .int 0, .int 0, .int 0, .int 0, .int 0, .int 0, .ref t0_, .ref t1_, .ref t2_, .ref t3_, .ref t4_, .ref t5_])), (sh, .inr (5, [.int 0, .ref s0, .ref s1, .ref s2, .ref s3, .ref s4, .ref s5, .ref s6])), (w0, .inl (K 0, 12, .inl u1))] := hD
  refine lv_iconst (v := 0) hx hb dX10_locatePages_13 (by decide) ?_
  refine lv_istore_n (lv' := [(3, .int 0), (0, .ref wb), (1, .ref t0), (2, .ref sh)]) hx hb dX10_locatePages_14 rfl hl (by decide) rfl (fun ls hl => ?_)
  refine lv_iload_n hx hb dX10_locatePages_15 rfl (lv_at hl 0 rfl) ?_
  refine lv_aload_n hx hb dX10_locatePages_16 rfl (lv_at hl 2 rfl) ?_
  refine va_getN (D := D) (own := RX10) (ci := 7) (v := .int 0) (C := RX7) (T := TX7) (N := 15) hx hb hts inb_X7 hown hK.1 hP 1 rfl rfl 3 (by decide) (hK.nf 16 rfl) (fun _ h9 => h9) rfl dX10_locatePages_17 ?_
  refine lv_icmp_ge (tgt := 95) hx hb dX10_locatePages_20 (by decide) (fun _ => ?_) (fun h9 => absurd (by decide) h9)
  exact fn_vret hx hb hr hlocks hP hD hS (fun k => ([u1] : List (Nat → Int32)).getD k u1) trivial [0, 3, 1, 2] (by decide) rfl dX10_locatePages_95
theorem dX10_weave_0 : decode cX10_weave 0 = .ok (.aload_n 0, 1) := by decide +kernel
theorem dX10_weave_1 : decode cX10_weave 1 = .ok (.aload_n 1, 1) := by decide +kernel
theorem dX10_weave_2 : decode cX10_weave 2 = .ok (.getfield 24, 3) := by decide +kernel
theorem dX10_weave_5 : decode cX10_weave 5 = .ok (.putfield 30, 3) := by decide +kernel
theorem dX10_weave_8 : decode cX10_weave 8 = .ok (.aload_n 0, 1) := by decide +kernel
theorem dX10_weave_9 : decode cX10_weave 9 = .ok (.aload_n 1, 1) := by decide +kernel
theorem dX10_weave_10 : decode cX10_weave 10 = .ok (.aload_n 2, 1) := by decide +kernel
theorem dX10_weave_11 : decode cX10_weave 11 = .ok (.invokevirtual 31, 3) := by decide +kernel
theorem dX10_weave_14 : decode cX10_weave 14 = .ok (.aload_n 0, 1) := by decide +kernel
theorem dX10_weave_15 : decode cX10_weave 15 = .ok (.getfield 18, 3) := by decide +kernel
theorem dX10_weave_18 : decode cX10_weave 18 = .ok (.iconst 0, 1) := by decide +kernel
theorem dX10_weave_19 : decode cX10_weave 19 = .ok (.invokestatic 35, 3) := by decide +kernel
theorem dX10_weave_22 : decode cX10_weave 22 = .ok (.iconst 0, 1) := by decide +kernel
theorem dX10_weave_23 : decode cX10_weave 23 = .ok (.istore 4, 2) := by decide +kernel
theorem dX10_weave_25 : decode cX10_weave 25 = .ok (.iload 4, 2) := by decide +kernel
theorem dX10_weave_27 : decode cX10_weave 27 = .ok (.aload_n 1, 1) := by decide +kernel
theorem dX10_weave_28 : decode cX10_weave 28 = .ok (.getfield 41, 3) := by decide +kernel
theorem dX10_weave_31 : decode cX10_weave 31 = .ok (.if_icmp .ge 106, 3) := by decide +kernel
theorem dX10_weave_137 : decode cX10_weave 137 = .ok (.return_, 1) := by decide +kernel
set_option maxHeartbeats 4000000 in
set_option maxRecDepth 100000 in
theorem c_X10_weave (l : Launch) (D : va_G) (K : Nat → ClassId) (wb sh t0 w0 w1 w2 w3 s0 s1 s2 s3 s4 s5 s6 t0_ t1_ t2_ t3_ t4_ t5_ : Nat) (fw0 fw2 : Nat → Int32) : fn_CV (S := Nat → Nat → Int32) l D K yX10_weave (fn_ws yX10_weave cX10_weave 8 none) ({ frames := 12, cells := 0, slots := 0, locals := 300 }) [.ref wb, .ref t0, .ref sh, .int 0] [(wb, .inr (10, [.int 0, .int 0, .ref w0, .ref w1, .ref w2, .ref w3, .int 0])), (w0, .inl (K 0, 12, .inl fw0)), (w2, .inl (K 0, 12, .inl fw2)), (t0, .inr (7, [.int 0, .int 0, .int 0, .int 0, .int 0, .int 0, .int 0, .int 0, .int 0, .ref t0_, .ref t1_, .ref t2_, .ref t3_, .ref t4_, .ref t5_])), (sh, .inr (5, [.int 0, .ref s0, .ref s1, .ref s2, .ref s3, .ref s4, .ref s5, .ref s6]))] (fun _ => True) (fun u => [(wb, .inr (10, [.int 0, .int 0, .ref w0, .ref w1, .ref w2, .ref w3, .int 0])), (w0, .inl (K 0, 12, .inl (u 0))), (w2, .inl (K 0, 12, .inl (u 1))), (t0, .inr (7, [.int 0, .int 0, .int 0, .int 0, .int 0, .int 0, .int 0, .int 0, .int 0, .ref t0_, .ref t1_, .ref t2_, .ref t3_, .ref t4_, .ref t5_])), (sh, .inr (5, [.int 0, .ref s0, .ref s1, .ref s2, .ref s3, .ref s4, .ref s5, .ref s6]))]) 0 0 := by
  refine fn_inV (cc := cX10_weave) (maxL := 8) (ret := none) (by decide) rfl (Nat.le_of_ble_eq_true rfl) ?_
  intro p e s m below meth c A ls B hA hP hD hS hl
  obtain ⟨hx, hb, hr, hml, hts, hown, hlocks, hin, hK⟩ := B
  have hown : s.vm.findClass RX10 = some m.cls := hown
  have hts := fun w h => hts w (List.mem_cons_of_mem _ h)
  have hl : lv_has ls 8 [(0, .ref wb), (1, .ref t0), (2, .ref sh), (3, .int 0)] := hl
  refine lv_aload_n hx hb dX10_weave_0 rfl (lv_at hl 0 rfl) ?_
  refine lv_aload_n hx hb dX10_weave_1 rfl (lv_at hl 1 rfl) ?_
  refine va_getN (D := D) (own := RX10) (ci := 7) (v := .int 0) (C := RX7) (T := TX7) (N := 15) hx hb hts inb_X7 hown hK.1 hP 3 rfl rfl 4 (by decide) (hK.nf 19 rfl) (fun _ h9 => h9) rfl dX10_weave_2 ?_
  refine va_put (D := D) (own := RX10) (ci := 10) (v := .int 0) (ty := .int) (C := RX10) (T := TX10) (N := 7) hx hb hts inb_X10 tyX10 tyX10_ok nmX10 hown hK.1 hP hD hS 0 rfl rfl 0 (by decide) (hts _ wd_225) (fun _ h9 => h9) rfl (by decide +kernel) rfl rfl (Nat.le_of_ble_eq_true rfl) dX10_weave_5 (fun H locs hP hD hS => ?_)
  have hP : va_P D vwCl [(wb, .inr (10, [.int 0, .int 0, .ref w0, .ref w1, .ref w2, .ref w3, .int 0])), (w0, .inl (K 0, 12, .inl fw0)), (w2, .inl (K 0, 12, .inl fw2)), (t0, .inr (7, [.int 0, .int 0, .int 0, .int 0, .int 0, .int 0, .int 0, .int 0, .int 0, .ref t0_, .ref t1_, .ref t2_, .ref t3_, .ref t4_, .ref t5_])), (sh, .inr (5, [.int 0, .ref s0, .ref s1, .ref s2, .ref s3, .ref s4, .ref s5, .ref s6]))] H := hP
  have hD : va_D A [(wb, .inr (10, [.int 0, .int 0, .ref w0, .ref w1, .ref w2, .ref w3, .int 0])), (w0, .inl (K 0, 12, .inl fw0)), (w2, .inl (K 0, 12, .inl fw2)), (t0, .inr (7, [.int 0, .int 0, .int 0, .int 0, .int 0, .int 0, .int 0, .int 0, .int 0, .ref t0_, .ref t1_, .ref t2_, .ref t3_, .ref t4_, .ref t5_])), (sh, .inr (5, [.int 0, .ref s0, .ref s1, .ref s2, .ref s3, .ref s4, .ref s5, .ref s6]))] := hD
  refine lv_aload_n hx hb dX10_weave_8 rfl (lv_at hl 0 rfl) ?_
  refine lv_aload_n hx hb dX10_weave_9 rfl (lv_at hl 1 rfl) ?_
  refine lv_aload_n hx hb dX10_weave_10 rfl (lv_at hl 2 rfl) ?_
  refine fn_gov (wc := [(wb, .inr (10, [.int 0, .int 0, .ref w0, .ref w1, .ref w2, .ref w3, .int 0])), (w0, .inl (K 0, 12, .inl fw0)), (t0, .inr (7, [.int 0, .int 0, .int 0, .int 0, .int 0, .int 0, .int 0, .int 0, .int 0, .ref t0_, .ref t1_, .ref t2_, .ref t3_, .ref t4_, .ref t5_])), (sh, .inr (5, [.int 0, .ref s0, .ref s1, .ref s2, .ref s3, .ref s4, .ref s5, .ref s6]))]) (wr := [(w2, .inl (K 0, 12, .inl fw2))]) hK hP hD hS hA [0, 1, 3, 4] [2] rfl rfl (by decide) (fun hp => va_runV (C := RX10) (As := [.ref t0, .ref sh]) (rest := []) ⟨hx, hb, hml, hown, hts⟩ (c_X10_locatePages (l := l) (D := D) (K := K) (wb := (wb)) (t0 := (t0)) (sh := (sh)) (w0 := (w0)) (w1 := (w1)) (w2 := (w2)) (w3 := (w3)) (fw0 := (fw0)) (t0_ := (t0_)) (t1_ := (t1_)) (t2_ := (t2_)) (t3_ := (t3_)) (t4_ := (t4_)) (t5_ := (t5_)) (s0 := (s0)) (s1 := (s1)) (s2 := (s2)) (s3 := (s3)) (s4 := (s4)) (s5 := (s5)) (s6 := (s6)) _) (cwV 2 hts (fn_ginV (fn_gin wd_643) wd_640 wd_642 wp_23 wd_6) rfl rfl rfl (by decide +kernel) ⟨Nat.le_of_ble_eq_true rfl, Nat.le_of_ble_eq_true rfl⟩) ⟨fn_blind, va_recv hK.1 hP (ci := 10) (q0 := 0) rfl rfl, hp⟩ rfl rfl hl.1 rfl (lv_room (Nat.le_of_ble_eq_true rfl)) dX10_weave_11 ⟨Nat.le_of_ble_eq_true rfl, Nat.le_of_ble_eq_true rfl⟩) (fun u1 H locs hwu1 hP hD hS => ?_)
  have hP : va_P D vwCl [(w2, .inl (K 0, 12, .inl fw2)), (wb, .inr (10, [.int 0, .int 0, .ref w0, .ref w1, .ref w2, .ref w3, .int 0])), (w0, .inl (K 0, 12, .inl (u1 0))), (t0, .inr (7, [.int 0, .int 0, .int 0, .int 0, .int 0, .int 0, .int 0, .int 0, .int 0, .ref t0_, .ref t1_, .ref t2_, .ref t3_, .ref t4_, .ref t5_])), (sh, .inr (5, [.int 0, .ref s0, .ref s1, .ref s2, .ref s3, .ref s4, .ref s5, .ref s6]))] H := hP
  have hD : va_D A [(w2, .inl (K 0, 12, .inl fw2)), (wb, .inr (10, [.int 0, .int 0, .ref w0, .ref w1, .ref w2, .ref w3, .int 0])), (w0, .inl (K 0, 12, .inl (u1 0))), (t0, .inr (7, [.int 0, .int 0, .int 0, .int 0, .int 0, .int 0, .int 0, .int 0, .int 0, .ref t0_, .ref t1_, .ref t2_, .ref t3_, .ref t4_, .ref t5_])), (sh, .inr (5, [.int 0, .ref s0, .ref s1, .ref s2, .ref s3, .ref s4, .ref s5, .ref s6]))] := hD
  refine lv_aload_n hx hb dX10_weave_14 rfl (lv_at hl 0 rfl) ?_
  refine va_get (D := D) (own := RX10) (ci := 10) (v := .ref w2) (C := RX10) (T := TX10) (N := 7) hx hb hts inb_X10 hown hK.1 hP 1 rfl rfl 4 (by decide) (hts _ wd_236) (fun _ h9 => h9) rfl dX10_weave_15 ?_
  refine lv_iconst (v := 0) hx hb dX10_weave_18 (by decide) ?_
  refine fn_gov (wc := [(w2, .inl (K 0, 12, .inl fw2))]) (wr := [(wb, .inr (10, [.int 0, .int 0, .ref w0, .ref w1, .ref w2, .ref w3, .int 0])), (w0, .inl (K 0, 12, .inl (u1 0))), (t0, .inr (7, [.int 0, .int 0, .int 0, .int 0, .int 0, .int 0, .int 0, .int 0, .int 0, .ref t0_, .ref t1_, .ref t2_, .ref t3_, .ref t4_, .ref t5_])), (sh, .inr (5, [.int 0, .ref s0, .ref s1, .ref s2, .ref s3, .ref s4, .ref s5, .ref s6]))]) hK hP hD hS hA [0] [1, 2, 3, 4] rfl rfl (by decide) (fun hp => va_runS (As := [.ref w2, .int 0]) (rest := []) ⟨hx, hb, hml, hown, hts⟩ (c_J7_fill_53178 (l := l) (D := D) (K := K) (a0 := (w2)) (p1 := (0)) (n := 12) (f := (fw2)) (hn := (by decide)) _) (va_cwS 2 hts (fn_ginS (fn_gin wd_646) wd_644 wd_645 wd_20) rfl rfl rfl (by decide +kernel) ⟨Nat.le_of_ble_eq_true rfl, Nat.le_of_ble_eq_true rfl⟩) ⟨fn_blind, hp⟩ rfl rfl hl.1 rfl (lv_room (Nat.le_of_ble_eq_true rfl)) dX10_weave_19 ⟨Nat.le_of_ble_eq_true rfl, Nat.le_of_ble_eq_true rfl⟩) (fun u3 H locs hwu3 hP hD hS => ?_)
  have hP : va_P D vwCl [(wb, .inr (10, [.int 0, .int 0, .ref w0, .ref w1, .ref w2, .ref w3, .int 0])), (w0, .inl (K 0, 12, .inl (u1 0))), (t0, .inr (7, [.int 0, .int 0, .int 0, .int 0, .int 0, .int 0, .int 0, .int 0, .int 0, .ref t0_, .ref t1_, .ref t2_, .ref t3_, .ref t4_, .ref t5_])), (sh, .inr (5, [.int 0, .ref s0, .ref s1, .ref s2, .ref s3, .ref s4, .ref s5, .ref s6])), (w2, .inl (K 0, 12, .inl u3))] H := hP
  have hD : va_D A [(wb, .inr (10, [.int 0, .int 0, .ref w0, .ref w1, .ref w2, .ref w3, .int 0])), (w0, .inl (K 0, 12, .inl (u1 0))), (t0, .inr (7, [.int 0, .int 0, .int 0, .int 0, .int 0, .int 0, .int 0, .int 0, .int 0, .ref t0_, .ref t1_, .ref t2_, .ref t3_, .ref t4_, .ref t5_])), (sh, .inr (5, [.int 0, .ref s0, .ref s1, .ref s2, .ref s3, .ref s4, .ref s5, .ref s6])), (w2, .inl (K 0, 12, .inl u3))] := hD
  refine lv_iconst (v := 0) hx hb dX10_weave_22 (by decide) ?_
  refine lv_istore (lv' := [(4, .int 0), (0, .ref wb), (1, .ref t0), (2, .ref sh), (3, .int 0)]) hx hb dX10_weave_23 hl (by decide) rfl (fun ls hl => ?_)
  refine lv_iload hx hb dX10_weave_25 (lv_at hl 0 rfl) ?_
  refine lv_aload_n hx hb dX10_weave_27 rfl (lv_at hl 2 rfl) ?_
  refine va_getN (D := D) (own := RX10) (ci := 7) (v := .int 0) (C := RX7) (T := TX7) (N := 15) hx hb hts inb_X7 hown hK.1 hP 2 rfl rfl 5 (by decide) (hK.nf 25 rfl) (fun _ h9 => h9) rfl dX10_weave_28 ?_
  refine lv_icmp_ge (tgt := 137) hx hb dX10_weave_31 (by decide) (fun _ => ?_) (fun h9 => absurd (by decide) h9)
  exact fn_vret hx hb hr hlocks hP hD hS (fun k => ([(u1 0), u3] : List (Nat → Int32)).getD k (u1 0)) trivial [0, 1, 4, 2, 3] (by decide) rfl dX10_weave_137
theorem dX11_settle_0 : decode cX11_settle 0 = .ok (.aload_n 0, 1) := by decide +kernel
theorem dX11_settle_1 : decode cX11_settle 1 = .ok (.getfield 51, 3) := by decide +kernel
theorem dX11_settle_4 : decode cX11_settle 4 = .ok (.aload_n 0, 1) := by decide +kernel
theorem dX11_settle_5 : decode cX11_settle 5 = .ok (.getfield 19, 3) := by decide +kernel
theorem dX11_settle_8 : decode cX11_settle 8 = .ok (.aload_n 0, 1) := by decide +kernel
theorem dX11_settle_9 : decode cX11_settle 9 = .ok (.getfield 26, 3) := by decide +kernel
theorem dX11_settle_12 : decode cX11_settle 12 = .ok (.iconst 0, 1) := by decide +kernel
theorem dX11_settle_13 : decode cX11_settle 13 = .ok (.invokevirtual 126, 3) := by decide +kernel
theorem dX11_settle_16 : decode cX11_settle 16 = .ok (.return_, 1) := by decide +kernel
set_option maxHeartbeats 4000000 in
set_option maxRecDepth 100000 in
theorem c_X11_settle (l : Launch) (D : va_G) (K : Nat → ClassId) (wb sh t0 w0 w1 w2 w3 s0 s1 s2 s3 s4 s5 s6 t0_ t1_ t2_ t3_ t4_ t5_ : Nat) (x0 : Nat) (fx : List Value) (hx1 : fx[1]? = some (.ref t0)) (hx2 : fx[2]? = some (.ref sh)) (hx7 : fx[7]? = some (.ref wb)) (fw0 fw2 : Nat → Int32) : fn_CV (S := Nat → Nat → Int32) l D K yX11_settle (fn_ws yX11_settle cX11_settle 1 none) ({ frames := 16, cells := 0, slots := 0, locals := 400 }) [.ref x0] [(x0, .inr (11, fx)), (wb, .inr (10, [.int 0, .int 0, .ref w0, .ref w1, .ref w2, .ref w3, .int 0])), (w0, .inl (K 0, 12, .inl fw0)), (w2, .inl (K 0, 12, .inl fw2)), (t0, .inr (7, [.int 0, .int 0, .int 0, .int 0, .int 0, .int 0, .int 0, .int 0, .int 0, .ref t0_, .ref t1_, .ref t2_, .ref t3_, .ref t4_, .ref t5_])), (sh, .inr (5, [.int 0, .ref s0, .ref s1, .ref s2, .ref s3, .ref s4, .ref s5, .ref s6]))] (fun _ => True) (fun u => [(x0, .inr (11, fx)), (wb, .inr (10, [.int 0, .int 0, .ref w0, .ref w1, .ref w2, .ref w3, .int 0])), (w0, .inl (K 0, 12, .inl (u 0))), (w2, .inl (K 0, 12, .inl (u 1))), (t0, .inr (7, [.int 0, .int 0, .int 0, .int 0, .int 0, .int 0, .int 0, .int 0, .int 0, .ref t0_, .ref t1_, .ref t2_, .ref t3_, .ref t4_, .ref t5_])), (sh, .inr (5, [.int 0, .ref s0, .ref s1, .ref s2, .ref s3, .ref s4, .ref s5, .ref s6]))]) 0 0 := by
  refine fn_inV (cc := cX11_settle) (maxL := 1) (ret := none) (by decide) rfl (Nat.le_of_ble_eq_true rfl) ?_
  intro p e s m below meth c A ls B hA hP hD hS hl
  obtain ⟨hx, hb, hr, hml, hts, hown, hlocks, hin, hK⟩ := B
  have hown : s.vm.findClass RX11 = some m.cls := hown
  have hts := fun w h => hts w (List.mem_cons_of_mem _ h)
  have hl : lv_has ls 1 [(0, .ref x0)] := hl
  refine lv_aload_n hx hb dX11_settle_0 rfl (lv_at hl 0 rfl) ?_
  refine va_get (D := D) (own := RX11) (ci := 11) (v := .ref wb) (C := RX11) (T := TX11) (N := 13) hx hb hts inb_X11 hown hK.1 hP 0 rfl rfl 7 (by decide) (hts _ wd_429) (fun _ h9 => h9) hx7 dX11_settle_1 ?_
  refine lv_aload_n hx hb dX11_settle_4 rfl (lv_at hl 0 rfl) ?_
  refine va_get (D := D) (own := RX11) (ci := 11) (v := .ref t0) (C := RX11) (T := TX11) (N := 13) hx hb hts inb_X11 hown hK.1 hP 0 rfl rfl 1 (by decide) (hts _ wd_423) (fun _ h9 => h9) hx1 dX11_settle_5 ?_
  refine lv_aload_n hx hb dX11_settle_8 rfl (lv_at hl 0 rfl) ?_
  refine va_get (D := D) (own := RX11) (ci := 11) (v := .ref sh) (C := RX11) (T := TX11) (N := 13) hx hb hts inb_X11 hown hK.1 hP 0 rfl rfl 2 (by decide) (hts _ wd_424) (fun _ h9 => h9) hx2 dX11_settle_9 ?_
  refine lv_iconst (v := 0) hx hb dX11_settle_12 (by decide) ?_
  refine fn_gov (wc := [(wb, .inr (10, [.int 0, .int 0, .ref w0, .ref w1, .ref w2, .ref w3, .int 0])), (w0, .inl (K 0, 12, .inl fw0)), (w2, .inl (K 0, 12, .inl fw2)), (t0, .inr (7, [.int 0, .int 0, .int 0, .int 0, .int 0, .int 0, .int 0, .int 0, .int 0, .ref t0_, .ref t1_, .ref t2_, .ref t3_, .ref t4_, .ref t5_])), (sh, .inr (5, [.int 0, .ref s0, .ref s1, .ref s2, .ref s3, .ref s4, .ref s5, .ref s6]))]) (wr := [(x0, .inr (11, fx))]) hK hP hD hS hA [1, 2, 3, 4, 5] [0] rfl rfl (by decide) (fun hp => va_runVN (C := RX10) (As := [.ref t0, .ref sh, .int 0]) (rest := []) ⟨hx, hb, hml, hown, hts⟩ (c_X10_weave (l := l) (D := D) (K := K) (wb := (wb)) (t0 := (t0)) (sh := (sh)) (w0 := (w0)) (w1 := (w1)) (w2 := (w2)) (w3 := (w3)) (fw0 := (fw0)) (fw2 := (fw2)) (t0_ := (t0_)) (t1_ := (t1_)) (t2_ := (t2_)) (t3_ := (t3_)) (t4_ := (t4_)) (t5_ := (t5_)) (s0 := (s0)) (s1 := (s1)) (s2 := (s2)) (s3 := (s3)) (s4 := (s4)) (s5 := (s5)) (s6 := (s6)) _) ⟨va_cnB (own := RX11) 3 hts (fn_gin wd_639) rfl rfl rfl (hK.nw 106 rfl) (hts _ wd_6) (by decide +kernel) ⟨Nat.le_of_ble_eq_true rfl, Nat.le_of_ble_eq_true rfl⟩, hts _ wd_638, hts _ wp_22⟩ ⟨fn_blind, va_recv hK.1 hP (ci := 10) (q0 := 1) rfl rfl, hp⟩ rfl rfl hl.1 rfl (lv_room (Nat.le_of_ble_eq_true rfl)) dX11_settle_13 ⟨Nat.le_of_ble_eq_true rfl, Nat.le_of_ble_eq_true rfl⟩) (fun u1 H locs hwu1 hP hD hS => ?_)
  have hP : va_P D vwCl [(x0, .inr (11, fx)), (wb, .inr (10, [.int 0, .int 0, .ref w0, .ref w1, .ref w2, .ref w3, .int 0])), (w0, .inl (K 0, 12, .inl (u1 0))), (w2, .inl (K 0, 12, .inl (u1 1))), (t0, .inr (7, [.int 0, .int 0, .int 0, .int 0, .int 0, .int 0, .int 0, .int 0, .int 0, .ref t0_, .ref t1_, .ref t2_, .ref t3_, .ref t4_, .ref t5_])), (sh, .inr (5, [.int 0, .ref s0, .ref s1, .ref s2, .ref s3, .ref s4, .ref s5, .ref s6]))] H := hP
  have hD : va_D A [(x0, .inr (11, fx)), (wb, .inr (10, [.int 0, .int 0, .ref w0, .ref w1, .ref w2, .ref w3, .int 0])), (w0, .inl (K 0, 12, .inl (u1 0))), (w2, .inl (K 0, 12, .inl (u1 1))), (t0, .inr (7, [.int 0, .int 0, .int 0, .int 0, .int 0, .int 0, .int 0, .int 0, .int 0, .ref t0_, .ref t1_, .ref t2_, .ref t3_, .ref t4_, .ref t5_])), (sh, .inr (5, [.int 0, .ref s0, .ref s1, .ref s2, .ref s3, .ref s4, .ref s5, .ref s6]))] := hD
  exact fn_vret hx hb hr hlocks hP hD hS (fun k => ([(u1 0), (u1 1)] : List (Nat → Int32)).getD k (u1 0)) trivial [0, 1, 2, 3, 4, 5] (by decide) rfl dX11_settle_16
theorem dX11_town_0 : decode cX11_town 0 = .ok (.aload_n 0, 1) := by decide +kernel
theorem dX11_town_1 : decode cX11_town 1 = .ok (.getfield 10, 3) := by decide +kernel
theorem dX11_town_4 : decode cX11_town 4 = .ok (.invokevirtual 101, 3) := by decide +kernel
theorem dX11_town_7 : decode cX11_town 7 = .ok (.aload_n 0, 1) := by decide +kernel
theorem dX11_town_8 : decode cX11_town 8 = .ok (.getfield 10, 3) := by decide +kernel
theorem dX11_town_11 : decode cX11_town 11 = .ok (.getfield 104, 3) := by decide +kernel
theorem dX11_town_14 : decode cX11_town 14 = .ok (.ifCond .eq 6, 3) := by decide +kernel
theorem dX11_town_20 : decode cX11_town 20 = .ok (.aload_n 0, 1) := by decide +kernel
theorem dX11_town_21 : decode cX11_town 21 = .ok (.getfield 10, 3) := by decide +kernel
theorem dX11_town_24 : decode cX11_town 24 = .ok (.getfield 87, 3) := by decide +kernel
theorem dX11_town_27 : decode cX11_town 27 = .ok (.iconst 0, 1) := by decide +kernel
theorem dX11_town_28 : decode cX11_town 28 = .ok (.putfield 91, 3) := by decide +kernel
theorem dX11_town_31 : decode cX11_town 31 = .ok (.aload_n 0, 1) := by decide +kernel
theorem dX11_town_32 : decode cX11_town 32 = .ok (.getfield 19, 3) := by decide +kernel
theorem dX11_town_35 : decode cX11_town 35 = .ok (.aload_n 0, 1) := by decide +kernel
theorem dX11_town_36 : decode cX11_town 36 = .ok (.getfield 10, 3) := by decide +kernel
theorem dX11_town_39 : decode cX11_town 39 = .ok (.getfield 107, 3) := by decide +kernel
theorem dX11_town_42 : decode cX11_town 42 = .ok (.invokevirtual 110, 3) := by decide +kernel
theorem dX11_town_45 : decode cX11_town 45 = .ok (.aload_n 0, 1) := by decide +kernel
theorem dX11_town_46 : decode cX11_town 46 = .ok (.getfield 26, 3) := by decide +kernel
theorem dX11_town_49 : decode cX11_town 49 = .ok (.aload_n 0, 1) := by decide +kernel
theorem dX11_town_50 : decode cX11_town 50 = .ok (.getfield 19, 3) := by decide +kernel
theorem dX11_town_53 : decode cX11_town 53 = .ok (.invokevirtual 114, 3) := by decide +kernel
theorem dX11_town_56 : decode cX11_town 56 = .ok (.aload_n 0, 1) := by decide +kernel
theorem dX11_town_57 : decode cX11_town 57 = .ok (.invokevirtual 117, 3) := by decide +kernel
theorem dX11_town_60 : decode cX11_town 60 = .ok (.aload_n 0, 1) := by decide +kernel
theorem dX11_town_61 : decode cX11_town 61 = .ok (.getfield 19, 3) := by decide +kernel
theorem dX11_town_64 : decode cX11_town 64 = .ok (.getfield 120, 3) := by decide +kernel
theorem dX11_town_67 : decode cX11_town 67 = .ok (.ireturn, 1) := by decide +kernel
set_option maxHeartbeats 4000000 in
set_option maxRecDepth 100000 in
theorem c_X11_town (l : Launch) (D : va_G) (K : Nat → ClassId) (rd tp tb td wb sh t0 d0 d1 d2 d3 d4 d5 w0 w1 w2 w3 s0 s1 s2 s3 s4 s5 s6 t0_ t1_ t2_ t3_ t4_ t5_ : Nat) (x0 : Nat) (fx : List Value) (hx0 : fx[0]? = some (.ref rd)) (hx1 : fx[1]? = some (.ref t0)) (hx2 : fx[2]? = some (.ref sh)) (hx7 : fx[7]? = some (.ref wb)) (fd0 fd1 fd2 fd3 fd4 fd5 ft0_ ft1_ ft2_ ft3_ ft4_ ft5_ fs2 fw0 fw2 : Nat → Int32) : fn_CI (S := Unit) l D K yX11_town (fn_ws yX11_town cX11_town 1 (some .int)) ({ frames := 20, cells := 0, slots := 0, locals := 500 }) [.ref x0] [(x0, .inr (11, fx)), (rd, .inr (3, [.ref tp, .ref td, .int 0, .int (-1)])), (tp, .inr (6, [.int 0, .ref tb, .int 0, .int 0, .int 0])), (td, .inr (7, [.int 0, .int 0, .int 0, .int 0, .int 0, .int 0, .int 0, .int 0, .int 0, .ref d0, .ref d1, .ref d2, .ref d3, .ref d4, .ref d5])), (d0, .inl (K 0, 5, .inl fd0)), (d1, .inl (K 0, 6, .inl fd1)), (d2, .inl (K 0, 12, .inl fd2)), (d3, .inl (K 0, 24, .inl fd3)), (d4, .inl (K 0, 24, .inl fd4)), (d5, .inl (K 0, 24, .inl fd5)), (t0, .inr (7, [.int 0, .int 0, .int 0, .int 0, .int 0, .int 0, .int 0, .int 0, .int 0, .ref t0_, .ref t1_, .ref t2_, .ref t3_, .ref t4_, .ref t5_])), (t0_, .inl (K 0, 5, .inl ft0_)), (t1_, .inl (K 0, 6, .inl ft1_)), (t2_, .inl (K 0, 12, .inl ft2_)), (t3_, .inl (K 0, 24, .inl ft3_)), (t4_, .inl (K 0, 24, .inl ft4_)), (t5_, .inl (K 0, 24, .inl ft5_)), (sh, .inr (5, [.int 0, .ref s0, .ref s1, .ref s2, .ref s3, .ref s4, .ref s5, .ref s6])), (s2, .inl (K 0, 24, .inl fs2)), (wb, .inr (10, [.int 0, .int 0, .ref w0, .ref w1, .ref w2, .ref w3, .int 0])), (w0, .inl (K 0, 12, .inl fw0)), (w2, .inl (K 0, 12, .inl fw2))] (fun r _ => r = 0) (fun _ => []) 0 0 := by
  refine fn_inI (cc := cX11_town) (maxL := 1) (ret := (some .int)) (by decide) rfl (Nat.le_of_ble_eq_true rfl) ?_
  intro p e s m below meth c A ls B hA hP hD hS hl
  obtain ⟨hx, hb, hr, hml, hts, hown, hlocks, hin, hK⟩ := B
  have hown : s.vm.findClass RX11 = some m.cls := hown
  have hts := fun w h => hts w (List.mem_cons_of_mem _ h)
  have hl : lv_has ls 1 [(0, .ref x0)] := hl
  refine lv_aload_n hx hb dX11_town_0 rfl (lv_at hl 0 rfl) ?_
  refine va_get (D := D) (own := RX11) (ci := 11) (v := .ref rd) (C := RX11) (T := TX11) (N := 13) hx hb hts inb_X11 hown hK.1 hP 0 rfl rfl 0 (by decide) (hts _ wd_422) (fun _ h9 => h9) hx0 dX11_town_1 ?_
  refine fn_gov (wc := [(rd, .inr (3, [.ref tp, .ref td, .int 0, .int (-1)])), (tp, .inr (6, [.int 0, .ref tb, .int 0, .int 0, .int 0])), (td, .inr (7, [.int 0, .int 0, .int 0, .int 0, .int 0, .int 0, .int 0, .int 0, .int 0, .ref d0, .ref d1, .ref d2, .ref d3, .ref d4, .ref d5]))]) (wr := [(x0, .inr (11, fx)), (d0, .inl (K 0, 5, .inl fd0)), (d1, .inl (K 0, 6, .inl fd1)), (d2, .inl (K 0, 12, .inl fd2)), (d3, .inl (K 0, 24, .inl fd3)), (d4, .inl (K 0, 24, .inl fd4)), (d5, .inl (K 0, 24, .inl fd5)), (t0, .inr (7, [.int 0, .int 0, .int 0, .int 0, .int 0, .int 0, .int 0, .int 0, .int 0, .ref t0_, .ref t1_, .ref t2_, .ref t3_, .ref t4_, .ref t5_])), (t0_, .inl (K 0, 5, .inl ft0_)), (t1_, .inl (K 0, 6, .inl ft1_)), (t2_, .inl (K 0, 12, .inl ft2_)), (t3_, .inl (K 0, 24, .inl ft3_)), (t4_, .inl (K 0, 24, .inl ft4_)), (t5_, .inl (K 0, 24, .inl ft5_)), (sh, .inr (5, [.int 0, .ref s0, .ref s1, .ref s2, .ref s3, .ref s4, .ref s5, .ref s6])), (s2, .inl (K 0, 24, .inl fs2)), (wb, .inr (10, [.int 0, .int 0, .ref w0, .ref w1, .ref w2, .ref w3, .int 0])), (w0, .inl (K 0, 12, .inl fw0)), (w2, .inl (K 0, 12, .inl fw2))]) hK hP hD hS hA [1, 2, 3] [0, 4, 5, 6, 7, 8, 9, 10, 11, 12, 13, 14, 15, 16, 17, 18, 19, 20, 21] rfl rfl (by decide) (fun hp => va_runVN (C := RX3) (As := []) (rest := []) ⟨hx, hb, hml, hown, hts⟩ (c_X3_readLines (l := l) (D := D) (K := K) (rd := (rd)) (tp := (tp)) (td := (td)) (tb := (tb)) (d0 := (d0)) (d1 := (d1)) (d2 := (d2)) (d3 := (d3)) (d4 := (d4)) (d5 := (d5)) _) ⟨va_cnB (own := RX11) 0 hts (fn_gin wd_481) rfl rfl rfl (hK.nw 94 rfl) (hts _ wd_2) (by decide +kernel) ⟨Nat.le_of_ble_eq_true rfl, Nat.le_of_ble_eq_true rfl⟩, hts _ wd_480, hts _ wp_1⟩ ⟨fn_blind, va_recv hK.1 hP (ci := 3) (q0 := 1) rfl rfl, hp⟩ rfl rfl hl.1 rfl (lv_room (Nat.le_of_ble_eq_true rfl)) dX11_town_4 ⟨Nat.le_of_ble_eq_true rfl, Nat.le_of_ble_eq_true rfl⟩) (fun u1 H locs hwu1 hP hD hS => ?_)
  have hP : va_P D vwCl [(x0, .inr (11, fx)), (d0, .inl (K 0, 5, .inl fd0)), (d1, .inl (K 0, 6, .inl fd1)), (d2, .inl (K 0, 12, .inl fd2)), (d3, .inl (K 0, 24, .inl fd3)), (d4, .inl (K 0, 24, .inl fd4)), (d5, .inl (K 0, 24, .inl fd5)), (t0, .inr (7, [.int 0, .int 0, .int 0, .int 0, .int 0, .int 0, .int 0, .int 0, .int 0, .ref t0_, .ref t1_, .ref t2_, .ref t3_, .ref t4_, .ref t5_])), (t0_, .inl (K 0, 5, .inl ft0_)), (t1_, .inl (K 0, 6, .inl ft1_)), (t2_, .inl (K 0, 12, .inl ft2_)), (t3_, .inl (K 0, 24, .inl ft3_)), (t4_, .inl (K 0, 24, .inl ft4_)), (t5_, .inl (K 0, 24, .inl ft5_)), (sh, .inr (5, [.int 0, .ref s0, .ref s1, .ref s2, .ref s3, .ref s4, .ref s5, .ref s6])), (s2, .inl (K 0, 24, .inl fs2)), (wb, .inr (10, [.int 0, .int 0, .ref w0, .ref w1, .ref w2, .ref w3, .int 0])), (w0, .inl (K 0, 12, .inl fw0)), (w2, .inl (K 0, 12, .inl fw2)), (rd, .inr (3, [.ref tp, .ref td, .int 0, .int (-1)])), (tp, .inr (6, [.int 0, .ref tb, .int 0, .int 0, .int 0])), (td, .inr (7, [.int 0, .int 0, .int 0, .int 0, .int 0, .int 0, .int 0, .int 0, .int 0, .ref d0, .ref d1, .ref d2, .ref d3, .ref d4, .ref d5]))] H := hP
  have hD : va_D A [(x0, .inr (11, fx)), (d0, .inl (K 0, 5, .inl fd0)), (d1, .inl (K 0, 6, .inl fd1)), (d2, .inl (K 0, 12, .inl fd2)), (d3, .inl (K 0, 24, .inl fd3)), (d4, .inl (K 0, 24, .inl fd4)), (d5, .inl (K 0, 24, .inl fd5)), (t0, .inr (7, [.int 0, .int 0, .int 0, .int 0, .int 0, .int 0, .int 0, .int 0, .int 0, .ref t0_, .ref t1_, .ref t2_, .ref t3_, .ref t4_, .ref t5_])), (t0_, .inl (K 0, 5, .inl ft0_)), (t1_, .inl (K 0, 6, .inl ft1_)), (t2_, .inl (K 0, 12, .inl ft2_)), (t3_, .inl (K 0, 24, .inl ft3_)), (t4_, .inl (K 0, 24, .inl ft4_)), (t5_, .inl (K 0, 24, .inl ft5_)), (sh, .inr (5, [.int 0, .ref s0, .ref s1, .ref s2, .ref s3, .ref s4, .ref s5, .ref s6])), (s2, .inl (K 0, 24, .inl fs2)), (wb, .inr (10, [.int 0, .int 0, .ref w0, .ref w1, .ref w2, .ref w3, .int 0])), (w0, .inl (K 0, 12, .inl fw0)), (w2, .inl (K 0, 12, .inl fw2)), (rd, .inr (3, [.ref tp, .ref td, .int 0, .int (-1)])), (tp, .inr (6, [.int 0, .ref tb, .int 0, .int 0, .int 0])), (td, .inr (7, [.int 0, .int 0, .int 0, .int 0, .int 0, .int 0, .int 0, .int 0, .int 0, .ref d0, .ref d1, .ref d2, .ref d3, .ref d4, .ref d5]))] := hD
  refine lv_aload_n hx hb dX11_town_7 rfl (lv_at hl 0 rfl) ?_
  refine va_get (D := D) (own := RX11) (ci := 11) (v := .ref rd) (C := RX11) (T := TX11) (N := 13) hx hb hts inb_X11 hown hK.1 hP 0 rfl rfl 0 (by decide) (hts _ wd_422) (fun _ h9 => h9) hx0 dX11_town_8 ?_
  refine va_getN (D := D) (own := RX11) (ci := 3) (v := .int 0) (C := RX3) (T := TX3) (N := 4) hx hb hts inb_X3 hown hK.1 hP 19 rfl rfl 2 (by decide) (hK.nf 52 rfl) (fun _ h9 => h9) rfl dX11_town_11 ?_
  refine lv_if_eq (tgt := 20) hx hb dX11_town_14 (by decide) (fun _ => ?_) (fun h9 => absurd (by decide) h9)
  refine lv_aload_n hx hb dX11_town_20 rfl (lv_at hl 0 rfl) ?_
  refine va_get (D := D) (own := RX11) (ci := 11) (v := .ref rd) (C := RX11) (T := TX11) (N := 13) hx hb hts inb_X11 hown hK.1 hP 0 rfl rfl 0 (by decide) (hts _ wd_422) (fun _ h9 => h9) hx0 dX11_town_21 ?_
  refine va_getN (D := D) (own := RX11) (ci := 3) (v := .ref tp) (C := RX3) (T := TX3) (N := 4) hx hb hts inb_X3 hown hK.1 hP 19 rfl rfl 0 (by decide) (hK.nf 50 rfl) (fun _ h9 => h9) rfl dX11_town_24 ?_
  refine lv_iconst (v := 0) hx hb dX11_town_27 (by decide) ?_
  refine va_putN (D := D) (own := RX11) (ci := 6) (v := .int 0) (ty := .int) (C := RX6) (T := TX6) (N := 5) hx hb hts inb_X6 tyX6 tyX6_ok nmX6 hown hK.1 hP hD hS 20 rfl rfl 0 (by decide) (hK.nf 2 rfl) (fun _ h9 => h9) rfl (by decide +kernel) rfl rfl (Nat.le_of_ble_eq_true rfl) dX11_town_28 (fun H locs hP hD hS => ?_)
  have hP : va_P D vwCl [(x0, .inr (11, fx)), (d0, .inl (K 0, 5, .inl fd0)), (d1, .inl (K 0, 6, .inl fd1)), (d2, .inl (K 0, 12, .inl fd2)), (d3, .inl (K 0, 24, .inl fd3)), (d4, .inl (K 0, 24, .inl fd4)), (d5, .inl (K 0, 24, .inl fd5)), (t0, .inr (7, [.int 0, .int 0, .int 0, .int 0, .int 0, .int 0, .int 0, .int 0, .int 0, .ref t0_, .ref t1_, .ref t2_, .ref t3_, .ref t4_, .ref t5_])), (t0_, .inl (K 0, 5, .inl ft0_)), (t1_, .inl (K 0, 6, .inl ft1_)), (t2_, .inl (K 0, 12, .inl ft2_)), (t3_, .inl (K 0, 24, .inl ft3_)), (t4_, .inl (K 0, 24, .inl ft4_)), (t5_, .inl (K 0, 24, .inl ft5_)), (sh, .inr (5, [.int 0, .ref s0, .ref s1, .ref s2, .ref s3, .ref s4, .ref s5, .ref s6])), (s2, .inl (K 0, 24, .inl fs2)), (wb, .inr (10, [.int 0, .int 0, .ref w0, .ref w1, .ref w2, .ref w3, .int 0])), (w0, .inl (K 0, 12, .inl fw0)), (w2, .inl (K 0, 12, .inl fw2)), (rd, .inr (3, [.ref tp, .ref td, .int 0, .int (-1)])), (tp, .inr (6, [.int 0, .ref tb, .int 0, .int 0, .int 0])), (td, .inr (7, [.int 0, .int 0, .int 0, .int 0, .int 0, .int 0, .int 0, .int 0, .int 0, .ref d0, .ref d1, .ref d2, .ref d3, .ref d4, .ref d5]))] H := hP
  have hD : va_D A [(x0, .inr (11, fx)), (d0, .inl (K 0, 5, .inl fd0)), (d1, .inl (K 0, 6, .inl fd1)), (d2, .inl (K 0, 12, .inl fd2)), (d3, .inl (K 0, 24, .inl fd3)), (d4, .inl (K 0, 24, .inl fd4)), (d5, .inl (K 0, 24, .inl fd5)), (t0, .inr (7, [.int 0, .int 0, .int 0, .int 0, .int 0, .int 0, .int 0, .int 0, .int 0, .ref t0_, .ref t1_, .ref t2_, .ref t3_, .ref t4_, .ref t5_])), (t0_, .inl (K 0, 5, .inl ft0_)), (t1_, .inl (K 0, 6, .inl ft1_)), (t2_, .inl (K 0, 12, .inl ft2_)), (t3_, .inl (K 0, 24, .inl ft3_)), (t4_, .inl (K 0, 24, .inl ft4_)), (t5_, .inl (K 0, 24, .inl ft5_)), (sh, .inr (5, [.int 0, .ref s0, .ref s1, .ref s2, .ref s3, .ref s4, .ref s5, .ref s6])), (s2, .inl (K 0, 24, .inl fs2)), (wb, .inr (10, [.int 0, .int 0, .ref w0, .ref w1, .ref w2, .ref w3, .int 0])), (w0, .inl (K 0, 12, .inl fw0)), (w2, .inl (K 0, 12, .inl fw2)), (rd, .inr (3, [.ref tp, .ref td, .int 0, .int (-1)])), (tp, .inr (6, [.int 0, .ref tb, .int 0, .int 0, .int 0])), (td, .inr (7, [.int 0, .int 0, .int 0, .int 0, .int 0, .int 0, .int 0, .int 0, .int 0, .ref d0, .ref d1, .ref d2, .ref d3, .ref d4, .ref d5]))] := hD
  refine lv_aload_n hx hb dX11_town_31 rfl (lv_at hl 0 rfl) ?_
  refine va_get (D := D) (own := RX11) (ci := 11) (v := .ref t0) (C := RX11) (T := TX11) (N := 13) hx hb hts inb_X11 hown hK.1 hP 0 rfl rfl 1 (by decide) (hts _ wd_423) (fun _ h9 => h9) hx1 dX11_town_32 ?_
  refine lv_aload_n hx hb dX11_town_35 rfl (lv_at hl 0 rfl) ?_
  refine va_get (D := D) (own := RX11) (ci := 11) (v := .ref rd) (C := RX11) (T := TX11) (N := 13) hx hb hts inb_X11 hown hK.1 hP 0 rfl rfl 0 (by decide) (hts _ wd_422) (fun _ h9 => h9) hx0 dX11_town_36 ?_
  refine va_getN (D := D) (own := RX11) (ci := 3) (v := .ref td) (C := RX3) (T := TX3) (N := 4) hx hb hts inb_X3 hown hK.1 hP 19 rfl rfl 1 (by decide) (hK.nf 51 rfl) (fun _ h9 => h9) rfl dX11_town_39 ?_
  refine fn_gov (wc := [(t0, .inr (7, [.int 0, .int 0, .int 0, .int 0, .int 0, .int 0, .int 0, .int 0, .int 0, .ref t0_, .ref t1_, .ref t2_, .ref t3_, .ref t4_, .ref t5_])), (t0_, .inl (K 0, 5, .inl ft0_)), (t1_, .inl (K 0, 6, .inl ft1_)), (t2_, .inl (K 0, 12, .inl ft2_)), (t3_, .inl (K 0, 24, .inl ft3_)), (t4_, .inl (K 0, 24, .inl ft4_)), (t5_, .inl (K 0, 24, .inl ft5_)), (td, .inr (7, [.int 0, .int 0, .int 0, .int 0, .int 0, .int 0, .int 0, .int 0, .int 0, .ref d0, .ref d1, .ref d2, .ref d3, .ref d4, .ref d5])), (d0, .inl (K 0, 5, .inl fd0)), (d1, .inl (K 0, 6, .inl fd1)), (d2, .inl (K 0, 12, .inl fd2)), (d3, .inl (K 0, 24, .inl fd3)), (d4, .inl (K 0, 24, .inl fd4)), (d5, .inl (K 0, 24, .inl fd5))]) (wr := [(x0, .inr (11, fx)), (sh, .inr (5, [.int 0, .ref s0, .ref s1, .ref s2, .ref s3, .ref s4, .ref s5, .ref s6])), (s2, .inl (K 0, 24, .inl fs2)), (wb, .inr (10, [.int 0, .int 0, .ref w0, .ref w1, .ref w2, .ref w3, .int 0])), (w0, .inl (K 0, 12, .inl fw0)), (w2, .inl (K 0, 12, .inl fw2)), (rd, .inr (3, [.ref tp, .ref td, .int 0, .int (-1)])), (tp, .inr (6, [.int 0, .ref tb, .int 0, .int 0, .int 0]))]) hK hP hD hS hA [7, 8, 9, 10, 11, 12, 13, 21, 1, 2, 3, 4, 5, 6] [0, 14, 15, 16, 17, 18, 19, 20] rfl rfl (by decide) (fun hp => va_runVN (C := RX7) (As := [.ref td]) (rest := []) ⟨hx, hb, hml, hown, hts⟩ (c_X7_copyFrom (l := l) (D := D) (K := K) (o0 := (t0)) (o1 := (td)) (a0 := (t0_)) (a1 := (t1_)) (a2 := (t2_)) (a3 := (t3_)) (a4 := (t4_)) (a5 := (t5_)) (fa0 := (ft0_)) (fa1 := (ft1_)) (fa2 := (ft2_)) (fa3 := (ft3_)) (fa4 := (ft4_)) (fa5 := (ft5_)) (b0 := (d0)) (b1 := (d1)) (b2 := (d2)) (b3 := (d3)) (b4 := (d4)) (b5 := (d5)) (fb0 := (fd0)) (fb1 := (fd1)) (fb2 := (fd2)) (fb3 := (fd3)) (fb4 := (fd4)) (fb5 := (fd5)) _) ⟨va_cnB (own := RX11) 1 hts (fn_gin wd_619) rfl rfl rfl (hK.nw 103 rfl) (hts _ wd_4) (by decide +kernel) ⟨Nat.le_of_ble_eq_true rfl, Nat.le_of_ble_eq_true rfl⟩, hts _ wd_618, hts _ wp_18⟩ ⟨fn_blind, va_recv hK.1 hP (ci := 7) (q0 := 7) rfl rfl, hp⟩ rfl rfl hl.1 rfl (lv_room (Nat.le_of_ble_eq_true rfl)) dX11_town_42 ⟨Nat.le_of_ble_eq_true rfl, Nat.le_of_ble_eq_true rfl⟩) (fun u3 H locs hwu3 hP hD hS => ?_)
  have hP : va_P D vwCl [(x0, .inr (11, fx)), (sh, .inr (5, [.int 0, .ref s0, .ref s1, .ref s2, .ref s3, .ref s4, .ref s5, .ref s6])), (s2, .inl (K 0, 24, .inl fs2)), (wb, .inr (10, [.int 0, .int 0, .ref w0, .ref w1, .ref w2, .ref w3, .int 0])), (w0, .inl (K 0, 12, .inl fw0)), (w2, .inl (K 0, 12, .inl fw2)), (rd, .inr (3, [.ref tp, .ref td, .int 0, .int (-1)])), (tp, .inr (6, [.int 0, .ref tb, .int 0, .int 0, .int 0])), (t0, .inr (7, [.int 0, .int 0, .int 0, .int 0, .int 0, .int 0, .int 0, .int 0, .int 0, .ref t0_, .ref t1_, .ref t2_, .ref t3_, .ref t4_, .ref t5_])), (t0_, .inl (K 0, 5, .inl (u3 0))), (t1_, .inl (K 0, 6, .inl (u3 1))), (t2_, .inl (K 0, 12, .inl (u3 2))), (t3_, .inl (K 0, 24, .inl (u3 3))), (t4_, .inl (K 0, 24, .inl (u3 4))), (t5_, .inl (K 0, 24, .inl (u3 5))), (td, .inr (7, [.int 0, .int 0, .int 0, .int 0, .int 0, .int 0, .int 0, .int 0, .int 0, .ref d0, .ref d1, .ref d2, .ref d3, .ref d4, .ref d5])), (d0, .inl (K 0, 5, .inl fd0)), (d1, .inl (K 0, 6, .inl fd1)), (d2, .inl (K 0, 12, .inl fd2)), (d3, .inl (K 0, 24, .inl fd3)), (d4, .inl (K 0, 24, .inl fd4)), (d5, .inl (K 0, 24, .inl fd5))] H := hP
  have hD : va_D A [(x0, .inr (11, fx)), (sh, .inr (5, [.int 0, .ref s0, .ref s1, .ref s2, .ref s3, .ref s4, .ref s5, .ref s6])), (s2, .inl (K 0, 24, .inl fs2)), (wb, .inr (10, [.int 0, .int 0, .ref w0, .ref w1, .ref w2, .ref w3, .int 0])), (w0, .inl (K 0, 12, .inl fw0)), (w2, .inl (K 0, 12, .inl fw2)), (rd, .inr (3, [.ref tp, .ref td, .int 0, .int (-1)])), (tp, .inr (6, [.int 0, .ref tb, .int 0, .int 0, .int 0])), (t0, .inr (7, [.int 0, .int 0, .int 0, .int 0, .int 0, .int 0, .int 0, .int 0, .int 0, .ref t0_, .ref t1_, .ref t2_, .ref t3_, .ref t4_, .ref t5_])), (t0_, .inl (K 0, 5, .inl (u3 0))), (t1_, .inl (K 0, 6, .inl (u3 1))), (t2_, .inl (K 0, 12, .inl (u3 2))), (t3_, .inl (K 0, 24, .inl (u3 3))), (t4_, .inl (K 0, 24, .inl (u3 4))), (t5_, .inl (K 0, 24, .inl (u3 5))), (td, .inr (7, [.int 0, .int 0, .int 0, .int 0, .int 0, .int 0, .int 0, .int 0, .int 0, .ref d0, .ref d1, .ref d2, .ref d3, .ref d4, .ref d5])), (d0, .inl (K 0, 5, .inl fd0)), (d1, .inl (K 0, 6, .inl fd1)), (d2, .inl (K 0, 12, .inl fd2)), (d3, .inl (K 0, 24, .inl fd3)), (d4, .inl (K 0, 24, .inl fd4)), (d5, .inl (K 0, 24, .inl fd5))] := hD
  refine lv_aload_n hx hb dX11_town_45 rfl (lv_at hl 0 rfl) ?_
  refine fn_at 46 rfl ?_
  refine va_get (D := D) (own := RX11) (ci := 11) (v := .ref sh) (C := RX11) (T := TX11) (N := 13) hx hb hts inb_X11 hown hK.1 hP 0 rfl rfl 2 (by decide) (hts _ wd_424) (fun _ h9 => h9) hx2 dX11_town_46 ?_
  refine lv_aload_n hx hb dX11_town_49 rfl (lv_at hl 0 rfl) ?_
  refine va_get (D := D) (own := RX11) (ci := 11) (v := .ref t0) (C := RX11) (T := TX11) (N := 13) hx hb hts inb_X11 hown hK.1 hP 0 rfl rfl 1 (by decide) (hts _ wd_423) (fun _ h9 => h9) hx1 dX11_town_50 ?_
  refine fn_gov (wc := [(sh, .inr (5, [.int 0, .ref s0, .ref s1, .ref s2, .ref s3, .ref s4, .ref s5, .ref s6])), (s2, .inl (K 0, 24, .inl fs2)), (t0, .inr (7, [.int 0, .int 0, .int 0, .int 0, .int 0, .int 0, .int 0, .int 0, .int 0, .ref t0_, .ref t1_, .ref t2_, .ref t3_, .ref t4_, .ref t5_])), (t5_, .inl (K 0, 24, .inl (u3 5)))]) (wr := [(x0, .inr (11, fx)), (wb, .inr (10, [.int 0, .int 0, .ref w0, .ref w1, .ref w2, .ref w3, .int 0])), (w0, .inl (K 0, 12, .inl fw0)), (w2, .inl (K 0, 12, .inl fw2)), (rd, .inr (3, [.ref tp, .ref td, .int 0, .int (-1)])), (tp, .inr (6, [.int 0, .ref tb, .int 0, .int 0, .int 0])), (t0_, .inl (K 0, 5, .inl (u3 0))), (t1_, .inl (K 0, 6, .inl (u3 1))), (t2_, .inl (K 0, 12, .inl (u3 2))), (t3_, .inl (K 0, 24, .inl (u3 3))), (t4_, .inl (K 0, 24, .inl (u3 4))), (td, .inr (7, [.int 0, .int 0, .int 0, .int 0, .int 0, .int 0, .int 0, .int 0, .int 0, .ref d0, .ref d1, .ref d2, .ref d3, .ref d4, .ref d5])), (d0, .inl (K 0, 5, .inl fd0)), (d1, .inl (K 0, 6, .inl fd1)), (d2, .inl (K 0, 12, .inl fd2)), (d3, .inl (K 0, 24, .inl fd3)), (d4, .inl (K 0, 24, .inl fd4)), (d5, .inl (K 0, 24, .inl fd5))]) hK hP hD hS hA [1, 2, 8, 14] [0, 3, 4, 5, 6, 7, 9, 10, 11, 12, 13, 15, 16, 17, 18, 19, 20, 21] rfl rfl (by decide) (fun hp => va_runVN (C := RX5) (As := [.ref t0]) (rest := []) ⟨hx, hb, hml, hown, hts⟩ (c_X5_lay (l := l) (D := D) (K := K) (sh := (sh)) (t0 := (t0)) (s0 := (s0)) (s1 := (s1)) (s2 := (s2)) (s3 := (s3)) (s4 := (s4)) (s5 := (s5)) (s6 := (s6)) (fs2 := (fs2)) (t0_ := (t0_)) (t1_ := (t1_)) (t2_ := (t2_)) (t3_ := (t3_)) (t4_ := (t4_)) (t5_ := (t5_)) (ft5_ := (u3 5)) _) ⟨va_cnB (own := RX11) 1 hts (fn_gin wd_626) rfl rfl rfl (hK.nw 104 rfl) (hts _ wd_5) (by decide +kernel) ⟨Nat.le_of_ble_eq_true rfl, Nat.le_of_ble_eq_true rfl⟩, hts _ wd_625, hts _ wp_19⟩ ⟨fn_blind, va_recv hK.1 hP (ci := 5) (q0 := 1) rfl rfl, hp⟩ rfl rfl hl.1 rfl (lv_room (Nat.le_of_ble_eq_true rfl)) dX11_town_53 ⟨Nat.le_of_ble_eq_true rfl, Nat.le_of_ble_eq_true rfl⟩) (fun u5 H locs hwu5 hP hD hS => ?_)
  have hP : va_P D vwCl [(x0, .inr (11, fx)), (wb, .inr (10, [.int 0, .int 0, .ref w0, .ref w1, .ref w2, .ref w3, .int 0])), (w0, .inl (K 0, 12, .inl fw0)), (w2, .inl (K 0, 12, .inl fw2)), (rd, .inr (3, [.ref tp, .ref td, .int 0, .int (-1)])), (tp, .inr (6, [.int 0, .ref tb, .int 0, .int 0, .int 0])), (t0_, .inl (K 0, 5, .inl (u3 0))), (t1_, .inl (K 0, 6, .inl (u3 1))), (t2_, .inl (K 0, 12, .inl (u3 2))), (t3_, .inl (K 0, 24, .inl (u3 3))), (t4_, .inl (K 0, 24, .inl (u3 4))), (td, .inr (7, [.int 0, .int 0, .int 0, .int 0, .int 0, .int 0, .int 0, .int 0, .int 0, .ref d0, .ref d1, .ref d2, .ref d3, .ref d4, .ref d5])), (d0, .inl (K 0, 5, .inl fd0)), (d1, .inl (K 0, 6, .inl fd1)), (d2, .inl (K 0, 12, .inl fd2)), (d3, .inl (K 0, 24, .inl fd3)), (d4, .inl (K 0, 24, .inl fd4)), (d5, .inl (K 0, 24, .inl fd5)), (sh, .inr (5, [.int 0, .ref s0, .ref s1, .ref s2, .ref s3, .ref s4, .ref s5, .ref s6])), (s2, .inl (K 0, 24, .inl u5)), (t0, .inr (7, [.int 0, .int 0, .int 0, .int 0, .int 0, .int 0, .int 0, .int 0, .int 0, .ref t0_, .ref t1_, .ref t2_, .ref t3_, .ref t4_, .ref t5_])), (t5_, .inl (K 0, 24, .inl (u3 5)))] H := hP
  have hD : va_D A [(x0, .inr (11, fx)), (wb, .inr (10, [.int 0, .int 0, .ref w0, .ref w1, .ref w2, .ref w3, .int 0])), (w0, .inl (K 0, 12, .inl fw0)), (w2, .inl (K 0, 12, .inl fw2)), (rd, .inr (3, [.ref tp, .ref td, .int 0, .int (-1)])), (tp, .inr (6, [.int 0, .ref tb, .int 0, .int 0, .int 0])), (t0_, .inl (K 0, 5, .inl (u3 0))), (t1_, .inl (K 0, 6, .inl (u3 1))), (t2_, .inl (K 0, 12, .inl (u3 2))), (t3_, .inl (K 0, 24, .inl (u3 3))), (t4_, .inl (K 0, 24, .inl (u3 4))), (td, .inr (7, [.int 0, .int 0, .int 0, .int 0, .int 0, .int 0, .int 0, .int 0, .int 0, .ref d0, .ref d1, .ref d2, .ref d3, .ref d4, .ref d5])), (d0, .inl (K 0, 5, .inl fd0)), (d1, .inl (K 0, 6, .inl fd1)), (d2, .inl (K 0, 12, .inl fd2)), (d3, .inl (K 0, 24, .inl fd3)), (d4, .inl (K 0, 24, .inl fd4)), (d5, .inl (K 0, 24, .inl fd5)), (sh, .inr (5, [.int 0, .ref s0, .ref s1, .ref s2, .ref s3, .ref s4, .ref s5, .ref s6])), (s2, .inl (K 0, 24, .inl u5)), (t0, .inr (7, [.int 0, .int 0, .int 0, .int 0, .int 0, .int 0, .int 0, .int 0, .int 0, .ref t0_, .ref t1_, .ref t2_, .ref t3_, .ref t4_, .ref t5_])), (t5_, .inl (K 0, 24, .inl (u3 5)))] := hD
  refine lv_aload_n hx hb dX11_town_56 rfl (lv_at hl 0 rfl) ?_
  refine fn_gov (wc := [(x0, .inr (11, fx)), (wb, .inr (10, [.int 0, .int 0, .ref w0, .ref w1, .ref w2, .ref w3, .int 0])), (w0, .inl (K 0, 12, .inl fw0)), (w2, .inl (K 0, 12, .inl fw2)), (t0, .inr (7, [.int 0, .int 0, .int 0, .int 0, .int 0, .int 0, .int 0, .int 0, .int 0, .ref t0_, .ref t1_, .ref t2_, .ref t3_, .ref t4_, .ref t5_])), (sh, .inr (5, [.int 0, .ref s0, .ref s1, .ref s2, .ref s3, .ref s4, .ref s5, .ref s6]))]) (wr := [(rd, .inr (3, [.ref tp, .ref td, .int 0, .int (-1)])), (tp, .inr (6, [.int 0, .ref tb, .int 0, .int 0, .int 0])), (t0_, .inl (K 0, 5, .inl (u3 0))), (t1_, .inl (K 0, 6, .inl (u3 1))), (t2_, .inl (K 0, 12, .inl (u3 2))), (t3_, .inl (K 0, 24, .inl (u3 3))), (t4_, .inl (K 0, 24, .inl (u3 4))), (td, .inr (7, [.int 0, .int 0, .int 0, .int 0, .int 0, .int 0, .int 0, .int 0, .int 0, .ref d0, .ref d1, .ref d2, .ref d3, .ref d4, .ref d5])), (d0, .inl (K 0, 5, .inl fd0)), (d1, .inl (K 0, 6, .inl fd1)), (d2, .inl (K 0, 12, .inl fd2)), (d3, .inl (K 0, 24, .inl fd3)), (d4, .inl (K 0, 24, .inl fd4)), (d5, .inl (K 0, 24, .inl fd5)), (s2, .inl (K 0, 24, .inl u5)), (t5_, .inl (K 0, 24, .inl (u3 5)))]) hK hP hD hS hA [0, 1, 2, 3, 20, 18] [4, 5, 6, 7, 8, 9, 10, 11, 12, 13, 14, 15, 16, 17, 19, 21] rfl rfl (by decide) (fun hp => va_runV (C := RX11) (As := []) (rest := []) ⟨hx, hb, hml, hown, hts⟩ (c_X11_settle (l := l) (D := D) (K := K) (x0 := (x0)) (fx := (fx)) (t0 := (t0)) (hx1 := hx1) (sh := (sh)) (hx2 := hx2) (wb := (wb)) (hx7 := hx7) (w0 := (w0)) (w1 := (w1)) (w2 := (w2)) (w3 := (w3)) (fw0 := (fw0)) (fw2 := (fw2)) (t0_ := (t0_)) (t1_ := (t1_)) (t2_ := (t2_)) (t3_ := (t3_)) (t4_ := (t4_)) (t5_ := (t5_)) (s0 := (s0)) (s1 := (s1)) (s2 := (s2)) (s3 := (s3)) (s4 := (s4)) (s5 := (s5)) (s6 := (s6)) _) (cwV 0 hts (fn_ginV (fn_gin wd_635) wd_632 wd_634 wp_21 wd_1) rfl rfl rfl (by decide +kernel) ⟨Nat.le_of_ble_eq_true rfl, Nat.le_of_ble_eq_true rfl⟩) ⟨fn_blind, va_recv hK.1 hP (ci := 11) (q0 := 0) rfl rfl, hp⟩ rfl rfl hl.1 rfl (lv_room (Nat.le_of_ble_eq_true rfl)) dX11_town_57 ⟨Nat.le_of_ble_eq_true rfl, Nat.le_of_ble_eq_true rfl⟩) (fun u7 H locs hwu7 hP hD hS => ?_)
  have hP : va_P D vwCl [(rd, .inr (3, [.ref tp, .ref td, .int 0, .int (-1)])), (tp, .inr (6, [.int 0, .ref tb, .int 0, .int 0, .int 0])), (t0_, .inl (K 0, 5, .inl (u3 0))), (t1_, .inl (K 0, 6, .inl (u3 1))), (t2_, .inl (K 0, 12, .inl (u3 2))), (t3_, .inl (K 0, 24, .inl (u3 3))), (t4_, .inl (K 0, 24, .inl (u3 4))), (td, .inr (7, [.int 0, .int 0, .int 0, .int 0, .int 0, .int 0, .int 0, .int 0, .int 0, .ref d0, .ref d1, .ref d2, .ref d3, .ref d4, .ref d5])), (d0, .inl (K 0, 5, .inl fd0)), (d1, .inl (K 0, 6, .inl fd1)), (d2, .inl (K 0, 12, .inl fd2)), (d3, .inl (K 0, 24, .inl fd3)), (d4, .inl (K 0, 24, .inl fd4)), (d5, .inl (K 0, 24, .inl fd5)), (s2, .inl (K 0, 24, .inl u5)), (t5_, .inl (K 0, 24, .inl (u3 5))), (x0, .inr (11, fx)), (wb, .inr (10, [.int 0, .int 0, .ref w0, .ref w1, .ref w2, .ref w3, .int 0])), (w0, .inl (K 0, 12, .inl (u7 0))), (w2, .inl (K 0, 12, .inl (u7 1))), (t0, .inr (7, [.int 0, .int 0, .int 0, .int 0, .int 0, .int 0, .int 0, .int 0, .int 0, .ref t0_, .ref t1_, .ref t2_, .ref t3_, .ref t4_, .ref t5_])), (sh, .inr (5, [.int 0, .ref s0, .ref s1, .ref s2, .ref s3, .ref s4, .ref s5, .ref s6]))] H := hP
  have hD : va_D A [(rd, .inr (3, [.ref tp, .ref td, .int 0, .int (-1)])), (tp, .inr (6, [.int 0, .ref tb, .int 0, .int 0, .int 0])), (t0_, .inl (K 0, 5, .inl (u3 0))), (t1_, .inl (K 0, 6, .inl (u3 1))), (t2_, .inl (K 0, 12, .inl (u3 2))), (t3_, .inl (K 0, 24, .inl (u3 3))), (t4_, .inl (K 0, 24, .inl (u3 4))), (td, .inr (7, [.int 0, .int 0, .int 0, .int 0, .int 0, .int 0, .int 0, .int 0, .int 0, .ref d0, .ref d1, .ref d2, .ref d3, .ref d4, .ref d5])), (d0, .inl (K 0, 5, .inl fd0)), (d1, .inl (K 0, 6, .inl fd1)), (d2, .inl (K 0, 12, .inl fd2)), (d3, .inl (K 0, 24, .inl fd3)), (d4, .inl (K 0, 24, .inl fd4)), (d5, .inl (K 0, 24, .inl fd5)), (s2, .inl (K 0, 24, .inl u5)), (t5_, .inl (K 0, 24, .inl (u3 5))), (x0, .inr (11, fx)), (wb, .inr (10, [.int 0, .int 0, .ref w0, .ref w1, .ref w2, .ref w3, .int 0])), (w0, .inl (K 0, 12, .inl (u7 0))), (w2, .inl (K 0, 12, .inl (u7 1))), (t0, .inr (7, [.int 0, .int 0, .int 0, .int 0, .int 0, .int 0, .int 0, .int 0, .int 0, .ref t0_, .ref t1_, .ref t2_, .ref t3_, .ref t4_, .ref t5_])), (sh, .inr (5, [.int 0, .ref s0, .ref s1, .ref s2, .ref s3, .ref s4, .ref s5, .ref s6]))] := hD
  refine lv_aload_n hx hb dX11_town_60 rfl (lv_at hl 0 rfl) ?_
  refine va_get (D := D) (own := RX11) (ci := 11) (v := .ref t0) (C := RX11) (T := TX11) (N := 13) hx hb hts inb_X11 hown hK.1 hP 16 rfl rfl 1 (by decide) (hts _ wd_423) (fun _ h9 => h9) hx1 dX11_town_61 ?_
  refine va_getN (D := D) (own := RX11) (ci := 7) (v := .int 0) (C := RX7) (T := TX7) (N := 15) hx hb hts inb_X7 hown hK.1 hP 20 rfl rfl 0 (by decide) (hK.nf 7 rfl) (fun _ h9 => h9) rfl dX11_town_64 ?_
  exact fn_iret hx hb hr hlocks rfl hP hD hS () (by first | rfl | decide) [] (by decide) rfl dX11_town_67
theorem dX11_image_0 : decode cX11_image 0 = .ok (.iload_n 1, 1) := by decide +kernel
theorem dX11_image_1 : decode cX11_image 1 = .ok (.invokestatic 446, 3) := by decide +kernel
theorem dX11_image_4 : decode cX11_image 4 = .ok (.ifCond .eq 6, 3) := by decide +kernel
theorem dX11_image_7 : decode cX11_image 7 = .ok (.bipush (-2), 2) := by decide +kernel
theorem dX11_image_9 : decode cX11_image 9 = .ok (.ireturn, 1) := by decide +kernel
theorem dX11_image_10 : decode cX11_image 10 = .ok (.aload_n 0, 1) := by decide +kernel
theorem dX11_image_11 : decode cX11_image 11 = .ok (.getfield 30, 3) := by decide +kernel
theorem dX11_image_14 : decode cX11_image 14 = .ok (.iload_n 1, 1) := by decide +kernel
theorem dX11_image_15 : decode cX11_image 15 = .ok (.aaload, 1) := by decide +kernel
theorem dX11_image_16 : decode cX11_image 16 = .ok (.aload_n 0, 1) := by decide +kernel
theorem dX11_image_17 : decode cX11_image 17 = .ok (.getfield 19, 3) := by decide +kernel
theorem dX11_image_20 : decode cX11_image 20 = .ok (.invokevirtual 110, 3) := by decide +kernel
theorem dX11_image_23 : decode cX11_image 23 = .ok (.aload_n 0, 1) := by decide +kernel
theorem dX11_image_24 : decode cX11_image 24 = .ok (.getfield 34, 3) := by decide +kernel
theorem dX11_image_27 : decode cX11_image 27 = .ok (.iload_n 1, 1) := by decide +kernel
theorem dX11_image_28 : decode cX11_image 28 = .ok (.aaload, 1) := by decide +kernel
theorem dX11_image_29 : decode cX11_image 29 = .ok (.aload_n 0, 1) := by decide +kernel
theorem dX11_image_30 : decode cX11_image 30 = .ok (.getfield 26, 3) := by decide +kernel
theorem dX11_image_33 : decode cX11_image 33 = .ok (.invokevirtual 449, 3) := by decide +kernel
theorem dX11_image_36 : decode cX11_image 36 = .ok (.aload_n 0, 1) := by decide +kernel
theorem dX11_image_37 : decode cX11_image 37 = .ok (.getfield 38, 3) := by decide +kernel
theorem dX11_image_40 : decode cX11_image 40 = .ok (.iload_n 1, 1) := by decide +kernel
theorem dX11_image_41 : decode cX11_image 41 = .ok (.iconst 1, 1) := by decide +kernel
theorem dX11_image_42 : decode cX11_image 42 = .ok (.bastore, 1) := by decide +kernel
theorem dX11_image_43 : decode cX11_image 43 = .ok (.iconst 0, 1) := by decide +kernel
theorem dX11_image_44 : decode cX11_image 44 = .ok (.ireturn, 1) := by decide +kernel
set_option maxHeartbeats 4000000 in
set_option maxRecDepth 100000 in
theorem c_X11_image (l : Launch) (D : va_G) (K : Nat → ClassId) (it iz ik sh t0 s0 s1 s2 s3 s4 s5 s6 t0_ t1_ t2_ t3_ t4_ t5_ jt0 js0 jt0_0 jt0_1 jt0_2 jt0_3 jt0_4 jt0_5 js0_0 js0_1 js0_2 js0_3 js0_4 js0_5 js0_6 jt1 js1 jt1_0 jt1_1 jt1_2 jt1_3 jt1_4 jt1_5 js1_0 js1_1 js1_2 js1_3 js1_4 js1_5 js1_6 jt2 js2 jt2_0 jt2_1 jt2_2 jt2_3 jt2_4 jt2_5 js2_0 js2_1 js2_2 js2_3 js2_4 js2_5 js2_6 : Nat) (x0 : Nat) (fx : List Value) (hx1 : fx[1]? = some (.ref t0)) (hx2 : fx[2]? = some (.ref sh)) (hx3 : fx[3]? = some (.ref it)) (hx4 : fx[4]? = some (.ref iz)) (hx5 : fx[5]? = some (.ref ik)) (ft0_ ft1_ ft2_ ft3_ ft4_ ft5_ fs0 fs1 fs2 fs3 fs4 fs5 fs6 fik fjt0_0 fjt0_1 fjt0_2 fjt0_3 fjt0_4 fjt0_5 fjs0_0 fjs0_1 fjs0_2 fjs0_3 fjs0_4 fjs0_5 fjs0_6 fjt1_0 fjt1_1 fjt1_2 fjt1_3 fjt1_4 fjt1_5 fjs1_0 fjs1_1 fjs1_2 fjs1_3 fjs1_4 fjs1_5 fjs1_6 fjt2_0 fjt2_1 fjt2_2 fjt2_3 fjt2_4 fjt2_5 fjs2_0 fjs2_1 fjs2_2 fjs2_3 fjs2_4 fjs2_5 fjs2_6 : Nat → Int32) (fit fiz : Nat → Option Nat) (hit_0 : fit 0 = some jt0) (hit_1 : fit 1 = some jt1) (hit_2 : fit 2 = some jt2) (hiz_0 : fiz 0 = some js0) (hiz_1 : fiz 1 = some js1) (hiz_2 : fiz 2 = some js2) (p0 : Int32) : fn_CI (S := Unit) l D K yX11_image (fn_ws yX11_image cX11_image 2 (some .int)) ({ frames := 8, cells := 0, slots := 0, locals := 200 }) [.ref x0, .int p0] [(x0, .inr (11, fx)), (t0, .inr (7, [.int 0, .int 0, .int 0, .int 0, .int 0, .int 0, .int 0, .int 0, .int 0, .ref t0_, .ref t1_, .ref t2_, .ref t3_, .ref t4_, .ref t5_])), (t0_, .inl (K 0, 5, .inl ft0_)), (t1_, .inl (K 0, 6, .inl ft1_)), (t2_, .inl (K 0, 12, .inl ft2_)), (t3_, .inl (K 0, 24, .inl ft3_)), (t4_, .inl (K 0, 24, .inl ft4_)), (t5_, .inl (K 0, 24, .inl ft5_)), (sh, .inr (5, [.int 0, .ref s0, .ref s1, .ref s2, .ref s3, .ref s4, .ref s5, .ref s6])), (s0, .inl (K 0, 5, .inl fs0)), (s1, .inl (K 0, 150, .inl fs1)), (s2, .inl (K 0, 24, .inl fs2)), (s3, .inl (K 0, 40, .inl fs3)), (s4, .inl (K 0, 40, .inl fs4)), (s5, .inl (K 0, 40, .inl fs5)), (s6, .inl (K 0, 40, .inl fs6)), (it, .inl (K 4, 3, .inr (.inr (.inr (.inr fit))))), (iz, .inl (K 5, 3, .inr (.inr (.inr (.inr fiz))))), (ik, .inl (K 2, 3, .inl fik)), (jt0, .inr (7, [.int 0, .int 0, .int 0, .int 0, .int 0, .int 0, .int 0, .int 0, .int 0, .ref jt0_0, .ref jt0_1, .ref jt0_2, .ref jt0_3, .ref jt0_4, .ref jt0_5])), (jt0_0, .inl (K 0, 5, .inl fjt0_0)), (jt0_1, .inl (K 0, 6, .inl fjt0_1)), (jt0_2, .inl (K 0, 12, .inl fjt0_2)), (jt0_3, .inl (K 0, 24, .inl fjt0_3)), (jt0_4, .inl (K 0, 24, .inl fjt0_4)), (jt0_5, .inl (K 0, 24, .inl fjt0_5)), (js0, .inr (5, [.int 0, .ref js0_0, .ref js0_1, .ref js0_2, .ref js0_3, .ref js0_4, .ref js0_5, .ref js0_6])), (js0_0, .inl (K 0, 5, .inl fjs0_0)), (js0_1, .inl (K 0, 150, .inl fjs0_1)), (js0_2, .inl (K 0, 24, .inl fjs0_2)), (js0_3, .inl (K 0, 40, .inl fjs0_3)), (js0_4, .inl (K 0, 40, .inl fjs0_4)), (js0_5, .inl (K 0, 40, .inl fjs0_5)), (js0_6, .inl (K 0, 40, .inl fjs0_6)), (jt1, .inr (7, [.int 0, .int 0, .int 0, .int 0, .int 0, .int 0, .int 0, .int 0, .int 0, .ref jt1_0, .ref jt1_1, .ref jt1_2, .ref jt1_3, .ref jt1_4, .ref jt1_5])), (jt1_0, .inl (K 0, 5, .inl fjt1_0)), (jt1_1, .inl (K 0, 6, .inl fjt1_1)), (jt1_2, .inl (K 0, 12, .inl fjt1_2)), (jt1_3, .inl (K 0, 24, .inl fjt1_3)), (jt1_4, .inl (K 0, 24, .inl fjt1_4)), (jt1_5, .inl (K 0, 24, .inl fjt1_5)), (js1, .inr (5, [.int 0, .ref js1_0, .ref js1_1, .ref js1_2, .ref js1_3, .ref js1_4, .ref js1_5, .ref js1_6])), (js1_0, .inl (K 0, 5, .inl fjs1_0)), (js1_1, .inl (K 0, 150, .inl fjs1_1)), (js1_2, .inl (K 0, 24, .inl fjs1_2)), (js1_3, .inl (K 0, 40, .inl fjs1_3)), (js1_4, .inl (K 0, 40, .inl fjs1_4)), (js1_5, .inl (K 0, 40, .inl fjs1_5)), (js1_6, .inl (K 0, 40, .inl fjs1_6)), (jt2, .inr (7, [.int 0, .int 0, .int 0, .int 0, .int 0, .int 0, .int 0, .int 0, .int 0, .ref jt2_0, .ref jt2_1, .ref jt2_2, .ref jt2_3, .ref jt2_4, .ref jt2_5])), (jt2_0, .inl (K 0, 5, .inl fjt2_0)), (jt2_1, .inl (K 0, 6, .inl fjt2_1)), (jt2_2, .inl (K 0, 12, .inl fjt2_2)), (jt2_3, .inl (K 0, 24, .inl fjt2_3)), (jt2_4, .inl (K 0, 24, .inl fjt2_4)), (jt2_5, .inl (K 0, 24, .inl fjt2_5)), (js2, .inr (5, [.int 0, .ref js2_0, .ref js2_1, .ref js2_2, .ref js2_3, .ref js2_4, .ref js2_5, .ref js2_6])), (js2_0, .inl (K 0, 5, .inl fjs2_0)), (js2_1, .inl (K 0, 150, .inl fjs2_1)), (js2_2, .inl (K 0, 24, .inl fjs2_2)), (js2_3, .inl (K 0, 40, .inl fjs2_3)), (js2_4, .inl (K 0, 40, .inl fjs2_4)), (js2_5, .inl (K 0, 40, .inl fjs2_5)), (js2_6, .inl (K 0, 40, .inl fjs2_6))] (fun r _ => r = fn_sImg p0) (fun _ => []) 0 0 := by
  refine fn_inI (cc := cX11_image) (maxL := 2) (ret := (some .int)) (by decide) rfl (Nat.le_of_ble_eq_true rfl) ?_
  intro p e s m below meth c A ls B hA hP hD hS hl
  obtain ⟨hx, hb, hr, hml, hts, hown, hlocks, hin, hK⟩ := B
  have hown : s.vm.findClass RX11 = some m.cls := hown
  have hts := fun w h => hts w (List.mem_cons_of_mem _ h)
  have hl : lv_has ls 2 [(0, .ref x0), (1, .int p0)] := hl
  refine lv_iload_n hx hb dX11_image_0 rfl (lv_at hl 1 rfl) ?_
  refine fn_goi (wc := []) (wr := [(x0, .inr (11, fx)), (t0, .inr (7, [.int 0, .int 0, .int 0, .int 0, .int 0, .int 0, .int 0, .int 0, .int 0, .ref t0_, .ref t1_, .ref t2_, .ref t3_, .ref t4_, .ref t5_])), (t0_, .inl (K 0, 5, .inl ft0_)), (t1_, .inl (K 0, 6, .inl ft1_)), (t2_, .inl (K 0, 12, .inl ft2_)), (t3_, .inl (K 0, 24, .inl ft3_)), (t4_, .inl (K 0, 24, .inl ft4_)), (t5_, .inl (K 0, 24, .inl ft5_)), (sh, .inr (5, [.int 0, .ref s0, .ref s1, .ref s2, .ref s3, .ref s4, .ref s5, .ref s6])), (s0, .inl (K 0, 5, .inl fs0)), (s1, .inl (K 0, 150, .inl fs1)), (s2, .inl (K 0, 24, .inl fs2)), (s3, .inl (K 0, 40, .inl fs3)), (s4, .inl (K 0, 40, .inl fs4)), (s5, .inl (K 0, 40, .inl fs5)), (s6, .inl (K 0, 40, .inl fs6)), (it, .inl (K 4, 3, .inr (.inr (.inr (.inr fit))))), (iz, .inl (K 5, 3, .inr (.inr (.inr (.inr fiz))))), (ik, .inl (K 2, 3, .inl fik)), (jt0, .inr (7, [.int 0, .int 0, .int 0, .int 0, .int 0, .int 0, .int 0, .int 0, .int 0, .ref jt0_0, .ref jt0_1, .ref jt0_2, .ref jt0_3, .ref jt0_4, .ref jt0_5])), (jt0_0, .inl (K 0, 5, .inl fjt0_0)), (jt0_1, .inl (K 0, 6, .inl fjt0_1)), (jt0_2, .inl (K 0, 12, .inl fjt0_2)), (jt0_3, .inl (K 0, 24, .inl fjt0_3)), (jt0_4, .inl (K 0, 24, .inl fjt0_4)), (jt0_5, .inl (K 0, 24, .inl fjt0_5)), (js0, .inr (5, [.int 0, .ref js0_0, .ref js0_1, .ref js0_2, .ref js0_3, .ref js0_4, .ref js0_5, .ref js0_6])), (js0_0, .inl (K 0, 5, .inl fjs0_0)), (js0_1, .inl (K 0, 150, .inl fjs0_1)), (js0_2, .inl (K 0, 24, .inl fjs0_2)), (js0_3, .inl (K 0, 40, .inl fjs0_3)), (js0_4, .inl (K 0, 40, .inl fjs0_4)), (js0_5, .inl (K 0, 40, .inl fjs0_5)), (js0_6, .inl (K 0, 40, .inl fjs0_6)), (jt1, .inr (7, [.int 0, .int 0, .int 0, .int 0, .int 0, .int 0, .int 0, .int 0, .int 0, .ref jt1_0, .ref jt1_1, .ref jt1_2, .ref jt1_3, .ref jt1_4, .ref jt1_5])), (jt1_0, .inl (K 0, 5, .inl fjt1_0)), (jt1_1, .inl (K 0, 6, .inl fjt1_1)), (jt1_2, .inl (K 0, 12, .inl fjt1_2)), (jt1_3, .inl (K 0, 24, .inl fjt1_3)), (jt1_4, .inl (K 0, 24, .inl fjt1_4)), (jt1_5, .inl (K 0, 24, .inl fjt1_5)), (js1, .inr (5, [.int 0, .ref js1_0, .ref js1_1, .ref js1_2, .ref js1_3, .ref js1_4, .ref js1_5, .ref js1_6])), (js1_0, .inl (K 0, 5, .inl fjs1_0)), (js1_1, .inl (K 0, 150, .inl fjs1_1)), (js1_2, .inl (K 0, 24, .inl fjs1_2)), (js1_3, .inl (K 0, 40, .inl fjs1_3)), (js1_4, .inl (K 0, 40, .inl fjs1_4)), (js1_5, .inl (K 0, 40, .inl fjs1_5)), (js1_6, .inl (K 0, 40, .inl fjs1_6)), (jt2, .inr (7, [.int 0, .int 0, .int 0, .int 0, .int 0, .int 0, .int 0, .int 0, .int 0, .ref jt2_0, .ref jt2_1, .ref jt2_2, .ref jt2_3, .ref jt2_4, .ref jt2_5])), (jt2_0, .inl (K 0, 5, .inl fjt2_0)), (jt2_1, .inl (K 0, 6, .inl fjt2_1)), (jt2_2, .inl (K 0, 12, .inl fjt2_2)), (jt2_3, .inl (K 0, 24, .inl fjt2_3)), (jt2_4, .inl (K 0, 24, .inl fjt2_4)), (jt2_5, .inl (K 0, 24, .inl fjt2_5)), (js2, .inr (5, [.int 0, .ref js2_0, .ref js2_1, .ref js2_2, .ref js2_3, .ref js2_4, .ref js2_5, .ref js2_6])), (js2_0, .inl (K 0, 5, .inl fjs2_0)), (js2_1, .inl (K 0, 150, .inl fjs2_1)), (js2_2, .inl (K 0, 24, .inl fjs2_2)), (js2_3, .inl (K 0, 40, .inl fjs2_3)), (js2_4, .inl (K 0, 40, .inl fjs2_4)), (js2_5, .inl (K 0, 40, .inl fjs2_5)), (js2_6, .inl (K 0, 40, .inl fjs2_6))]) hK hP hD hS hA [] [0, 1, 2, 3, 4, 5, 6, 7, 8, 9, 10, 11, 12, 13, 14, 15, 16, 17, 18, 19, 20, 21, 22, 23, 24, 25, 26, 27, 28, 29, 30, 31, 32, 33, 34, 35, 36, 37, 38, 39, 40, 41, 42, 43, 44, 45, 46, 47, 48, 49, 50, 51, 52, 53, 54, 55, 56, 57, 58, 59, 60, 61, 62, 63] rfl rfl (by decide) (fun hp => va_runS (As := [.int p0]) (rest := []) ⟨hx, hb, hml, hown, hts⟩ (c_X11_noImage (l := l) (D := D) (K := K) (p0 := (p0)) _) (va_cwS 1 hts (fn_ginS (fn_gin wd_1191) wd_1189 wd_1190 wd_1) rfl rfl rfl (by decide +kernel) ⟨Nat.le_of_ble_eq_true rfl, Nat.le_of_ble_eq_true rfl⟩) ⟨fn_blind, hp⟩ rfl rfl hl.1 rfl (lv_room (Nat.le_of_ble_eq_true rfl)) dX11_image_1 ⟨Nat.le_of_ble_eq_true rfl, Nat.le_of_ble_eq_true rfl⟩) (fun r2 u1 H locs hwu1 hP hD hS => ?_)
  rcases hwu1 with ⟨rfl, k3⟩ | ⟨rfl, k3⟩
  · have hP : va_P D vwCl [(x0, .inr (11, fx)), (t0, .inr (7, [.int 0, .int 0, .int 0, .int 0, .int 0, .int 0, .int 0, .int 0, .int 0, .ref t0_, .ref t1_, .ref t2_, .ref t3_, .ref t4_, .ref t5_])), (t0_, .inl (K 0, 5, .inl ft0_)), (t1_, .inl (K 0, 6, .inl ft1_)), (t2_, .inl (K 0, 12, .inl ft2_)), (t3_, .inl (K 0, 24, .inl ft3_)), (t4_, .inl (K 0, 24, .inl ft4_)), (t5_, .inl (K 0, 24, .inl ft5_)), (sh, .inr (5, [.int 0, .ref s0, .ref s1, .ref s2, .ref s3, .ref s4, .ref s5, .ref s6])), (s0, .inl (K 0, 5, .inl fs0)), (s1, .inl (K 0, 150, .inl fs1)), (s2, .inl (K 0, 24, .inl fs2)), (s3, .inl (K 0, 40, .inl fs3)), (s4, .inl (K 0, 40, .inl fs4)), (s5, .inl (K 0, 40, .inl fs5)), (s6, .inl (K 0, 40, .inl fs6)), (it, .inl (K 4, 3, .inr (.inr (.inr (.inr fit))))), (iz, .inl (K 5, 3, .inr (.inr (.inr (.inr fiz))))), (ik, .inl (K 2, 3, .inl fik)), (jt0, .inr (7, [.int 0, .int 0, .int 0, .int 0, .int 0, .int 0, .int 0, .int 0, .int 0, .ref jt0_0, .ref jt0_1, .ref jt0_2, .ref jt0_3, .ref jt0_4, .ref jt0_5])), (jt0_0, .inl (K 0, 5, .inl fjt0_0)), (jt0_1, .inl (K 0, 6, .inl fjt0_1)), (jt0_2, .inl (K 0, 12, .inl fjt0_2)), (jt0_3, .inl (K 0, 24, .inl fjt0_3)), (jt0_4, .inl (K 0, 24, .inl fjt0_4)), (jt0_5, .inl (K 0, 24, .inl fjt0_5)), (js0, .inr (5, [.int 0, .ref js0_0, .ref js0_1, .ref js0_2, .ref js0_3, .ref js0_4, .ref js0_5, .ref js0_6])), (js0_0, .inl (K 0, 5, .inl fjs0_0)), (js0_1, .inl (K 0, 150, .inl fjs0_1)), (js0_2, .inl (K 0, 24, .inl fjs0_2)), (js0_3, .inl (K 0, 40, .inl fjs0_3)), (js0_4, .inl (K 0, 40, .inl fjs0_4)), (js0_5, .inl (K 0, 40, .inl fjs0_5)), (js0_6, .inl (K 0, 40, .inl fjs0_6)), (jt1, .inr (7, [.int 0, .int 0, .int 0, .int 0, .int 0, .int 0, .int 0, .int 0, .int 0, .ref jt1_0, .ref jt1_1, .ref jt1_2, .ref jt1_3, .ref jt1_4, .ref jt1_5])), (jt1_0, .inl (K 0, 5, .inl fjt1_0)), (jt1_1, .inl (K 0, 6, .inl fjt1_1)), (jt1_2, .inl (K 0, 12, .inl fjt1_2)), (jt1_3, .inl (K 0, 24, .inl fjt1_3)), (jt1_4, .inl (K 0, 24, .inl fjt1_4)), (jt1_5, .inl (K 0, 24, .inl fjt1_5)), (js1, .inr (5, [.int 0, .ref js1_0, .ref js1_1, .ref js1_2, .ref js1_3, .ref js1_4, .ref js1_5, .ref js1_6])), (js1_0, .inl (K 0, 5, .inl fjs1_0)), (js1_1, .inl (K 0, 150, .inl fjs1_1)), (js1_2, .inl (K 0, 24, .inl fjs1_2)), (js1_3, .inl (K 0, 40, .inl fjs1_3)), (js1_4, .inl (K 0, 40, .inl fjs1_4)), (js1_5, .inl (K 0, 40, .inl fjs1_5)), (js1_6, .inl (K 0, 40, .inl fjs1_6)), (jt2, .inr (7, [.int 0, .int 0, .int 0, .int 0, .int 0, .int 0, .int 0, .int 0, .int 0, .ref jt2_0, .ref jt2_1, .ref jt2_2, .ref jt2_3, .ref jt2_4, .ref jt2_5])), (jt2_0, .inl (K 0, 5, .inl fjt2_0)), (jt2_1, .inl (K 0, 6, .inl fjt2_1)), (jt2_2, .inl (K 0, 12, .inl fjt2_2)), (jt2_3, .inl (K 0, 24, .inl fjt2_3)), (jt2_4, .inl (K 0, 24, .inl fjt2_4)), (jt2_5, .inl (K 0, 24, .inl fjt2_5)), (js2, .inr (5, [.int 0, .ref js2_0, .ref js2_1, .ref js2_2, .ref js2_3, .ref js2_4, .ref js2_5, .ref js2_6])), (js2_0, .inl (K 0, 5, .inl fjs2_0)), (js2_1, .inl (K 0, 150, .inl fjs2_1)), (js2_2, .inl (K 0, 24, .inl fjs2_2)), (js2_3, .inl (K 0, 40, .inl fjs2_3)), (js2_4, .inl (K 0, 40, .inl fjs2_4)), (js2_5, .inl (K 0, 40, .inl fjs2_5)), (js2_6, .inl (K 0, 40, .inl fjs2_6))] H := hP
    have hD : va_D A [(x0, .inr (11, fx)), (t0, .inr (7, [.int 0, .int 0, .int 0, .int 0, .int 0, .int 0, .int 0, .int 0, .int 0, .ref t0_, .ref t1_, .ref t2_, .ref t3_, .ref t4_, .ref t5_])), (t0_, .inl (K 0, 5, .inl ft0_)), (t1_, .inl (K 0, 6, .inl ft1_)), (t2_, .inl (K 0, 12, .inl ft2_)), (t3_, .inl (K 0, 24, .inl ft3_)), (t4_, .inl (K 0, 24, .inl ft4_)), (t5_, .inl (K 0, 24, .inl ft5_)), (sh, .inr (5, [.int 0, .ref s0, .ref s1, .ref s2, .ref s3, .ref s4, .ref s5, .ref s6])), (s0, .inl (K 0, 5, .inl fs0)), (s1, .inl (K 0, 150, .inl fs1)), (s2, .inl (K 0, 24, .inl fs2)), (s3, .inl (K 0, 40, .inl fs3)), (s4, .inl (K 0, 40, .inl fs4)), (s5, .inl (K 0, 40, .inl fs5)), (s6, .inl (K 0, 40, .inl fs6)), (it, .inl (K 4, 3, .inr (.inr (.inr (.inr fit))))), (iz, .inl (K 5, 3, .inr (.inr (.inr (.inr fiz))))), (ik, .inl (K 2, 3, .inl fik)), (jt0, .inr (7, [.int 0, .int 0, .int 0, .int 0, .int 0, .int 0, .int 0, .int 0, .int 0, .ref jt0_0, .ref jt0_1, .ref jt0_2, .ref jt0_3, .ref jt0_4, .ref jt0_5])), (jt0_0, .inl (K 0, 5, .inl fjt0_0)), (jt0_1, .inl (K 0, 6, .inl fjt0_1)), (jt0_2, .inl (K 0, 12, .inl fjt0_2)), (jt0_3, .inl (K 0, 24, .inl fjt0_3)), (jt0_4, .inl (K 0, 24, .inl fjt0_4)), (jt0_5, .inl (K 0, 24, .inl fjt0_5)), (js0, .inr (5, [.int 0, .ref js0_0, .ref js0_1, .ref js0_2, .ref js0_3, .ref js0_4, .ref js0_5, .ref js0_6])), (js0_0, .inl (K 0, 5, .inl fjs0_0)), (js0_1, .inl (K 0, 150, .inl fjs0_1)), (js0_2, .inl (K 0, 24, .inl fjs0_2)), (js0_3, .inl (K 0, 40, .inl fjs0_3)), (js0_4, .inl (K 0, 40, .inl fjs0_4)), (js0_5, .inl (K 0, 40, .inl fjs0_5)), (js0_6, .inl (K 0, 40, .inl fjs0_6)), (jt1, .inr (7, [.int 0, .int 0, .int 0, .int 0, .int 0, .int 0, .int 0, .int 0, .int 0, .ref jt1_0, .ref jt1_1, .ref jt1_2, .ref jt1_3, .ref jt1_4, .ref jt1_5])), (jt1_0, .inl (K 0, 5, .inl fjt1_0)), (jt1_1, .inl (K 0, 6, .inl fjt1_1)), (jt1_2, .inl (K 0, 12, .inl fjt1_2)), (jt1_3, .inl (K 0, 24, .inl fjt1_3)), (jt1_4, .inl (K 0, 24, .inl fjt1_4)), (jt1_5, .inl (K 0, 24, .inl fjt1_5)), (js1, .inr (5, [.int 0, .ref js1_0, .ref js1_1, .ref js1_2, .ref js1_3, .ref js1_4, .ref js1_5, .ref js1_6])), (js1_0, .inl (K 0, 5, .inl fjs1_0)), (js1_1, .inl (K 0, 150, .inl fjs1_1)), (js1_2, .inl (K 0, 24, .inl fjs1_2)), (js1_3, .inl (K 0, 40, .inl fjs1_3)), (js1_4, .inl (K 0, 40, .inl fjs1_4)), (js1_5, .inl (K 0, 40, .inl fjs1_5)), (js1_6, .inl (K 0, 40, .inl fjs1_6)), (jt2, .inr (7, [.int 0, .int 0, .int 0, .int 0, .int 0, .int 0, .int 0, .int 0, .int 0, .ref jt2_0, .ref jt2_1, .ref jt2_2, .ref jt2_3, .ref jt2_4, .ref jt2_5])), (jt2_0, .inl (K 0, 5, .inl fjt2_0)), (jt2_1, .inl (K 0, 6, .inl fjt2_1)), (jt2_2, .inl (K 0, 12, .inl fjt2_2)), (jt2_3, .inl (K 0, 24, .inl fjt2_3)), (jt2_4, .inl (K 0, 24, .inl fjt2_4)), (jt2_5, .inl (K 0, 24, .inl fjt2_5)), (js2, .inr (5, [.int 0, .ref js2_0, .ref js2_1, .ref js2_2, .ref js2_3, .ref js2_4, .ref js2_5, .ref js2_6])), (js2_0, .inl (K 0, 5, .inl fjs2_0)), (js2_1, .inl (K 0, 150, .inl fjs2_1)), (js2_2, .inl (K 0, 24, .inl fjs2_2)), (js2_3, .inl (K 0, 40, .inl fjs2_3)), (js2_4, .inl (K 0, 40, .inl fjs2_4)), (js2_5, .inl (K 0, 40, .inl fjs2_5)), (js2_6, .inl (K 0, 40, .inl fjs2_6))] := hD
    refine lv_if_eq (tgt := 10) hx hb dX11_image_4 (by decide) (fun h9 => absurd h9 (by decide)) (fun _ => ?_)
    refine lv_bipush (v := (-2)) hx hb dX11_image_7 (by decide) ?_
    exact fn_iret hx hb hr hlocks rfl hP hD hS () (by first | exact (if_neg k3).symm | decide) [] (by decide) rfl dX11_image_9
  · have hP : va_P D vwCl [(x0, .inr (11, fx)), (t0, .inr (7, [.int 0, .int 0, .int 0, .int 0, .int 0, .int 0, .int 0, .int 0, .int 0, .ref t0_, .ref t1_, .ref t2_, .ref t3_, .ref t4_, .ref t5_])), (t0_, .inl (K 0, 5, .inl ft0_)), (t1_, .inl (K 0, 6, .inl ft1_)), (t2_, .inl (K 0, 12, .inl ft2_)), (t3_, .inl (K 0, 24, .inl ft3_)), (t4_, .inl (K 0, 24, .inl ft4_)), (t5_, .inl (K 0, 24, .inl ft5_)), (sh, .inr (5, [.int 0, .ref s0, .ref s1, .ref s2, .ref s3, .ref s4, .ref s5, .ref s6])), (s0, .inl (K 0, 5, .inl fs0)), (s1, .inl (K 0, 150, .inl fs1)), (s2, .inl (K 0, 24, .inl fs2)), (s3, .inl (K 0, 40, .inl fs3)), (s4, .inl (K 0, 40, .inl fs4)), (s5, .inl (K 0, 40, .inl fs5)), (s6, .inl (K 0, 40, .inl fs6)), (it, .inl (K 4, 3, .inr (.inr (.inr (.inr fit))))), (iz, .inl (K 5, 3, .inr (.inr (.inr (.inr fiz))))), (ik, .inl (K 2, 3, .inl fik)), (jt0, .inr (7, [.int 0, .int 0, .int 0, .int 0, .int 0, .int 0, .int 0, .int 0, .int 0, .ref jt0_0, .ref jt0_1, .ref jt0_2, .ref jt0_3, .ref jt0_4, .ref jt0_5])), (jt0_0, .inl (K 0, 5, .inl fjt0_0)), (jt0_1, .inl (K 0, 6, .inl fjt0_1)), (jt0_2, .inl (K 0, 12, .inl fjt0_2)), (jt0_3, .inl (K 0, 24, .inl fjt0_3)), (jt0_4, .inl (K 0, 24, .inl fjt0_4)), (jt0_5, .inl (K 0, 24, .inl fjt0_5)), (js0, .inr (5, [.int 0, .ref js0_0, .ref js0_1, .ref js0_2, .ref js0_3, .ref js0_4, .ref js0_5, .ref js0_6])), (js0_0, .inl (K 0, 5, .inl fjs0_0)), (js0_1, .inl (K 0, 150, .inl fjs0_1)), (js0_2, .inl (K 0, 24, .inl fjs0_2)), (js0_3, .inl (K 0, 40, .inl fjs0_3)), (js0_4, .inl (K 0, 40, .inl fjs0_4)), (js0_5, .inl (K 0, 40, .inl fjs0_5)), (js0_6, .inl (K 0, 40, .inl fjs0_6)), (jt1, .inr (7, [.int 0, .int 0, .int 0, .int 0, .int 0, .int 0, .int 0, .int 0, .int 0, .ref jt1_0, .ref jt1_1, .ref jt1_2, .ref jt1_3, .ref jt1_4, .ref jt1_5])), (jt1_0, .inl (K 0, 5, .inl fjt1_0)), (jt1_1, .inl (K 0, 6, .inl fjt1_1)), (jt1_2, .inl (K 0, 12, .inl fjt1_2)), (jt1_3, .inl (K 0, 24, .inl fjt1_3)), (jt1_4, .inl (K 0, 24, .inl fjt1_4)), (jt1_5, .inl (K 0, 24, .inl fjt1_5)), (js1, .inr (5, [.int 0, .ref js1_0, .ref js1_1, .ref js1_2, .ref js1_3, .ref js1_4, .ref js1_5, .ref js1_6])), (js1_0, .inl (K 0, 5, .inl fjs1_0)), (js1_1, .inl (K 0, 150, .inl fjs1_1)), (js1_2, .inl (K 0, 24, .inl fjs1_2)), (js1_3, .inl (K 0, 40, .inl fjs1_3)), (js1_4, .inl (K 0, 40, .inl fjs1_4)), (js1_5, .inl (K 0, 40, .inl fjs1_5)), (js1_6, .inl (K 0, 40, .inl fjs1_6)), (jt2, .inr (7, [.int 0, .int 0, .int 0, .int 0, .int 0, .int 0, .int 0, .int 0, .int 0, .ref jt2_0, .ref jt2_1, .ref jt2_2, .ref jt2_3, .ref jt2_4, .ref jt2_5])), (jt2_0, .inl (K 0, 5, .inl fjt2_0)), (jt2_1, .inl (K 0, 6, .inl fjt2_1)), (jt2_2, .inl (K 0, 12, .inl fjt2_2)), (jt2_3, .inl (K 0, 24, .inl fjt2_3)), (jt2_4, .inl (K 0, 24, .inl fjt2_4)), (jt2_5, .inl (K 0, 24, .inl fjt2_5)), (js2, .inr (5, [.int 0, .ref js2_0, .ref js2_1, .ref js2_2, .ref js2_3, .ref js2_4, .ref js2_5, .ref js2_6])), (js2_0, .inl (K 0, 5, .inl fjs2_0)), (js2_1, .inl (K 0, 150, .inl fjs2_1)), (js2_2, .inl (K 0, 24, .inl fjs2_2)), (js2_3, .inl (K 0, 40, .inl fjs2_3)), (js2_4, .inl (K 0, 40, .inl fjs2_4)), (js2_5, .inl (K 0, 40, .inl fjs2_5)), (js2_6, .inl (K 0, 40, .inl fjs2_6))] H := hP
    have hD : va_D A [(x0, .inr (11, fx)), (t0, .inr (7, [.int 0, .int 0, .int 0, .int 0, .int 0, .int 0, .int 0, .int 0, .int 0, .ref t0_, .ref t1_, .ref t2_, .ref t3_, .ref t4_, .ref t5_])), (t0_, .inl (K 0, 5, .inl ft0_)), (t1_, .inl (K 0, 6, .inl ft1_)), (t2_, .inl (K 0, 12, .inl ft2_)), (t3_, .inl (K 0, 24, .inl ft3_)), (t4_, .inl (K 0, 24, .inl ft4_)), (t5_, .inl (K 0, 24, .inl ft5_)), (sh, .inr (5, [.int 0, .ref s0, .ref s1, .ref s2, .ref s3, .ref s4, .ref s5, .ref s6])), (s0, .inl (K 0, 5, .inl fs0)), (s1, .inl (K 0, 150, .inl fs1)), (s2, .inl (K 0, 24, .inl fs2)), (s3, .inl (K 0, 40, .inl fs3)), (s4, .inl (K 0, 40, .inl fs4)), (s5, .inl (K 0, 40, .inl fs5)), (s6, .inl (K 0, 40, .inl fs6)), (it, .inl (K 4, 3, .inr (.inr (.inr (.inr fit))))), (iz, .inl (K 5, 3, .inr (.inr (.inr (.inr fiz))))), (ik, .inl (K 2, 3, .inl fik)), (jt0, .inr (7, [.int 0, .int 0, .int 0, .int 0, .int 0, .int 0, .int 0, .int 0, .int 0, .ref jt0_0, .ref jt0_1, .ref jt0_2, .ref jt0_3, .ref jt0_4, .ref jt0_5])), (jt0_0, .inl (K 0, 5, .inl fjt0_0)), (jt0_1, .inl (K 0, 6, .inl fjt0_1)), (jt0_2, .inl (K 0, 12, .inl fjt0_2)), (jt0_3, .inl (K 0, 24, .inl fjt0_3)), (jt0_4, .inl (K 0, 24, .inl fjt0_4)), (jt0_5, .inl (K 0, 24, .inl fjt0_5)), (js0, .inr (5, [.int 0, .ref js0_0, .ref js0_1, .ref js0_2, .ref js0_3, .ref js0_4, .ref js0_5, .ref js0_6])), (js0_0, .inl (K 0, 5, .inl fjs0_0)), (js0_1, .inl (K 0, 150, .inl fjs0_1)), (js0_2, .inl (K 0, 24, .inl fjs0_2)), (js0_3, .inl (K 0, 40, .inl fjs0_3)), (js0_4, .inl (K 0, 40, .inl fjs0_4)), (js0_5, .inl (K 0, 40, .inl fjs0_5)), (js0_6, .inl (K 0, 40, .inl fjs0_6)), (jt1, .inr (7, [.int 0, .int 0, .int 0, .int 0, .int 0, .int 0, .int 0, .int 0, .int 0, .ref jt1_0, .ref jt1_1, .ref jt1_2, .ref jt1_3, .ref jt1_4, .ref jt1_5])), (jt1_0, .inl (K 0, 5, .inl fjt1_0)), (jt1_1, .inl (K 0, 6, .inl fjt1_1)), (jt1_2, .inl (K 0, 12, .inl fjt1_2)), (jt1_3, .inl (K 0, 24, .inl fjt1_3)), (jt1_4, .inl (K 0, 24, .inl fjt1_4)), (jt1_5, .inl (K 0, 24, .inl fjt1_5)), (js1, .inr (5, [.int 0, .ref js1_0, .ref js1_1, .ref js1_2, .ref js1_3, .ref js1_4, .ref js1_5, .ref js1_6])), (js1_0, .inl (K 0, 5, .inl fjs1_0)), (js1_1, .inl (K 0, 150, .inl fjs1_1)), (js1_2, .inl (K 0, 24, .inl fjs1_2)), (js1_3, .inl (K 0, 40, .inl fjs1_3)), (js1_4, .inl (K 0, 40, .inl fjs1_4)), (js1_5, .inl (K 0, 40, .inl fjs1_5)), (js1_6, .inl (K 0, 40, .inl fjs1_6)), (jt2, .inr (7, [.int 0, .int 0, .int 0, .int 0, .int 0, .int 0, .int 0, .int 0, .int 0, .ref jt2_0, .ref jt2_1, .ref jt2_2, .ref jt2_3, .ref jt2_4, .ref jt2_5])), (jt2_0, .inl (K 0, 5, .inl fjt2_0)), (jt2_1, .inl (K 0, 6, .inl fjt2_1)), (jt2_2, .inl (K 0, 12, .inl fjt2_2)), (jt2_3, .inl (K 0, 24, .inl fjt2_3)), (jt2_4, .inl (K 0, 24, .inl fjt2_4)), (jt2_5, .inl (K 0, 24, .inl fjt2_5)), (js2, .inr (5, [.int 0, .ref js2_0, .ref js2_1, .ref js2_2, .ref js2_3, .ref js2_4, .ref js2_5, .ref js2_6])), (js2_0, .inl (K 0, 5, .inl fjs2_0)), (js2_1, .inl (K 0, 150, .inl fjs2_1)), (js2_2, .inl (K 0, 24, .inl fjs2_2)), (js2_3, .inl (K 0, 40, .inl fjs2_3)), (js2_4, .inl (K 0, 40, .inl fjs2_4)), (js2_5, .inl (K 0, 40, .inl fjs2_5)), (js2_6, .inl (K 0, 40, .inl fjs2_6))] := hD
    refine lv_if_eq (tgt := 10) hx hb dX11_image_4 (by decide) (fun _ => ?_) (fun h9 => absurd (by decide) h9)
    rcases (fn_c3 k3) with rfl | rfl | rfl
    · refine lv_aload_n hx hb dX11_image_10 rfl (lv_at hl 0 rfl) ?_
      refine va_get (D := D) (own := RX11) (ci := 11) (v := .ref it) (C := RX11) (T := TX11) (N := 13) hx hb hts inb_X11 hown hK.1 hP 0 rfl rfl 3 (by decide) (hts _ wd_425) (fun _ h9 => h9) hx3 dX11_image_11 ?_
      refine lv_iload_n hx hb dX11_image_14 rfl (lv_at hl 1 rfl) ?_
      refine va_aldq hx hb hK.1 hP 16 4 rfl rfl (by unfold vp_in; decide) dX11_image_15 ?_
      refine fn_topv (.ref jt0) (congrArg va_rf hit_0) ?_
      refine lv_aload_n hx hb dX11_image_16 rfl (lv_at hl 0 rfl) ?_
      refine va_get (D := D) (own := RX11) (ci := 11) (v := .ref t0) (C := RX11) (T := TX11) (N := 13) hx hb hts inb_X11 hown hK.1 hP 0 rfl rfl 1 (by decide) (hts _ wd_423) (fun _ h9 => h9) hx1 dX11_image_17 ?_
      refine fn_gov (wc := [(jt0, .inr (7, [.int 0, .int 0, .int 0, .int 0, .int 0, .int 0, .int 0, .int 0, .int 0, .ref jt0_0, .ref jt0_1, .ref jt0_2, .ref jt0_3, .ref jt0_4, .ref jt0_5])), (jt0_0, .inl (K 0, 5, .inl fjt0_0)), (jt0_1, .inl (K 0, 6, .inl fjt0_1)), (jt0_2, .inl (K 0, 12, .inl fjt0_2)), (jt0_3, .inl (K 0, 24, .inl fjt0_3)), (jt0_4, .inl (K 0, 24, .inl fjt0_4)), (jt0_5, .inl (K 0, 24, .inl fjt0_5)), (t0, .inr (7, [.int 0, .int 0, .int 0, .int 0, .int 0, .int 0, .int 0, .int 0, .int 0, .ref t0_, .ref t1_, .ref t2_, .ref t3_, .ref t4_, .ref t5_])), (t0_, .inl (K 0, 5, .inl ft0_)), (t1_, .inl (K 0, 6, .inl ft1_)), (t2_, .inl (K 0, 12, .inl ft2_)), (t3_, .inl (K 0, 24, .inl ft3_)), (t4_, .inl (K 0, 24, .inl ft4_)), (t5_, .inl (K 0, 24, .inl ft5_))]) (wr := [(x0, .inr (11, fx)), (sh, .inr (5, [.int 0, .ref s0, .ref s1, .ref s2, .ref s3, .ref s4, .ref s5, .ref s6])), (s0, .inl (K 0, 5, .inl fs0)), (s1, .inl (K 0, 150, .inl fs1)), (s2, .inl (K 0, 24, .inl fs2)), (s3, .inl (K 0, 40, .inl fs3)), (s4, .inl (K 0, 40, .inl fs4)), (s5, .inl (K 0, 40, .inl fs5)), (s6, .inl (K 0, 40, .inl fs6)), (it, .inl (K 4, 3, .inr (.inr (.inr (.inr fit))))), (iz, .inl (K 5, 3, .inr (.inr (.inr (.inr fiz))))), (ik, .inl (K 2, 3, .inl fik)), (js0, .inr (5, [.int 0, .ref js0_0, .ref js0_1, .ref js0_2, .ref js0_3, .ref js0_4, .ref js0_5, .ref js0_6])), (js0_0, .inl (K 0, 5, .inl fjs0_0)), (js0_1, .inl (K 0, 150, .inl fjs0_1)), (js0_2, .inl (K 0, 24, .inl fjs0_2)), (js0_3, .inl (K 0, 40, .inl fjs0_3)), (js0_4, .inl (K 0, 40, .inl fjs0_4)), (js0_5, .inl (K 0, 40, .inl fjs0_5)), (js0_6, .inl (K 0, 40, .inl fjs0_6)), (jt1, .inr (7, [.int 0, .int 0, .int 0, .int 0, .int 0, .int 0, .int 0, .int 0, .int 0, .ref jt1_0, .ref jt1_1, .ref jt1_2, .ref jt1_3, .ref jt1_4, .ref jt1_5])), (jt1_0, .inl (K 0, 5, .inl fjt1_0)), (jt1_1, .inl (K 0, 6, .inl fjt1_1)), (jt1_2, .inl (K 0, 12, .inl fjt1_2)), (jt1_3, .inl (K 0, 24, .inl fjt1_3)), (jt1_4, .inl (K 0, 24, .inl fjt1_4)), (jt1_5, .inl (K 0, 24, .inl fjt1_5)), (js1, .inr (5, [.int 0, .ref js1_0, .ref js1_1, .ref js1_2, .ref js1_3, .ref js1_4, .ref js1_5, .ref js1_6])), (js1_0, .inl (K 0, 5, .inl fjs1_0)), (js1_1, .inl (K 0, 150, .inl fjs1_1)), (js1_2, .inl (K 0, 24, .inl fjs1_2)), (js1_3, .inl (K 0, 40, .inl fjs1_3)), (js1_4, .inl (K 0, 40, .inl fjs1_4)), (js1_5, .inl (K 0, 40, .inl fjs1_5)), (js1_6, .inl (K 0, 40, .inl fjs1_6)), (jt2, .inr (7, [.int 0, .int 0, .int 0, .int 0, .int 0, .int 0, .int 0, .int 0, .int 0, .ref jt2_0, .ref jt2_1, .ref jt2_2, .ref jt2_3, .ref jt2_4, .ref jt2_5])), (jt2_0, .inl (K 0, 5, .inl fjt2_0)), (jt2_1, .inl (K 0, 6, .inl fjt2_1)), (jt2_2, .inl (K 0, 12, .inl fjt2_2)), (jt2_3, .inl (K 0, 24, .inl fjt2_3)), (jt2_4, .inl (K 0, 24, .inl fjt2_4)), (jt2_5, .inl (K 0, 24, .inl fjt2_5)), (js2, .inr (5, [.int 0, .ref js2_0, .ref js2_1, .ref js2_2, .ref js2_3, .ref js2_4, .ref js2_5, .ref js2_6])), (js2_0, .inl (K 0, 5, .inl fjs2_0)), (js2_1, .inl (K 0, 150, .inl fjs2_1)), (js2_2, .inl (K 0, 24, .inl fjs2_2)), (js2_3, .inl (K 0, 40, .inl fjs2_3)), (js2_4, .inl (K 0, 40, .inl fjs2_4)), (js2_5, .inl (K 0, 40, .inl fjs2_5)), (js2_6, .inl (K 0, 40, .inl fjs2_6))]) hK hP hD hS hA [19, 20, 21, 22, 23, 24, 25, 1, 2, 3, 4, 5, 6, 7] [0, 8, 9, 10, 11, 12, 13, 14, 15, 16, 17, 18, 26, 27, 28, 29, 30, 31, 32, 33, 34, 35, 36, 37, 38, 39, 40, 41, 42, 43, 44, 45, 46, 47, 48, 49, 50, 51, 52, 53, 54, 55, 56, 57, 58, 59, 60, 61, 62, 63] rfl rfl (by decide) (fun hp => va_runVN (C := RX7) (As := [.ref t0]) (rest := []) ⟨hx, hb, hml, hown, hts⟩ (c_X7_copyFrom (l := l) (D := D) (K := K) (o0 := (jt0)) (o1 := (t0)) (a0 := (jt0_0)) (a1 := (jt0_1)) (a2 := (jt0_2)) (a3 := (jt0_3)) (a4 := (jt0_4)) (a5 := (jt0_5)) (fa0 := (fjt0_0)) (fa1 := (fjt0_1)) (fa2 := (fjt0_2)) (fa3 := (fjt0_3)) (fa4 := (fjt0_4)) (fa5 := (fjt0_5)) (b0 := (t0_)) (b1 := (t1_)) (b2 := (t2_)) (b3 := (t3_)) (b4 := (t4_)) (b5 := (t5_)) (fb0 := (ft0_)) (fb1 := (ft1_)) (fb2 := (ft2_)) (fb3 := (ft3_)) (fb4 := (ft4_)) (fb5 := (ft5_)) _) ⟨va_cnB (own := RX11) 1 hts (fn_gin wd_619) rfl rfl rfl (hK.nw 103 rfl) (hts _ wd_4) (by decide +kernel) ⟨Nat.le_of_ble_eq_true rfl, Nat.le_of_ble_eq_true rfl⟩, hts _ wd_618, hts _ wp_18⟩ ⟨fn_blind, va_recv hK.1 hP (ci := 7) (q0 := 19) rfl rfl, hp⟩ rfl rfl hl.1 rfl (lv_room (Nat.le_of_ble_eq_true rfl)) dX11_image_20 ⟨Nat.le_of_ble_eq_true rfl, Nat.le_of_ble_eq_true rfl⟩) (fun u4 H locs hwu4 hP hD hS => ?_)
      have hP : va_P D vwCl [(x0, .inr (11, fx)), (sh, .inr (5, [.int 0, .ref s0, .ref s1, .ref s2, .ref s3, .ref s4, .ref s5, .ref s6])), (s0, .inl (K 0, 5, .inl fs0)), (s1, .inl (K 0, 150, .inl fs1)), (s2, .inl (K 0, 24, .inl fs2)), (s3, .inl (K 0, 40, .inl fs3)), (s4, .inl (K 0, 40, .inl fs4)), (s5, .inl (K 0, 40, .inl fs5)), (s6, .inl (K 0, 40, .inl fs6)), (it, .inl (K 4, 3, .inr (.inr (.inr (.inr fit))))), (iz, .inl (K 5, 3, .inr (.inr (.inr (.inr fiz))))), (ik, .inl (K 2, 3, .inl fik)), (js0, .inr (5, [.int 0, .ref js0_0, .ref js0_1, .ref js0_2, .ref js0_3, .ref js0_4, .ref js0_5, .ref js0_6])), (js0_0, .inl (K 0, 5, .inl fjs0_0)), (js0_1, .inl (K 0, 150, .inl fjs0_1)), (js0_2, .inl (K 0, 24, .inl fjs0_2)), (js0_3, .inl (K 0, 40, .inl fjs0_3)), (js0_4, .inl (K 0, 40, .inl fjs0_4)), (js0_5, .inl (K 0, 40, .inl fjs0_5)), (js0_6, .inl (K 0, 40, .inl fjs0_6)), (jt1, .inr (7, [.int 0, .int 0, .int 0, .int 0, .int 0, .int 0, .int 0, .int 0, .int 0, .ref jt1_0, .ref jt1_1, .ref jt1_2, .ref jt1_3, .ref jt1_4, .ref jt1_5])), (jt1_0, .inl (K 0, 5, .inl fjt1_0)), (jt1_1, .inl (K 0, 6, .inl fjt1_1)), (jt1_2, .inl (K 0, 12, .inl fjt1_2)), (jt1_3, .inl (K 0, 24, .inl fjt1_3)), (jt1_4, .inl (K 0, 24, .inl fjt1_4)), (jt1_5, .inl (K 0, 24, .inl fjt1_5)), (js1, .inr (5, [.int 0, .ref js1_0, .ref js1_1, .ref js1_2, .ref js1_3, .ref js1_4, .ref js1_5, .ref js1_6])), (js1_0, .inl (K 0, 5, .inl fjs1_0)), (js1_1, .inl (K 0, 150, .inl fjs1_1)), (js1_2, .inl (K 0, 24, .inl fjs1_2)), (js1_3, .inl (K 0, 40, .inl fjs1_3)), (js1_4, .inl (K 0, 40, .inl fjs1_4)), (js1_5, .inl (K 0, 40, .inl fjs1_5)), (js1_6, .inl (K 0, 40, .inl fjs1_6)), (jt2, .inr (7, [.int 0, .int 0, .int 0, .int 0, .int 0, .int 0, .int 0, .int 0, .int 0, .ref jt2_0, .ref jt2_1, .ref jt2_2, .ref jt2_3, .ref jt2_4, .ref jt2_5])), (jt2_0, .inl (K 0, 5, .inl fjt2_0)), (jt2_1, .inl (K 0, 6, .inl fjt2_1)), (jt2_2, .inl (K 0, 12, .inl fjt2_2)), (jt2_3, .inl (K 0, 24, .inl fjt2_3)), (jt2_4, .inl (K 0, 24, .inl fjt2_4)), (jt2_5, .inl (K 0, 24, .inl fjt2_5)), (js2, .inr (5, [.int 0, .ref js2_0, .ref js2_1, .ref js2_2, .ref js2_3, .ref js2_4, .ref js2_5, .ref js2_6])), (js2_0, .inl (K 0, 5, .inl fjs2_0)), (js2_1, .inl (K 0, 150, .inl fjs2_1)), (js2_2, .inl (K 0, 24, .inl fjs2_2)), (js2_3, .inl (K 0, 40, .inl fjs2_3)), (js2_4, .inl (K 0, 40, .inl fjs2_4)), (js2_5, .inl (K 0, 40, .inl fjs2_5)), (js2_6, .inl (K 0, 40, .inl fjs2_6)), (jt0, .inr (7, [.int 0, .int 0, .int 0, .int 0, .int 0, .int 0, .int 0, .int 0, .int 0, .ref jt0_0, .ref jt0_1, .ref jt0_2, .ref jt0_3, .ref jt0_4, .ref jt0_5])), (jt0_0, .inl (K 0, 5, .inl (u4 0))), (jt0_1, .inl (K 0, 6, .inl (u4 1))), (jt0_2, .inl (K 0, 12, .inl (u4 2))), (jt0_3, .inl (K 0, 24, .inl (u4 3))), (jt0_4, .inl (K 0, 24, .inl (u4 4))), (jt0_5, .inl (K 0, 24, .inl (u4 5))), (t0, .inr (7, [.int 0, .int 0, .int 0, .int 0, .int 0, .int 0, .int 0, .int 0, .int 0, .ref t0_, .ref t1_, .ref t2_, .ref t3_, .ref t4_, .ref t5_])), (t0_, .inl (K 0, 5, .inl ft0_)), (t1_, .inl (K 0, 6, .inl ft1_)), (t2_, .inl (K 0, 12, .inl ft2_)), (t3_, .inl (K 0, 24, .inl ft3_)), (t4_, .inl (K 0, 24, .inl ft4_)), (t5_, .inl (K 0, 24, .inl ft5_))] H := hP
      have hD : va_D A [(x0, .inr (11, fx)), (sh, .inr (5, [.int 0, .ref s0, .ref s1, .ref s2, .ref s3, .ref s4, .ref s5, .ref s6])), (s0, .inl (K 0, 5, .inl fs0)), (s1, .inl (K 0, 150, .inl fs1)), (s2, .inl (K 0, 24, .inl fs2)), (s3, .inl (K 0, 40, .inl fs3)), (s4, .inl (K 0, 40, .inl fs4)), (s5, .inl (K 0, 40, .inl fs5)), (s6, .inl (K 0, 40, .inl fs6)), (it, .inl (K 4, 3, .inr (.inr (.inr (.inr fit))))), (iz, .inl (K 5, 3, .inr (.inr (.inr (.inr fiz))))), (ik, .inl (K 2, 3, .inl fik)), (js0, .inr (5, [.int 0, .ref js0_0, .ref js0_1, .ref js0_2, .ref js0_3, .ref js0_4, .ref js0_5, .ref js0_6])), (js0_0, .inl (K 0, 5, .inl fjs0_0)), (js0_1, .inl (K 0, 150, .inl fjs0_1)), (js0_2, .inl (K 0, 24, .inl fjs0_2)), (js0_3, .inl (K 0, 40, .inl fjs0_3)), (js0_4, .inl (K 0, 40, .inl fjs0_4)), (js0_5, .inl (K 0, 40, .inl fjs0_5)), (js0_6, .inl (K 0, 40, .inl fjs0_6)), (jt1, .inr (7, [.int 0, .int 0, .int 0, .int 0, .int 0, .int 0, .int 0, .int 0, .int 0, .ref jt1_0, .ref jt1_1, .ref jt1_2, .ref jt1_3, .ref jt1_4, .ref jt1_5])), (jt1_0, .inl (K 0, 5, .inl fjt1_0)), (jt1_1, .inl (K 0, 6, .inl fjt1_1)), (jt1_2, .inl (K 0, 12, .inl fjt1_2)), (jt1_3, .inl (K 0, 24, .inl fjt1_3)), (jt1_4, .inl (K 0, 24, .inl fjt1_4)), (jt1_5, .inl (K 0, 24, .inl fjt1_5)), (js1, .inr (5, [.int 0, .ref js1_0, .ref js1_1, .ref js1_2, .ref js1_3, .ref js1_4, .ref js1_5, .ref js1_6])), (js1_0, .inl (K 0, 5, .inl fjs1_0)), (js1_1, .inl (K 0, 150, .inl fjs1_1)), (js1_2, .inl (K 0, 24, .inl fjs1_2)), (js1_3, .inl (K 0, 40, .inl fjs1_3)), (js1_4, .inl (K 0, 40, .inl fjs1_4)), (js1_5, .inl (K 0, 40, .inl fjs1_5)), (js1_6, .inl (K 0, 40, .inl fjs1_6)), (jt2, .inr (7, [.int 0, .int 0, .int 0, .int 0, .int 0, .int 0, .int 0, .int 0, .int 0, .ref jt2_0, .ref jt2_1, .ref jt2_2, .ref jt2_3, .ref jt2_4, .ref jt2_5])), (jt2_0, .inl (K 0, 5, .inl fjt2_0)), (jt2_1, .inl (K 0, 6, .inl fjt2_1)), (jt2_2, .inl (K 0, 12, .inl fjt2_2)), (jt2_3, .inl (K 0, 24, .inl fjt2_3)), (jt2_4, .inl (K 0, 24, .inl fjt2_4)), (jt2_5, .inl (K 0, 24, .inl fjt2_5)), (js2, .inr (5, [.int 0, .ref js2_0, .ref js2_1, .ref js2_2, .ref js2_3, .ref js2_4, .ref js2_5, .ref js2_6])), (js2_0, .inl (K 0, 5, .inl fjs2_0)), (js2_1, .inl (K 0, 150, .inl fjs2_1)), (js2_2, .inl (K 0, 24, .inl fjs2_2)), (js2_3, .inl (K 0, 40, .inl fjs2_3)), (js2_4, .inl (K 0, 40, .inl fjs2_4)), (js2_5, .inl (K 0, 40, .inl fjs2_5)), (js2_6, .inl (K 0, 40, .inl fjs2_6)), (jt0, .inr (7, [.int 0, .int 0, .int 0, .int 0, .int 0, .int 0, .int 0, .int 0, .int 0, .ref jt0_0, .ref jt0_1, .ref jt0_2, .ref jt0_3, .ref jt0_4, .ref jt0_5])), (jt0_0, .inl (K 0, 5, .inl (u4 0))), (jt0_1, .inl (K 0, 6, .inl (u4 1))), (jt0_2, .inl (K 0, 12, .inl (u4 2))), (jt0_3, .inl (K 0, 24, .inl (u4 3))), (jt0_4, .inl (K 0, 24, .inl (u4 4))), (jt0_5, .inl (K 0, 24, .inl (u4 5))), (t0, .inr (7, [.int 0, .int 0, .int 0, .int 0, .int 0, .int 0, .int 0, .int 0, .int 0, .ref t0_, .ref t1_, .ref t2_, .ref t3_, .ref t4_, .ref t5_])), (t0_, .inl (K 0, 5, .inl ft0_)), (t1_, .inl (K 0, 6, .inl ft1_)), (t2_, .inl (K 0, 12, .inl ft2_)), (t3_, .inl (K 0, 24, .inl ft3_)), (t4_, .inl (K 0, 24, .inl ft4_)), (t5_, .inl (K 0, 24, .inl ft5_))] := hD
      refine lv_aload_n hx hb dX11_image_23 rfl (lv_at hl 0 rfl) ?_
      refine va_get (D := D) (own := RX11) (ci := 11) (v := .ref iz) (C := RX11) (T := TX11) (N := 13) hx hb hts inb_X11 hown hK.1 hP 0 rfl rfl 4 (by decide) (hts _ wd_426) (fun _ h9 => h9) hx4 dX11_image_24 ?_
      refine lv_iload_n hx hb dX11_image_27 rfl (lv_at hl 1 rfl) ?_
      refine va_aldq hx hb hK.1 hP 10 5 rfl rfl (by unfold vp_in; decide) dX11_image_28 ?_
      refine fn_topv (.ref js0) (congrArg va_rf hiz_0) ?_
      refine lv_aload_n hx hb dX11_image_29 rfl (lv_at hl 0 rfl) ?_
      refine va_get (D := D) (own := RX11) (ci := 11) (v := .ref sh) (C := RX11) (T := TX11) (N := 13) hx hb hts inb_X11 hown hK.1 hP 0 rfl rfl 2 (by decide) (hts _ wd_424) (fun _ h9 => h9) hx2 dX11_image_30 ?_
      refine fn_gov (wc := [(js0, .inr (5, [.int 0, .ref js0_0, .ref js0_1, .ref js0_2, .ref js0_3, .ref js0_4, .ref js0_5, .ref js0_6])), (js0_0, .inl (K 0, 5, .inl fjs0_0)), (js0_1, .inl (K 0, 150, .inl fjs0_1)), (js0_2, .inl (K 0, 24, .inl fjs0_2)), (js0_3, .inl (K 0, 40, .inl fjs0_3)), (js0_4, .inl (K 0, 40, .inl fjs0_4)), (js0_5, .inl (K 0, 40, .inl fjs0_5)), (js0_6, .inl (K 0, 40, .inl fjs0_6)), (sh, .inr (5, [.int 0, .ref s0, .ref s1, .ref s2, .ref s3, .ref s4, .ref s5, .ref s6])), (s0, .inl (K 0, 5, .inl fs0)), (s1, .inl (K 0, 150, .inl fs1)), (s2, .inl (K 0, 24, .inl fs2)), (s3, .inl (K 0, 40, .inl fs3)), (s4, .inl (K 0, 40, .inl fs4)), (s5, .inl (K 0, 40, .inl fs5)), (s6, .inl (K 0, 40, .inl fs6))]) (wr := [(x0, .inr (11, fx)), (it, .inl (K 4, 3, .inr (.inr (.inr (.inr fit))))), (iz, .inl (K 5, 3, .inr (.inr (.inr (.inr fiz))))), (ik, .inl (K 2, 3, .inl fik)), (jt1, .inr (7, [.int 0, .int 0, .int 0, .int 0, .int 0, .int 0, .int 0, .int 0, .int 0, .ref jt1_0, .ref jt1_1, .ref jt1_2, .ref jt1_3, .ref jt1_4, .ref jt1_5])), (jt1_0, .inl (K 0, 5, .inl fjt1_0)), (jt1_1, .inl (K 0, 6, .inl fjt1_1)), (jt1_2, .inl (K 0, 12, .inl fjt1_2)), (jt1_3, .inl (K 0, 24, .inl fjt1_3)), (jt1_4, .inl (K 0, 24, .inl fjt1_4)), (jt1_5, .inl (K 0, 24, .inl fjt1_5)), (js1, .inr (5, [.int 0, .ref js1_0, .ref js1_1, .ref js1_2, .ref js1_3, .ref js1_4, .ref js1_5, .ref js1_6])), (js1_0, .inl (K 0, 5, .inl fjs1_0)), (js1_1, .inl (K 0, 150, .inl fjs1_1)), (js1_2, .inl (K 0, 24, .inl fjs1_2)), (js1_3, .inl (K 0, 40, .inl fjs1_3)), (js1_4, .inl (K 0, 40, .inl fjs1_4)), (js1_5, .inl (K 0, 40, .inl fjs1_5)), (js1_6, .inl (K 0, 40, .inl fjs1_6)), (jt2, .inr (7, [.int 0, .int 0, .int 0, .int 0, .int 0, .int 0, .int 0, .int 0, .int 0, .ref jt2_0, .ref jt2_1, .ref jt2_2, .ref jt2_3, .ref jt2_4, .ref jt2_5])), (jt2_0, .inl (K 0, 5, .inl fjt2_0)), (jt2_1, .inl (K 0, 6, .inl fjt2_1)), (jt2_2, .inl (K 0, 12, .inl fjt2_2)), (jt2_3, .inl (K 0, 24, .inl fjt2_3)), (jt2_4, .inl (K 0, 24, .inl fjt2_4)), (jt2_5, .inl (K 0, 24, .inl fjt2_5)), (js2, .inr (5, [.int 0, .ref js2_0, .ref js2_1, .ref js2_2, .ref js2_3, .ref js2_4, .ref js2_5, .ref js2_6])), (js2_0, .inl (K 0, 5, .inl fjs2_0)), (js2_1, .inl (K 0, 150, .inl fjs2_1)), (js2_2, .inl (K 0, 24, .inl fjs2_2)), (js2_3, .inl (K 0, 40, .inl fjs2_3)), (js2_4, .inl (K 0, 40, .inl fjs2_4)), (js2_5, .inl (K 0, 40, .inl fjs2_5)), (js2_6, .inl (K 0, 40, .inl fjs2_6)), (jt0, .inr (7, [.int 0, .int 0, .int 0, .int 0, .int 0, .int 0, .int 0, .int 0, .int 0, .ref jt0_0, .ref jt0_1, .ref jt0_2, .ref jt0_3, .ref jt0_4, .ref jt0_5])), (jt0_0, .inl (K 0, 5, .inl (u4 0))), (jt0_1, .inl (K 0, 6, .inl (u4 1))), (jt0_2, .inl (K 0, 12, .inl (u4 2))), (jt0_3, .inl (K 0, 24, .inl (u4 3))), (jt0_4, .inl (K 0, 24, .inl (u4 4))), (jt0_5, .inl (K 0, 24, .inl (u4 5))), (t0, .inr (7, [.int 0, .int 0, .int 0, .int 0, .int 0, .int 0, .int 0, .int 0, .int 0, .ref t0_, .ref t1_, .ref t2_, .ref t3_, .ref t4_, .ref t5_])), (t0_, .inl (K 0, 5, .inl ft0_)), (t1_, .inl (K 0, 6, .inl ft1_)), (t2_, .inl (K 0, 12, .inl ft2_)), (t3_, .inl (K 0, 24, .inl ft3_)), (t4_, .inl (K 0, 24, .inl ft4_)), (t5_, .inl (K 0, 24, .inl ft5_))]) hK hP hD hS hA [12, 13, 14, 15, 16, 17, 18, 19, 1, 2, 3, 4, 5, 6, 7, 8] [0, 9, 10, 11, 20, 21, 22, 23, 24, 25, 26, 27, 28, 29, 30, 31, 32, 33, 34, 35, 36, 37, 38, 39, 40, 41, 42, 43, 44, 45, 46, 47, 48, 49, 50, 51, 52, 53, 54, 55, 56, 57, 58, 59, 60, 61, 62, 63] rfl rfl (by decide) (fun hp => va_runVN (C := RX5) (As := [.ref sh]) (rest := []) ⟨hx, hb, hml, hown, hts⟩ (c_X5_copyFrom (l := l) (D := D) (K := K) (o0 := (js0)) (o1 := (sh)) (a0 := (js0_0)) (a1 := (js0_1)) (a2 := (js0_2)) (a3 := (js0_3)) (a4 := (js0_4)) (a5 := (js0_5)) (a6 := (js0_6)) (fa0 := (fjs0_0)) (fa1 := (fjs0_1)) (fa2 := (fjs0_2)) (fa3 := (fjs0_3)) (fa4 := (fjs0_4)) (fa5 := (fjs0_5)) (fa6 := (fjs0_6)) (b0 := (s0)) (b1 := (s1)) (b2 := (s2)) (b3 := (s3)) (b4 := (s4)) (b5 := (s5)) (b6 := (s6)) (fb0 := (fs0)) (fb1 := (fs1)) (fb2 := (fs2)) (fb3 := (fs3)) (fb4 := (fs4)) (fb5 := (fs5)) (fb6 := (fs6)) _) ⟨va_cnB (own := RX11) 1 hts (fn_gin wd_1195) rfl rfl rfl (hK.nw 152 rfl) (hts _ wd_5) (by decide +kernel) ⟨Nat.le_of_ble_eq_true rfl, Nat.le_of_ble_eq_true rfl⟩, hts _ wd_1194, hts _ wp_90⟩ ⟨fn_blind, va_recv hK.1 hP (ci := 5) (q0 := 12) rfl rfl, hp⟩ rfl rfl hl.1 rfl (lv_room (Nat.le_of_ble_eq_true rfl)) dX11_image_33 ⟨Nat.le_of_ble_eq_true rfl, Nat.le_of_ble_eq_true rfl⟩) (fun u6 H locs hwu6 hP hD hS => ?_)
      have hP : va_P D vwCl [(x0, .inr (11, fx)), (it, .inl (K 4, 3, .inr (.inr (.inr (.inr fit))))), (iz, .inl (K 5, 3, .inr (.inr (.inr (.inr fiz))))), (ik, .inl (K 2, 3, .inl fik)), (jt1, .inr (7, [.int 0, .int 0, .int 0, .int 0, .int 0, .int 0, .int 0, .int 0, .int 0, .ref jt1_0, .ref jt1_1, .ref jt1_2, .ref jt1_3, .ref jt1_4, .ref jt1_5])), (jt1_0, .inl (K 0, 5, .inl fjt1_0)), (jt1_1, .inl (K 0, 6, .inl fjt1_1)), (jt1_2, .inl (K 0, 12, .inl fjt1_2)), (jt1_3, .inl (K 0, 24, .inl fjt1_3)), (jt1_4, .inl (K 0, 24, .inl fjt1_4)), (jt1_5, .inl (K 0, 24, .inl fjt1_5)), (js1, .inr (5, [.int 0, .ref js1_0, .ref js1_1, .ref js1_2, .ref js1_3, .ref js1_4, .ref js1_5, .ref js1_6])), (js1_0, .inl (K 0, 5, .inl fjs1_0)), (js1_1, .inl (K 0, 150, .inl fjs1_1)), (js1_2, .inl (K 0, 24, .inl fjs1_2)), (js1_3, .inl (K 0, 40, .inl fjs1_3)), (js1_4, .inl (K 0, 40, .inl fjs1_4)), (js1_5, .inl (K 0, 40, .inl fjs1_5)), (js1_6, .inl (K 0, 40, .inl fjs1_6)), (jt2, .inr (7, [.int 0, .int 0, .int 0, .int 0, .int 0, .int 0, .int 0, .int 0, .int 0, .ref jt2_0, .ref jt2_1, .ref jt2_2, .ref jt2_3, .ref jt2_4, .ref jt2_5])), (jt2_0, .inl (K 0, 5, .inl fjt2_0)), (jt2_1, .inl (K 0, 6, .inl fjt2_1)), (jt2_2, .inl (K 0, 12, .inl fjt2_2)), (jt2_3, .inl (K 0, 24, .inl fjt2_3)), (jt2_4, .inl (K 0, 24, .inl fjt2_4)), (jt2_5, .inl (K 0, 24, .inl fjt2_5)), (js2, .inr (5, [.int 0, .ref js2_0, .ref js2_1, .ref js2_2, .ref js2_3, .ref js2_4, .ref js2_5, .ref js2_6])), (js2_0, .inl (K 0, 5, .inl fjs2_0)), (js2_1, .inl (K 0, 150, .inl fjs2_1)), (js2_2, .inl (K 0, 24, .inl fjs2_2)), (js2_3, .inl (K 0, 40, .inl fjs2_3)), (js2_4, .inl (K 0, 40, .inl fjs2_4)), (js2_5, .inl (K 0, 40, .inl fjs2_5)), (js2_6, .inl (K 0, 40, .inl fjs2_6)), (jt0, .inr (7, [.int 0, .int 0, .int 0, .int 0, .int 0, .int 0, .int 0, .int 0, .int 0, .ref jt0_0, .ref jt0_1, .ref jt0_2, .ref jt0_3, .ref jt0_4, .ref jt0_5])), (jt0_0, .inl (K 0, 5, .inl (u4 0))), (jt0_1, .inl (K 0, 6, .inl (u4 1))), (jt0_2, .inl (K 0, 12, .inl (u4 2))), (jt0_3, .inl (K 0, 24, .inl (u4 3))), (jt0_4, .inl (K 0, 24, .inl (u4 4))), (jt0_5, .inl (K 0, 24, .inl (u4 5))), (t0, .inr (7, [.int 0, .int 0, .int 0, .int 0, .int 0, .int 0, .int 0, .int 0, .int 0, .ref t0_, .ref t1_, .ref t2_, .ref t3_, .ref t4_, .ref t5_])), (t0_, .inl (K 0, 5, .inl ft0_)), (t1_, .inl (K 0, 6, .inl ft1_)), (t2_, .inl (K 0, 12, .inl ft2_)), (t3_, .inl (K 0, 24, .inl ft3_)), (t4_, .inl (K 0, 24, .inl ft4_)), (t5_, .inl (K 0, 24, .inl ft5_)), (js0, .inr (5, [.int 0, .ref js0_0, .ref js0_1, .ref js0_2, .ref js0_3, .ref js0_4, .ref js0_5, .ref js0_6])), (js0_0, .inl (K 0, 5, .inl (u6 0))), (js0_1, .inl (K 0, 150, .inl (u6 1))), (js0_2, .inl (K 0, 24, .inl (u6 2))), (js0_3, .inl (K 0, 40, .inl (u6 3))), (js0_4, .inl (K 0, 40, .inl (u6 4))), (js0_5, .inl (K 0, 40, .inl (u6 5))), (js0_6, .inl (K 0, 40, .inl (u6 6))), (sh, .inr (5, [.int 0, .ref s0, .ref s1, .ref s2, .ref s3, .ref s4, .ref s5, .ref s6])), (s0, .inl (K 0, 5, .inl fs0)), (s1, .inl (K 0, 150, .inl fs1)), (s2, .inl (K 0, 24, .inl fs2)), (s3, .inl (K 0, 40, .inl fs3)), (s4, .inl (K 0, 40, .inl fs4)), (s5, .inl (K 0, 40, .inl fs5)), (s6, .inl (K 0, 40, .inl fs6))] H := hP
      have hD : va_D A [(x0, .inr (11, fx)), (it, .inl (K 4, 3, .inr (.inr (.inr (.inr fit))))), (iz, .inl (K 5, 3, .inr (.inr (.inr (.inr fiz))))), (ik, .inl (K 2, 3, .inl fik)), (jt1, .inr (7, [.int 0, .int 0, .int 0, .int 0, .int 0, .int 0, .int 0, .int 0, .int 0, .ref jt1_0, .ref jt1_1, .ref jt1_2, .ref jt1_3, .ref jt1_4, .ref jt1_5])), (jt1_0, .inl (K 0, 5, .inl fjt1_0)), (jt1_1, .inl (K 0, 6, .inl fjt1_1)), (jt1_2, .inl (K 0, 12, .inl fjt1_2)), (jt1_3, .inl (K 0, 24, .inl fjt1_3)), (jt1_4, .inl (K 0, 24, .inl fjt1_4)), (jt1_5, .inl (K 0, 24, .inl fjt1_5)), (js1, .inr (5, [.int 0, .ref js1_0, .ref js1_1, .ref js1_2, .ref js1_3, .ref js1_4, .ref js1_5, .ref js1_6])), (js1_0, .inl (K 0, 5, .inl fjs1_0)), (js1_1, .inl (K 0, 150, .inl fjs1_1)), (js1_2, .inl (K 0, 24, .inl fjs1_2)), (js1_3, .inl (K 0, 40, .inl fjs1_3)), (js1_4, .inl (K 0, 40, .inl fjs1_4)), (js1_5, .inl (K 0, 40, .inl fjs1_5)), (js1_6, .inl (K 0, 40, .inl fjs1_6)), (jt2, .inr (7, [.int 0, .int 0, .int 0, .int 0, .int 0, .int 0, .int 0, .int 0, .int 0, .ref jt2_0, .ref jt2_1, .ref jt2_2, .ref jt2_3, .ref jt2_4, .ref jt2_5])), (jt2_0, .inl (K 0, 5, .inl fjt2_0)), (jt2_1, .inl (K 0, 6, .inl fjt2_1)), (jt2_2, .inl (K 0, 12, .inl fjt2_2)), (jt2_3, .inl (K 0, 24, .inl fjt2_3)), (jt2_4, .inl (K 0, 24, .inl fjt2_4)), (jt2_5, .inl (K 0, 24, .inl fjt2_5)), (js2, .inr (5, [.int 0, .ref js2_0, .ref js2_1, .ref js2_2, .ref js2_3, .ref js2_4, .ref js2_5, .ref js2_6])), (js2_0, .inl (K 0, 5, .inl fjs2_0)), (js2_1, .inl (K 0, 150, .inl fjs2_1)), (js2_2, .inl (K 0, 24, .inl fjs2_2)), (js2_3, .inl (K 0, 40, .inl fjs2_3)), (js2_4, .inl (K 0, 40, .inl fjs2_4)), (js2_5, .inl (K 0, 40, .inl fjs2_5)), (js2_6, .inl (K 0, 40, .inl fjs2_6)), (jt0, .inr (7, [.int 0, .int 0, .int 0, .int 0, .int 0, .int 0, .int 0, .int 0, .int 0, .ref jt0_0, .ref jt0_1, .ref jt0_2, .ref jt0_3, .ref jt0_4, .ref jt0_5])), (jt0_0, .inl (K 0, 5, .inl (u4 0))), (jt0_1, .inl (K 0, 6, .inl (u4 1))), (jt0_2, .inl (K 0, 12, .inl (u4 2))), (jt0_3, .inl (K 0, 24, .inl (u4 3))), (jt0_4, .inl (K 0, 24, .inl (u4 4))), (jt0_5, .inl (K 0, 24, .inl (u4 5))), (t0, .inr (7, [.int 0, .int 0, .int 0, .int 0, .int 0, .int 0, .int 0, .int 0, .int 0, .ref t0_, .ref t1_, .ref t2_, .ref t3_, .ref t4_, .ref t5_])), (t0_, .inl (K 0, 5, .inl ft0_)), (t1_, .inl (K 0, 6, .inl ft1_)), (t2_, .inl (K 0, 12, .inl ft2_)), (t3_, .inl (K 0, 24, .inl ft3_)), (t4_, .inl (K 0, 24, .inl ft4_)), (t5_, .inl (K 0, 24, .inl ft5_)), (js0, .inr (5, [.int 0, .ref js0_0, .ref js0_1, .ref js0_2, .ref js0_3, .ref js0_4, .ref js0_5, .ref js0_6])), (js0_0, .inl (K 0, 5, .inl (u6 0))), (js0_1, .inl (K 0, 150, .inl (u6 1))), (js0_2, .inl (K 0, 24, .inl (u6 2))), (js0_3, .inl (K 0, 40, .inl (u6 3))), (js0_4, .inl (K 0, 40, .inl (u6 4))), (js0_5, .inl (K 0, 40, .inl (u6 5))), (js0_6, .inl (K 0, 40, .inl (u6 6))), (sh, .inr (5, [.int 0, .ref s0, .ref s1, .ref s2, .ref s3, .ref s4, .ref s5, .ref s6])), (s0, .inl (K 0, 5, .inl fs0)), (s1, .inl (K 0, 150, .inl fs1)), (s2, .inl (K 0, 24, .inl fs2)), (s3, .inl (K 0, 40, .inl fs3)), (s4, .inl (K 0, 40, .inl fs4)), (s5, .inl (K 0, 40, .inl fs5)), (s6, .inl (K 0, 40, .inl fs6))] := hD
      refine lv_aload_n hx hb dX11_image_36 rfl (lv_at hl 0 rfl) ?_
      refine va_get (D := D) (own := RX11) (ci := 11) (v := .ref ik) (C := RX11) (T := TX11) (N := 13) hx hb hts inb_X11 hown hK.1 hP 0 rfl rfl 5 (by decide) (hts _ wd_427) (fun _ h9 => h9) hx5 dX11_image_37 ?_
      refine fn_at 40 rfl ?_
      refine lv_iload_n hx hb dX11_image_40 rfl (lv_at hl 1 rfl) ?_
      refine lv_iconst (v := 1) hx hb dX11_image_41 (by decide) ?_
      refine va_zast hx hb hK.1 hP hD hS 3 2 rfl rfl (by unfold vp_in; decide) dX11_image_42 (fun H locs hP hD hS => ?_)
      obtain ⟨g8, eg8⟩ : ∃ z, z = (upd fik (Int32.toNatClampNeg 0) (vp_nar .boolean 1)) := ⟨_, rfl⟩
      have hP : va_P D vwCl [(x0, .inr (11, fx)), (it, .inl (K 4, 3, .inr (.inr (.inr (.inr fit))))), (iz, .inl (K 5, 3, .inr (.inr (.inr (.inr fiz))))), (ik, .inl (K 2, 3, .inl g8)), (jt1, .inr (7, [.int 0, .int 0, .int 0, .int 0, .int 0, .int 0, .int 0, .int 0, .int 0, .ref jt1_0, .ref jt1_1, .ref jt1_2, .ref jt1_3, .ref jt1_4, .ref jt1_5])), (jt1_0, .inl (K 0, 5, .inl fjt1_0)), (jt1_1, .inl (K 0, 6, .inl fjt1_1)), (jt1_2, .inl (K 0, 12, .inl fjt1_2)), (jt1_3, .inl (K 0, 24, .inl fjt1_3)), (jt1_4, .inl (K 0, 24, .inl fjt1_4)), (jt1_5, .inl (K 0, 24, .inl fjt1_5)), (js1, .inr (5, [.int 0, .ref js1_0, .ref js1_1, .ref js1_2, .ref js1_3, .ref js1_4, .ref js1_5, .ref js1_6])), (js1_0, .inl (K 0, 5, .inl fjs1_0)), (js1_1, .inl (K 0, 150, .inl fjs1_1)), (js1_2, .inl (K 0, 24, .inl fjs1_2)), (js1_3, .inl (K 0, 40, .inl fjs1_3)), (js1_4, .inl (K 0, 40, .inl fjs1_4)), (js1_5, .inl (K 0, 40, .inl fjs1_5)), (js1_6, .inl (K 0, 40, .inl fjs1_6)), (jt2, .inr (7, [.int 0, .int 0, .int 0, .int 0, .int 0, .int 0, .int 0, .int 0, .int 0, .ref jt2_0, .ref jt2_1, .ref jt2_2, .ref jt2_3, .ref jt2_4, .ref jt2_5])), (jt2_0, .inl (K 0, 5, .inl fjt2_0)), (jt2_1, .inl (K 0, 6, .inl fjt2_1)), (jt2_2, .inl (K 0, 12, .inl fjt2_2)), (jt2_3, .inl (K 0, 24, .inl fjt2_3)), (jt2_4, .inl (K 0, 24, .inl fjt2_4)), (jt2_5, .inl (K 0, 24, .inl fjt2_5)), (js2, .inr (5, [.int 0, .ref js2_0, .ref js2_1, .ref js2_2, .ref js2_3, .ref js2_4, .ref js2_5, .ref js2_6])), (js2_0, .inl (K 0, 5, .inl fjs2_0)), (js2_1, .inl (K 0, 150, .inl fjs2_1)), (js2_2, .inl (K 0, 24, .inl fjs2_2)), (js2_3, .inl (K 0, 40, .inl fjs2_3)), (js2_4, .inl (K 0, 40, .inl fjs2_4)), (js2_5, .inl (K 0, 40, .inl fjs2_5)), (js2_6, .inl (K 0, 40, .inl fjs2_6)), (jt0, .inr (7, [.int 0, .int 0, .int 0, .int 0, .int 0, .int 0, .int 0, .int 0, .int 0, .ref jt0_0, .ref jt0_1, .ref jt0_2, .ref jt0_3, .ref jt0_4, .ref jt0_5])), (jt0_0, .inl (K 0, 5, .inl (u4 0))), (jt0_1, .inl (K 0, 6, .inl (u4 1))), (jt0_2, .inl (K 0, 12, .inl (u4 2))), (jt0_3, .inl (K 0, 24, .inl (u4 3))), (jt0_4, .inl (K 0, 24, .inl (u4 4))), (jt0_5, .inl (K 0, 24, .inl (u4 5))), (t0, .inr (7, [.int 0, .int 0, .int 0, .int 0, .int 0, .int 0, .int 0, .int 0, .int 0, .ref t0_, .ref t1_, .ref t2_, .ref t3_, .ref t4_, .ref t5_])), (t0_, .inl (K 0, 5, .inl ft0_)), (t1_, .inl (K 0, 6, .inl ft1_)), (t2_, .inl (K 0, 12, .inl ft2_)), (t3_, .inl (K 0, 24, .inl ft3_)), (t4_, .inl (K 0, 24, .inl ft4_)), (t5_, .inl (K 0, 24, .inl ft5_)), (js0, .inr (5, [.int 0, .ref js0_0, .ref js0_1, .ref js0_2, .ref js0_3, .ref js0_4, .ref js0_5, .ref js0_6])), (js0_0, .inl (K 0, 5, .inl (u6 0))), (js0_1, .inl (K 0, 150, .inl (u6 1))), (js0_2, .inl (K 0, 24, .inl (u6 2))), (js0_3, .inl (K 0, 40, .inl (u6 3))), (js0_4, .inl (K 0, 40, .inl (u6 4))), (js0_5, .inl (K 0, 40, .inl (u6 5))), (js0_6, .inl (K 0, 40, .inl (u6 6))), (sh, .inr (5, [.int 0, .ref s0, .ref s1, .ref s2, .ref s3, .ref s4, .ref s5, .ref s6])), (s0, .inl (K 0, 5, .inl fs0)), (s1, .inl (K 0, 150, .inl fs1)), (s2, .inl (K 0, 24, .inl fs2)), (s3, .inl (K 0, 40, .inl fs3)), (s4, .inl (K 0, 40, .inl fs4)), (s5, .inl (K 0, 40, .inl fs5)), (s6, .inl (K 0, 40, .inl fs6))] H := by rw [eg8]; exact hP
      have hD : va_D A [(x0, .inr (11, fx)), (it, .inl (K 4, 3, .inr (.inr (.inr (.inr fit))))), (iz, .inl (K 5, 3, .inr (.inr (.inr (.inr fiz))))), (ik, .inl (K 2, 3, .inl g8)), (jt1, .inr (7, [.int 0, .int 0, .int 0, .int 0, .int 0, .int 0, .int 0, .int 0, .int 0, .ref jt1_0, .ref jt1_1, .ref jt1_2, .ref jt1_3, .ref jt1_4, .ref jt1_5])), (jt1_0, .inl (K 0, 5, .inl fjt1_0)), (jt1_1, .inl (K 0, 6, .inl fjt1_1)), (jt1_2, .inl (K 0, 12, .inl fjt1_2)), (jt1_3, .inl (K 0, 24, .inl fjt1_3)), (jt1_4, .inl (K 0, 24, .inl fjt1_4)), (jt1_5, .inl (K 0, 24, .inl fjt1_5)), (js1, .inr (5, [.int 0, .ref js1_0, .ref js1_1, .ref js1_2, .ref js1_3, .ref js1_4, .ref js1_5, .ref js1_6])), (js1_0, .inl (K 0, 5, .inl fjs1_0)), (js1_1, .inl (K 0, 150, .inl fjs1_1)), (js1_2, .inl (K 0, 24, .inl fjs1_2)), (js1_3, .inl (K 0, 40, .inl fjs1_3)), (js1_4, .inl (K 0, 40, .inl fjs1_4)), (js1_5, .inl (K 0, 40, .inl fjs1_5)), (js1_6, .inl (K 0, 40, .inl fjs1_6)), (jt2, .inr (7, [.int 0, .int 0, .int 0, .int 0, .int 0, .int 0, .int 0, .int 0, .int 0, .ref jt2_0, .ref jt2_1, .ref jt2_2, .ref jt2_3, .ref jt2_4, .ref jt2_5])), (jt2_0, .inl (K 0, 5, .inl fjt2_0)), (jt2_1, .inl (K 0, 6, .inl fjt2_1)), (jt2_2, .inl (K 0, 12, .inl fjt2_2)), (jt2_3, .inl (K 0, 24, .inl fjt2_3)), (jt2_4, .inl (K 0, 24, .inl fjt2_4)), (jt2_5, .inl (K 0, 24, .inl fjt2_5)), (js2, .inr (5, [.int 0, .ref js2_0, .ref js2_1, .ref js2_2, .ref js2_3, .ref js2_4, .ref js2_5, .ref js2_6])), (js2_0, .inl (K 0, 5, .inl fjs2_0)), (js2_1, .inl (K 0, 150, .inl fjs2_1)), (js2_2, .inl (K 0, 24, .inl fjs2_2)), (js2_3, .inl (K 0, 40, .inl fjs2_3)), (js2_4, .inl (K 0, 40, .inl fjs2_4)), (js2_5, .inl (K 0, 40, .inl fjs2_5)), (js2_6, .inl (K 0, 40, .inl fjs2_6)), (jt0, .inr (7, [.int 0, .int 0, .int 0, .int 0, .int 0, .int 0, .int 0, .int 0, .int 0, .ref jt0_0, .ref jt0_1, .ref jt0_2, .ref jt0_3, .ref jt0_4, .ref jt0_5])), (jt0_0, .inl (K 0, 5, .inl (u4 0))), (jt0_1, .inl (K 0, 6, .inl (u4 1))), (jt0_2, .inl (K 0, 12, .inl (u4 2))), (jt0_3, .inl (K 0, 24, .inl (u4 3))), (jt0_4, .inl (K 0, 24, .inl (u4 4))), (jt0_5, .inl (K 0, 24, .inl (u4 5))), (t0, .inr (7, [.int 0, .int 0, .int 0, .int 0, .int 0, .int 0, .int 0, .int 0, .int 0, .ref t0_, .ref t1_, .ref t2_, .ref t3_, .ref t4_, .ref t5_])), (t0_, .inl (K 0, 5, .inl ft0_)), (t1_, .inl (K 0, 6, .inl ft1_)), (t2_, .inl (K 0, 12, .inl ft2_)), (t3_, .inl (K 0, 24, .inl ft3_)), (t4_, .inl (K 0, 24, .inl ft4_)), (t5_, .inl (K 0, 24, .inl ft5_)), (js0, .inr (5, [.int 0, .ref js0_0, .ref js0_1, .ref js0_2, .ref js0_3, .ref js0_4, .ref js0_5, .ref js0_6])), (js0_0, .inl (K 0, 5, .inl (u6 0))), (js0_1, .inl (K 0, 150, .inl (u6 1))), (js0_2, .inl (K 0, 24, .inl (u6 2))), (js0_3, .inl (K 0, 40, .inl (u6 3))), (js0_4, .inl (K 0, 40, .inl (u6 4))), (js0_5, .inl (K 0, 40, .inl (u6 5))), (js0_6, .inl (K 0, 40, .inl (u6 6))), (sh, .inr (5, [.int 0, .ref s0, .ref s1, .ref s2, .ref s3, .ref s4, .ref s5, .ref s6])), (s0, .inl (K 0, 5, .inl fs0)), (s1, .inl (K 0, 150, .inl fs1)), (s2, .inl (K 0, 24, .inl fs2)), (s3, .inl (K 0, 40, .inl fs3)), (s4, .inl (K 0, 40, .inl fs4)), (s5, .inl (K 0, 40, .inl fs5)), (s6, .inl (K 0, 40, .inl fs6))] := by rw [eg8]; exact hD
      refine lv_iconst (v := 0) hx hb dX11_image_43 (by decide) ?_
      exact fn_iret hx hb hr hlocks rfl hP hD hS () (by first | exact (if_neg k3).symm | decide) [] (by decide) rfl dX11_image_44
    · refine lv_aload_n hx hb dX11_image_10 rfl (lv_at hl 0 rfl) ?_
      refine va_get (D := D) (own := RX11) (ci := 11) (v := .ref it) (C := RX11) (T := TX11) (N := 13) hx hb hts inb_X11 hown hK.1 hP 0 rfl rfl 3 (by decide) (hts _ wd_425) (fun _ h9 => h9) hx3 dX11_image_11 ?_
      refine lv_iload_n hx hb dX11_image_14 rfl (lv_at hl 1 rfl) ?_
      refine va_aldq hx hb hK.1 hP 16 4 rfl rfl (by unfold vp_in; decide) dX11_image_15 ?_
      refine fn_topv (.ref jt1) (congrArg va_rf hit_1) ?_
      refine lv_aload_n hx hb dX11_image_16 rfl (lv_at hl 0 rfl) ?_
      refine va_get (D := D) (own := RX11) (ci := 11) (v := .ref t0) (C := RX11) (T := TX11) (N := 13) hx hb hts inb_X11 hown hK.1 hP 0 rfl rfl 1 (by decide) (hts _ wd_423) (fun _ h9 => h9) hx1 dX11_image_17 ?_
      refine fn_gov (wc := [(jt1, .inr (7, [.int 0, .int 0, .int 0, .int 0, .int 0, .int 0, .int 0, .int 0, .int 0, .ref jt1_0, .ref jt1_1, .ref jt1_2, .ref jt1_3, .ref jt1_4, .ref jt1_5])), (jt1_0, .inl (K 0, 5, .inl fjt1_0)), (jt1_1, .inl (K 0, 6, .inl fjt1_1)), (jt1_2, .inl (K 0, 12, .inl fjt1_2)), (jt1_3, .inl (K 0, 24, .inl fjt1_3)), (jt1_4, .inl (K 0, 24, .inl fjt1_4)), (jt1_5, .inl (K 0, 24, .inl fjt1_5)), (t0, .inr (7, [.int 0, .int 0, .int 0, .int 0, .int 0, .int 0, .int 0, .int 0, .int 0, .ref t0_, .ref t1_, .ref t2_, .ref t3_, .ref t4_, .ref t5_])), (t0_, .inl (K 0, 5, .inl ft0_)), (t1_, .inl (K 0, 6, .inl ft1_)), (t2_, .inl (K 0, 12, .inl ft2_)), (t3_, .inl (K 0, 24, .inl ft3_)), (t4_, .inl (K 0, 24, .inl ft4_)), (t5_, .inl (K 0, 24, .inl ft5_))]) (wr := [(x0, .inr (11, fx)), (sh, .inr (5, [.int 0, .ref s0, .ref s1, .ref s2, .ref s3, .ref s4, .ref s5, .ref s6])), (s0, .inl (K 0, 5, .inl fs0)), (s1, .inl (K 0, 150, .inl fs1)), (s2, .inl (K 0, 24, .inl fs2)), (s3, .inl (K 0, 40, .inl fs3)), (s4, .inl (K 0, 40, .inl fs4)), (s5, .inl (K 0, 40, .inl fs5)), (s6, .inl (K 0, 40, .inl fs6)), (it, .inl (K 4, 3, .inr (.inr (.inr (.inr fit))))), (iz, .inl (K 5, 3, .inr (.inr (.inr (.inr fiz))))), (ik, .inl (K 2, 3, .inl fik)), (jt0, .inr (7, [.int 0, .int 0, .int 0, .int 0, .int 0, .int 0, .int 0, .int 0, .int 0, .ref jt0_0, .ref jt0_1, .ref jt0_2, .ref jt0_3, .ref jt0_4, .ref jt0_5])), (jt0_0, .inl (K 0, 5, .inl fjt0_0)), (jt0_1, .inl (K 0, 6, .inl fjt0_1)), (jt0_2, .inl (K 0, 12, .inl fjt0_2)), (jt0_3, .inl (K 0, 24, .inl fjt0_3)), (jt0_4, .inl (K 0, 24, .inl fjt0_4)), (jt0_5, .inl (K 0, 24, .inl fjt0_5)), (js0, .inr (5, [.int 0, .ref js0_0, .ref js0_1, .ref js0_2, .ref js0_3, .ref js0_4, .ref js0_5, .ref js0_6])), (js0_0, .inl (K 0, 5, .inl fjs0_0)), (js0_1, .inl (K 0, 150, .inl fjs0_1)), (js0_2, .inl (K 0, 24, .inl fjs0_2)), (js0_3, .inl (K 0, 40, .inl fjs0_3)), (js0_4, .inl (K 0, 40, .inl fjs0_4)), (js0_5, .inl (K 0, 40, .inl fjs0_5)), (js0_6, .inl (K 0, 40, .inl fjs0_6)), (js1, .inr (5, [.int 0, .ref js1_0, .ref js1_1, .ref js1_2, .ref js1_3, .ref js1_4, .ref js1_5, .ref js1_6])), (js1_0, .inl (K 0, 5, .inl fjs1_0)), (js1_1, .inl (K 0, 150, .inl fjs1_1)), (js1_2, .inl (K 0, 24, .inl fjs1_2)), (js1_3, .inl (K 0, 40, .inl fjs1_3)), (js1_4, .inl (K 0, 40, .inl fjs1_4)), (js1_5, .inl (K 0, 40, .inl fjs1_5)), (js1_6, .inl (K 0, 40, .inl fjs1_6)), (jt2, .inr (7, [.int 0, .int 0, .int 0, .int 0, .int 0, .int 0, .int 0, .int 0, .int 0, .ref jt2_0, .ref jt2_1, .ref jt2_2, .ref jt2_3, .ref jt2_4, .ref jt2_5])), (jt2_0, .inl (K 0, 5, .inl fjt2_0)), (jt2_1, .inl (K 0, 6, .inl fjt2_1)), (jt2_2, .inl (K 0, 12, .inl fjt2_2)), (jt2_3, .inl (K 0, 24, .inl fjt2_3)), (jt2_4, .inl (K 0, 24, .inl fjt2_4)), (jt2_5, .inl (K 0, 24, .inl fjt2_5)), (js2, .inr (5, [.int 0, .ref js2_0, .ref js2_1, .ref js2_2, .ref js2_3, .ref js2_4, .ref js2_5, .ref js2_6])), (js2_0, .inl (K 0, 5, .inl fjs2_0)), (js2_1, .inl (K 0, 150, .inl fjs2_1)), (js2_2, .inl (K 0, 24, .inl fjs2_2)), (js2_3, .inl (K 0, 40, .inl fjs2_3)), (js2_4, .inl (K 0, 40, .inl fjs2_4)), (js2_5, .inl (K 0, 40, .inl fjs2_5)), (js2_6, .inl (K 0, 40, .inl fjs2_6))]) hK hP hD hS hA [34, 35, 36, 37, 38, 39, 40, 1, 2, 3, 4, 5, 6, 7] [0, 8, 9, 10, 11, 12, 13, 14, 15, 16, 17, 18, 19, 20, 21, 22, 23, 24, 25, 26, 27, 28, 29, 30, 31, 32, 33, 41, 42, 43, 44, 45, 46, 47, 48, 49, 50, 51, 52, 53, 54, 55, 56, 57, 58, 59, 60, 61, 62, 63] rfl rfl (by decide) (fun hp => va_runVN (C := RX7) (As := [.ref t0]) (rest := []) ⟨hx, hb, hml, hown, hts⟩ (c_X7_copyFrom (l := l) (D := D) (K := K) (o0 := (jt1)) (o1 := (t0)) (a0 := (jt1_0)) (a1 := (jt1_1)) (a2 := (jt1_2)) (a3 := (jt1_3)) (a4 := (jt1_4)) (a5 := (jt1_5)) (fa0 := (fjt1_0)) (fa1 := (fjt1_1)) (fa2 := (fjt1_2)) (fa3 := (fjt1_3)) (fa4 := (fjt1_4)) (fa5 := (fjt1_5)) (b0 := (t0_)) (b1 := (t1_)) (b2 := (t2_)) (b3 := (t3_)) (b4 := (t4_)) (b5 := (t5_)) (fb0 := (ft0_)) (fb1 := (ft1_)) (fb2 := (ft2_)) (fb3 := (ft3_)) (fb4 := (ft4_)) (fb5 := (ft5_)) _) ⟨va_cnB (own := RX11) 1 hts (fn_gin wd_619) rfl rfl rfl (hK.nw 103 rfl) (hts _ wd_4) (by decide +kernel) ⟨Nat.le_of_ble_eq_true rfl, Nat.le_of_ble_eq_true rfl⟩, hts _ wd_618, hts _ wp_18⟩ ⟨fn_blind, va_recv hK.1 hP (ci := 7) (q0 := 34) rfl rfl, hp⟩ rfl rfl hl.1 rfl (lv_room (Nat.le_of_ble_eq_true rfl)) dX11_image_20 ⟨Nat.le_of_ble_eq_true rfl, Nat.le_of_ble_eq_true rfl⟩) (fun u9 H locs hwu9 hP hD hS => ?_)
      have hP : va_P D vwCl [(x0, .inr (11, fx)), (sh, .inr (5, [.int 0, .ref s0, .ref s1, .ref s2, .ref s3, .ref s4, .ref s5, .ref s6])), (s0, .inl (K 0, 5, .inl fs0)), (s1, .inl (K 0, 150, .inl fs1)), (s2, .inl (K 0, 24, .inl fs2)), (s3, .inl (K 0, 40, .inl fs3)), (s4, .inl (K 0, 40, .inl fs4)), (s5, .inl (K 0, 40, .inl fs5)), (s6, .inl (K 0, 40, .inl fs6)), (it, .inl (K 4, 3, .inr (.inr (.inr (.inr fit))))), (iz, .inl (K 5, 3, .inr (.inr (.inr (.inr fiz))))), (ik, .inl (K 2, 3, .inl fik)), (jt0, .inr (7, [.int 0, .int 0, .int 0, .int 0, .int 0, .int 0, .int 0, .int 0, .int 0, .ref jt0_0, .ref jt0_1, .ref jt0_2, .ref jt0_3, .ref jt0_4, .ref jt0_5])), (jt0_0, .inl (K 0, 5, .inl fjt0_0)), (jt0_1, .inl (K 0, 6, .inl fjt0_1)), (jt0_2, .inl (K 0, 12, .inl fjt0_2)), (jt0_3, .inl (K 0, 24, .inl fjt0_3)), (jt0_4, .inl (K 0, 24, .inl fjt0_4)), (jt0_5, .inl (K 0, 24, .inl fjt0_5)), (js0, .inr (5, [.int 0, .ref js0_0, .ref js0_1, .ref js0_2, .ref js0_3, .ref js0_4, .ref js0_5, .ref js0_6])), (js0_0, .inl (K 0, 5, .inl fjs0_0)), (js0_1, .inl (K 0, 150, .inl fjs0_1)), (js0_2, .inl (K 0, 24, .inl fjs0_2)), (js0_3, .inl (K 0, 40, .inl fjs0_3)), (js0_4, .inl (K 0, 40, .inl fjs0_4)), (js0_5, .inl (K 0, 40, .inl fjs0_5)), (js0_6, .inl (K 0, 40, .inl fjs0_6)), (js1, .inr (5, [.int 0, .ref js1_0, .ref js1_1, .ref js1_2, .ref js1_3, .ref js1_4, .ref js1_5, .ref js1_6])), (js1_0, .inl (K 0, 5, .inl fjs1_0)), (js1_1, .inl (K 0, 150, .inl fjs1_1)), (js1_2, .inl (K 0, 24, .inl fjs1_2)), (js1_3, .inl (K 0, 40, .inl fjs1_3)), (js1_4, .inl (K 0, 40, .inl fjs1_4)), (js1_5, .inl (K 0, 40, .inl fjs1_5)), (js1_6, .inl (K 0, 40, .inl fjs1_6)), (jt2, .inr (7, [.int 0, .int 0, .int 0, .int 0, .int 0, .int 0, .int 0, .int 0, .int 0, .ref jt2_0, .ref jt2_1, .ref jt2_2, .ref jt2_3, .ref jt2_4, .ref jt2_5])), (jt2_0, .inl (K 0, 5, .inl fjt2_0)), (jt2_1, .inl (K 0, 6, .inl fjt2_1)), (jt2_2, .inl (K 0, 12, .inl fjt2_2)), (jt2_3, .inl (K 0, 24, .inl fjt2_3)), (jt2_4, .inl (K 0, 24, .inl fjt2_4)), (jt2_5, .inl (K 0, 24, .inl fjt2_5)), (js2, .inr (5, [.int 0, .ref js2_0, .ref js2_1, .ref js2_2, .ref js2_3, .ref js2_4, .ref js2_5, .ref js2_6])), (js2_0, .inl (K 0, 5, .inl fjs2_0)), (js2_1, .inl (K 0, 150, .inl fjs2_1)), (js2_2, .inl (K 0, 24, .inl fjs2_2)), (js2_3, .inl (K 0, 40, .inl fjs2_3)), (js2_4, .inl (K 0, 40, .inl fjs2_4)), (js2_5, .inl (K 0, 40, .inl fjs2_5)), (js2_6, .inl (K 0, 40, .inl fjs2_6)), (jt1, .inr (7, [.int 0, .int 0, .int 0, .int 0, .int 0, .int 0, .int 0, .int 0, .int 0, .ref jt1_0, .ref jt1_1, .ref jt1_2, .ref jt1_3, .ref jt1_4, .ref jt1_5])), (jt1_0, .inl (K 0, 5, .inl (u9 0))), (jt1_1, .inl (K 0, 6, .inl (u9 1))), (jt1_2, .inl (K 0, 12, .inl (u9 2))), (jt1_3, .inl (K 0, 24, .inl (u9 3))), (jt1_4, .inl (K 0, 24, .inl (u9 4))), (jt1_5, .inl (K 0, 24, .inl (u9 5))), (t0, .inr (7, [.int 0, .int 0, .int 0, .int 0, .int 0, .int 0, .int 0, .int 0, .int 0, .ref t0_, .ref t1_, .ref t2_, .ref t3_, .ref t4_, .ref t5_])), (t0_, .inl (K 0, 5, .inl ft0_)), (t1_, .inl (K 0, 6, .inl ft1_)), (t2_, .inl (K 0, 12, .inl ft2_)), (t3_, .inl (K 0, 24, .inl ft3_)), (t4_, .inl (K 0, 24, .inl ft4_)), (t5_, .inl (K 0, 24, .inl ft5_))] H := hP
      have hD : va_D A [(x0, .inr (11, fx)), (sh, .inr (5, [.int 0, .ref s0, .ref s1, .ref s2, .ref s3, .ref s4, .ref s5, .ref s6])), (s0, .inl (K 0, 5, .inl fs0)), (s1, .inl (K 0, 150, .inl fs1)), (s2, .inl (K 0, 24, .inl fs2)), (s3, .inl (K 0, 40, .inl fs3)), (s4, .inl (K 0, 40, .inl fs4)), (s5, .inl (K 0, 40, .inl fs5)), (s6, .inl (K 0, 40, .inl fs6)), (it, .inl (K 4, 3, .inr (.inr (.inr (.inr fit))))), (iz, .inl (K 5, 3, .inr (.inr (.inr (.inr fiz))))), (ik, .inl (K 2, 3, .inl fik)), (jt0, .inr (7, [.int 0, .int 0, .int 0, .int 0, .int 0, .int 0, .int 0, .int 0, .int 0, .ref jt0_0, .ref jt0_1, .ref jt0_2, .ref jt0_3, .ref jt0_4, .ref jt0_5])), (jt0_0, .inl (K 0, 5, .inl fjt0_0)), (jt0_1, .inl (K 0, 6, .inl fjt0_1)), (jt0_2, .inl (K 0, 12, .inl fjt0_2)), (jt0_3, .inl (K 0, 24, .inl fjt0_3)), (jt0_4, .inl (K 0, 24, .inl fjt0_4)), (jt0_5, .inl (K 0, 24, .inl fjt0_5)), (js0, .inr (5, [.int 0, .ref js0_0, .ref js0_1, .ref js0_2, .ref js0_3, .ref js0_4, .ref js0_5, .ref js0_6])), (js0_0, .inl (K 0, 5, .inl fjs0_0)), (js0_1, .inl (K 0, 150, .inl fjs0_1)), (js0_2, .inl (K 0, 24, .inl fjs0_2)), (js0_3, .inl (K 0, 40, .inl fjs0_3)), (js0_4, .inl (K 0, 40, .inl fjs0_4)), (js0_5, .inl (K 0, 40, .inl fjs0_5)), (js0_6, .inl (K 0, 40, .inl fjs0_6)), (js1, .inr (5, [.int 0, .ref js1_0, .ref js1_1, .ref js1_2, .ref js1_3, .ref js1_4, .ref js1_5, .ref js1_6])), (js1_0, .inl (K 0, 5, .inl fjs1_0)), (js1_1, .inl (K 0, 150, .inl fjs1_1)), (js1_2, .inl (K 0, 24, .inl fjs1_2)), (js1_3, .inl (K 0, 40, .inl fjs1_3)), (js1_4, .inl (K 0, 40, .inl fjs1_4)), (js1_5, .inl (K 0, 40, .inl fjs1_5)), (js1_6, .inl (K 0, 40, .inl fjs1_6)), (jt2, .inr (7, [.int 0, .int 0, .int 0, .int 0, .int 0, .int 0, .int 0, .int 0, .int 0, .ref jt2_0, .ref jt2_1, .ref jt2_2, .ref jt2_3, .ref jt2_4, .ref jt2_5])), (jt2_0, .inl (K 0, 5, .inl fjt2_0)), (jt2_1, .inl (K 0, 6, .inl fjt2_1)), (jt2_2, .inl (K 0, 12, .inl fjt2_2)), (jt2_3, .inl (K 0, 24, .inl fjt2_3)), (jt2_4, .inl (K 0, 24, .inl fjt2_4)), (jt2_5, .inl (K 0, 24, .inl fjt2_5)), (js2, .inr (5, [.int 0, .ref js2_0, .ref js2_1, .ref js2_2, .ref js2_3, .ref js2_4, .ref js2_5, .ref js2_6])), (js2_0, .inl (K 0, 5, .inl fjs2_0)), (js2_1, .inl (K 0, 150, .inl fjs2_1)), (js2_2, .inl (K 0, 24, .inl fjs2_2)), (js2_3, .inl (K 0, 40, .inl fjs2_3)), (js2_4, .inl (K 0, 40, .inl fjs2_4)), (js2_5, .inl (K 0, 40, .inl fjs2_5)), (js2_6, .inl (K 0, 40, .inl fjs2_6)), (jt1, .inr (7, [.int 0, .int 0, .int 0, .int 0, .int 0, .int 0, .int 0, .int 0, .int 0, .ref jt1_0, .ref jt1_1, .ref jt1_2, .ref jt1_3, .ref jt1_4, .ref jt1_5])), (jt1_0, .inl (K 0, 5, .inl (u9 0))), (jt1_1, .inl (K 0, 6, .inl (u9 1))), (jt1_2, .inl (K 0, 12, .inl (u9 2))), (jt1_3, .inl (K 0, 24, .inl (u9 3))), (jt1_4, .inl (K 0, 24, .inl (u9 4))), (jt1_5, .inl (K 0, 24, .inl (u9 5))), (t0, .inr (7, [.int 0, .int 0, .int 0, .int 0, .int 0, .int 0, .int 0, .int 0, .int 0, .ref t0_, .ref t1_, .ref t2_, .ref t3_, .ref t4_, .ref t5_])), (t0_, .inl (K 0, 5, .inl ft0_)), (t1_, .inl (K 0, 6, .inl ft1_)), (t2_, .inl (K 0, 12, .inl ft2_)), (t3_, .inl (K 0, 24, .inl ft3_)), (t4_, .inl (K 0, 24, .inl ft4_)), (t5_, .inl (K 0, 24, .inl ft5_))] := hD
      refine lv_aload_n hx hb dX11_image_23 rfl (lv_at hl 0 rfl) ?_
      refine va_get (D := D) (own := RX11) (ci := 11) (v := .ref iz) (C := RX11) (T := TX11) (N := 13) hx hb hts inb_X11 hown hK.1 hP 0 rfl rfl 4 (by decide) (hts _ wd_426) (fun _ h9 => h9) hx4 dX11_image_24 ?_
      refine lv_iload_n hx hb dX11_image_27 rfl (lv_at hl 1 rfl) ?_
      refine va_aldq hx hb hK.1 hP 10 5 rfl rfl (by unfold vp_in; decide) dX11_image_28 ?_
      refine fn_topv (.ref js1) (congrArg va_rf hiz_1) ?_
      refine lv_aload_n hx hb dX11_image_29 rfl (lv_at hl 0 rfl) ?_
      refine va_get (D := D) (own := RX11) (ci := 11) (v := .ref sh) (C := RX11) (T := TX11) (N := 13) hx hb hts inb_X11 hown hK.1 hP 0 rfl rfl 2 (by decide) (hts _ wd_424) (fun _ h9 => h9) hx2 dX11_image_30 ?_
      refine fn_gov (wc := [(js1, .inr (5, [.int 0, .ref js1_0, .ref js1_1, .ref js1_2, .ref js1_3, .ref js1_4, .ref js1_5, .ref js1_6])), (js1_0, .inl (K 0, 5, .inl fjs1_0)), (js1_1, .inl (K 0, 150, .inl fjs1_1)), (js1_2, .inl (K 0, 24, .inl fjs1_2)), (js1_3, .inl (K 0, 40, .inl fjs1_3)), (js1_4, .inl (K 0, 40, .inl fjs1_4)), (js1_5, .inl (K 0, 40, .inl fjs1_5)), (js1_6, .inl (K 0, 40, .inl fjs1_6)), (sh, .inr (5, [.int 0, .ref s0, .ref s1, .ref s2, .ref s3, .ref s4, .ref s5, .ref s6])), (s0, .inl (K 0, 5, .inl fs0)), (s1, .inl (K 0, 150, .inl fs1)), (s2, .inl (K 0, 24, .inl fs2)), (s3, .inl (K 0, 40, .inl fs3)), (s4, .inl (K 0, 40, .inl fs4)), (s5, .inl (K 0, 40, .inl fs5)), (s6, .inl (K 0, 40, .inl fs6))]) (wr := [(x0, .inr (11, fx)), (it, .inl (K 4, 3, .inr (.inr (.inr (.inr fit))))), (iz, .inl (K 5, 3, .inr (.inr (.inr (.inr fiz))))), (ik, .inl (K 2, 3, .inl fik)), (jt0, .inr (7, [.int 0, .int 0, .int 0, .int 0, .int 0, .int 0, .int 0, .int 0, .int 0, .ref jt0_0, .ref jt0_1, .ref jt0_2, .ref jt0_3, .ref jt0_4, .ref jt0_5])), (jt0_0, .inl (K 0, 5, .inl fjt0_0)), (jt0_1, .inl (K 0, 6, .inl fjt0_1)), (jt0_2, .inl (K 0, 12, .inl fjt0_2)), (jt0_3, .inl (K 0, 24, .inl fjt0_3)), (jt0_4, .inl (K 0, 24, .inl fjt0_4)), (jt0_5, .inl (K 0, 24, .inl fjt0_5)), (js0, .inr (5, [.int 0, .ref js0_0, .ref js0_1, .ref js0_2, .ref js0_3, .ref js0_4, .ref js0_5, .ref js0_6])), (js0_0, .inl (K 0, 5, .inl fjs0_0)), (js0_1, .inl (K 0, 150, .inl fjs0_1)), (js0_2, .inl (K 0, 24, .inl fjs0_2)), (js0_3, .inl (K 0, 40, .inl fjs0_3)), (js0_4, .inl (K 0, 40, .inl fjs0_4)), (js0_5, .inl (K 0, 40, .inl fjs0_5)), (js0_6, .inl (K 0, 40, .inl fjs0_6)), (jt2, .inr (7, [.int 0, .int 0, .int 0, .int 0, .int 0, .int 0, .int 0, .int 0, .int 0, .ref jt2_0, .ref jt2_1, .ref jt2_2, .ref jt2_3, .ref jt2_4, .ref jt2_5])), (jt2_0, .inl (K 0, 5, .inl fjt2_0)), (jt2_1, .inl (K 0, 6, .inl fjt2_1)), (jt2_2, .inl (K 0, 12, .inl fjt2_2)), (jt2_3, .inl (K 0, 24, .inl fjt2_3)), (jt2_4, .inl (K 0, 24, .inl fjt2_4)), (jt2_5, .inl (K 0, 24, .inl fjt2_5)), (js2, .inr (5, [.int 0, .ref js2_0, .ref js2_1, .ref js2_2, .ref js2_3, .ref js2_4, .ref js2_5, .ref js2_6])), (js2_0, .inl (K 0, 5, .inl fjs2_0)), (js2_1, .inl (K 0, 150, .inl fjs2_1)), (js2_2, .inl (K 0, 24, .inl fjs2_2)), (js2_3, .inl (K 0, 40, .inl fjs2_3)), (js2_4, .inl (K 0, 40, .inl fjs2_4)), (js2_5, .inl (K 0, 40, .inl fjs2_5)), (js2_6, .inl (K 0, 40, .inl fjs2_6)), (jt1, .inr (7, [.int 0, .int 0, .int 0, .int 0, .int 0, .int 0, .int 0, .int 0, .int 0, .ref jt1_0, .ref jt1_1, .ref jt1_2, .ref jt1_3, .ref jt1_4, .ref jt1_5])), (jt1_0, .inl (K 0, 5, .inl (u9 0))), (jt1_1, .inl (K 0, 6, .inl (u9 1))), (jt1_2, .inl (K 0, 12, .inl (u9 2))), (jt1_3, .inl (K 0, 24, .inl (u9 3))), (jt1_4, .inl (K 0, 24, .inl (u9 4))), (jt1_5, .inl (K 0, 24, .inl (u9 5))), (t0, .inr (7, [.int 0, .int 0, .int 0, .int 0, .int 0, .int 0, .int 0, .int 0, .int 0, .ref t0_, .ref t1_, .ref t2_, .ref t3_, .ref t4_, .ref t5_])), (t0_, .inl (K 0, 5, .inl ft0_)), (t1_, .inl (K 0, 6, .inl ft1_)), (t2_, .inl (K 0, 12, .inl ft2_)), (t3_, .inl (K 0, 24, .inl ft3_)), (t4_, .inl (K 0, 24, .inl ft4_)), (t5_, .inl (K 0, 24, .inl ft5_))]) hK hP hD hS hA [27, 28, 29, 30, 31, 32, 33, 34, 1, 2, 3, 4, 5, 6, 7, 8] [0, 9, 10, 11, 12, 13, 14, 15, 16, 17, 18, 19, 20, 21, 22, 23, 24, 25, 26, 35, 36, 37, 38, 39, 40, 41, 42, 43, 44, 45, 46, 47, 48, 49, 50, 51, 52, 53, 54, 55, 56, 57, 58, 59, 60, 61, 62, 63] rfl rfl (by decide) (fun hp => va_runVN (C := RX5) (As := [.ref sh]) (rest := []) ⟨hx, hb, hml, hown, hts⟩ (c_X5_copyFrom (l := l) (D := D) (K := K) (o0 := (js1)) (o1 := (sh)) (a0 := (js1_0)) (a1 := (js1_1)) (a2 := (js1_2)) (a3 := (js1_3)) (a4 := (js1_4)) (a5 := (js1_5)) (a6 := (js1_6)) (fa0 := (fjs1_0)) (fa1 := (fjs1_1)) (fa2 := (fjs1_2)) (fa3 := (fjs1_3)) (fa4 := (fjs1_4)) (fa5 := (fjs1_5)) (fa6 := (fjs1_6)) (b0 := (s0)) (b1 := (s1)) (b2 := (s2)) (b3 := (s3)) (b4 := (s4)) (b5 := (s5)) (b6 := (s6)) (fb0 := (fs0)) (fb1 := (fs1)) (fb2 := (fs2)) (fb3 := (fs3)) (fb4 := (fs4)) (fb5 := (fs5)) (fb6 := (fs6)) _) ⟨va_cnB (own := RX11) 1 hts (fn_gin wd_1195) rfl rfl rfl (hK.nw 152 rfl) (hts _ wd_5) (by decide +kernel) ⟨Nat.le_of_ble_eq_true rfl, Nat.le_of_ble_eq_true rfl⟩, hts _ wd_1194, hts _ wp_90⟩ ⟨fn_blind, va_recv hK.1 hP (ci := 5) (q0 := 27) rfl rfl, hp⟩ rfl rfl hl.1 rfl (lv_room (Nat.le_of_ble_eq_true rfl)) dX11_image_33 ⟨Nat.le_of_ble_eq_true rfl, Nat.le_of_ble_eq_true rfl⟩) (fun u11 H locs hwu11 hP hD hS => ?_)
      have hP : va_P D vwCl [(x0, .inr (11, fx)), (it, .inl (K 4, 3, .inr (.inr (.inr (.inr fit))))), (iz, .inl (K 5, 3, .inr (.inr (.inr (.inr fiz))))), (ik, .inl (K 2, 3, .inl fik)), (jt0, .inr (7, [.int 0, .int 0, .int 0, .int 0, .int 0, .int 0, .int 0, .int 0, .int 0, .ref jt0_0, .ref jt0_1, .ref jt0_2, .ref jt0_3, .ref jt0_4, .ref jt0_5])), (jt0_0, .inl (K 0, 5, .inl fjt0_0)), (jt0_1, .inl (K 0, 6, .inl fjt0_1)), (jt0_2, .inl (K 0, 12, .inl fjt0_2)), (jt0_3, .inl (K 0, 24, .inl fjt0_3)), (jt0_4, .inl (K 0, 24, .inl fjt0_4)), (jt0_5, .inl (K 0, 24, .inl fjt0_5)), (js0, .inr (5, [.int 0, .ref js0_0, .ref js0_1, .ref js0_2, .ref js0_3, .ref js0_4, .ref js0_5, .ref js0_6])), (js0_0, .inl (K 0, 5, .inl fjs0_0)), (js0_1, .inl (K 0, 150, .inl fjs0_1)), (js0_2, .inl (K 0, 24, .inl fjs0_2)), (js0_3, .inl (K 0, 40, .inl fjs0_3)), (js0_4, .inl (K 0, 40, .inl fjs0_4)), (js0_5, .inl (K 0, 40, .inl fjs0_5)), (js0_6, .inl (K 0, 40, .inl fjs0_6)), (jt2, .inr (7, [.int 0, .int 0, .int 0, .int 0, .int 0, .int 0, .int 0, .int 0, .int 0, .ref jt2_0, .ref jt2_1, .ref jt2_2, .ref jt2_3, .ref jt2_4, .ref jt2_5])), (jt2_0, .inl (K 0, 5, .inl fjt2_0)), (jt2_1, .inl (K 0, 6, .inl fjt2_1)), (jt2_2, .inl (K 0, 12, .inl fjt2_2)), (jt2_3, .inl (K 0, 24, .inl fjt2_3)), (jt2_4, .inl (K 0, 24, .inl fjt2_4)), (jt2_5, .inl (K 0, 24, .inl fjt2_5)), (js2, .inr (5, [.int 0, .ref js2_0, .ref js2_1, .ref js2_2, .ref js2_3, .ref js2_4, .ref js2_5, .ref js2_6])), (js2_0, .inl (K 0, 5, .inl fjs2_0)), (js2_1, .inl (K 0, 150, .inl fjs2_1)), (js2_2, .inl (K 0, 24, .inl fjs2_2)), (js2_3, .inl (K 0, 40, .inl fjs2_3)), (js2_4, .inl (K 0, 40, .inl fjs2_4)), (js2_5, .inl (K 0, 40, .inl fjs2_5)), (js2_6, .inl (K 0, 40, .inl fjs2_6)), (jt1, .inr (7, [.int 0, .int 0, .int 0, .int 0, .int 0, .int 0, .int 0, .int 0, .int 0, .ref jt1_0, .ref jt1_1, .ref jt1_2, .ref jt1_3, .ref jt1_4, .ref jt1_5])), (jt1_0, .inl (K 0, 5, .inl (u9 0))), (jt1_1, .inl (K 0, 6, .inl (u9 1))), (jt1_2, .inl (K 0, 12, .inl (u9 2))), (jt1_3, .inl (K 0, 24, .inl (u9 3))), (jt1_4, .inl (K 0, 24, .inl (u9 4))), (jt1_5, .inl (K 0, 24, .inl (u9 5))), (t0, .inr (7, [.int 0, .int 0, .int 0, .int 0, .int 0, .int 0, .int 0, .int 0, .int 0, .ref t0_, .ref t1_, .ref t2_, .ref t3_, .ref t4_, .ref t5_])), (t0_, .inl (K 0, 5, .inl ft0_)), (t1_, .inl (K 0, 6, .inl ft1_)), (t2_, .inl (K 0, 12, .inl ft2_)), (t3_, .inl (K 0, 24, .inl ft3_)), (t4_, .inl (K 0, 24, .inl ft4_)), (t5_, .inl (K 0, 24, .inl ft5_)), (js1, .inr (5, [.int 0, .ref js1_0, .ref js1_1, .ref js1_2, .ref js1_3, .ref js1_4, .ref js1_5, .ref js1_6])), (js1_0, .inl (K 0, 5, .inl (u11 0))), (js1_1, .inl (K 0, 150, .inl (u11 1))), (js1_2, .inl (K 0, 24, .inl (u11 2))), (js1_3, .inl (K 0, 40, .inl (u11 3))), (js1_4, .inl (K 0, 40, .inl (u11 4))), (js1_5, .inl (K 0, 40, .inl (u11 5))), (js1_6, .inl (K 0, 40, .inl (u11 6))), (sh, .inr (5, [.int 0, .ref s0, .ref s1, .ref s2, .ref s3, .ref s4, .ref s5, .ref s6])), (s0, .inl (K 0, 5, .inl fs0)), (s1, .inl (K 0, 150, .inl fs1)), (s2, .inl (K 0, 24, .inl fs2)), (s3, .inl (K 0, 40, .inl fs3)), (s4, .inl (K 0, 40, .inl fs4)), (s5, .inl (K 0, 40, .inl fs5)), (s6, .inl (K 0, 40, .inl fs6))] H := hP
      have hD : va_D A [(x0, .inr (11, fx)), (it, .inl (K 4, 3, .inr (.inr (.inr (.inr fit))))), (iz, .inl (K 5, 3, .inr (.inr (.inr (.inr fiz))))), (ik, .inl (K 2, 3, .inl fik)), (jt0, .inr (7, [.int 0, .int 0, .int 0, .int 0, .int 0, .int 0, .int 0, .int 0, .int 0, .ref jt0_0, .ref jt0_1, .ref jt0_2, .ref jt0_3, .ref jt0_4, .ref jt0_5])), (jt0_0, .inl (K 0, 5, .inl fjt0_0)), (jt0_1, .inl (K 0, 6, .inl fjt0_1)), (jt0_2, .inl (K 0, 12, .inl fjt0_2)), (jt0_3, .inl (K 0, 24, .inl fjt0_3)), (jt0_4, .inl (K 0, 24, .inl fjt0_4)), (jt0_5, .inl (K 0, 24, .inl fjt0_5)), (js0, .inr (5, [.int 0, .ref js0_0, .ref js0_1, .ref js0_2, .ref js0_3, .ref js0_4, .ref js0_5, .ref js0_6])), (js0_0, .inl (K 0, 5, .inl fjs0_0)), (js0_1, .inl (K 0, 150, .inl fjs0_1)), (js0_2, .inl (K 0, 24, .inl fjs0_2)), (js0_3, .inl (K 0, 40, .inl fjs0_3)), (js0_4, .inl (K 0, 40, .inl fjs0_4)), (js0_5, .inl (K 0, 40, .inl fjs0_5)), (js0_6, .inl (K 0, 40, .inl fjs0_6)), (jt2, .inr (7, [.int 0, .int 0, .int 0, .int 0, .int 0, .int 0, .int 0, .int 0, .int 0, .ref jt2_0, .ref jt2_1, .ref jt2_2, .ref jt2_3, .ref jt2_4, .ref jt2_5])), (jt2_0, .inl (K 0, 5, .inl fjt2_0)), (jt2_1, .inl (K 0, 6, .inl fjt2_1)), (jt2_2, .inl (K 0, 12, .inl fjt2_2)), (jt2_3, .inl (K 0, 24, .inl fjt2_3)), (jt2_4, .inl (K 0, 24, .inl fjt2_4)), (jt2_5, .inl (K 0, 24, .inl fjt2_5)), (js2, .inr (5, [.int 0, .ref js2_0, .ref js2_1, .ref js2_2, .ref js2_3, .ref js2_4, .ref js2_5, .ref js2_6])), (js2_0, .inl (K 0, 5, .inl fjs2_0)), (js2_1, .inl (K 0, 150, .inl fjs2_1)), (js2_2, .inl (K 0, 24, .inl fjs2_2)), (js2_3, .inl (K 0, 40, .inl fjs2_3)), (js2_4, .inl (K 0, 40, .inl fjs2_4)), (js2_5, .inl (K 0, 40, .inl fjs2_5)), (js2_6, .inl (K 0, 40, .inl fjs2_6)), (jt1, .inr (7, [.int 0, .int 0, .int 0, .int 0, .int 0, .int 0, .int 0, .int 0, .int 0, .ref jt1_0, .ref jt1_1, .ref jt1_2, .ref jt1_3, .ref jt1_4, .ref jt1_5])), (jt1_0, .inl (K 0, 5, .inl (u9 0))), (jt1_1, .inl (K 0, 6, .inl (u9 1))), (jt1_2, .inl (K 0, 12, .inl (u9 2))), (jt1_3, .inl (K 0, 24, .inl (u9 3))), (jt1_4, .inl (K 0, 24, .inl (u9 4))), (jt1_5, .inl (K 0, 24, .inl (u9 5))), (t0, .inr (7, [.int 0, .int 0, .int 0, .int 0, .int 0, .int 0, .int 0, .int 0, .int 0, .ref t0_, .ref t1_, .ref t2_, .ref t3_, .ref t4_, .ref t5_])), (t0_, .inl (K 0, 5, .inl ft0_)), (t1_, .inl (K 0, 6, .inl ft1_)), (t2_, .inl (K 0, 12, .inl ft2_)), (t3_, .inl (K 0, 24, .inl ft3_)), (t4_, .inl (K 0, 24, .inl ft4_)), (t5_, .inl (K 0, 24, .inl ft5_)), (js1, .inr (5, [.int 0, .ref js1_0, .ref js1_1, .ref js1_2, .ref js1_3, .ref js1_4, .ref js1_5, .ref js1_6])), (js1_0, .inl (K 0, 5, .inl (u11 0))), (js1_1, .inl (K 0, 150, .inl (u11 1))), (js1_2, .inl (K 0, 24, .inl (u11 2))), (js1_3, .inl (K 0, 40, .inl (u11 3))), (js1_4, .inl (K 0, 40, .inl (u11 4))), (js1_5, .inl (K 0, 40, .inl (u11 5))), (js1_6, .inl (K 0, 40, .inl (u11 6))), (sh, .inr (5, [.int 0, .ref s0, .ref s1, .ref s2, .ref s3, .ref s4, .ref s5, .ref s6])), (s0, .inl (K 0, 5, .inl fs0)), (s1, .inl (K 0, 150, .inl fs1)), (s2, .inl (K 0, 24, .inl fs2)), (s3, .inl (K 0, 40, .inl fs3)), (s4, .inl (K 0, 40, .inl fs4)), (s5, .inl (K 0, 40, .inl fs5)), (s6, .inl (K 0, 40, .inl fs6))] := hD
      refine lv_aload_n hx hb dX11_image_36 rfl (lv_at hl 0 rfl) ?_
      refine va_get (D := D) (own := RX11) (ci := 11) (v := .ref ik) (C := RX11) (T := TX11) (N := 13) hx hb hts inb_X11 hown hK.1 hP 0 rfl rfl 5 (by decide) (hts _ wd_427) (fun _ h9 => h9) hx5 dX11_image_37 ?_
      refine fn_at 40 rfl ?_
      refine lv_iload_n hx hb dX11_image_40 rfl (lv_at hl 1 rfl) ?_
      refine lv_iconst (v := 1) hx hb dX11_image_41 (by decide) ?_
      refine va_zast hx hb hK.1 hP hD hS 3 2 rfl rfl (by unfold vp_in; decide) dX11_image_42 (fun H locs hP hD hS => ?_)
      obtain ⟨g13, eg13⟩ : ∃ z, z = (upd fik (Int32.toNatClampNeg 1) (vp_nar .boolean 1)) := ⟨_, rfl⟩
      have hP : va_P D vwCl [(x0, .inr (11, fx)), (it, .inl (K 4, 3, .inr (.inr (.inr (.inr fit))))), (iz, .inl (K 5, 3, .inr (.inr (.inr (.inr fiz))))), (ik, .inl (K 2, 3, .inl g13)), (jt0, .inr (7, [.int 0, .int 0, .int 0, .int 0, .int 0, .int 0, .int 0, .int 0, .int 0, .ref jt0_0, .ref jt0_1, .ref jt0_2, .ref jt0_3, .ref jt0_4, .ref jt0_5])), (jt0_0, .inl (K 0, 5, .inl fjt0_0)), (jt0_1, .inl (K 0, 6, .inl fjt0_1)), (jt0_2, .inl (K 0, 12, .inl fjt0_2)), (jt0_3, .inl (K 0, 24, .inl fjt0_3)), (jt0_4, .inl (K 0, 24, .inl fjt0_4)), (jt0_5, .inl (K 0, 24, .inl fjt0_5)), (js0, .inr (5, [.int 0, .ref js0_0, .ref js0_1, .ref js0_2, .ref js0_3, .ref js0_4, .ref js0_5, .ref js0_6])), (js0_0, .inl (K 0, 5, .inl fjs0_0)), (js0_1, .inl (K 0, 150, .inl fjs0_1)), (js0_2, .inl (K 0, 24, .inl fjs0_2)), (js0_3, .inl (K 0, 40, .inl fjs0_3)), (js0_4, .inl (K 0, 40, .inl fjs0_4)), (js0_5, .inl (K 0, 40, .inl fjs0_5)), (js0_6, .inl (K 0, 40, .inl fjs0_6)), (jt2, .inr (7, [.int 0, .int 0, .int 0, .int 0, .int 0, .int 0, .int 0, .int 0, .int 0, .ref jt2_0, .ref jt2_1, .ref jt2_2, .ref jt2_3, .ref jt2_4, .ref jt2_5])), (jt2_0, .inl (K 0, 5, .inl fjt2_0)), (jt2_1, .inl (K 0, 6, .inl fjt2_1)), (jt2_2, .inl (K 0, 12, .inl fjt2_2)), (jt2_3, .inl (K 0, 24, .inl fjt2_3)), (jt2_4, .inl (K 0, 24, .inl fjt2_4)), (jt2_5, .inl (K 0, 24, .inl fjt2_5)), (js2, .inr (5, [.int 0, .ref js2_0, .ref js2_1, .ref js2_2, .ref js2_3, .ref js2_4, .ref js2_5, .ref js2_6])), (js2_0, .inl (K 0, 5, .inl fjs2_0)), (js2_1, .inl (K 0, 150, .inl fjs2_1)), (js2_2, .inl (K 0, 24, .inl fjs2_2)), (js2_3, .inl (K 0, 40, .inl fjs2_3)), (js2_4, .inl (K 0, 40, .inl fjs2_4)), (js2_5, .inl (K 0, 40, .inl fjs2_5)), (js2_6, .inl (K 0, 40, .inl fjs2_6)), (jt1, .inr (7, [.int 0, .int 0, .int 0, .int 0, .int 0, .int 0, .int 0, .int 0, .int 0, .ref jt1_0, .ref jt1_1, .ref jt1_2, .ref jt1_3, .ref jt1_4, .ref jt1_5])), (jt1_0, .inl (K 0, 5, .inl (u9 0))), (jt1_1, .inl (K 0, 6, .inl (u9 1))), (jt1_2, .inl (K 0, 12, .inl (u9 2))), (jt1_3, .inl (K 0, 24, .inl (u9 3))), (jt1_4, .inl (K 0, 24, .inl (u9 4))), (jt1_5, .inl (K 0, 24, .inl (u9 5))), (t0, .inr (7, [.int 0, .int 0, .int 0, .int 0, .int 0, .int 0, .int 0, .int 0, .int 0, .ref t0_, .ref t1_, .ref t2_, .ref t3_, .ref t4_, .ref t5_])), (t0_, .inl (K 0, 5, .inl ft0_)), (t1_, .inl (K 0, 6, .inl ft1_)), (t2_, .inl (K 0, 12, .inl ft2_)), (t3_, .inl (K 0, 24, .inl ft3_)), (t4_, .inl (K 0, 24, .inl ft4_)), (t5_, .inl (K 0, 24, .inl ft5_)), (js1, .inr (5, [.int 0, .ref js1_0, .ref js1_1, .ref js1_2, .ref js1_3, .ref js1_4, .ref js1_5, .ref js1_6])), (js1_0, .inl (K 0, 5, .inl (u11 0))), (js1_1, .inl (K 0, 150, .inl (u11 1))), (js1_2, .inl (K 0, 24, .inl (u11 2))), (js1_3, .inl (K 0, 40, .inl (u11 3))), (js1_4, .inl (K 0, 40, .inl (u11 4))), (js1_5, .inl (K 0, 40, .inl (u11 5))), (js1_6, .inl (K 0, 40, .inl (u11 6))), (sh, .inr (5, [.int 0, .ref s0, .ref s1, .ref s2, .ref s3, .ref s4, .ref s5, .ref s6])), (s0, .inl (K 0, 5, .inl fs0)), (s1, .inl (K 0, 150, .inl fs1)), (s2, .inl (K 0, 24, .inl fs2)), (s3, .inl (K 0, 40, .inl fs3)), (s4, .inl (K 0, 40, .inl fs4)), (s5, .inl (K 0, 40, .inl fs5)), (s6, .inl (K 0, 40, .inl fs6))] H := by rw [eg13]; exact hP
      have hD : va_D A [(x0, .inr (11, fx)), (it, .inl (K 4, 3, .inr (.inr (.inr (.inr fit))))), (iz, .inl (K 5, 3, .inr (.inr (.inr (.inr fiz))))), (ik, .inl (K 2, 3, .inl g13)), (jt0, .inr (7, [.int 0, .int 0, .int 0, .int 0, .int 0, .int 0, .int 0, .int 0, .int 0, .ref jt0_0, .ref jt0_1, .ref jt0_2, .ref jt0_3, .ref jt0_4, .ref jt0_5])), (jt0_0, .inl (K 0, 5, .inl fjt0_0)), (jt0_1, .inl (K 0, 6, .inl fjt0_1)), (jt0_2, .inl (K 0, 12, .inl fjt0_2)), (jt0_3, .inl (K 0, 24, .inl fjt0_3)), (jt0_4, .inl (K 0, 24, .inl fjt0_4)), (jt0_5, .inl (K 0, 24, .inl fjt0_5)), (js0, .inr (5, [.int 0, .ref js0_0, .ref js0_1, .ref js0_2, .ref js0_3, .ref js0_4, .ref js0_5, .ref js0_6])), (js0_0, .inl (K 0, 5, .inl fjs0_0)), (js0_1, .inl (K 0, 150, .inl fjs0_1)), (js0_2, .inl (K 0, 24, .inl fjs0_2)), (js0_3, .inl (K 0, 40, .inl fjs0_3)), (js0_4, .inl (K 0, 40, .inl fjs0_4)), (js0_5, .inl (K 0, 40, .inl fjs0_5)), (js0_6, .inl (K 0, 40, .inl fjs0_6)), (jt2, .inr (7, [.int 0, .int 0, .int 0, .int 0, .int 0, .int 0, .int 0, .int 0, .int 0, .ref jt2_0, .ref jt2_1, .ref jt2_2, .ref jt2_3, .ref jt2_4, .ref jt2_5])), (jt2_0, .inl (K 0, 5, .inl fjt2_0)), (jt2_1, .inl (K 0, 6, .inl fjt2_1)), (jt2_2, .inl (K 0, 12, .inl fjt2_2)), (jt2_3, .inl (K 0, 24, .inl fjt2_3)), (jt2_4, .inl (K 0, 24, .inl fjt2_4)), (jt2_5, .inl (K 0, 24, .inl fjt2_5)), (js2, .inr (5, [.int 0, .ref js2_0, .ref js2_1, .ref js2_2, .ref js2_3, .ref js2_4, .ref js2_5, .ref js2_6])), (js2_0, .inl (K 0, 5, .inl fjs2_0)), (js2_1, .inl (K 0, 150, .inl fjs2_1)), (js2_2, .inl (K 0, 24, .inl fjs2_2)), (js2_3, .inl (K 0, 40, .inl fjs2_3)), (js2_4, .inl (K 0, 40, .inl fjs2_4)), (js2_5, .inl (K 0, 40, .inl fjs2_5)), (js2_6, .inl (K 0, 40, .inl fjs2_6)), (jt1, .inr (7, [.int 0, .int 0, .int 0, .int 0, .int 0, .int 0, .int 0, .int 0, .int 0, .ref jt1_0, .ref jt1_1, .ref jt1_2, .ref jt1_3, .ref jt1_4, .ref jt1_5])), (jt1_0, .inl (K 0, 5, .inl (u9 0))), (jt1_1, .inl (K 0, 6, .inl (u9 1))), (jt1_2, .inl (K 0, 12, .inl (u9 2))), (jt1_3, .inl (K 0, 24, .inl (u9 3))), (jt1_4, .inl (K 0, 24, .inl (u9 4))), (jt1_5, .inl (K 0, 24, .inl (u9 5))), (t0, .inr (7, [.int 0, .int 0, .int 0, .int 0, .int 0, .int 0, .int 0, .int 0, .int 0, .ref t0_, .ref t1_, .ref t2_, .ref t3_, .ref t4_, .ref t5_])), (t0_, .inl (K 0, 5, .inl ft0_)), (t1_, .inl (K 0, 6, .inl ft1_)), (t2_, .inl (K 0, 12, .inl ft2_)), (t3_, .inl (K 0, 24, .inl ft3_)), (t4_, .inl (K 0, 24, .inl ft4_)), (t5_, .inl (K 0, 24, .inl ft5_)), (js1, .inr (5, [.int 0, .ref js1_0, .ref js1_1, .ref js1_2, .ref js1_3, .ref js1_4, .ref js1_5, .ref js1_6])), (js1_0, .inl (K 0, 5, .inl (u11 0))), (js1_1, .inl (K 0, 150, .inl (u11 1))), (js1_2, .inl (K 0, 24, .inl (u11 2))), (js1_3, .inl (K 0, 40, .inl (u11 3))), (js1_4, .inl (K 0, 40, .inl (u11 4))), (js1_5, .inl (K 0, 40, .inl (u11 5))), (js1_6, .inl (K 0, 40, .inl (u11 6))), (sh, .inr (5, [.int 0, .ref s0, .ref s1, .ref s2, .ref s3, .ref s4, .ref s5, .ref s6])), (s0, .inl (K 0, 5, .inl fs0)), (s1, .inl (K 0, 150, .inl fs1)), (s2, .inl (K 0, 24, .inl fs2)), (s3, .inl (K 0, 40, .inl fs3)), (s4, .inl (K 0, 40, .inl fs4)), (s5, .inl (K 0, 40, .inl fs5)), (s6, .inl (K 0, 40, .inl fs6))] := by rw [eg13]; exact hD
      refine lv_iconst (v := 0) hx hb dX11_image_43 (by decide) ?_
      exact fn_iret hx hb hr hlocks rfl hP hD hS () (by first | exact (if_neg k3).symm | decide) [] (by decide) rfl dX11_image_44
    · refine lv_aload_n hx hb dX11_image_10 rfl (lv_at hl 0 rfl) ?_
      refine va_get (D := D) (own := RX11) (ci := 11) (v := .ref it) (C := RX11) (T := TX11) (N := 13) hx hb hts inb_X11 hown hK.1 hP 0 rfl rfl 3 (by decide) (hts _ wd_425) (fun _ h9 => h9) hx3 dX11_image_11 ?_
      refine lv_iload_n hx hb dX11_image_14 rfl (lv_at hl 1 rfl) ?_
      refine va_aldq hx hb hK.1 hP 16 4 rfl rfl (by unfold vp_in; decide) dX11_image_15 ?_
      refine fn_topv (.ref jt2) (congrArg va_rf hit_2) ?_
      refine lv_aload_n hx hb dX11_image_16 rfl (lv_at hl 0 rfl) ?_
      refine va_get (D := D) (own := RX11) (ci := 11) (v := .ref t0) (C := RX11) (T := TX11) (N := 13) hx hb hts inb_X11 hown hK.1 hP 0 rfl rfl 1 (by decide) (hts _ wd_423) (fun _ h9 => h9) hx1 dX11_image_17 ?_
      refine fn_gov (wc := [(jt2, .inr (7, [.int 0, .int 0, .int 0, .int 0, .int 0, .int 0, .int 0, .int 0, .int 0, .ref jt2_0, .ref jt2_1, .ref jt2_2, .ref jt2_3, .ref jt2_4, .ref jt2_5])), (jt2_0, .inl (K 0, 5, .inl fjt2_0)), (jt2_1, .inl (K 0, 6, .inl fjt2_1)), (jt2_2, .inl (K 0, 12, .inl fjt2_2)), (jt2_3, .inl (K 0, 24, .inl fjt2_3)), (jt2_4, .inl (K 0, 24, .inl fjt2_4)), (jt2_5, .inl (K 0, 24, .inl fjt2_5)), (t0, .inr (7, [.int 0, .int 0, .int 0, .int 0, .int 0, .int 0, .int 0, .int 0, .int 0, .ref t0_, .ref t1_, .ref t2_, .ref t3_, .ref t4_, .ref t5_])), (t0_, .inl (K 0, 5, .inl ft0_)), (t1_, .inl (K 0, 6, .inl ft1_)), (t2_, .inl (K 0, 12, .inl ft2_)), (t3_, .inl (K 0, 24, .inl ft3_)), (t4_, .inl (K 0, 24, .inl ft4_)), (t5_, .inl (K 0, 24, .inl ft5_))]) (wr := [(x0, .inr (11, fx)), (sh, .inr (5, [.int 0, .ref s0, .ref s1, .ref s2, .ref s3, .ref s4, .ref s5, .ref s6])), (s0, .inl (K 0, 5, .inl fs0)), (s1, .inl (K 0, 150, .inl fs1)), (s2, .inl (K 0, 24, .inl fs2)), (s3, .inl (K 0, 40, .inl fs3)), (s4, .inl (K 0, 40, .inl fs4)), (s5, .inl (K 0, 40, .inl fs5)), (s6, .inl (K 0, 40, .inl fs6)), (it, .inl (K 4, 3, .inr (.inr (.inr (.inr fit))))), (iz, .inl (K 5, 3, .inr (.inr (.inr (.inr fiz))))), (ik, .inl (K 2, 3, .inl fik)), (jt0, .inr (7, [.int 0, .int 0, .int 0, .int 0, .int 0, .int 0, .int 0, .int 0, .int 0, .ref jt0_0, .ref jt0_1, .ref jt0_2, .ref jt0_3, .ref jt0_4, .ref jt0_5])), (jt0_0, .inl (K 0, 5, .inl fjt0_0)), (jt0_1, .inl (K 0, 6, .inl fjt0_1)), (jt0_2, .inl (K 0, 12, .inl fjt0_2)), (jt0_3, .inl (K 0, 24, .inl fjt0_3)), (jt0_4, .inl (K 0, 24, .inl fjt0_4)), (jt0_5, .inl (K 0, 24, .inl fjt0_5)), (js0, .inr (5, [.int 0, .ref js0_0, .ref js0_1, .ref js0_2, .ref js0_3, .ref js0_4, .ref js0_5, .ref js0_6])), (js0_0, .inl (K 0, 5, .inl fjs0_0)), (js0_1, .inl (K 0, 150, .inl fjs0_1)), (js0_2, .inl (K 0, 24, .inl fjs0_2)), (js0_3, .inl (K 0, 40, .inl fjs0_3)), (js0_4, .inl (K 0, 40, .inl fjs0_4)), (js0_5, .inl (K 0, 40, .inl fjs0_5)), (js0_6, .inl (K 0, 40, .inl fjs0_6)), (jt1, .inr (7, [.int 0, .int 0, .int 0, .int 0, .int 0, .int 0, .int 0, .int 0, .int 0, .ref jt1_0, .ref jt1_1, .ref jt1_2, .ref jt1_3, .ref jt1_4, .ref jt1_5])), (jt1_0, .inl (K 0, 5, .inl fjt1_0)), (jt1_1, .inl (K 0, 6, .inl fjt1_1)), (jt1_2, .inl (K 0, 12, .inl fjt1_2)), (jt1_3, .inl (K 0, 24, .inl fjt1_3)), (jt1_4, .inl (K 0, 24, .inl fjt1_4)), (jt1_5, .inl (K 0, 24, .inl fjt1_5)), (js1, .inr (5, [.int 0, .ref js1_0, .ref js1_1, .ref js1_2, .ref js1_3, .ref js1_4, .ref js1_5, .ref js1_6])), (js1_0, .inl (K 0, 5, .inl fjs1_0)), (js1_1, .inl (K 0, 150, .inl fjs1_1)), (js1_2, .inl (K 0, 24, .inl fjs1_2)), (js1_3, .inl (K 0, 40, .inl fjs1_3)), (js1_4, .inl (K 0, 40, .inl fjs1_4)), (js1_5, .inl (K 0, 40, .inl fjs1_5)), (js1_6, .inl (K 0, 40, .inl fjs1_6)), (js2, .inr (5, [.int 0, .ref js2_0, .ref js2_1, .ref js2_2, .ref js2_3, .ref js2_4, .ref js2_5, .ref js2_6])), (js2_0, .inl (K 0, 5, .inl fjs2_0)), (js2_1, .inl (K 0, 150, .inl fjs2_1)), (js2_2, .inl (K 0, 24, .inl fjs2_2)), (js2_3, .inl (K 0, 40, .inl fjs2_3)), (js2_4, .inl (K 0, 40, .inl fjs2_4)), (js2_5, .inl (K 0, 40, .inl fjs2_5)), (js2_6, .inl (K 0, 40, .inl fjs2_6))]) hK hP hD hS hA [49, 50, 51, 52, 53, 54, 55, 1, 2, 3, 4, 5, 6, 7] [0, 8, 9, 10, 11, 12, 13, 14, 15, 16, 17, 18, 19, 20, 21, 22, 23, 24, 25, 26, 27, 28, 29, 30, 31, 32, 33, 34, 35, 36, 37, 38, 39, 40, 41, 42, 43, 44, 45, 46, 47, 48, 56, 57, 58, 59, 60, 61, 62, 63] rfl rfl (by decide) (fun hp => va_runVN (C := RX7) (As := [.ref t0]) (rest := []) ⟨hx, hb, hml, hown, hts⟩ (c_X7_copyFrom (l := l) (D := D) (K := K) (o0 := (jt2)) (o1 := (t0)) (a0 := (jt2_0)) (a1 := (jt2_1)) (a2 := (jt2_2)) (a3 := (jt2_3)) (a4 := (jt2_4)) (a5 := (jt2_5)) (fa0 := (fjt2_0)) (fa1 := (fjt2_1)) (fa2 := (fjt2_2)) (fa3 := (fjt2_3)) (fa4 := (fjt2_4)) (fa5 := (fjt2_5)) (b0 := (t0_)) (b1 := (t1_)) (b2 := (t2_)) (b3 := (t3_)) (b4 := (t4_)) (b5 := (t5_)) (fb0 := (ft0_)) (fb1 := (ft1_)) (fb2 := (ft2_)) (fb3 := (ft3_)) (fb4 := (ft4_)) (fb5 := (ft5_)) _) ⟨va_cnB (own := RX11) 1 hts (fn_gin wd_619) rfl rfl rfl (hK.nw 103 rfl) (hts _ wd_4) (by decide +kernel) ⟨Nat.le_of_ble_eq_true rfl, Nat.le_of_ble_eq_true rfl⟩, hts _ wd_618, hts _ wp_18⟩ ⟨fn_blind, va_recv hK.1 hP (ci := 7) (q0 := 49) rfl rfl, hp⟩ rfl rfl hl.1 rfl (lv_room (Nat.le_of_ble_eq_true rfl)) dX11_image_20 ⟨Nat.le_of_ble_eq_true rfl, Nat.le_of_ble_eq_true rfl⟩) (fun u14 H locs hwu14 hP hD hS => ?_)
      have hP : va_P D vwCl [(x0, .inr (11, fx)), (sh, .inr (5, [.int 0, .ref s0, .ref s1, .ref s2, .ref s3, .ref s4, .ref s5, .ref s6])), (s0, .inl (K 0, 5, .inl fs0)), (s1, .inl (K 0, 150, .inl fs1)), (s2, .inl (K 0, 24, .inl fs2)), (s3, .inl (K 0, 40, .inl fs3)), (s4, .inl (K 0, 40, .inl fs4)), (s5, .inl (K 0, 40, .inl fs5)), (s6, .inl (K 0, 40, .inl fs6)), (it, .inl (K 4, 3, .inr (.inr (.inr (.inr fit))))), (iz, .inl (K 5, 3, .inr (.inr (.inr (.inr fiz))))), (ik, .inl (K 2, 3, .inl fik)), (jt0, .inr (7, [.int 0, .int 0, .int 0, .int 0, .int 0, .int 0, .int 0, .int 0, .int 0, .ref jt0_0, .ref jt0_1, .ref jt0_2, .ref jt0_3, .ref jt0_4, .ref jt0_5])), (jt0_0, .inl (K 0, 5, .inl fjt0_0)), (jt0_1, .inl (K 0, 6, .inl fjt0_1)), (jt0_2, .inl (K 0, 12, .inl fjt0_2)), (jt0_3, .inl (K 0, 24, .inl fjt0_3)), (jt0_4, .inl (K 0, 24, .inl fjt0_4)), (jt0_5, .inl (K 0, 24, .inl fjt0_5)), (js0, .inr (5, [.int 0, .ref js0_0, .ref js0_1, .ref js0_2, .ref js0_3, .ref js0_4, .ref js0_5, .ref js0_6])), (js0_0, .inl (K 0, 5, .inl fjs0_0)), (js0_1, .inl (K 0, 150, .inl fjs0_1)), (js0_2, .inl (K 0, 24, .inl fjs0_2)), (js0_3, .inl (K 0, 40, .inl fjs0_3)), (js0_4, .inl (K 0, 40, .inl fjs0_4)), (js0_5, .inl (K 0, 40, .inl fjs0_5)), (js0_6, .inl (K 0, 40, .inl fjs0_6)), (jt1, .inr (7, [.int 0, .int 0, .int 0, .int 0, .int 0, .int 0, .int 0, .int 0, .int 0, .ref jt1_0, .ref jt1_1, .ref jt1_2, .ref jt1_3, .ref jt1_4, .ref jt1_5])), (jt1_0, .inl (K 0, 5, .inl fjt1_0)), (jt1_1, .inl (K 0, 6, .inl fjt1_1)), (jt1_2, .inl (K 0, 12, .inl fjt1_2)), (jt1_3, .inl (K 0, 24, .inl fjt1_3)), (jt1_4, .inl (K 0, 24, .inl fjt1_4)), (jt1_5, .inl (K 0, 24, .inl fjt1_5)), (js1, .inr (5, [.int 0, .ref js1_0, .ref js1_1, .ref js1_2, .ref js1_3, .ref js1_4, .ref js1_5, .ref js1_6])), (js1_0, .inl (K 0, 5, .inl fjs1_0)), (js1_1, .inl (K 0, 150, .inl fjs1_1)), (js1_2, .inl (K 0, 24, .inl fjs1_2)), (js1_3, .inl (K 0, 40, .inl fjs1_3)), (js1_4, .inl (K 0, 40, .inl fjs1_4)), (js1_5, .inl (K 0, 40, .inl fjs1_5)), (js1_6, .inl (K 0, 40, .inl fjs1_6)), (js2, .inr (5, [.int 0, .ref js2_0, .ref js2_1, .ref js2_2, .ref js2_3, .ref js2_4, .ref js2_5, .ref js2_6])), (js2_0, .inl (K 0, 5, .inl fjs2_0)), (js2_1, .inl (K 0, 150, .inl fjs2_1)), (js2_2, .inl (K 0, 24, .inl fjs2_2)), (js2_3, .inl (K 0, 40, .inl fjs2_3)), (js2_4, .inl (K 0, 40, .inl fjs2_4)), (js2_5, .inl (K 0, 40, .inl fjs2_5)), (js2_6, .inl (K 0, 40, .inl fjs2_6)), (jt2, .inr (7, [.int 0, .int 0, .int 0, .int 0, .int 0, .int 0, .int 0, .int 0, .int 0, .ref jt2_0, .ref jt2_1, .ref jt2_2, .ref jt2_3, .ref jt2_4, .ref jt2_5])), (jt2_0, .inl (K 0, 5, .inl (u14 0))), (jt2_1, .inl (K 0, 6, .inl (u14 1))), (jt2_2, .inl (K 0, 12, .inl (u14 2))), (jt2_3, .inl (K 0, 24, .inl (u14 3))), (jt2_4, .inl (K 0, 24, .inl (u14 4))), (jt2_5, .inl (K 0, 24, .inl (u14 5))), (t0, .inr (7, [.int 0, .int 0, .int 0, .int 0, .int 0, .int 0, .int 0, .int 0, .int 0, .ref t0_, .ref t1_, .ref t2_, .ref t3_, .ref t4_, .ref t5_])), (t0_, .inl (K 0, 5, .inl ft0_)), (t1_, .inl (K 0, 6, .inl ft1_)), (t2_, .inl (K 0, 12, .inl ft2_)), (t3_, .inl (K 0, 24, .inl ft3_)), (t4_, .inl (K 0, 24, .inl ft4_)), (t5_, .inl (K 0, 24, .inl ft5_))] H := hP
      have hD : va_D A [(x0, .inr (11, fx)), (sh, .inr (5, [.int 0, .ref s0, .ref s1, .ref s2, .ref s3, .ref s4, .ref s5, .ref s6])), (s0, .inl (K 0, 5, .inl fs0)), (s1, .inl (K 0, 150, .inl fs1)), (s2, .inl (K 0, 24, .inl fs2)), (s3, .inl (K 0, 40, .inl fs3)), (s4, .inl (K 0, 40, .inl fs4)), (s5, .inl (K 0, 40, .inl fs5)), (s6, .inl (K 0, 40, .inl fs6)), (it, .inl (K 4, 3, .inr (.inr (.inr (.inr fit))))), (iz, .inl (K 5, 3, .inr (.inr (.inr (.inr fiz))))), (ik, .inl (K 2, 3, .inl fik)), (jt0, .inr (7, [.int 0, .int 0, .int 0, .int 0, .int 0, .int 0, .int 0, .int 0, .int 0, .ref jt0_0, .ref jt0_1, .ref jt0_2, .ref jt0_3, .ref jt0_4, .ref jt0_5])), (jt0_0, .inl (K 0, 5, .inl fjt0_0)), (jt0_1, .inl (K 0, 6, .inl fjt0_1)), (jt0_2, .inl (K 0, 12, .inl fjt0_2)), (jt0_3, .inl (K 0, 24, .inl fjt0_3)), (jt0_4, .inl (K 0, 24, .inl fjt0_4)), (jt0_5, .inl (K 0, 24, .inl fjt0_5)), (js0, .inr (5, [.int 0, .ref js0_0, .ref js0_1, .ref js0_2, .ref js0_3, .ref js0_4, .ref js0_5, .ref js0_6])), (js0_0, .inl (K 0, 5, .inl fjs0_0)), (js0_1, .inl (K 0, 150, .inl fjs0_1)), (js0_2, .inl (K 0, 24, .inl fjs0_2)), (js0_3, .inl (K 0, 40, .inl fjs0_3)), (js0_4, .inl (K 0, 40, .inl fjs0_4)), (js0_5, .inl (K 0, 40, .inl fjs0_5)), (js0_6, .inl (K 0, 40, .inl fjs0_6)), (jt1, .inr (7, [.int 0, .int 0, .int 0, .int 0, .int 0, .int 0, .int 0, .int 0, .int 0, .ref jt1_0, .ref jt1_1, .ref jt1_2, .ref jt1_3, .ref jt1_4, .ref jt1_5])), (jt1_0, .inl (K 0, 5, .inl fjt1_0)), (jt1_1, .inl (K 0, 6, .inl fjt1_1)), (jt1_2, .inl (K 0, 12, .inl fjt1_2)), (jt1_3, .inl (K 0, 24, .inl fjt1_3)), (jt1_4, .inl (K 0, 24, .inl fjt1_4)), (jt1_5, .inl (K 0, 24, .inl fjt1_5)), (js1, .inr (5, [.int 0, .ref js1_0, .ref js1_1, .ref js1_2, .ref js1_3, .ref js1_4, .ref js1_5, .ref js1_6])), (js1_0, .inl (K 0, 5, .inl fjs1_0)), (js1_1, .inl (K 0, 150, .inl fjs1_1)), (js1_2, .inl (K 0, 24, .inl fjs1_2)), (js1_3, .inl (K 0, 40, .inl fjs1_3)), (js1_4, .inl (K 0, 40, .inl fjs1_4)), (js1_5, .inl (K 0, 40, .inl fjs1_5)), (js1_6, .inl (K 0, 40, .inl fjs1_6)), (js2, .inr (5, [.int 0, .ref js2_0, .ref js2_1, .ref js2_2, .ref js2_3, .ref js2_4, .ref js2_5, .ref js2_6])), (js2_0, .inl (K 0, 5, .inl fjs2_0)), (js2_1, .inl (K 0, 150, .inl fjs2_1)), (js2_2, .inl (K 0, 24, .inl fjs2_2)), (js2_3, .inl (K 0, 40, .inl fjs2_3)), (js2_4, .inl (K 0, 40, .inl fjs2_4)), (js2_5, .inl (K 0, 40, .inl fjs2_5)), (js2_6, .inl (K 0, 40, .inl fjs2_6)), (jt2, .inr (7, [.int 0, .int 0, .int 0, .int 0, .int 0, .int 0, .int 0, .int 0, .int 0, .ref jt2_0, .ref jt2_1, .ref jt2_2, .ref jt2_3, .ref jt2_4, .ref jt2_5])), (jt2_0, .inl (K 0, 5, .inl (u14 0))), (jt2_1, .inl (K 0, 6, .inl (u14 1))), (jt2_2, .inl (K 0, 12, .inl (u14 2))), (jt2_3, .inl (K 0, 24, .inl (u14 3))), (jt2_4, .inl (K 0, 24, .inl (u14 4))), (jt2_5, .inl (K 0, 24, .inl (u14 5))), (t0, .inr (7, [.int 0, .int 0, .int 0, .int 0, .int 0, .int 0, .int 0, .int 0, .int 0, .ref t0_, .ref t1_, .ref t2_, .ref t3_, .ref t4_, .ref t5_])), (t0_, .inl (K 0, 5, .inl ft0_)), (t1_, .inl (K 0, 6, .inl ft1_)), (t2_, .inl (K 0, 12, .inl ft2_)), (t3_, .inl (K 0, 24, .inl ft3_)), (t4_, .inl (K 0, 24, .inl ft4_)), (t5_, .inl (K 0, 24, .inl ft5_))] := hD
      refine lv_aload_n hx hb dX11_image_23 rfl (lv_at hl 0 rfl) ?_
      refine va_get (D := D) (own := RX11) (ci := 11) (v := .ref iz) (C := RX11) (T := TX11) (N := 13) hx hb hts inb_X11 hown hK.1 hP 0 rfl rfl 4 (by decide) (hts _ wd_426) (fun _ h9 => h9) hx4 dX11_image_24 ?_
      refine lv_iload_n hx hb dX11_image_27 rfl (lv_at hl 1 rfl) ?_
      refine va_aldq hx hb hK.1 hP 10 5 rfl rfl (by unfold vp_in; decide) dX11_image_28 ?_
      refine fn_topv (.ref js2) (congrArg va_rf hiz_2) ?_
      refine lv_aload_n hx hb dX11_image_29 rfl (lv_at hl 0 rfl) ?_
      refine va_get (D := D) (own := RX11) (ci := 11) (v := .ref sh) (C := RX11) (T := TX11) (N := 13) hx hb hts inb_X11 hown hK.1 hP 0 rfl rfl 2 (by decide) (hts _ wd_424) (fun _ h9 => h9) hx2 dX11_image_30 ?_
      refine fn_gov (wc := [(js2, .inr (5, [.int 0, .ref js2_0, .ref js2_1, .ref js2_2, .ref js2_3, .ref js2_4, .ref js2_5, .ref js2_6])), (js2_0, .inl (K 0, 5, .inl fjs2_0)), (js2_1, .inl (K 0, 150, .inl fjs2_1)), (js2_2, .inl (K 0, 24, .inl fjs2_2)), (js2_3, .inl (K 0, 40, .inl fjs2_3)), (js2_4, .inl (K 0, 40, .inl fjs2_4)), (js2_5, .inl (K 0, 40, .inl fjs2_5)), (js2_6, .inl (K 0, 40, .inl fjs2_6)), (sh, .inr (5, [.int 0, .ref s0, .ref s1, .ref s2, .ref s3, .ref s4, .ref s5, .ref s6])), (s0, .inl (K 0, 5, .inl fs0)), (s1, .inl (K 0, 150, .inl fs1)), (s2, .inl (K 0, 24, .inl fs2)), (s3, .inl (K 0, 40, .inl fs3)), (s4, .inl (K 0, 40, .inl fs4)), (s5, .inl (K 0, 40, .inl fs5)), (s6, .inl (K 0, 40, .inl fs6))]) (wr := [(x0, .inr (11, fx)), (it, .inl (K 4, 3, .inr (.inr (.inr (.inr fit))))), (iz, .inl (K 5, 3, .inr (.inr (.inr (.inr fiz))))), (ik, .inl (K 2, 3, .inl fik)), (jt0, .inr (7, [.int 0, .int 0, .int 0, .int 0, .int 0, .int 0, .int 0, .int 0, .int 0, .ref jt0_0, .ref jt0_1, .ref jt0_2, .ref jt0_3, .ref jt0_4, .ref jt0_5])), (jt0_0, .inl (K 0, 5, .inl fjt0_0)), (jt0_1, .inl (K 0, 6, .inl fjt0_1)), (jt0_2, .inl (K 0, 12, .inl fjt0_2)), (jt0_3, .inl (K 0, 24, .inl fjt0_3)), (jt0_4, .inl (K 0, 24, .inl fjt0_4)), (jt0_5, .inl (K 0, 24, .inl fjt0_5)), (js0, .inr (5, [.int 0, .ref js0_0, .ref js0_1, .ref js0_2, .ref js0_3, .ref js0_4, .ref js0_5, .ref js0_6])), (js0_0, .inl (K 0, 5, .inl fjs0_0)), (js0_1, .inl (K 0, 150, .inl fjs0_1)), (js0_2, .inl (K 0, 24, .inl fjs0_2)), (js0_3, .inl (K 0, 40, .inl fjs0_3)), (js0_4, .inl (K 0, 40, .inl fjs0_4)), (js0_5, .inl (K 0, 40, .inl fjs0_5)), (js0_6, .inl (K 0, 40, .inl fjs0_6)), (jt1, .inr (7, [.int 0, .int 0, .int 0, .int 0, .int 0, .int 0, .int 0, .int 0, .int 0, .ref jt1_0, .ref jt1_1, .ref jt1_2, .ref jt1_3, .ref jt1_4, .ref jt1_5])), (jt1_0, .inl (K 0, 5, .inl fjt1_0)), (jt1_1, .inl (K 0, 6, .inl fjt1_1)), (jt1_2, .inl (K 0, 12, .inl fjt1_2)), (jt1_3, .inl (K 0, 24, .inl fjt1_3)), (jt1_4, .inl (K 0, 24, .inl fjt1_4)), (jt1_5, .inl (K 0, 24, .inl fjt1_5)), (js1, .inr (5, [.int 0, .ref js1_0, .ref js1_1, .ref js1_2, .ref js1_3, .ref js1_4, .ref js1_5, .ref js1_6])), (js1_0, .inl (K 0, 5, .inl fjs1_0)), (js1_1, .inl (K 0, 150, .inl fjs1_1)), (js1_2, .inl (K 0, 24, .inl fjs1_2)), (js1_3, .inl (K 0, 40, .inl fjs1_3)), (js1_4, .inl (K 0, 40, .inl fjs1_4)), (js1_5, .inl (K 0, 40, .inl fjs1_5)), (js1_6, .inl (K 0, 40, .inl fjs1_6)), (jt2, .inr (7, [.int 0, .int 0, .int 0, .int 0, .int 0, .int 0, .int 0, .int 0, .int 0, .ref jt2_0, .ref jt2_1, .ref jt2_2, .ref jt2_3, .ref jt2_4, .ref jt2_5])), (jt2_0, .inl (K 0, 5, .inl (u14 0))), (jt2_1, .inl (K 0, 6, .inl (u14 1))), (jt2_2, .inl (K 0, 12, .inl (u14 2))), (jt2_3, .inl (K 0, 24, .inl (u14 3))), (jt2_4, .inl (K 0, 24, .inl (u14 4))), (jt2_5, .inl (K 0, 24, .inl (u14 5))), (t0, .inr (7, [.int 0, .int 0, .int 0, .int 0, .int 0, .int 0, .int 0, .int 0, .int 0, .ref t0_, .ref t1_, .ref t2_, .ref t3_, .ref t4_, .ref t5_])), (t0_, .inl (K 0, 5, .inl ft0_)), (t1_, .inl (K 0, 6, .inl ft1_)), (t2_, .inl (K 0, 12, .inl ft2_)), (t3_, .inl (K 0, 24, .inl ft3_)), (t4_, .inl (K 0, 24, .inl ft4_)), (t5_, .inl (K 0, 24, .inl ft5_))]) hK hP hD hS hA [42, 43, 44, 45, 46, 47, 48, 49, 1, 2, 3, 4, 5, 6, 7, 8] [0, 9, 10, 11, 12, 13, 14, 15, 16, 17, 18, 19, 20, 21, 22, 23, 24, 25, 26, 27, 28, 29, 30, 31, 32, 33, 34, 35, 36, 37, 38, 39, 40, 41, 50, 51, 52, 53, 54, 55, 56, 57, 58, 59, 60, 61, 62, 63] rfl rfl (by decide) (fun hp => va_runVN (C := RX5) (As := [.ref sh]) (rest := []) ⟨hx, hb, hml, hown, hts⟩ (c_X5_copyFrom (l := l) (D := D) (K := K) (o0 := (js2)) (o1 := (sh)) (a0 := (js2_0)) (a1 := (js2_1)) (a2 := (js2_2)) (a3 := (js2_3)) (a4 := (js2_4)) (a5 := (js2_5)) (a6 := (js2_6)) (fa0 := (fjs2_0)) (fa1 := (fjs2_1)) (fa2 := (fjs2_2)) (fa3 := (fjs2_3)) (fa4 := (fjs2_4)) (fa5 := (fjs2_5)) (fa6 := (fjs2_6)) (b0 := (s0)) (b1 := (s1)) (b2 := (s2)) (b3 := (s3)) (b4 := (s4)) (b5 := (s5)) (b6 := (s6)) (fb0 := (fs0)) (fb1 := (fs1)) (fb2 := (fs2)) (fb3 := (fs3)) (fb4 := (fs4)) (fb5 := (fs5)) (fb6 := (fs6)) _) ⟨va_cnB (own := RX11) 1 hts (fn_gin wd_1195) rfl rfl rfl (hK.nw 152 rfl) (hts _ wd_5) (by decide +kernel) ⟨Nat.le_of_ble_eq_true rfl, Nat.le_of_ble_eq_true rfl⟩, hts _ wd_1194, hts _ wp_90⟩ ⟨fn_blind, va_recv hK.1 hP (ci := 5) (q0 := 42) rfl rfl, hp⟩ rfl rfl hl.1 rfl (lv_room (Nat.le_of_ble_eq_true rfl)) dX11_image_33 ⟨Nat.le_of_ble_eq_true rfl, Nat.le_of_ble_eq_true rfl⟩) (fun u16 H locs hwu16 hP hD hS => ?_)
      have hP : va_P D vwCl [(x0, .inr (11, fx)), (it, .inl (K 4, 3, .inr (.inr (.inr (.inr fit))))), (iz, .inl (K 5, 3, .inr (.inr (.inr (.inr fiz))))), (ik, .inl (K 2, 3, .inl fik)), (jt0, .inr (7, [.int 0, .int 0, .int 0, .int 0, .int 0, .int 0, .int 0, .int 0, .int 0, .ref jt0_0, .ref jt0_1, .ref jt0_2, .ref jt0_3, .ref jt0_4, .ref jt0_5])), (jt0_0, .inl (K 0, 5, .inl fjt0_0)), (jt0_1, .inl (K 0, 6, .inl fjt0_1)), (jt0_2, .inl (K 0, 12, .inl fjt0_2)), (jt0_3, .inl (K 0, 24, .inl fjt0_3)), (jt0_4, .inl (K 0, 24, .inl fjt0_4)), (jt0_5, .inl (K 0, 24, .inl fjt0_5)), (js0, .inr (5, [.int 0, .ref js0_0, .ref js0_1, .ref js0_2, .ref js0_3, .ref js0_4, .ref js0_5, .ref js0_6])), (js0_0, .inl (K 0, 5, .inl fjs0_0)), (js0_1, .inl (K 0, 150, .inl fjs0_1)), (js0_2, .inl (K 0, 24, .inl fjs0_2)), (js0_3, .inl (K 0, 40, .inl fjs0_3)), (js0_4, .inl (K 0, 40, .inl fjs0_4)), (js0_5, .inl (K 0, 40, .inl fjs0_5)), (js0_6, .inl (K 0, 40, .inl fjs0_6)), (jt1, .inr (7, [.int 0, .int 0, .int 0, .int 0, .int 0, .int 0, .int 0, .int 0, .int 0, .ref jt1_0, .ref jt1_1, .ref jt1_2, .ref jt1_3, .ref jt1_4, .ref jt1_5])), (jt1_0, .inl (K 0, 5, .inl fjt1_0)), (jt1_1, .inl (K 0, 6, .inl fjt1_1)), (jt1_2, .inl (K 0, 12, .inl fjt1_2)), (jt1_3, .inl (K 0, 24, .inl fjt1_3)), (jt1_4, .inl (K 0, 24, .inl fjt1_4)), (jt1_5, .inl (K 0, 24, .inl fjt1_5)), (js1, .inr (5, [.int 0, .ref js1_0, .ref js1_1, .ref js1_2, .ref js1_3, .ref js1_4, .ref js1_5, .ref js1_6])), (js1_0, .inl (K 0, 5, .inl fjs1_0)), (js1_1, .inl (K 0, 150, .inl fjs1_1)), (js1_2, .inl (K 0, 24, .inl fjs1_2)), (js1_3, .inl (K 0, 40, .inl fjs1_3)), (js1_4, .inl (K 0, 40, .inl fjs1_4)), (js1_5, .inl (K 0, 40, .inl fjs1_5)), (js1_6, .inl (K 0, 40, .inl fjs1_6)), (jt2, .inr (7, [.int 0, .int 0, .int 0, .int 0, .int 0, .int 0, .int 0, .int 0, .int 0, .ref jt2_0, .ref jt2_1, .ref jt2_2, .ref jt2_3, .ref jt2_4, .ref jt2_5])), (jt2_0, .inl (K 0, 5, .inl (u14 0))), (jt2_1, .inl (K 0, 6, .inl (u14 1))), (jt2_2, .inl (K 0, 12, .inl (u14 2))), (jt2_3, .inl (K 0, 24, .inl (u14 3))), (jt2_4, .inl (K 0, 24, .inl (u14 4))), (jt2_5, .inl (K 0, 24, .inl (u14 5))), (t0, .inr (7, [.int 0, .int 0, .int 0, .int 0, .int 0, .int 0, .int 0, .int 0, .int 0, .ref t0_, .ref t1_, .ref t2_, .ref t3_, .ref t4_, .ref t5_])), (t0_, .inl (K 0, 5, .inl ft0_)), (t1_, .inl (K 0, 6, .inl ft1_)), (t2_, .inl (K 0, 12, .inl ft2_)), (t3_, .inl (K 0, 24, .inl ft3_)), (t4_, .inl (K 0, 24, .inl ft4_)), (t5_, .inl (K 0, 24, .inl ft5_)), (js2, .inr (5, [.int 0, .ref js2_0, .ref js2_1, .ref js2_2, .ref js2_3, .ref js2_4, .ref js2_5, .ref js2_6])), (js2_0, .inl (K 0, 5, .inl (u16 0))), (js2_1, .inl (K 0, 150, .inl (u16 1))), (js2_2, .inl (K 0, 24, .inl (u16 2))), (js2_3, .inl (K 0, 40, .inl (u16 3))), (js2_4, .inl (K 0, 40, .inl (u16 4))), (js2_5, .inl (K 0, 40, .inl (u16 5))), (js2_6, .inl (K 0, 40, .inl (u16 6))), (sh, .inr (5, [.int 0, .ref s0, .ref s1, .ref s2, .ref s3, .ref s4, .ref s5, .ref s6])), (s0, .inl (K 0, 5, .inl fs0)), (s1, .inl (K 0, 150, .inl fs1)), (s2, .inl (K 0, 24, .inl fs2)), (s3, .inl (K 0, 40, .inl fs3)), (s4, .inl (K 0, 40, .inl fs4)), (s5, .inl (K 0, 40, .inl fs5)), (s6, .inl (K 0, 40, .inl fs6))] H := hP
      have hD : va_D A [(x0, .inr (11, fx)), (it, .inl (K 4, 3, .inr (.inr (.inr (.inr fit))))), (iz, .inl (K 5, 3, .inr (.inr (.inr (.inr fiz))))), (ik, .inl (K 2, 3, .inl fik)), (jt0, .inr (7, [.int 0, .int 0, .int 0, .int 0, .int 0, .int 0, .int 0, .int 0, .int 0, .ref jt0_0, .ref jt0_1, .ref jt0_2, .ref jt0_3, .ref jt0_4, .ref jt0_5])), (jt0_0, .inl (K 0, 5, .inl fjt0_0)), (jt0_1, .inl (K 0, 6, .inl fjt0_1)), (jt0_2, .inl (K 0, 12, .inl fjt0_2)), (jt0_3, .inl (K 0, 24, .inl fjt0_3)), (jt0_4, .inl (K 0, 24, .inl fjt0_4)), (jt0_5, .inl (K 0, 24, .inl fjt0_5)), (js0, .inr (5, [.int 0, .ref js0_0, .ref js0_1, .ref js0_2, .ref js0_3, .ref js0_4, .ref js0_5, .ref js0_6])), (js0_0, .inl (K 0, 5, .inl fjs0_0)), (js0_1, .inl (K 0, 150, .inl fjs0_1)), (js0_2, .inl (K 0, 24, .inl fjs0_2)), (js0_3, .inl (K 0, 40, .inl fjs0_3)), (js0_4, .inl (K 0, 40, .inl fjs0_4)), (js0_5, .inl (K 0, 40, .inl fjs0_5)), (js0_6, .inl (K 0, 40, .inl fjs0_6)), (jt1, .inr (7, [.int 0, .int 0, .int 0, .int 0, .int 0, .int 0, .int 0, .int 0, .int 0, .ref jt1_0, .ref jt1_1, .ref jt1_2, .ref jt1_3, .ref jt1_4, .ref jt1_5])), (jt1_0, .inl (K 0, 5, .inl fjt1_0)), (jt1_1, .inl (K 0, 6, .inl fjt1_1)), (jt1_2, .inl (K 0, 12, .inl fjt1_2)), (jt1_3, .inl (K 0, 24, .inl fjt1_3)), (jt1_4, .inl (K 0, 24, .inl fjt1_4)), (jt1_5, .inl (K 0, 24, .inl fjt1_5)), (js1, .inr (5, [.int 0, .ref js1_0, .ref js1_1, .ref js1_2, .ref js1_3, .ref js1_4, .ref js1_5, .ref js1_6])), (js1_0, .inl (K 0, 5, .inl fjs1_0)), (js1_1, .inl (K 0, 150, .inl fjs1_1)), (js1_2, .inl (K 0, 24, .inl fjs1_2)), (js1_3, .inl (K 0, 40, .inl fjs1_3)), (js1_4, .inl (K 0, 40, .inl fjs1_4)), (js1_5, .inl (K 0, 40, .inl fjs1_5)), (js1_6, .inl (K 0, 40, .inl fjs1_6)), (jt2, .inr (7, [.int 0, .int 0, .int 0, .int 0, .int 0, .int 0, .int 0, .int 0, .int 0, .ref jt2_0, .ref jt2_1, .ref jt2_2, .ref jt2_3, .ref jt2_4, .ref jt2_5])), (jt2_0, .inl (K 0, 5, .inl (u14 0))), (jt2_1, .inl (K 0, 6, .inl (u14 1))), (jt2_2, .inl (K 0, 12, .inl (u14 2))), (jt2_3, .inl (K 0, 24, .inl (u14 3))), (jt2_4, .inl (K 0, 24, .inl (u14 4))), (jt2_5, .inl (K 0, 24, .inl (u14 5))), (t0, .inr (7, [.int 0, .int 0, .int 0, .int 0, .int 0, .int 0, .int 0, .int 0, .int 0, .ref t0_, .ref t1_, .ref t2_, .ref t3_, .ref t4_, .ref t5_])), (t0_, .inl (K 0, 5, .inl ft0_)), (t1_, .inl (K 0, 6, .inl ft1_)), (t2_, .inl (K 0, 12, .inl ft2_)), (t3_, .inl (K 0, 24, .inl ft3_)), (t4_, .inl (K 0, 24, .inl ft4_)), (t5_, .inl (K 0, 24, .inl ft5_)), (js2, .inr (5, [.int 0, .ref js2_0, .ref js2_1, .ref js2_2, .ref js2_3, .ref js2_4, .ref js2_5, .ref js2_6])), (js2_0, .inl (K 0, 5, .inl (u16 0))), (js2_1, .inl (K 0, 150, .inl (u16 1))), (js2_2, .inl (K 0, 24, .inl (u16 2))), (js2_3, .inl (K 0, 40, .inl (u16 3))), (js2_4, .inl (K 0, 40, .inl (u16 4))), (js2_5, .inl (K 0, 40, .inl (u16 5))), (js2_6, .inl (K 0, 40, .inl (u16 6))), (sh, .inr (5, [.int 0, .ref s0, .ref s1, .ref s2, .ref s3, .ref s4, .ref s5, .ref s6])), (s0, .inl (K 0, 5, .inl fs0)), (s1, .inl (K 0, 150, .inl fs1)), (s2, .inl (K 0, 24, .inl fs2)), (s3, .inl (K 0, 40, .inl fs3)), (s4, .inl (K 0, 40, .inl fs4)), (s5, .inl (K 0, 40, .inl fs5)), (s6, .inl (K 0, 40, .inl fs6))] := hD
      refine lv_aload_n hx hb dX11_image_36 rfl (lv_at hl 0 rfl) ?_
      refine va_get (D := D) (own := RX11) (ci := 11) (v := .ref ik) (C := RX11) (T := TX11) (N := 13) hx hb hts inb_X11 hown hK.1 hP 0 rfl rfl 5 (by decide) (hts _ wd_427) (fun _ h9 => h9) hx5 dX11_image_37 ?_
      refine fn_at 40 rfl ?_
      refine lv_iload_n hx hb dX11_image_40 rfl (lv_at hl 1 rfl) ?_
      refine lv_iconst (v := 1) hx hb dX11_image_41 (by decide) ?_
      refine va_zast hx hb hK.1 hP hD hS 3 2 rfl rfl (by unfold vp_in; decide) dX11_image_42 (fun H locs hP hD hS => ?_)
      obtain ⟨g18, eg18⟩ : ∃ z, z = (upd fik (Int32.toNatClampNeg 2) (vp_nar .boolean 1)) := ⟨_, rfl⟩
      have hP : va_P D vwCl [(x0, .inr (11, fx)), (it, .inl (K 4, 3, .inr (.inr (.inr (.inr fit))))), (iz, .inl (K 5, 3, .inr (.inr (.inr (.inr fiz))))), (ik, .inl (K 2, 3, .inl g18)), (jt0, .inr (7, [.int 0, .int 0, .int 0, .int 0, .int 0, .int 0, .int 0, .int 0, .int 0, .ref jt0_0, .ref jt0_1, .ref jt0_2, .ref jt0_3, .ref jt0_4, .ref jt0_5])), (jt0_0, .inl (K 0, 5, .inl fjt0_0)), (jt0_1, .inl (K 0, 6, .inl fjt0_1)), (jt0_2, .inl (K 0, 12, .inl fjt0_2)), (jt0_3, .inl (K 0, 24, .inl fjt0_3)), (jt0_4, .inl (K 0, 24, .inl fjt0_4)), (jt0_5, .inl (K 0, 24, .inl fjt0_5)), (js0, .inr (5, [.int 0, .ref js0_0, .ref js0_1, .ref js0_2, .ref js0_3, .ref js0_4, .ref js0_5, .ref js0_6])), (js0_0, .inl (K 0, 5, .inl fjs0_0)), (js0_1, .inl (K 0, 150, .inl fjs0_1)), (js0_2, .inl (K 0, 24, .inl fjs0_2)), (js0_3, .inl (K 0, 40, .inl fjs0_3)), (js0_4, .inl (K 0, 40, .inl fjs0_4)), (js0_5, .inl (K 0, 40, .inl fjs0_5)), (js0_6, .inl (K 0, 40, .inl fjs0_6)), (jt1, .inr (7, [.int 0, .int 0, .int 0, .int 0, .int 0, .int 0, .int 0, .int 0, .int 0, .ref jt1_0, .ref jt1_1, .ref jt1_2, .ref jt1_3, .ref jt1_4, .ref jt1_5])), (jt1_0, .inl (K 0, 5, .inl fjt1_0)), (jt1_1, .inl (K 0, 6, .inl fjt1_1)), (jt1_2, .inl (K 0, 12, .inl fjt1_2)), (jt1_3, .inl (K 0, 24, .inl fjt1_3)), (jt1_4, .inl (K 0, 24, .inl fjt1_4)), (jt1_5, .inl (K 0, 24, .inl fjt1_5)), (js1, .inr (5, [.int 0, .ref js1_0, .ref js1_1, .ref js1_2, .ref js1_3, .ref js1_4, .ref js1_5, .ref js1_6])), (js1_0, .inl (K 0, 5, .inl fjs1_0)), (js1_1, .inl (K 0, 150, .inl fjs1_1)), (js1_2, .inl (K 0, 24, .inl fjs1_2)), (js1_3, .inl (K 0, 40, .inl fjs1_3)), (js1_4, .inl (K 0, 40, .inl fjs1_4)), (js1_5, .inl (K 0, 40, .inl fjs1_5)), (js1_6, .inl (K 0, 40, .inl fjs1_6)), (jt2, .inr (7, [.int 0, .int 0, .int 0, .int 0, .int 0, .int 0, .int 0, .int 0, .int 0, .ref jt2_0, .ref jt2_1, .ref jt2_2, .ref jt2_3, .ref jt2_4, .ref jt2_5])), (jt2_0, .inl (K 0, 5, .inl (u14 0))), (jt2_1, .inl (K 0, 6, .inl (u14 1))), (jt2_2, .inl (K 0, 12, .inl (u14 2))), (jt2_3, .inl (K 0, 24, .inl (u14 3))), (jt2_4, .inl (K 0, 24, .inl (u14 4))), (jt2_5, .inl (K 0, 24, .inl (u14 5))), (t0, .inr (7, [.int 0, .int 0, .int 0, .int 0, .int 0, .int 0, .int 0, .int 0, .int 0, .ref t0_, .ref t1_, .ref t2_, .ref t3_, .ref t4_, .ref t5_])), (t0_, .inl (K 0, 5, .inl ft0_)), (t1_, .inl (K 0, 6, .inl ft1_)), (t2_, .inl (K 0, 12, .inl ft2_)), (t3_, .inl (K 0, 24, .inl ft3_)), (t4_, .inl (K 0, 24, .inl ft4_)), (t5_, .inl (K 0, 24, .inl ft5_)), (js2, .inr (5, [.int 0, .ref js2_0, .ref js2_1, .ref js2_2, .ref js2_3, .ref js2_4, .ref js2_5, .ref js2_6])), (js2_0, .inl (K 0, 5, .inl (u16 0))), (js2_1, .inl (K 0, 150, .inl (u16 1))), (js2_2, .inl (K 0, 24, .inl (u16 2))), (js2_3, .inl (K 0, 40, .inl (u16 3))), (js2_4, .inl (K 0, 40, .inl (u16 4))), (js2_5, .inl (K 0, 40, .inl (u16 5))), (js2_6, .inl (K 0, 40, .inl (u16 6))), (sh, .inr (5, [.int 0, .ref s0, .ref s1, .ref s2, .ref s3, .ref s4, .ref s5, .ref s6])), (s0, .inl (K 0, 5, .inl fs0)), (s1, .inl (K 0, 150, .inl fs1)), (s2, .inl (K 0, 24, .inl fs2)), (s3, .inl (K 0, 40, .inl fs3)), (s4, .inl (K 0, 40, .inl fs4)), (s5, .inl (K 0, 40, .inl fs5)), (s6, .inl (K 0, 40, .inl fs6))] H := by rw [eg18]; exact hP
      have hD : va_D A [(x0, .inr (11, fx)), (it, .inl (K 4, 3, .inr (.inr (.inr (.inr fit))))), (iz, .inl (K 5, 3, .inr (.inr (.inr (.inr fiz))))), (ik, .inl (K 2, 3, .inl g18)), (jt0, .inr (7, [.int 0, .int 0, .int 0, .int 0, .int 0, .int 0, .int 0, .int 0, .int 0, .ref jt0_0, .ref jt0_1, .ref jt0_2, .ref jt0_3, .ref jt0_4, .ref jt0_5])), (jt0_0, .inl (K 0, 5, .inl fjt0_0)), (jt0_1, .inl (K 0, 6, .inl fjt0_1)), (jt0_2, .inl (K 0, 12, .inl fjt0_2)), (jt0_3, .inl (K 0, 24, .inl fjt0_3)), (jt0_4, .inl (K 0, 24, .inl fjt0_4)), (jt0_5, .inl (K 0, 24, .inl fjt0_5)), (js0, .inr (5, [.int 0, .ref js0_0, .ref js0_1, .ref js0_2, .ref js0_3, .ref js0_4, .ref js0_5, .ref js0_6])), (js0_0, .inl (K 0, 5, .inl fjs0_0)), (js0_1, .inl (K 0, 150, .inl fjs0_1)), (js0_2, .inl (K 0, 24, .inl fjs0_2)), (js0_3, .inl (K 0, 40, .inl fjs0_3)), (js0_4, .inl (K 0, 40, .inl fjs0_4)), (js0_5, .inl (K 0, 40, .inl fjs0_5)), (js0_6, .inl (K 0, 40, .inl fjs0_6)), (jt1, .inr (7, [.int 0, .int 0, .int 0, .int 0, .int 0, .int 0, .int 0, .int 0, .int 0, .ref jt1_0, .ref jt1_1, .ref jt1_2, .ref jt1_3, .ref jt1_4, .ref jt1_5])), (jt1_0, .inl (K 0, 5, .inl fjt1_0)), (jt1_1, .inl (K 0, 6, .inl fjt1_1)), (jt1_2, .inl (K 0, 12, .inl fjt1_2)), (jt1_3, .inl (K 0, 24, .inl fjt1_3)), (jt1_4, .inl (K 0, 24, .inl fjt1_4)), (jt1_5, .inl (K 0, 24, .inl fjt1_5)), (js1, .inr (5, [.int 0, .ref js1_0, .ref js1_1, .ref js1_2, .ref js1_3, .ref js1_4, .ref js1_5, .ref js1_6])), (js1_0, .inl (K 0, 5, .inl fjs1_0)), (js1_1, .inl (K 0, 150, .inl fjs1_1)), (js1_2, .inl (K 0, 24, .inl fjs1_2)), (js1_3, .inl (K 0, 40, .inl fjs1_3)), (js1_4, .inl (K 0, 40, .inl fjs1_4)), (js1_5, .inl (K 0, 40, .inl fjs1_5)), (js1_6, .inl (K 0, 40, .inl fjs1_6)), (jt2, .inr (7, [.int 0, .int 0, .int 0, .int 0, .int 0, .int 0, .int 0, .int 0, .int 0, .ref jt2_0, .ref jt2_1, .ref jt2_2, .ref jt2_3, .ref jt2_4, .ref jt2_5])), (jt2_0, .inl (K 0, 5, .inl (u14 0))), (jt2_1, .inl (K 0, 6, .inl (u14 1))), (jt2_2, .inl (K 0, 12, .inl (u14 2))), (jt2_3, .inl (K 0, 24, .inl (u14 3))), (jt2_4, .inl (K 0, 24, .inl (u14 4))), (jt2_5, .inl (K 0, 24, .inl (u14 5))), (t0, .inr (7, [.int 0, .int 0, .int 0, .int 0, .int 0, .int 0, .int 0, .int 0, .int 0, .ref t0_, .ref t1_, .ref t2_, .ref t3_, .ref t4_, .ref t5_])), (t0_, .inl (K 0, 5, .inl ft0_)), (t1_, .inl (K 0, 6, .inl ft1_)), (t2_, .inl (K 0, 12, .inl ft2_)), (t3_, .inl (K 0, 24, .inl ft3_)), (t4_, .inl (K 0, 24, .inl ft4_)), (t5_, .inl (K 0, 24, .inl ft5_)), (js2, .inr (5, [.int 0, .ref js2_0, .ref js2_1, .ref js2_2, .ref js2_3, .ref js2_4, .ref js2_5, .ref js2_6])), (js2_0, .inl (K 0, 5, .inl (u16 0))), (js2_1, .inl (K 0, 150, .inl (u16 1))), (js2_2, .inl (K 0, 24, .inl (u16 2))), (js2_3, .inl (K 0, 40, .inl (u16 3))), (js2_4, .inl (K 0, 40, .inl (u16 4))), (js2_5, .inl (K 0, 40, .inl (u16 5))), (js2_6, .inl (K 0, 40, .inl (u16 6))), (sh, .inr (5, [.int 0, .ref s0, .ref s1, .ref s2, .ref s3, .ref s4, .ref s5, .ref s6])), (s0, .inl (K 0, 5, .inl fs0)), (s1, .inl (K 0, 150, .inl fs1)), (s2, .inl (K 0, 24, .inl fs2)), (s3, .inl (K 0, 40, .inl fs3)), (s4, .inl (K 0, 40, .inl fs4)), (s5, .inl (K 0, 40, .inl fs5)), (s6, .inl (K 0, 40, .inl fs6))] := by rw [eg18]; exact hD
      refine lv_iconst (v := 0) hx hb dX11_image_43 (by decide) ?_
      exact fn_iret hx hb hr hlocks rfl hP hD hS () (by first | exact (if_neg k3).symm | decide) [] (by decide) rfl dX11_image_44
theorem dX11_back_0 : decode cX11_back 0 = .ok (.iload_n 1, 1) := by decide +kernel
theorem dX11_back_1 : decode cX11_back 1 = .ok (.invokestatic 446, 3) := by decide +kernel
theorem dX11_back_4 : decode cX11_back 4 = .ok (.ifCond .eq 6, 3) := by decide +kernel
theorem dX11_back_7 : decode cX11_back 7 = .ok (.bipush (-2), 2) := by decide +kernel
theorem dX11_back_9 : decode cX11_back 9 = .ok (.ireturn, 1) := by decide +kernel
theorem dX11_back_10 : decode cX11_back 10 = .ok (.aload_n 0, 1) := by decide +kernel
theorem dX11_back_11 : decode cX11_back 11 = .ok (.getfield 38, 3) := by decide +kernel
theorem dX11_back_14 : decode cX11_back 14 = .ok (.iload_n 1, 1) := by decide +kernel
theorem dX11_back_15 : decode cX11_back 15 = .ok (.baload, 1) := by decide +kernel
theorem dX11_back_16 : decode cX11_back 16 = .ok (.ifCond .ne 6, 3) := by decide +kernel
theorem dX11_back_19 : decode cX11_back 19 = .ok (.bipush (-6), 2) := by decide +kernel
theorem dX11_back_21 : decode cX11_back 21 = .ok (.ireturn, 1) := by decide +kernel
set_option maxHeartbeats 4000000 in
set_option maxRecDepth 100000 in
theorem c_X11_back (l : Launch) (D : va_G) (K : Nat → ClassId) (ik : Nat) (x0 : Nat) (fx : List Value) (hx5 : fx[5]? = some (.ref ik)) (fik : Nat → Int32) (hik : ∀ j, fik j = 0) (p0 : Int32) : fn_CI (S := Unit) l D K yX11_back (fn_ws yX11_back cX11_back 2 (some .int)) ({ frames := 8, cells := 0, slots := 0, locals := 200 }) [.ref x0, .int p0] [(x0, .inr (11, fx)), (ik, .inl (K 2, 3, .inl fik))] (fun r _ => r = fn_sBack p0) (fun _ => []) 0 0 := by
  refine fn_inI (cc := cX11_back) (maxL := 2) (ret := (some .int)) (by decide) rfl (Nat.le_of_ble_eq_true rfl) ?_
  intro p e s m below meth c A ls B hA hP hD hS hl
  obtain ⟨hx, hb, hr, hml, hts, hown, hlocks, hin, hK⟩ := B
  have hown : s.vm.findClass RX11 = some m.cls := hown
  have hts := fun w h => hts w (List.mem_cons_of_mem _ h)
  have hl : lv_has ls 2 [(0, .ref x0), (1, .int p0)] := hl
  refine lv_iload_n hx hb dX11_back_0 rfl (lv_at hl 1 rfl) ?_
  refine fn_goi (wc := []) (wr := [(x0, .inr (11, fx)), (ik, .inl (K 2, 3, .inl fik))]) hK hP hD hS hA [] [0, 1] rfl rfl (by decide) (fun hp => va_runS (As := [.int p0]) (rest := []) ⟨hx, hb, hml, hown, hts⟩ (c_X11_noImage (l := l) (D := D) (K := K) (p0 := (p0)) _) (va_cwS 1 hts (fn_ginS (fn_gin wd_1191) wd_1189 wd_1190 wd_1) rfl rfl rfl (by decide +kernel) ⟨Nat.le_of_ble_eq_true rfl, Nat.le_of_ble_eq_true rfl⟩) ⟨fn_blind, hp⟩ rfl rfl hl.1 rfl (lv_room (Nat.le_of_ble_eq_true rfl)) dX11_back_1 ⟨Nat.le_of_ble_eq_true rfl, Nat.le_of_ble_eq_true rfl⟩) (fun r2 u1 H locs hwu1 hP hD hS => ?_)
  rcases hwu1 with ⟨rfl, k3⟩ | ⟨rfl, k3⟩
  · have hP : va_P D vwCl [(x0, .inr (11, fx)), (ik, .inl (K 2, 3, .inl fik))] H := hP
    have hD : va_D A [(x0, .inr (11, fx)), (ik, .inl (K 2, 3, .inl fik))] := hD
    refine lv_if_eq (tgt := 10) hx hb dX11_back_4 (by decide) (fun h9 => absurd h9 (by decide)) (fun _ => ?_)
    refine lv_bipush (v := (-2)) hx hb dX11_back_7 (by decide) ?_
    exact fn_iret hx hb hr hlocks rfl hP hD hS () (by first | exact (if_neg k3).symm | exact (if_pos k3).symm) [] (by decide) rfl dX11_back_9
  · have hP : va_P D vwCl [(x0, .inr (11, fx)), (ik, .inl (K 2, 3, .inl fik))] H := hP
    have hD : va_D A [(x0, .inr (11, fx)), (ik, .inl (K 2, 3, .inl fik))] := hD
    refine lv_if_eq (tgt := 10) hx hb dX11_back_4 (by decide) (fun _ => ?_) (fun h9 => absurd (by decide) h9)
    refine lv_aload_n hx hb dX11_back_10 rfl (lv_at hl 0 rfl) ?_
    refine va_get (D := D) (own := RX11) (ci := 11) (v := .ref ik) (C := RX11) (T := TX11) (N := 13) hx hb hts inb_X11 hown hK.1 hP 0 rfl rfl 5 (by decide) (hts _ wd_427) (fun _ h9 => h9) hx5 dX11_back_11 ?_
    refine lv_iload_n hx hb dX11_back_14 rfl (lv_at hl 1 rfl) ?_
    refine va_zald hx hb hK.1 hP 1 2 rfl rfl (fn_okIn k3) dX11_back_15 ?_
    refine fn_top 0 (hik _) ?_
    refine lv_if_ne (tgt := 22) hx hb dX11_back_16 (by decide) (fun h9 => absurd rfl h9) (fun _ => ?_)
    refine lv_bipush (v := (-6)) hx hb dX11_back_19 (by decide) ?_
    exact fn_iret hx hb hr hlocks rfl hP hD hS () (by first | exact (if_neg k3).symm | exact (if_pos k3).symm) [] (by decide) rfl dX11_back_21
theorem dX11_rowsPresent_0 : decode cX11_rowsPresent 0 = .ok (.iconst 0, 1) := by decide +kernel
theorem dX11_rowsPresent_1 : decode cX11_rowsPresent 1 = .ok (.istore_n 1, 1) := by decide +kernel
theorem dX11_rowsPresent_2 : decode cX11_rowsPresent 2 = .ok (.iconst 0, 1) := by decide +kernel
theorem dX11_rowsPresent_3 : decode cX11_rowsPresent 3 = .ok (.istore_n 2, 1) := by decide +kernel
theorem dX11_rowsPresent_4 : decode cX11_rowsPresent 4 = .ok (.iload_n 2, 1) := by decide +kernel
theorem dX11_rowsPresent_5 : decode cX11_rowsPresent 5 = .ok (.iconst 4, 1) := by decide +kernel
theorem dX11_rowsPresent_6 : decode cX11_rowsPresent 6 = .ok (.if_icmp .ge 24, 3) := by decide +kernel
theorem dX11_rowsPresent_9 : decode cX11_rowsPresent 9 = .ok (.iload_n 1, 1) := by decide +kernel
theorem dX11_rowsPresent_10 : decode cX11_rowsPresent 10 = .ok (.aload_n 0, 1) := by decide +kernel
theorem dX11_rowsPresent_11 : decode cX11_rowsPresent 11 = .ok (.getfield 44, 3) := by decide +kernel
theorem dX11_rowsPresent_14 : decode cX11_rowsPresent 14 = .ok (.iload_n 2, 1) := by decide +kernel
theorem dX11_rowsPresent_15 : decode cX11_rowsPresent 15 = .ok (.aaload, 1) := by decide +kernel
theorem dX11_rowsPresent_16 : decode cX11_rowsPresent 16 = .ok (.getfield 340, 3) := by decide +kernel
theorem dX11_rowsPresent_19 : decode cX11_rowsPresent 19 = .ok (.invokestatic 195, 3) := by decide +kernel
theorem dX11_rowsPresent_22 : decode cX11_rowsPresent 22 = .ok (.iadd, 1) := by decide +kernel
theorem dX11_rowsPresent_23 : decode cX11_rowsPresent 23 = .ok (.istore_n 1, 1) := by decide +kernel
theorem dX11_rowsPresent_24 : decode cX11_rowsPresent 24 = .ok (.iinc 2 1, 3) := by decide +kernel
theorem dX11_rowsPresent_27 : decode cX11_rowsPresent 27 = .ok (.goto (-23), 3) := by decide +kernel
theorem dX11_rowsPresent_30 : decode cX11_rowsPresent 30 = .ok (.iload_n 1, 1) := by decide +kernel
theorem dX11_rowsPresent_31 : decode cX11_rowsPresent 31 = .ok (.ireturn, 1) := by decide +kernel
set_option maxHeartbeats 4000000 in
set_option maxRecDepth 100000 in
theorem c_X11_rowsPresent (l : Launch) (D : va_G) (K : Nat → ClassId) (rw r0 r1 r2 r3 n0 n1 n2 n3 : Nat) (x0 : Nat) (fx : List Value) (hx6 : fx[6]? = some (.ref rw)) (frw : Nat → Option Nat) (hrw_0 : frw 0 = some r0) (hrw_1 : frw 1 = some r1) (hrw_2 : frw 2 = some r2) (hrw_3 : frw 3 = some r3) : fn_CI (S := Unit) l D K yX11_rowsPresent (fn_ws yX11_rowsPresent cX11_rowsPresent 3 (some .int)) ({ frames := 8, cells := 0, slots := 0, locals := 200 }) [.ref x0] [(x0, .inr (11, fx)), (rw, .inl (K 6, 4, .inr (.inr (.inr (.inr frw))))), (r0, .inr (4, [.int 0, .int 0, .int 0, .ref n0])), (r1, .inr (4, [.int 0, .int 0, .int 0, .ref n1])), (r2, .inr (4, [.int 0, .int 0, .int 0, .ref n2])), (r3, .inr (4, [.int 0, .int 0, .int 0, .ref n3]))] (fun r _ => r = 0) (fun _ => []) 0 0 := by
  refine fn_inI (cc := cX11_rowsPresent) (maxL := 3) (ret := (some .int)) (by decide) rfl (Nat.le_of_ble_eq_true rfl) ?_
  intro p e s m below meth c A ls B hA hP hD hS hl
  obtain ⟨hx, hb, hr, hml, hts, hown, hlocks, hin, hK⟩ := B
  have hown : s.vm.findClass RX11 = some m.cls := hown
  have hts := fun w h => hts w (List.mem_cons_of_mem _ h)
  have hl : lv_has ls 3 [(0, .ref x0)] := hl
  refine lv_iconst (v := 0) hx hb dX11_rowsPresent_0 (by decide) ?_
  refine lv_istore_n (lv' := [(1, .int 0), (0, .ref x0)]) hx hb dX11_rowsPresent_1 rfl hl (by decide) rfl (fun ls hl => ?_)
  refine lv_iconst (v := 0) hx hb dX11_rowsPresent_2 (by decide) ?_
  refine lv_istore_n (lv' := [(2, .int 0), (1, .int 0), (0, .ref x0)]) hx hb dX11_rowsPresent_3 rfl hl (by decide) rfl (fun ls hl => ?_)
  refine lv_iload_n hx hb dX11_rowsPresent_4 rfl (lv_at hl 0 rfl) ?_
  refine lv_iconst (v := 4) hx hb dX11_rowsPresent_5 (by decide) ?_
  refine lv_icmp_ge (tgt := 30) hx hb dX11_rowsPresent_6 (by decide) (fun h9 => absurd h9 (by decide)) (fun _ => ?_)
  refine lv_iload_n hx hb dX11_rowsPresent_9 rfl (lv_at hl 1 rfl) ?_
  refine lv_aload_n hx hb dX11_rowsPresent_10 rfl (lv_at hl 2 rfl) ?_
  refine va_get (D := D) (own := RX11) (ci := 11) (v := .ref rw) (C := RX11) (T := TX11) (N := 13) hx hb hts inb_X11 hown hK.1 hP 0 rfl rfl 6 (by decide) (hts _ wd_428) (fun _ h9 => h9) hx6 dX11_rowsPresent_11 ?_
  refine lv_iload_n hx hb dX11_rowsPresent_14 rfl (lv_at hl 0 rfl) ?_
  refine va_aldq hx hb hK.1 hP 1 6 rfl rfl (by unfold vp_in; decide) dX11_rowsPresent_15 ?_
  refine fn_topv (.ref r0) (congrArg va_rf hrw_0) ?_
  refine va_getN (D := D) (own := RX11) (ci := 4) (v := .int 0) (C := RX4) (T := TX4) (N := 4) hx hb hts inb_X4 hown hK.1 hP 2 rfl rfl 0 (by decide) (hK.nf 89 rfl) (fun _ h9 => h9) rfl dX11_rowsPresent_16 ?_
  refine fn_goi (wc := []) (wr := [(x0, .inr (11, fx)), (rw, .inl (K 6, 4, .inr (.inr (.inr (.inr frw))))), (r0, .inr (4, [.int 0, .int 0, .int 0, .ref n0])), (r1, .inr (4, [.int 0, .int 0, .int 0, .ref n1])), (r2, .inr (4, [.int 0, .int 0, .int 0, .ref n2])), (r3, .inr (4, [.int 0, .int 0, .int 0, .ref n3]))]) hK hP hD hS hA [] [0, 1, 2, 3, 4, 5] rfl rfl (by decide) (fun hp => va_runS (As := [.int 0]) (rest := [.int 0]) ⟨hx, hb, hml, hown, hts⟩ (c_X11_bit (l := l) (D := D) (K := K)  _) (va_cwS 1 hts (fn_ginS (fn_gin wd_605) wd_710 wd_604 wd_1) rfl rfl rfl (by decide +kernel) ⟨Nat.le_of_ble_eq_true rfl, Nat.le_of_ble_eq_true rfl⟩) ⟨fn_blind, hp⟩ rfl rfl hl.1 rfl (lv_room (Nat.le_of_ble_eq_true rfl)) dX11_rowsPresent_19 ⟨Nat.le_of_ble_eq_true rfl, Nat.le_of_ble_eq_true rfl⟩) (fun r2 u1 H locs hwu1 hP hD hS => ?_)
  have r2_e : r2 = 0 := hwu1
  subst r2_e
  have hP : va_P D vwCl [(x0, .inr (11, fx)), (rw, .inl (K 6, 4, .inr (.inr (.inr (.inr frw))))), (r0, .inr (4, [.int 0, .int 0, .int 0, .ref n0])), (r1, .inr (4, [.int 0, .int 0, .int 0, .ref n1])), (r2, .inr (4, [.int 0, .int 0, .int 0, .ref n2])), (r3, .inr (4, [.int 0, .int 0, .int 0, .ref n3]))] H := hP
  have hD : va_D A [(x0, .inr (11, fx)), (rw, .inl (K 6, 4, .inr (.inr (.inr (.inr frw))))), (r0, .inr (4, [.int 0, .int 0, .int 0, .ref n0])), (r1, .inr (4, [.int 0, .int 0, .int 0, .ref n1])), (r2, .inr (4, [.int 0, .int 0, .int 0, .ref n2])), (r3, .inr (4, [.int 0, .int 0, .int 0, .ref n3]))] := hD
  refine lv_iadd hx hb dX11_rowsPresent_22 ?_
  refine fn_top 0 (by decide) ?_
  refine lv_istore_n (lv' := [(1, .int 0), (2, .int 0), (0, .ref x0)]) hx hb dX11_rowsPresent_23 rfl hl (by decide) rfl (fun ls hl => ?_)
  refine lv_iinc (v := 1) (lv' := [(2, .int 1), (1, .int 0), (0, .ref x0)]) hx hb dX11_rowsPresent_24 hl (k := 1) rfl (by decide) (by decide) rfl (fun ls hl => ?_)
  refine lv_goto (tgt := 4) hx hb dX11_rowsPresent_27 (by decide) ?_
  refine lv_iload_n hx hb dX11_rowsPresent_4 rfl (lv_at hl 0 rfl) ?_
  refine fn_at 5 rfl ?_
  refine lv_iconst (v := 4) hx hb dX11_rowsPresent_5 (by decide) ?_
  refine lv_icmp_ge (tgt := 30) hx hb dX11_rowsPresent_6 (by decide) (fun h9 => absurd h9 (by decide)) (fun _ => ?_)
  refine lv_iload_n hx hb dX11_rowsPresent_9 rfl (lv_at hl 1 rfl) ?_
  refine lv_aload_n hx hb dX11_rowsPresent_10 rfl (lv_at hl 2 rfl) ?_
  refine va_get (D := D) (own := RX11) (ci := 11) (v := .ref rw) (C := RX11) (T := TX11) (N := 13) hx hb hts inb_X11 hown hK.1 hP 0 rfl rfl 6 (by decide) (hts _ wd_428) (fun _ h9 => h9) hx6 dX11_rowsPresent_11 ?_
  refine lv_iload_n hx hb dX11_rowsPresent_14 rfl (lv_at hl 0 rfl) ?_
  refine va_aldq hx hb hK.1 hP 1 6 rfl rfl (by unfold vp_in; decide) dX11_rowsPresent_15 ?_
  refine fn_topv (.ref r1) (congrArg va_rf hrw_1) ?_
  refine va_getN (D := D) (own := RX11) (ci := 4) (v := .int 0) (C := RX4) (T := TX4) (N := 4) hx hb hts inb_X4 hown hK.1 hP 3 rfl rfl 0 (by decide) (hK.nf 89 rfl) (fun _ h9 => h9) rfl dX11_rowsPresent_16 ?_
  refine fn_goi (wc := []) (wr := [(x0, .inr (11, fx)), (rw, .inl (K 6, 4, .inr (.inr (.inr (.inr frw))))), (r0, .inr (4, [.int 0, .int 0, .int 0, .ref n0])), (r1, .inr (4, [.int 0, .int 0, .int 0, .ref n1])), (r2, .inr (4, [.int 0, .int 0, .int 0, .ref n2])), (r3, .inr (4, [.int 0, .int 0, .int 0, .ref n3]))]) hK hP hD hS hA [] [0, 1, 2, 3, 4, 5] rfl rfl (by decide) (fun hp => va_runS (As := [.int 0]) (rest := [.int 0]) ⟨hx, hb, hml, hown, hts⟩ (c_X11_bit (l := l) (D := D) (K := K)  _) (va_cwS 1 hts (fn_ginS (fn_gin wd_605) wd_710 wd_604 wd_1) rfl rfl rfl (by decide +kernel) ⟨Nat.le_of_ble_eq_true rfl, Nat.le_of_ble_eq_true rfl⟩) ⟨fn_blind, hp⟩ rfl rfl hl.1 rfl (lv_room (Nat.le_of_ble_eq_true rfl)) dX11_rowsPresent_19 ⟨Nat.le_of_ble_eq_true rfl, Nat.le_of_ble_eq_true rfl⟩) (fun r4 u3 H locs hwu3 hP hD hS => ?_)
  have r4_e : r4 = 0 := hwu3
  subst r4_e
  have hP : va_P D vwCl [(x0, .inr (11, fx)), (rw, .inl (K 6, 4, .inr (.inr (.inr (.inr frw))))), (r0, .inr (4, [.int 0, .int 0, .int 0, .ref n0])), (r1, .inr (4, [.int 0, .int 0, .int 0, .ref n1])), (r2, .inr (4, [.int 0, .int 0, .int 0, .ref n2])), (r3, .inr (4, [.int 0, .int 0, .int 0, .ref n3]))] H := hP
  have hD : va_D A [(x0, .inr (11, fx)), (rw, .inl (K 6, 4, .inr (.inr (.inr (.inr frw))))), (r0, .inr (4, [.int 0, .int 0, .int 0, .ref n0])), (r1, .inr (4, [.int 0, .int 0, .int 0, .ref n1])), (r2, .inr (4, [.int 0, .int 0, .int 0, .ref n2])), (r3, .inr (4, [.int 0, .int 0, .int 0, .ref n3]))] := hD
  refine lv_iadd hx hb dX11_rowsPresent_22 ?_
  refine fn_top 0 (by decide) ?_
  refine lv_istore_n (lv' := [(1, .int 0), (2, .int 1), (0, .ref x0)]) hx hb dX11_rowsPresent_23 rfl hl (by decide) rfl (fun ls hl => ?_)
  refine lv_iinc (v := 2) (lv' := [(2, .int 2), (1, .int 0), (0, .ref x0)]) hx hb dX11_rowsPresent_24 hl (k := 1) rfl (by decide) (by decide) rfl (fun ls hl => ?_)
  refine lv_goto (tgt := 4) hx hb dX11_rowsPresent_27 (by decide) ?_
  refine lv_iload_n hx hb dX11_rowsPresent_4 rfl (lv_at hl 0 rfl) ?_
  refine lv_iconst (v := 4) hx hb dX11_rowsPresent_5 (by decide) ?_
  refine lv_icmp_ge (tgt := 30) hx hb dX11_rowsPresent_6 (by decide) (fun h9 => absurd h9 (by decide)) (fun _ => ?_)
  refine lv_iload_n hx hb dX11_rowsPresent_9 rfl (lv_at hl 1 rfl) ?_
  refine lv_aload_n hx hb dX11_rowsPresent_10 rfl (lv_at hl 2 rfl) ?_
  refine va_get (D := D) (own := RX11) (ci := 11) (v := .ref rw) (C := RX11) (T := TX11) (N := 13) hx hb hts inb_X11 hown hK.1 hP 0 rfl rfl 6 (by decide) (hts _ wd_428) (fun _ h9 => h9) hx6 dX11_rowsPresent_11 ?_
  refine lv_iload_n hx hb dX11_rowsPresent_14 rfl (lv_at hl 0 rfl) ?_
  refine fn_at 15 rfl ?_
  refine va_aldq hx hb hK.1 hP 1 6 rfl rfl (by unfold vp_in; decide) dX11_rowsPresent_15 ?_
  refine fn_topv (.ref r2) (congrArg va_rf hrw_2) ?_
  refine va_getN (D := D) (own := RX11) (ci := 4) (v := .int 0) (C := RX4) (T := TX4) (N := 4) hx hb hts inb_X4 hown hK.1 hP 4 rfl rfl 0 (by decide) (hK.nf 89 rfl) (fun _ h9 => h9) rfl dX11_rowsPresent_16 ?_
  refine fn_goi (wc := []) (wr := [(x0, .inr (11, fx)), (rw, .inl (K 6, 4, .inr (.inr (.inr (.inr frw))))), (r0, .inr (4, [.int 0, .int 0, .int 0, .ref n0])), (r1, .inr (4, [.int 0, .int 0, .int 0, .ref n1])), (r2, .inr (4, [.int 0, .int 0, .int 0, .ref n2])), (r3, .inr (4, [.int 0, .int 0, .int 0, .ref n3]))]) hK hP hD hS hA [] [0, 1, 2, 3, 4, 5] rfl rfl (by decide) (fun hp => va_runS (As := [.int 0]) (rest := [.int 0]) ⟨hx, hb, hml, hown, hts⟩ (c_X11_bit (l := l) (D := D) (K := K)  _) (va_cwS 1 hts (fn_ginS (fn_gin wd_605) wd_710 wd_604 wd_1) rfl rfl rfl (by decide +kernel) ⟨Nat.le_of_ble_eq_true rfl, Nat.le_of_ble_eq_true rfl⟩) ⟨fn_blind, hp⟩ rfl rfl hl.1 rfl (lv_room (Nat.le_of_ble_eq_true rfl)) dX11_rowsPresent_19 ⟨Nat.le_of_ble_eq_true rfl, Nat.le_of_ble_eq_true rfl⟩) (fun r6 u5 H locs hwu5 hP hD hS => ?_)
  have r6_e : r6 = 0 := hwu5
  subst r6_e
  have hP : va_P D vwCl [(x0, .inr (11, fx)), (rw, .inl (K 6, 4, .inr (.inr (.inr (.inr frw))))), (r0, .inr (4, [.int 0, .int 0, .int 0, .ref n0])), (r1, .inr (4, [.int 0, .int 0, .int 0, .ref n1])), (r2, .inr (4, [.int 0, .int 0, .int 0, .ref n2])), (r3, .inr (4, [.int 0, .int 0, .int 0, .ref n3]))] H := hP
  have hD : va_D A [(x0, .inr (11, fx)), (rw, .inl (K 6, 4, .inr (.inr (.inr (.inr frw))))), (r0, .inr (4, [.int 0, .int 0, .int 0, .ref n0])), (r1, .inr (4, [.int 0, .int 0, .int 0, .ref n1])), (r2, .inr (4, [.int 0, .int 0, .int 0, .ref n2])), (r3, .inr (4, [.int 0, .int 0, .int 0, .ref n3]))] := hD
  refine lv_iadd hx hb dX11_rowsPresent_22 ?_
  refine fn_top 0 (by decide) ?_
  refine lv_istore_n (lv' := [(1, .int 0), (2, .int 2), (0, .ref x0)]) hx hb dX11_rowsPresent_23 rfl hl (by decide) rfl (fun ls hl => ?_)
  refine lv_iinc (v := 3) (lv' := [(2, .int 3), (1, .int 0), (0, .ref x0)]) hx hb dX11_rowsPresent_24 hl (k := 1) rfl (by decide) (by decide) rfl (fun ls hl => ?_)
  refine lv_goto (tgt := 4) hx hb dX11_rowsPresent_27 (by decide) ?_
  refine lv_iload_n hx hb dX11_rowsPresent_4 rfl (lv_at hl 0 rfl) ?_
  refine lv_iconst (v := 4) hx hb dX11_rowsPresent_5 (by decide) ?_
  refine lv_icmp_ge (tgt := 30) hx hb dX11_rowsPresent_6 (by decide) (fun h9 => absurd h9 (by decide)) (fun _ => ?_)
  refine lv_iload_n hx hb dX11_rowsPresent_9 rfl (lv_at hl 1 rfl) ?_
  refine lv_aload_n hx hb dX11_rowsPresent_10 rfl (lv_at hl 2 rfl) ?_
  refine va_get (D := D) (own := RX11) (ci := 11) (v := .ref rw) (C := RX11) (T := TX11) (N := 13) hx hb hts inb_X11 hown hK.1 hP 0 rfl rfl 6 (by decide) (hts _ wd_428) (fun _ h9 => h9) hx6 dX11_rowsPresent_11 ?_
  refine lv_iload_n hx hb dX11_rowsPresent_14 rfl (lv_at hl 0 rfl) ?_
  refine va_aldq hx hb hK.1 hP 1 6 rfl rfl (by unfold vp_in; decide) dX11_rowsPresent_15 ?_
  refine fn_topv (.ref r3) (congrArg va_rf hrw_3) ?_
  refine va_getN (D := D) (own := RX11) (ci := 4) (v := .int 0) (C := RX4) (T := TX4) (N := 4) hx hb hts inb_X4 hown hK.1 hP 5 rfl rfl 0 (by decide) (hK.nf 89 rfl) (fun _ h9 => h9) rfl dX11_rowsPresent_16 ?_
  refine fn_goi (wc := []) (wr := [(x0, .inr (11, fx)), (rw, .inl (K 6, 4, .inr (.inr (.inr (.inr frw))))), (r0, .inr (4, [.int 0, .int 0, .int 0, .ref n0])), (r1, .inr (4, [.int 0, .int 0, .int 0, .ref n1])), (r2, .inr (4, [.int 0, .int 0, .int 0, .ref n2])), (r3, .inr (4, [.int 0, .int 0, .int 0, .ref n3]))]) hK hP hD hS hA [] [0, 1, 2, 3, 4, 5] rfl rfl (by decide) (fun hp => va_runS (As := [.int 0]) (rest := [.int 0]) ⟨hx, hb, hml, hown, hts⟩ (c_X11_bit (l := l) (D := D) (K := K)  _) (va_cwS 1 hts (fn_ginS (fn_gin wd_605) wd_710 wd_604 wd_1) rfl rfl rfl (by decide +kernel) ⟨Nat.le_of_ble_eq_true rfl, Nat.le_of_ble_eq_true rfl⟩) ⟨fn_blind, hp⟩ rfl rfl hl.1 rfl (lv_room (Nat.le_of_ble_eq_true rfl)) dX11_rowsPresent_19 ⟨Nat.le_of_ble_eq_true rfl, Nat.le_of_ble_eq_true rfl⟩) (fun r8 u7 H locs hwu7 hP hD hS => ?_)
  have r8_e : r8 = 0 := hwu7
  subst r8_e
  have hP : va_P D vwCl [(x0, .inr (11, fx)), (rw, .inl (K 6, 4, .inr (.inr (.inr (.inr frw))))), (r0, .inr (4, [.int 0, .int 0, .int 0, .ref n0])), (r1, .inr (4, [.int 0, .int 0, .int 0, .ref n1])), (r2, .inr (4, [.int 0, .int 0, .int 0, .ref n2])), (r3, .inr (4, [.int 0, .int 0, .int 0, .ref n3]))] H := hP
  have hD : va_D A [(x0, .inr (11, fx)), (rw, .inl (K 6, 4, .inr (.inr (.inr (.inr frw))))), (r0, .inr (4, [.int 0, .int 0, .int 0, .ref n0])), (r1, .inr (4, [.int 0, .int 0, .int 0, .ref n1])), (r2, .inr (4, [.int 0, .int 0, .int 0, .ref n2])), (r3, .inr (4, [.int 0, .int 0, .int 0, .ref n3]))] := hD
  refine lv_iadd hx hb dX11_rowsPresent_22 ?_
  refine fn_top 0 (by decide) ?_
  refine lv_istore_n (lv' := [(1, .int 0), (2, .int 3), (0, .ref x0)]) hx hb dX11_rowsPresent_23 rfl hl (by decide) rfl (fun ls hl => ?_)
  refine lv_iinc (v := 4) (lv' := [(2, .int 4), (1, .int 0), (0, .ref x0)]) hx hb dX11_rowsPresent_24 hl (k := 1) rfl (by decide) (by decide) rfl (fun ls hl => ?_)
  refine fn_at 27 rfl ?_
  refine lv_goto (tgt := 4) hx hb dX11_rowsPresent_27 (by decide) ?_
  refine lv_iload_n hx hb dX11_rowsPresent_4 rfl (lv_at hl 0 rfl) ?_
  refine lv_iconst (v := 4) hx hb dX11_rowsPresent_5 (by decide) ?_
  refine lv_icmp_ge (tgt := 30) hx hb dX11_rowsPresent_6 (by decide) (fun _ => ?_) (fun h9 => absurd (by decide) h9)
  refine lv_iload_n hx hb dX11_rowsPresent_30 rfl (lv_at hl 1 rfl) ?_
  exact fn_iret hx hb hr hlocks rfl hP hD hS () (by first | rfl | decide) [] (by decide) rfl dX11_rowsPresent_31
theorem dX11_write_0 : decode cX11_write 0 = .ok (.iload_n 1, 1) := by decide +kernel
theorem dX11_write_1 : decode cX11_write 1 = .ok (.invokestatic 337, 3) := by decide +kernel
theorem dX11_write_4 : decode cX11_write 4 = .ok (.ifCond .eq 6, 3) := by decide +kernel
theorem dX11_write_7 : decode cX11_write 7 = .ok (.bipush (-2), 2) := by decide +kernel
theorem dX11_write_9 : decode cX11_write 9 = .ok (.ireturn, 1) := by decide +kernel
theorem dX11_write_10 : decode cX11_write 10 = .ok (.aload_n 0, 1) := by decide +kernel
theorem dX11_write_11 : decode cX11_write 11 = .ok (.getfield 44, 3) := by decide +kernel
theorem dX11_write_14 : decode cX11_write 14 = .ok (.iload_n 1, 1) := by decide +kernel
theorem dX11_write_15 : decode cX11_write 15 = .ok (.aaload, 1) := by decide +kernel
theorem dX11_write_16 : decode cX11_write 16 = .ok (.astore 5, 2) := by decide +kernel
theorem dX11_write_18 : decode cX11_write 18 = .ok (.aload 5, 2) := by decide +kernel
theorem dX11_write_20 : decode cX11_write 20 = .ok (.getfield 340, 3) := by decide +kernel
theorem dX11_write_23 : decode cX11_write 23 = .ok (.ifCond .ne 6, 3) := by decide +kernel
theorem dX11_write_26 : decode cX11_write 26 = .ok (.bipush (-6), 2) := by decide +kernel
theorem dX11_write_28 : decode cX11_write 28 = .ok (.ireturn, 1) := by decide +kernel
set_option maxHeartbeats 4000000 in
set_option maxRecDepth 100000 in
theorem c_X11_write (l : Launch) (D : va_G) (K : Nat → ClassId) (rw r0 r1 r2 r3 n0 n1 n2 n3 : Nat) (x0 : Nat) (fx : List Value) (hx6 : fx[6]? = some (.ref rw)) (frw : Nat → Option Nat) (hrw_0 : frw 0 = some r0) (hrw_1 : frw 1 = some r1) (hrw_2 : frw 2 = some r2) (hrw_3 : frw 3 = some r3) (p0 p1 : Int32) (p2 : Int64) : fn_CI (S := Unit) l D K yX11_write (fn_ws yX11_write cX11_write 6 (some .int)) ({ frames := 8, cells := 0, slots := 0, locals := 200 }) [.ref x0, .int p0, .int p1, .long p2] [(x0, .inr (11, fx)), (rw, .inl (K 6, 4, .inr (.inr (.inr (.inr frw))))), (r0, .inr (4, [.int 0, .int 0, .int 0, .ref n0])), (r1, .inr (4, [.int 0, .int 0, .int 0, .ref n1])), (r2, .inr (4, [.int 0, .int 0, .int 0, .ref n2])), (r3, .inr (4, [.int 0, .int 0, .int 0, .ref n3]))] (fun r _ => r = fn_sWr p0) (fun _ => []) 0 0 := by
  refine fn_inI (cc := cX11_write) (maxL := 6) (ret := (some .int)) (by decide) rfl (Nat.le_of_ble_eq_true rfl) ?_
  intro p e s m below meth c A ls B hA hP hD hS hl
  obtain ⟨hx, hb, hr, hml, hts, hown, hlocks, hin, hK⟩ := B
  have hown : s.vm.findClass RX11 = some m.cls := hown
  have hts := fun w h => hts w (List.mem_cons_of_mem _ h)
  have hl : lv_has ls 6 [(0, .ref x0), (1, .int p0), (2, .int p1), (3, .long p2)] := hl
  refine lv_iload_n hx hb dX11_write_0 rfl (lv_at hl 1 rfl) ?_
  refine fn_goi (wc := []) (wr := [(x0, .inr (11, fx)), (rw, .inl (K 6, 4, .inr (.inr (.inr (.inr frw))))), (r0, .inr (4, [.int 0, .int 0, .int 0, .ref n0])), (r1, .inr (4, [.int 0, .int 0, .int 0, .ref n1])), (r2, .inr (4, [.int 0, .int 0, .int 0, .ref n2])), (r3, .inr (4, [.int 0, .int 0, .int 0, .ref n3]))]) hK hP hD hS hA [] [0, 1, 2, 3, 4, 5] rfl rfl (by decide) (fun hp => va_runS (As := [.int p0]) (rest := []) ⟨hx, hb, hml, hown, hts⟩ (c_X11_noSlot (l := l) (D := D) (K := K) (p0 := (p0)) _) (va_cwS 1 hts (fn_ginS (fn_gin wd_963) wd_961 wd_962 wd_1) rfl rfl rfl (by decide +kernel) ⟨Nat.le_of_ble_eq_true rfl, Nat.le_of_ble_eq_true rfl⟩) ⟨fn_blind, hp⟩ rfl rfl hl.1 rfl (lv_room (Nat.le_of_ble_eq_true rfl)) dX11_write_1 ⟨Nat.le_of_ble_eq_true rfl, Nat.le_of_ble_eq_true rfl⟩) (fun r2 u1 H locs hwu1 hP hD hS => ?_)
  rcases hwu1 with ⟨rfl, k3⟩ | ⟨rfl, k3⟩
  · have hP : va_P D vwCl [(x0, .inr (11, fx)), (rw, .inl (K 6, 4, .inr (.inr (.inr (.inr frw))))), (r0, .inr (4, [.int 0, .int 0, .int 0, .ref n0])), (r1, .inr (4, [.int 0, .int 0, .int 0, .ref n1])), (r2, .inr (4, [.int 0, .int 0, .int 0, .ref n2])), (r3, .inr (4, [.int 0, .int 0, .int 0, .ref n3]))] H := hP
    have hD : va_D A [(x0, .inr (11, fx)), (rw, .inl (K 6, 4, .inr (.inr (.inr (.inr frw))))), (r0, .inr (4, [.int 0, .int 0, .int 0, .ref n0])), (r1, .inr (4, [.int 0, .int 0, .int 0, .ref n1])), (r2, .inr (4, [.int 0, .int 0, .int 0, .ref n2])), (r3, .inr (4, [.int 0, .int 0, .int 0, .ref n3]))] := hD
    refine lv_if_eq (tgt := 10) hx hb dX11_write_4 (by decide) (fun h9 => absurd h9 (by decide)) (fun _ => ?_)
    refine lv_bipush (v := (-2)) hx hb dX11_write_7 (by decide) ?_
    exact fn_iret hx hb hr hlocks rfl hP hD hS () (by first | exact (if_neg k3).symm | decide) [] (by decide) rfl dX11_write_9
  · have hP : va_P D vwCl [(x0, .inr (11, fx)), (rw, .inl (K 6, 4, .inr (.inr (.inr (.inr frw))))), (r0, .inr (4, [.int 0, .int 0, .int 0, .ref n0])), (r1, .inr (4, [.int 0, .int 0, .int 0, .ref n1])), (r2, .inr (4, [.int 0, .int 0, .int 0, .ref n2])), (r3, .inr (4, [.int 0, .int 0, .int 0, .ref n3]))] H := hP
    have hD : va_D A [(x0, .inr (11, fx)), (rw, .inl (K 6, 4, .inr (.inr (.inr (.inr frw))))), (r0, .inr (4, [.int 0, .int 0, .int 0, .ref n0])), (r1, .inr (4, [.int 0, .int 0, .int 0, .ref n1])), (r2, .inr (4, [.int 0, .int 0, .int 0, .ref n2])), (r3, .inr (4, [.int 0, .int 0, .int 0, .ref n3]))] := hD
    refine lv_if_eq (tgt := 10) hx hb dX11_write_4 (by decide) (fun _ => ?_) (fun h9 => absurd (by decide) h9)
    rcases (fn_c4 k3) with rfl | rfl | rfl | rfl
    · refine lv_aload_n hx hb dX11_write_10 rfl (lv_at hl 0 rfl) ?_
      refine va_get (D := D) (own := RX11) (ci := 11) (v := .ref rw) (C := RX11) (T := TX11) (N := 13) hx hb hts inb_X11 hown hK.1 hP 0 rfl rfl 6 (by decide) (hts _ wd_428) (fun _ h9 => h9) hx6 dX11_write_11 ?_
      refine lv_iload_n hx hb dX11_write_14 rfl (lv_at hl 1 rfl) ?_
      refine va_aldq hx hb hK.1 hP 1 6 rfl rfl (by unfold vp_in; decide) dX11_write_15 ?_
      refine fn_topv (.ref r0) (congrArg va_rf hrw_0) ?_
      refine lv_astore (lv' := [(5, .ref r0), (0, .ref x0), (1, .int 0), (2, .int p1), (3, .long p2)]) hx hb dX11_write_16 hl (by decide) rfl (fun ls hl => ?_)
      refine lv_aload hx hb dX11_write_18 (lv_at hl 0 rfl) ?_
      refine va_getN (D := D) (own := RX11) (ci := 4) (v := .int 0) (C := RX4) (T := TX4) (N := 4) hx hb hts inb_X4 hown hK.1 hP 2 rfl rfl 0 (by decide) (hK.nf 89 rfl) (fun _ h9 => h9) rfl dX11_write_20 ?_
      refine lv_if_ne (tgt := 29) hx hb dX11_write_23 (by decide) (fun h9 => absurd rfl h9) (fun _ => ?_)
      refine lv_bipush (v := (-6)) hx hb dX11_write_26 (by decide) ?_
      exact fn_iret hx hb hr hlocks rfl hP hD hS () (by first | exact (if_neg k3).symm | decide) [] (by decide) rfl dX11_write_28
    · refine lv_aload_n hx hb dX11_write_10 rfl (lv_at hl 0 rfl) ?_
      refine va_get (D := D) (own := RX11) (ci := 11) (v := .ref rw) (C := RX11) (T := TX11) (N := 13) hx hb hts inb_X11 hown hK.1 hP 0 rfl rfl 6 (by decide) (hts _ wd_428) (fun _ h9 => h9) hx6 dX11_write_11 ?_
      refine lv_iload_n hx hb dX11_write_14 rfl (lv_at hl 1 rfl) ?_
      refine va_aldq hx hb hK.1 hP 1 6 rfl rfl (by unfold vp_in; decide) dX11_write_15 ?_
      refine fn_topv (.ref r1) (congrArg va_rf hrw_1) ?_
      refine lv_astore (lv' := [(5, .ref r1), (0, .ref x0), (1, .int 1), (2, .int p1), (3, .long p2)]) hx hb dX11_write_16 hl (by decide) rfl (fun ls hl => ?_)
      refine lv_aload hx hb dX11_write_18 (lv_at hl 0 rfl) ?_
      refine va_getN (D := D) (own := RX11) (ci := 4) (v := .int 0) (C := RX4) (T := TX4) (N := 4) hx hb hts inb_X4 hown hK.1 hP 3 rfl rfl 0 (by decide) (hK.nf 89 rfl) (fun _ h9 => h9) rfl dX11_write_20 ?_
      refine lv_if_ne (tgt := 29) hx hb dX11_write_23 (by decide) (fun h9 => absurd rfl h9) (fun _ => ?_)
      refine lv_bipush (v := (-6)) hx hb dX11_write_26 (by decide) ?_
      exact fn_iret hx hb hr hlocks rfl hP hD hS () (by first | exact (if_neg k3).symm | decide) [] (by decide) rfl dX11_write_28
    · refine lv_aload_n hx hb dX11_write_10 rfl (lv_at hl 0 rfl) ?_
      refine va_get (D := D) (own := RX11) (ci := 11) (v := .ref rw) (C := RX11) (T := TX11) (N := 13) hx hb hts inb_X11 hown hK.1 hP 0 rfl rfl 6 (by decide) (hts _ wd_428) (fun _ h9 => h9) hx6 dX11_write_11 ?_
      refine lv_iload_n hx hb dX11_write_14 rfl (lv_at hl 1 rfl) ?_
      refine va_aldq hx hb hK.1 hP 1 6 rfl rfl (by unfold vp_in; decide) dX11_write_15 ?_
      refine fn_topv (.ref r2) (congrArg va_rf hrw_2) ?_
      refine lv_astore (lv' := [(5, .ref r2), (0, .ref x0), (1, .int 2), (2, .int p1), (3, .long p2)]) hx hb dX11_write_16 hl (by decide) rfl (fun ls hl => ?_)
      refine lv_aload hx hb dX11_write_18 (lv_at hl 0 rfl) ?_
      refine va_getN (D := D) (own := RX11) (ci := 4) (v := .int 0) (C := RX4) (T := TX4) (N := 4) hx hb hts inb_X4 hown hK.1 hP 4 rfl rfl 0 (by decide) (hK.nf 89 rfl) (fun _ h9 => h9) rfl dX11_write_20 ?_
      refine lv_if_ne (tgt := 29) hx hb dX11_write_23 (by decide) (fun h9 => absurd rfl h9) (fun _ => ?_)
      refine lv_bipush (v := (-6)) hx hb dX11_write_26 (by decide) ?_
      exact fn_iret hx hb hr hlocks rfl hP hD hS () (by first | exact (if_neg k3).symm | decide) [] (by decide) rfl dX11_write_28
    · refine lv_aload_n hx hb dX11_write_10 rfl (lv_at hl 0 rfl) ?_
      refine va_get (D := D) (own := RX11) (ci := 11) (v := .ref rw) (C := RX11) (T := TX11) (N := 13) hx hb hts inb_X11 hown hK.1 hP 0 rfl rfl 6 (by decide) (hts _ wd_428) (fun _ h9 => h9) hx6 dX11_write_11 ?_
      refine lv_iload_n hx hb dX11_write_14 rfl (lv_at hl 1 rfl) ?_
      refine va_aldq hx hb hK.1 hP 1 6 rfl rfl (by unfold vp_in; decide) dX11_write_15 ?_
      refine fn_topv (.ref r3) (congrArg va_rf hrw_3) ?_
      refine lv_astore (lv' := [(5, .ref r3), (0, .ref x0), (1, .int 3), (2, .int p1), (3, .long p2)]) hx hb dX11_write_16 hl (by decide) rfl (fun ls hl => ?_)
      refine lv_aload hx hb dX11_write_18 (lv_at hl 0 rfl) ?_
      refine va_getN (D := D) (own := RX11) (ci := 4) (v := .int 0) (C := RX4) (T := TX4) (N := 4) hx hb hts inb_X4 hown hK.1 hP 5 rfl rfl 0 (by decide) (hK.nf 89 rfl) (fun _ h9 => h9) rfl dX11_write_20 ?_
      refine lv_if_ne (tgt := 29) hx hb dX11_write_23 (by decide) (fun h9 => absurd rfl h9) (fun _ => ?_)
      refine lv_bipush (v := (-6)) hx hb dX11_write_26 (by decide) ?_
      exact fn_iret hx hb hr hlocks rfl hP hD hS () (by first | exact (if_neg k3).symm | decide) [] (by decide) rfl dX11_write_28
theorem dX11_paste_0 : decode cX11_paste 0 = .ok (.iload_n 1, 1) := by decide +kernel
theorem dX11_paste_1 : decode cX11_paste 1 = .ok (.invokestatic 337, 3) := by decide +kernel
theorem dX11_paste_4 : decode cX11_paste 4 = .ok (.ifCond .ne 10, 3) := by decide +kernel
theorem dX11_paste_14 : decode cX11_paste 14 = .ok (.bipush (-2), 2) := by decide +kernel
theorem dX11_paste_16 : decode cX11_paste 16 = .ok (.ireturn, 1) := by decide +kernel
theorem dX11_paste_7 : decode cX11_paste 7 = .ok (.iload_n 3, 1) := by decide +kernel
theorem dX11_paste_8 : decode cX11_paste 8 = .ok (.invokestatic 337, 3) := by decide +kernel
theorem dX11_paste_11 : decode cX11_paste 11 = .ok (.ifCond .eq 6, 3) := by decide +kernel
theorem dX11_paste_17 : decode cX11_paste 17 = .ok (.aload_n 0, 1) := by decide +kernel
theorem dX11_paste_18 : decode cX11_paste 18 = .ok (.getfield 44, 3) := by decide +kernel
theorem dX11_paste_21 : decode cX11_paste 21 = .ok (.iload_n 1, 1) := by decide +kernel
theorem dX11_paste_22 : decode cX11_paste 22 = .ok (.aaload, 1) := by decide +kernel
theorem dX11_paste_23 : decode cX11_paste 23 = .ok (.astore 6, 2) := by decide +kernel
theorem dX11_paste_25 : decode cX11_paste 25 = .ok (.aload_n 0, 1) := by decide +kernel
theorem dX11_paste_26 : decode cX11_paste 26 = .ok (.getfield 44, 3) := by decide +kernel
theorem dX11_paste_29 : decode cX11_paste 29 = .ok (.iload_n 3, 1) := by decide +kernel
theorem dX11_paste_30 : decode cX11_paste 30 = .ok (.aaload, 1) := by decide +kernel
theorem dX11_paste_31 : decode cX11_paste 31 = .ok (.astore 7, 2) := by decide +kernel
theorem dX11_paste_33 : decode cX11_paste 33 = .ok (.aload 6, 2) := by decide +kernel
theorem dX11_paste_35 : decode cX11_paste 35 = .ok (.getfield 340, 3) := by decide +kernel
theorem dX11_paste_38 : decode cX11_paste 38 = .ok (.ifCond .eq 11, 3) := by decide +kernel
theorem dX11_paste_49 : decode cX11_paste 49 = .ok (.bipush (-6), 2) := by decide +kernel
theorem dX11_paste_51 : decode cX11_paste 51 = .ok (.ireturn, 1) := by decide +kernel
set_option maxHeartbeats 4000000 in
set_option maxRecDepth 100000 in
theorem c_X11_paste (l : Launch) (D : va_G) (K : Nat → ClassId) (rw r0 r1 r2 r3 n0 n1 n2 n3 : Nat) (x0 : Nat) (fx : List Value) (hx6 : fx[6]? = some (.ref rw)) (frw : Nat → Option Nat) (hrw_0 : frw 0 = some r0) (hrw_1 : frw 1 = some r1) (hrw_2 : frw 2 = some r2) (hrw_3 : frw 3 = some r3) (p0 p1 p2 p3 p4 : Int32) : fn_CI (S := Unit) l D K yX11_paste (fn_ws yX11_paste cX11_paste 8 (some .int)) ({ frames := 8, cells := 0, slots := 0, locals := 200 }) [.ref x0, .int p0, .int p1, .int p2, .int p3, .int p4] [(x0, .inr (11, fx)), (rw, .inl (K 6, 4, .inr (.inr (.inr (.inr frw))))), (r0, .inr (4, [.int 0, .int 0, .int 0, .ref n0])), (r1, .inr (4, [.int 0, .int 0, .int 0, .ref n1])), (r2, .inr (4, [.int 0, .int 0, .int 0, .ref n2])), (r3, .inr (4, [.int 0, .int 0, .int 0, .ref n3]))] (fun r _ => r = fn_sPst p0 p2) (fun _ => []) 0 0 := by
  refine fn_inI (cc := cX11_paste) (maxL := 8) (ret := (some .int)) (by decide) rfl (Nat.le_of_ble_eq_true rfl) ?_
  intro p e s m below meth c A ls B hA hP hD hS hl
  obtain ⟨hx, hb, hr, hml, hts, hown, hlocks, hin, hK⟩ := B
  have hown : s.vm.findClass RX11 = some m.cls := hown
  have hts := fun w h => hts w (List.mem_cons_of_mem _ h)
  have hl : lv_has ls 8 [(0, .ref x0), (1, .int p0), (2, .int p1), (3, .int p2), (4, .int p3), (5, .int p4)] := hl
  refine lv_iload_n hx hb dX11_paste_0 rfl (lv_at hl 1 rfl) ?_
  refine fn_goi (wc := []) (wr := [(x0, .inr (11, fx)), (rw, .inl (K 6, 4, .inr (.inr (.inr (.inr frw))))), (r0, .inr (4, [.int 0, .int 0, .int 0, .ref n0])), (r1, .inr (4, [.int 0, .int 0, .int 0, .ref n1])), (r2, .inr (4, [.int 0, .int 0, .int 0, .ref n2])), (r3, .inr (4, [.int 0, .int 0, .int 0, .ref n3]))]) hK hP hD hS hA [] [0, 1, 2, 3, 4, 5] rfl rfl (by decide) (fun hp => va_runS (As := [.int p0]) (rest := []) ⟨hx, hb, hml, hown, hts⟩ (c_X11_noSlot (l := l) (D := D) (K := K) (p0 := (p0)) _) (va_cwS 1 hts (fn_ginS (fn_gin wd_963) wd_961 wd_962 wd_1) rfl rfl rfl (by decide +kernel) ⟨Nat.le_of_ble_eq_true rfl, Nat.le_of_ble_eq_true rfl⟩) ⟨fn_blind, hp⟩ rfl rfl hl.1 rfl (lv_room (Nat.le_of_ble_eq_true rfl)) dX11_paste_1 ⟨Nat.le_of_ble_eq_true rfl, Nat.le_of_ble_eq_true rfl⟩) (fun r2 u1 H locs hwu1 hP hD hS => ?_)
  rcases hwu1 with ⟨rfl, k3⟩ | ⟨rfl, k3⟩
  · have hP : va_P D vwCl [(x0, .inr (11, fx)), (rw, .inl (K 6, 4, .inr (.inr (.inr (.inr frw))))), (r0, .inr (4, [.int 0, .int 0, .int 0, .ref n0])), (r1, .inr (4, [.int 0, .int 0, .int 0, .ref n1])), (r2, .inr (4, [.int 0, .int 0, .int 0, .ref n2])), (r3, .inr (4, [.int 0, .int 0, .int 0, .ref n3]))] H := hP
    have hD : va_D A [(x0, .inr (11, fx)), (rw, .inl (K 6, 4, .inr (.inr (.inr (.inr frw))))), (r0, .inr (4, [.int 0, .int 0, .int 0, .ref n0])), (r1, .inr (4, [.int 0, .int 0, .int 0, .ref n1])), (r2, .inr (4, [.int 0, .int 0, .int 0, .ref n2])), (r3, .inr (4, [.int 0, .int 0, .int 0, .ref n3]))] := hD
    refine lv_if_ne (tgt := 14) hx hb dX11_paste_4 (by decide) (fun _ => ?_) (fun h9 => absurd h9 (by decide))
    refine lv_bipush (v := (-2)) hx hb dX11_paste_14 (by decide) ?_
    exact fn_iret hx hb hr hlocks rfl hP hD hS () (if_neg (fun h9 => k3 h9.1)).symm [] (by decide) rfl dX11_paste_16
  · have hP : va_P D vwCl [(x0, .inr (11, fx)), (rw, .inl (K 6, 4, .inr (.inr (.inr (.inr frw))))), (r0, .inr (4, [.int 0, .int 0, .int 0, .ref n0])), (r1, .inr (4, [.int 0, .int 0, .int 0, .ref n1])), (r2, .inr (4, [.int 0, .int 0, .int 0, .ref n2])), (r3, .inr (4, [.int 0, .int 0, .int 0, .ref n3]))] H := hP
    have hD : va_D A [(x0, .inr (11, fx)), (rw, .inl (K 6, 4, .inr (.inr (.inr (.inr frw))))), (r0, .inr (4, [.int 0, .int 0, .int 0, .ref n0])), (r1, .inr (4, [.int 0, .int 0, .int 0, .ref n1])), (r2, .inr (4, [.int 0, .int 0, .int 0, .ref n2])), (r3, .inr (4, [.int 0, .int 0, .int 0, .ref n3]))] := hD
    refine lv_if_ne (tgt := 14) hx hb dX11_paste_4 (by decide) (fun h9 => absurd rfl h9) (fun _ => ?_)
    refine lv_iload_n hx hb dX11_paste_7 rfl (lv_at hl 3 rfl) ?_
    refine fn_goi (wc := []) (wr := [(x0, .inr (11, fx)), (rw, .inl (K 6, 4, .inr (.inr (.inr (.inr frw))))), (r0, .inr (4, [.int 0, .int 0, .int 0, .ref n0])), (r1, .inr (4, [.int 0, .int 0, .int 0, .ref n1])), (r2, .inr (4, [.int 0, .int 0, .int 0, .ref n2])), (r3, .inr (4, [.int 0, .int 0, .int 0, .ref n3]))]) hK hP hD hS hA [] [0, 1, 2, 3, 4, 5] rfl rfl (by decide) (fun hp => va_runS (As := [.int p2]) (rest := []) ⟨hx, hb, hml, hown, hts⟩ (c_X11_noSlot (l := l) (D := D) (K := K) (p0 := (p2)) _) (va_cwS 1 hts (fn_ginS (fn_gin wd_963) wd_961 wd_962 wd_1) rfl rfl rfl (by decide +kernel) ⟨Nat.le_of_ble_eq_true rfl, Nat.le_of_ble_eq_true rfl⟩) ⟨fn_blind, hp⟩ rfl rfl hl.1 rfl (lv_room (Nat.le_of_ble_eq_true rfl)) dX11_paste_8 ⟨Nat.le_of_ble_eq_true rfl, Nat.le_of_ble_eq_true rfl⟩) (fun r5 u4 H locs hwu4 hP hD hS => ?_)
    rcases hwu4 with ⟨rfl, k6⟩ | ⟨rfl, k6⟩
    · have hP : va_P D vwCl [(x0, .inr (11, fx)), (rw, .inl (K 6, 4, .inr (.inr (.inr (.inr frw))))), (r0, .inr (4, [.int 0, .int 0, .int 0, .ref n0])), (r1, .inr (4, [.int 0, .int 0, .int 0, .ref n1])), (r2, .inr (4, [.int 0, .int 0, .int 0, .ref n2])), (r3, .inr (4, [.int 0, .int 0, .int 0, .ref n3]))] H := hP
      have hD : va_D A [(x0, .inr (11, fx)), (rw, .inl (K 6, 4, .inr (.inr (.inr (.inr frw))))), (r0, .inr (4, [.int 0, .int 0, .int 0, .ref n0])), (r1, .inr (4, [.int 0, .int 0, .int 0, .ref n1])), (r2, .inr (4, [.int 0, .int 0, .int 0, .ref n2])), (r3, .inr (4, [.int 0, .int 0, .int 0, .ref n3]))] := hD
      refine lv_if_eq (tgt := 17) hx hb dX11_paste_11 (by decide) (fun h9 => absurd h9 (by decide)) (fun _ => ?_)
      refine lv_bipush (v := (-2)) hx hb dX11_paste_14 (by decide) ?_
      exact fn_iret hx hb hr hlocks rfl hP hD hS () (if_neg (fun h9 => k6 h9.2)).symm [] (by decide) rfl dX11_paste_16
    · have hP : va_P D vwCl [(x0, .inr (11, fx)), (rw, .inl (K 6, 4, .inr (.inr (.inr (.inr frw))))), (r0, .inr (4, [.int 0, .int 0, .int 0, .ref n0])), (r1, .inr (4, [.int 0, .int 0, .int 0, .ref n1])), (r2, .inr (4, [.int 0, .int 0, .int 0, .ref n2])), (r3, .inr (4, [.int 0, .int 0, .int 0, .ref n3]))] H := hP
      have hD : va_D A [(x0, .inr (11, fx)), (rw, .inl (K 6, 4, .inr (.inr (.inr (.inr frw))))), (r0, .inr (4, [.int 0, .int 0, .int 0, .ref n0])), (r1, .inr (4, [.int 0, .int 0, .int 0, .ref n1])), (r2, .inr (4, [.int 0, .int 0, .int 0, .ref n2])), (r3, .inr (4, [.int 0, .int 0, .int 0, .ref n3]))] := hD
      refine lv_if_eq (tgt := 17) hx hb dX11_paste_11 (by decide) (fun _ => ?_) (fun h9 => absurd (by decide) h9)
      rcases (fn_c4 k3) with rfl | rfl | rfl | rfl
      · refine lv_aload_n hx hb dX11_paste_17 rfl (lv_at hl 0 rfl) ?_
        refine va_get (D := D) (own := RX11) (ci := 11) (v := .ref rw) (C := RX11) (T := TX11) (N := 13) hx hb hts inb_X11 hown hK.1 hP 0 rfl rfl 6 (by decide) (hts _ wd_428) (fun _ h9 => h9) hx6 dX11_paste_18 ?_
        refine lv_iload_n hx hb dX11_paste_21 rfl (lv_at hl 1 rfl) ?_
        refine va_aldq hx hb hK.1 hP 1 6 rfl rfl (by unfold vp_in; decide) dX11_paste_22 ?_
        refine fn_topv (.ref r0) (congrArg va_rf hrw_0) ?_
        refine lv_astore (lv' := [(6, .ref r0), (0, .ref x0), (1, .int 0), (2, .int p1), (3, .int p2), (4, .int p3), (5, .int p4)]) hx hb dX11_paste_23 hl (by decide) rfl (fun ls hl => ?_)
        rcases (fn_c4 k6) with rfl | rfl | rfl | rfl
        · refine lv_aload_n hx hb dX11_paste_25 rfl (lv_at hl 1 rfl) ?_
          refine va_get (D := D) (own := RX11) (ci := 11) (v := .ref rw) (C := RX11) (T := TX11) (N := 13) hx hb hts inb_X11 hown hK.1 hP 0 rfl rfl 6 (by decide) (hts _ wd_428) (fun _ h9 => h9) hx6 dX11_paste_26 ?_
          refine lv_iload_n hx hb dX11_paste_29 rfl (lv_at hl 4 rfl) ?_
          refine va_aldq hx hb hK.1 hP 1 6 rfl rfl (by unfold vp_in; decide) dX11_paste_30 ?_
          refine fn_topv (.ref r0) (congrArg va_rf hrw_0) ?_
          refine lv_astore (lv' := [(7, .ref r0), (6, .ref r0), (0, .ref x0), (1, .int 0), (2, .int p1), (3, .int 0), (4, .int p3), (5, .int p4)]) hx hb dX11_paste_31 hl (by decide) rfl (fun ls hl => ?_)
          refine lv_aload hx hb dX11_paste_33 (lv_at hl 1 rfl) ?_
          refine va_getN (D := D) (own := RX11) (ci := 4) (v := .int 0) (C := RX4) (T := TX4) (N := 4) hx hb hts inb_X4 hown hK.1 hP 2 rfl rfl 0 (by decide) (hK.nf 89 rfl) (fun _ h9 => h9) rfl dX11_paste_35 ?_
          refine lv_if_eq (tgt := 49) hx hb dX11_paste_38 (by decide) (fun _ => ?_) (fun h9 => absurd (by decide) h9)
          refine fn_at 49 rfl ?_
          refine lv_bipush (v := (-6)) hx hb dX11_paste_49 (by decide) ?_
          exact fn_iret hx hb hr hlocks rfl hP hD hS () (by decide) [] (by decide) rfl dX11_paste_51
        · refine lv_aload_n hx hb dX11_paste_25 rfl (lv_at hl 1 rfl) ?_
          refine va_get (D := D) (own := RX11) (ci := 11) (v := .ref rw) (C := RX11) (T := TX11) (N := 13) hx hb hts inb_X11 hown hK.1 hP 0 rfl rfl 6 (by decide) (hts _ wd_428) (fun _ h9 => h9) hx6 dX11_paste_26 ?_
          refine lv_iload_n hx hb dX11_paste_29 rfl (lv_at hl 4 rfl) ?_
          refine va_aldq hx hb hK.1 hP 1 6 rfl rfl (by unfold vp_in; decide) dX11_paste_30 ?_
          refine fn_topv (.ref r1) (congrArg va_rf hrw_1) ?_
          refine lv_astore (lv' := [(7, .ref r1), (6, .ref r0), (0, .ref x0), (1, .int 0), (2, .int p1), (3, .int 1), (4, .int p3), (5, .int p4)]) hx hb dX11_paste_31 hl (by decide) rfl (fun ls hl => ?_)
          refine lv_aload hx hb dX11_paste_33 (lv_at hl 1 rfl) ?_
          refine va_getN (D := D) (own := RX11) (ci := 4) (v := .int 0) (C := RX4) (T := TX4) (N := 4) hx hb hts inb_X4 hown hK.1 hP 2 rfl rfl 0 (by decide) (hK.nf 89 rfl) (fun _ h9 => h9) rfl dX11_paste_35 ?_
          refine lv_if_eq (tgt := 49) hx hb dX11_paste_38 (by decide) (fun _ => ?_) (fun h9 => absurd (by decide) h9)
          refine fn_at 49 rfl ?_
          refine lv_bipush (v := (-6)) hx hb dX11_paste_49 (by decide) ?_
          exact fn_iret hx hb hr hlocks rfl hP hD hS () (by decide) [] (by decide) rfl dX11_paste_51
        · refine lv_aload_n hx hb dX11_paste_25 rfl (lv_at hl 1 rfl) ?_
          refine va_get (D := D) (own := RX11) (ci := 11) (v := .ref rw) (C := RX11) (T := TX11) (N := 13) hx hb hts inb_X11 hown hK.1 hP 0 rfl rfl 6 (by decide) (hts _ wd_428) (fun _ h9 => h9) hx6 dX11_paste_26 ?_
          refine lv_iload_n hx hb dX11_paste_29 rfl (lv_at hl 4 rfl) ?_
          refine va_aldq hx hb hK.1 hP 1 6 rfl rfl (by unfold vp_in; decide) dX11_paste_30 ?_
          refine fn_topv (.ref r2) (congrArg va_rf hrw_2) ?_
          refine lv_astore (lv' := [(7, .ref r2), (6, .ref r0), (0, .ref x0), (1, .int 0), (2, .int p1), (3, .int 2), (4, .int p3), (5, .int p4)]) hx hb dX11_paste_31 hl (by decide) rfl (fun ls hl => ?_)
          refine lv_aload hx hb dX11_paste_33 (lv_at hl 1 rfl) ?_
          refine va_getN (D := D) (own := RX11) (ci := 4) (v := .int 0) (C := RX4) (T := TX4) (N := 4) hx hb hts inb_X4 hown hK.1 hP 2 rfl rfl 0 (by decide) (hK.nf 89 rfl) (fun _ h9 => h9) rfl dX11_paste_35 ?_
          refine lv_if_eq (tgt := 49) hx hb dX11_paste_38 (by decide) (fun _ => ?_) (fun h9 => absurd (by decide) h9)
          refine fn_at 49 rfl ?_
          refine lv_bipush (v := (-6)) hx hb dX11_paste_49 (by decide) ?_
          exact fn_iret hx hb hr hlocks rfl hP hD hS () (by decide) [] (by decide) rfl dX11_paste_51
        · refine lv_aload_n hx hb dX11_paste_25 rfl (lv_at hl 1 rfl) ?_
          refine va_get (D := D) (own := RX11) (ci := 11) (v := .ref rw) (C := RX11) (T := TX11) (N := 13) hx hb hts inb_X11 hown hK.1 hP 0 rfl rfl 6 (by decide) (hts _ wd_428) (fun _ h9 => h9) hx6 dX11_paste_26 ?_
          refine lv_iload_n hx hb dX11_paste_29 rfl (lv_at hl 4 rfl) ?_
          refine va_aldq hx hb hK.1 hP 1 6 rfl rfl (by unfold vp_in; decide) dX11_paste_30 ?_
          refine fn_topv (.ref r3) (congrArg va_rf hrw_3) ?_
          refine lv_astore (lv' := [(7, .ref r3), (6, .ref r0), (0, .ref x0), (1, .int 0), (2, .int p1), (3, .int 3), (4, .int p3), (5, .int p4)]) hx hb dX11_paste_31 hl (by decide) rfl (fun ls hl => ?_)
          refine lv_aload hx hb dX11_paste_33 (lv_at hl 1 rfl) ?_
          refine va_getN (D := D) (own := RX11) (ci := 4) (v := .int 0) (C := RX4) (T := TX4) (N := 4) hx hb hts inb_X4 hown hK.1 hP 2 rfl rfl 0 (by decide) (hK.nf 89 rfl) (fun _ h9 => h9) rfl dX11_paste_35 ?_
          refine lv_if_eq (tgt := 49) hx hb dX11_paste_38 (by decide) (fun _ => ?_) (fun h9 => absurd (by decide) h9)
          refine fn_at 49 rfl ?_
          refine lv_bipush (v := (-6)) hx hb dX11_paste_49 (by decide) ?_
          exact fn_iret hx hb hr hlocks rfl hP hD hS () (by decide) [] (by decide) rfl dX11_paste_51
      · refine lv_aload_n hx hb dX11_paste_17 rfl (lv_at hl 0 rfl) ?_
        refine va_get (D := D) (own := RX11) (ci := 11) (v := .ref rw) (C := RX11) (T := TX11) (N := 13) hx hb hts inb_X11 hown hK.1 hP 0 rfl rfl 6 (by decide) (hts _ wd_428) (fun _ h9 => h9) hx6 dX11_paste_18 ?_
        refine lv_iload_n hx hb dX11_paste_21 rfl (lv_at hl 1 rfl) ?_
        refine va_aldq hx hb hK.1 hP 1 6 rfl rfl (by unfold vp_in; decide) dX11_paste_22 ?_
        refine fn_topv (.ref r1) (congrArg va_rf hrw_1) ?_
        refine lv_astore (lv' := [(6, .ref r1), (0, .ref x0), (1, .int 1), (2, .int p1), (3, .int p2), (4, .int p3), (5, .int p4)]) hx hb dX11_paste_23 hl (by decide) rfl (fun ls hl => ?_)
        rcases (fn_c4 k6) with rfl | rfl | rfl | rfl
        · refine lv_aload_n hx hb dX11_paste_25 rfl (lv_at hl 1 rfl) ?_
          refine va_get (D := D) (own := RX11) (ci := 11) (v := .ref rw) (C := RX11) (T := TX11) (N := 13) hx hb hts inb_X11 hown hK.1 hP 0 rfl rfl 6 (by decide) (hts _ wd_428) (fun _ h9 => h9) hx6 dX11_paste_26 ?_
          refine lv_iload_n hx hb dX11_paste_29 rfl (lv_at hl 4 rfl) ?_
          refine va_aldq hx hb hK.1 hP 1 6 rfl rfl (by unfold vp_in; decide) dX11_paste_30 ?_
          refine fn_topv (.ref r0) (congrArg va_rf hrw_0) ?_
          refine lv_astore (lv' := [(7, .ref r0), (6, .ref r1), (0, .ref x0), (1, .int 1), (2, .int p1), (3, .int 0), (4, .int p3), (5, .int p4)]) hx hb dX11_paste_31 hl (by decide) rfl (fun ls hl => ?_)
          refine lv_aload hx hb dX11_paste_33 (lv_at hl 1 rfl) ?_
          refine va_getN (D := D) (own := RX11) (ci := 4) (v := .int 0) (C := RX4) (T := TX4) (N := 4) hx hb hts inb_X4 hown hK.1 hP 3 rfl rfl 0 (by decide) (hK.nf 89 rfl) (fun _ h9 => h9) rfl dX11_paste_35 ?_
          refine lv_if_eq (tgt := 49) hx hb dX11_paste_38 (by decide) (fun _ => ?_) (fun h9 => absurd (by decide) h9)
          refine fn_at 49 rfl ?_
          refine lv_bipush (v := (-6)) hx hb dX11_paste_49 (by decide) ?_
          exact fn_iret hx hb hr hlocks rfl hP hD hS () (by decide) [] (by decide) rfl dX11_paste_51
        · refine lv_aload_n hx hb dX11_paste_25 rfl (lv_at hl 1 rfl) ?_
          refine va_get (D := D) (own := RX11) (ci := 11) (v := .ref rw) (C := RX11) (T := TX11) (N := 13) hx hb hts inb_X11 hown hK.1 hP 0 rfl rfl 6 (by decide) (hts _ wd_428) (fun _ h9 => h9) hx6 dX11_paste_26 ?_
          refine lv_iload_n hx hb dX11_paste_29 rfl (lv_at hl 4 rfl) ?_
          refine va_aldq hx hb hK.1 hP 1 6 rfl rfl (by unfold vp_in; decide) dX11_paste_30 ?_
          refine fn_topv (.ref r1) (congrArg va_rf hrw_1) ?_
          refine lv_astore (lv' := [(7, .ref r1), (6, .ref r1), (0, .ref x0), (1, .int 1), (2, .int p1), (3, .int 1), (4, .int p3), (5, .int p4)]) hx hb dX11_paste_31 hl (by decide) rfl (fun ls hl => ?_)
          refine lv_aload hx hb dX11_paste_33 (lv_at hl 1 rfl) ?_
          refine va_getN (D := D) (own := RX11) (ci := 4) (v := .int 0) (C := RX4) (T := TX4) (N := 4) hx hb hts inb_X4 hown hK.1 hP 3 rfl rfl 0 (by decide) (hK.nf 89 rfl) (fun _ h9 => h9) rfl dX11_paste_35 ?_
          refine lv_if_eq (tgt := 49) hx hb dX11_paste_38 (by decide) (fun _ => ?_) (fun h9 => absurd (by decide) h9)
          refine fn_at 49 rfl ?_
          refine lv_bipush (v := (-6)) hx hb dX11_paste_49 (by decide) ?_
          exact fn_iret hx hb hr hlocks rfl hP hD hS () (by decide) [] (by decide) rfl dX11_paste_51
        · refine lv_aload_n hx hb dX11_paste_25 rfl (lv_at hl 1 rfl) ?_
          refine va_get (D := D) (own := RX11) (ci := 11) (v := .ref rw) (C := RX11) (T := TX11) (N := 13) hx hb hts inb_X11 hown hK.1 hP 0 rfl rfl 6 (by decide) (hts _ wd_428) (fun _ h9 => h9) hx6 dX11_paste_26 ?_
          refine lv_iload_n hx hb dX11_paste_29 rfl (lv_at hl 4 rfl) ?_
          refine va_aldq hx hb hK.1 hP 1 6 rfl rfl (by unfold vp_in; decide) dX11_paste_30 ?_
          refine fn_topv (.ref r2) (congrArg va_rf hrw_2) ?_
          refine lv_astore (lv' := [(7, .ref r2), (6, .ref r1), (0, .ref x0), (1, .int 1), (2, .int p1), (3, .int 2), (4, .int p3), (5, .int p4)]) hx hb dX11_paste_31 hl (by decide) rfl (fun ls hl => ?_)
          refine lv_aload hx hb dX11_paste_33 (lv_at hl 1 rfl) ?_
          refine va_getN (D := D) (own := RX11) (ci := 4) (v := .int 0) (C := RX4) (T := TX4) (N := 4) hx hb hts inb_X4 hown hK.1 hP 3 rfl rfl 0 (by decide) (hK.nf 89 rfl) (fun _ h9 => h9) rfl dX11_paste_35 ?_
          refine lv_if_eq (tgt := 49) hx hb dX11_paste_38 (by decide) (fun _ => ?_) (fun h9 => absurd (by decide) h9)
          refine fn_at 49 rfl ?_
          refine lv_bipush (v := (-6)) hx hb dX11_paste_49 (by decide) ?_
          exact fn_iret hx hb hr hlocks rfl hP hD hS () (by decide) [] (by decide) rfl dX11_paste_51
        · refine lv_aload_n hx hb dX11_paste_25 rfl (lv_at hl 1 rfl) ?_
          refine va_get (D := D) (own := RX11) (ci := 11) (v := .ref rw) (C := RX11) (T := TX11) (N := 13) hx hb hts inb_X11 hown hK.1 hP 0 rfl rfl 6 (by decide) (hts _ wd_428) (fun _ h9 => h9) hx6 dX11_paste_26 ?_
          refine lv_iload_n hx hb dX11_paste_29 rfl (lv_at hl 4 rfl) ?_
          refine va_aldq hx hb hK.1 hP 1 6 rfl rfl (by unfold vp_in; decide) dX11_paste_30 ?_
          refine fn_topv (.ref r3) (congrArg va_rf hrw_3) ?_
          refine lv_astore (lv' := [(7, .ref r3), (6, .ref r1), (0, .ref x0), (1, .int 1), (2, .int p1), (3, .int 3), (4, .int p3), (5, .int p4)]) hx hb dX11_paste_31 hl (by decide) rfl (fun ls hl => ?_)
          refine lv_aload hx hb dX11_paste_33 (lv_at hl 1 rfl) ?_
          refine va_getN (D := D) (own := RX11) (ci := 4) (v := .int 0) (C := RX4) (T := TX4) (N := 4) hx hb hts inb_X4 hown hK.1 hP 3 rfl rfl 0 (by decide) (hK.nf 89 rfl) (fun _ h9 => h9) rfl dX11_paste_35 ?_
          refine lv_if_eq (tgt := 49) hx hb dX11_paste_38 (by decide) (fun _ => ?_) (fun h9 => absurd (by decide) h9)
          refine fn_at 49 rfl ?_
          refine lv_bipush (v := (-6)) hx hb dX11_paste_49 (by decide) ?_
          exact fn_iret hx hb hr hlocks rfl hP hD hS () (by decide) [] (by decide) rfl dX11_paste_51
      · refine lv_aload_n hx hb dX11_paste_17 rfl (lv_at hl 0 rfl) ?_
        refine va_get (D := D) (own := RX11) (ci := 11) (v := .ref rw) (C := RX11) (T := TX11) (N := 13) hx hb hts inb_X11 hown hK.1 hP 0 rfl rfl 6 (by decide) (hts _ wd_428) (fun _ h9 => h9) hx6 dX11_paste_18 ?_
        refine lv_iload_n hx hb dX11_paste_21 rfl (lv_at hl 1 rfl) ?_
        refine va_aldq hx hb hK.1 hP 1 6 rfl rfl (by unfold vp_in; decide) dX11_paste_22 ?_
        refine fn_topv (.ref r2) (congrArg va_rf hrw_2) ?_
        refine lv_astore (lv' := [(6, .ref r2), (0, .ref x0), (1, .int 2), (2, .int p1), (3, .int p2), (4, .int p3), (5, .int p4)]) hx hb dX11_paste_23 hl (by decide) rfl (fun ls hl => ?_)
        rcases (fn_c4 k6) with rfl | rfl | rfl | rfl
        · refine lv_aload_n hx hb dX11_paste_25 rfl (lv_at hl 1 rfl) ?_
          refine va_get (D := D) (own := RX11) (ci := 11) (v := .ref rw) (C := RX11) (T := TX11) (N := 13) hx hb hts inb_X11 hown hK.1 hP 0 rfl rfl 6 (by decide) (hts _ wd_428) (fun _ h9 => h9) hx6 dX11_paste_26 ?_
          refine lv_iload_n hx hb dX11_paste_29 rfl (lv_at hl 4 rfl) ?_
          refine va_aldq hx hb hK.1 hP 1 6 rfl rfl (by unfold vp_in; decide) dX11_paste_30 ?_
          refine fn_topv (.ref r0) (congrArg va_rf hrw_0) ?_
          refine lv_astore (lv' := [(7, .ref r0), (6, .ref r2), (0, .ref x0), (1, .int 2), (2, .int p1), (3, .int 0), (4, .int p3), (5, .int p4)]) hx hb dX11_paste_31 hl (by decide) rfl (fun ls hl => ?_)
          refine lv_aload hx hb dX11_paste_33 (lv_at hl 1 rfl) ?_
          refine va_getN (D := D) (own := RX11) (ci := 4) (v := .int 0) (C := RX4) (T := TX4) (N := 4) hx hb hts inb_X4 hown hK.1 hP 4 rfl rfl 0 (by decide) (hK.nf 89 rfl) (fun _ h9 => h9) rfl dX11_paste_35 ?_
          refine lv_if_eq (tgt := 49) hx hb dX11_paste_38 (by decide) (fun _ => ?_) (fun h9 => absurd (by decide) h9)
          refine fn_at 49 rfl ?_
          refine lv_bipush (v := (-6)) hx hb dX11_paste_49 (by decide) ?_
          exact fn_iret hx hb hr hlocks rfl hP hD hS () (by decide) [] (by decide) rfl dX11_paste_51
        · refine lv_aload_n hx hb dX11_paste_25 rfl (lv_at hl 1 rfl) ?_
          refine va_get (D := D) (own := RX11) (ci := 11) (v := .ref rw) (C := RX11) (T := TX11) (N := 13) hx hb hts inb_X11 hown hK.1 hP 0 rfl rfl 6 (by decide) (hts _ wd_428) (fun _ h9 => h9) hx6 dX11_paste_26 ?_
          refine lv_iload_n hx hb dX11_paste_29 rfl (lv_at hl 4 rfl) ?_
          refine va_aldq hx hb hK.1 hP 1 6 rfl rfl (by unfold vp_in; decide) dX11_paste_30 ?_
          refine fn_topv (.ref r1) (congrArg va_rf hrw_1) ?_
          refine lv_astore (lv' := [(7, .ref r1), (6, .ref r2), (0, .ref x0), (1, .int 2), (2, .int p1), (3, .int 1), (4, .int p3), (5, .int p4)]) hx hb dX11_paste_31 hl (by decide) rfl (fun ls hl => ?_)
          refine lv_aload hx hb dX11_paste_33 (lv_at hl 1 rfl) ?_
          refine va_getN (D := D) (own := RX11) (ci := 4) (v := .int 0) (C := RX4) (T := TX4) (N := 4) hx hb hts inb_X4 hown hK.1 hP 4 rfl rfl 0 (by decide) (hK.nf 89 rfl) (fun _ h9 => h9) rfl dX11_paste_35 ?_
          refine lv_if_eq (tgt := 49) hx hb dX11_paste_38 (by decide) (fun _ => ?_) (fun h9 => absurd (by decide) h9)
          refine fn_at 49 rfl ?_
          refine lv_bipush (v := (-6)) hx hb dX11_paste_49 (by decide) ?_
          exact fn_iret hx hb hr hlocks rfl hP hD hS () (by decide) [] (by decide) rfl dX11_paste_51
        · refine lv_aload_n hx hb dX11_paste_25 rfl (lv_at hl 1 rfl) ?_
          refine va_get (D := D) (own := RX11) (ci := 11) (v := .ref rw) (C := RX11) (T := TX11) (N := 13) hx hb hts inb_X11 hown hK.1 hP 0 rfl rfl 6 (by decide) (hts _ wd_428) (fun _ h9 => h9) hx6 dX11_paste_26 ?_
          refine lv_iload_n hx hb dX11_paste_29 rfl (lv_at hl 4 rfl) ?_
          refine va_aldq hx hb hK.1 hP 1 6 rfl rfl (by unfold vp_in; decide) dX11_paste_30 ?_
          refine fn_topv (.ref r2) (congrArg va_rf hrw_2) ?_
          refine lv_astore (lv' := [(7, .ref r2), (6, .ref r2), (0, .ref x0), (1, .int 2), (2, .int p1), (3, .int 2), (4, .int p3), (5, .int p4)]) hx hb dX11_paste_31 hl (by decide) rfl (fun ls hl => ?_)
          refine lv_aload hx hb dX11_paste_33 (lv_at hl 1 rfl) ?_
          refine va_getN (D := D) (own := RX11) (ci := 4) (v := .int 0) (C := RX4) (T := TX4) (N := 4) hx hb hts inb_X4 hown hK.1 hP 4 rfl rfl 0 (by decide) (hK.nf 89 rfl) (fun _ h9 => h9) rfl dX11_paste_35 ?_
          refine lv_if_eq (tgt := 49) hx hb dX11_paste_38 (by decide) (fun _ => ?_) (fun h9 => absurd (by decide) h9)
          refine fn_at 49 rfl ?_
          refine lv_bipush (v := (-6)) hx hb dX11_paste_49 (by decide) ?_
          exact fn_iret hx hb hr hlocks rfl hP hD hS () (by decide) [] (by decide) rfl dX11_paste_51
        · refine lv_aload_n hx hb dX11_paste_25 rfl (lv_at hl 1 rfl) ?_
          refine va_get (D := D) (own := RX11) (ci := 11) (v := .ref rw) (C := RX11) (T := TX11) (N := 13) hx hb hts inb_X11 hown hK.1 hP 0 rfl rfl 6 (by decide) (hts _ wd_428) (fun _ h9 => h9) hx6 dX11_paste_26 ?_
          refine lv_iload_n hx hb dX11_paste_29 rfl (lv_at hl 4 rfl) ?_
          refine va_aldq hx hb hK.1 hP 1 6 rfl rfl (by unfold vp_in; decide) dX11_paste_30 ?_
          refine fn_topv (.ref r3) (congrArg va_rf hrw_3) ?_
          refine lv_astore (lv' := [(7, .ref r3), (6, .ref r2), (0, .ref x0), (1, .int 2), (2, .int p1), (3, .int 3), (4, .int p3), (5, .int p4)]) hx hb dX11_paste_31 hl (by decide) rfl (fun ls hl => ?_)
          refine lv_aload hx hb dX11_paste_33 (lv_at hl 1 rfl) ?_
          refine va_getN (D := D) (own := RX11) (ci := 4) (v := .int 0) (C := RX4) (T := TX4) (N := 4) hx hb hts inb_X4 hown hK.1 hP 4 rfl rfl 0 (by decide) (hK.nf 89 rfl) (fun _ h9 => h9) rfl dX11_paste_35 ?_
          refine lv_if_eq (tgt := 49) hx hb dX11_paste_38 (by decide) (fun _ => ?_) (fun h9 => absurd (by decide) h9)
          refine fn_at 49 rfl ?_
          refine lv_bipush (v := (-6)) hx hb dX11_paste_49 (by decide) ?_
          exact fn_iret hx hb hr hlocks rfl hP hD hS () (by decide) [] (by decide) rfl dX11_paste_51
      · refine lv_aload_n hx hb dX11_paste_17 rfl (lv_at hl 0 rfl) ?_
        refine va_get (D := D) (own := RX11) (ci := 11) (v := .ref rw) (C := RX11) (T := TX11) (N := 13) hx hb hts inb_X11 hown hK.1 hP 0 rfl rfl 6 (by decide) (hts _ wd_428) (fun _ h9 => h9) hx6 dX11_paste_18 ?_
        refine lv_iload_n hx hb dX11_paste_21 rfl (lv_at hl 1 rfl) ?_
        refine va_aldq hx hb hK.1 hP 1 6 rfl rfl (by unfold vp_in; decide) dX11_paste_22 ?_
        refine fn_topv (.ref r3) (congrArg va_rf hrw_3) ?_
        refine lv_astore (lv' := [(6, .ref r3), (0, .ref x0), (1, .int 3), (2, .int p1), (3, .int p2), (4, .int p3), (5, .int p4)]) hx hb dX11_paste_23 hl (by decide) rfl (fun ls hl => ?_)
        rcases (fn_c4 k6) with rfl | rfl | rfl | rfl
        · refine lv_aload_n hx hb dX11_paste_25 rfl (lv_at hl 1 rfl) ?_
          refine va_get (D := D) (own := RX11) (ci := 11) (v := .ref rw) (C := RX11) (T := TX11) (N := 13) hx hb hts inb_X11 hown hK.1 hP 0 rfl rfl 6 (by decide) (hts _ wd_428) (fun _ h9 => h9) hx6 dX11_paste_26 ?_
          refine lv_iload_n hx hb dX11_paste_29 rfl (lv_at hl 4 rfl) ?_
          refine va_aldq hx hb hK.1 hP 1 6 rfl rfl (by unfold vp_in; decide) dX11_paste_30 ?_
          refine fn_topv (.ref r0) (congrArg va_rf hrw_0) ?_
          refine lv_astore (lv' := [(7, .ref r0), (6, .ref r3), (0, .ref x0), (1, .int 3), (2, .int p1), (3, .int 0), (4, .int p3), (5, .int p4)]) hx hb dX11_paste_31 hl (by decide) rfl (fun ls hl => ?_)
          refine lv_aload hx hb dX11_paste_33 (lv_at hl 1 rfl) ?_
          refine va_getN (D := D) (own := RX11) (ci := 4) (v := .int 0) (C := RX4) (T := TX4) (N := 4) hx hb hts inb_X4 hown hK.1 hP 5 rfl rfl 0 (by decide) (hK.nf 89 rfl) (fun _ h9 => h9) rfl dX11_paste_35 ?_
          refine lv_if_eq (tgt := 49) hx hb dX11_paste_38 (by decide) (fun _ => ?_) (fun h9 => absurd (by decide) h9)
          refine fn_at 49 rfl ?_
          refine lv_bipush (v := (-6)) hx hb dX11_paste_49 (by decide) ?_
          exact fn_iret hx hb hr hlocks rfl hP hD hS () (by decide) [] (by decide) rfl dX11_paste_51
        · refine lv_aload_n hx hb dX11_paste_25 rfl (lv_at hl 1 rfl) ?_
          refine va_get (D := D) (own := RX11) (ci := 11) (v := .ref rw) (C := RX11) (T := TX11) (N := 13) hx hb hts inb_X11 hown hK.1 hP 0 rfl rfl 6 (by decide) (hts _ wd_428) (fun _ h9 => h9) hx6 dX11_paste_26 ?_
          refine lv_iload_n hx hb dX11_paste_29 rfl (lv_at hl 4 rfl) ?_
          refine va_aldq hx hb hK.1 hP 1 6 rfl rfl (by unfold vp_in; decide) dX11_paste_30 ?_
          refine fn_topv (.ref r1) (congrArg va_rf hrw_1) ?_
          refine lv_astore (lv' := [(7, .ref r1), (6, .ref r3), (0, .ref x0), (1, .int 3), (2, .int p1), (3, .int 1), (4, .int p3), (5, .int p4)]) hx hb dX11_paste_31 hl (by decide) rfl (fun ls hl => ?_)
          refine lv_aload hx hb dX11_paste_33 (lv_at hl 1 rfl) ?_
          refine va_getN (D := D) (own := RX11) (ci := 4) (v := .int 0) (C := RX4) (T := TX4) (N := 4) hx hb hts inb_X4 hown hK.1 hP 5 rfl rfl 0 (by decide) (hK.nf 89 rfl) (fun _ h9 => h9) rfl dX11_paste_35 ?_
          refine lv_if_eq (tgt := 49) hx hb dX11_paste_38 (by decide) (fun _ => ?_) (fun h9 => absurd (by decide) h9)
          refine fn_at 49 rfl ?_
          refine lv_bipush (v := (-6)) hx hb dX11_paste_49 (by decide) ?_
          exact fn_iret hx hb hr hlocks rfl hP hD hS () (by decide) [] (by decide) rfl dX11_paste_51
        · refine lv_aload_n hx hb dX11_paste_25 rfl (lv_at hl 1 rfl) ?_
          refine va_get (D := D) (own := RX11) (ci := 11) (v := .ref rw) (C := RX11) (T := TX11) (N := 13) hx hb hts inb_X11 hown hK.1 hP 0 rfl rfl 6 (by decide) (hts _ wd_428) (fun _ h9 => h9) hx6 dX11_paste_26 ?_
          refine lv_iload_n hx hb dX11_paste_29 rfl (lv_at hl 4 rfl) ?_
          refine va_aldq hx hb hK.1 hP 1 6 rfl rfl (by unfold vp_in; decide) dX11_paste_30 ?_
          refine fn_topv (.ref r2) (congrArg va_rf hrw_2) ?_
          refine lv_astore (lv' := [(7, .ref r2), (6, .ref r3), (0, .ref x0), (1, .int 3), (2, .int p1), (3, .int 2), (4, .int p3), (5, .int p4)]) hx hb dX11_paste_31 hl (by decide) rfl (fun ls hl => ?_)
          refine lv_aload hx hb dX11_paste_33 (lv_at hl 1 rfl) ?_
          refine va_getN (D := D) (own := RX11) (ci := 4) (v := .int 0) (C := RX4) (T := TX4) (N := 4) hx hb hts inb_X4 hown hK.1 hP 5 rfl rfl 0 (by decide) (hK.nf 89 rfl) (fun _ h9 => h9) rfl dX11_paste_35 ?_
          refine lv_if_eq (tgt := 49) hx hb dX11_paste_38 (by decide) (fun _ => ?_) (fun h9 => absurd (by decide) h9)
          refine fn_at 49 rfl ?_
          refine lv_bipush (v := (-6)) hx hb dX11_paste_49 (by decide) ?_
          exact fn_iret hx hb hr hlocks rfl hP hD hS () (by decide) [] (by decide) rfl dX11_paste_51
        · refine lv_aload_n hx hb dX11_paste_25 rfl (lv_at hl 1 rfl) ?_
          refine va_get (D := D) (own := RX11) (ci := 11) (v := .ref rw) (C := RX11) (T := TX11) (N := 13) hx hb hts inb_X11 hown hK.1 hP 0 rfl rfl 6 (by decide) (hts _ wd_428) (fun _ h9 => h9) hx6 dX11_paste_26 ?_
          refine lv_iload_n hx hb dX11_paste_29 rfl (lv_at hl 4 rfl) ?_
          refine va_aldq hx hb hK.1 hP 1 6 rfl rfl (by unfold vp_in; decide) dX11_paste_30 ?_
          refine fn_topv (.ref r3) (congrArg va_rf hrw_3) ?_
          refine lv_astore (lv' := [(7, .ref r3), (6, .ref r3), (0, .ref x0), (1, .int 3), (2, .int p1), (3, .int 3), (4, .int p3), (5, .int p4)]) hx hb dX11_paste_31 hl (by decide) rfl (fun ls hl => ?_)
          refine lv_aload hx hb dX11_paste_33 (lv_at hl 1 rfl) ?_
          refine va_getN (D := D) (own := RX11) (ci := 4) (v := .int 0) (C := RX4) (T := TX4) (N := 4) hx hb hts inb_X4 hown hK.1 hP 5 rfl rfl 0 (by decide) (hK.nf 89 rfl) (fun _ h9 => h9) rfl dX11_paste_35 ?_
          refine lv_if_eq (tgt := 49) hx hb dX11_paste_38 (by decide) (fun _ => ?_) (fun h9 => absurd (by decide) h9)
          refine fn_at 49 rfl ?_
          refine lv_bipush (v := (-6)) hx hb dX11_paste_49 (by decide) ?_
          exact fn_iret hx hb hr hlocks rfl hP hD hS () (by decide) [] (by decide) rfl dX11_paste_51
theorem dX4_begin_0 : decode cX4_begin 0 = .ok (.aload_n 0, 1) := by decide +kernel
theorem dX4_begin_1 : decode cX4_begin 1 = .ok (.iconst 1, 1) := by decide +kernel
theorem dX4_begin_2 : decode cX4_begin 2 = .ok (.putfield 15, 3) := by decide +kernel
theorem dX4_begin_5 : decode cX4_begin 5 = .ok (.aload_n 0, 1) := by decide +kernel
theorem dX4_begin_6 : decode cX4_begin 6 = .ok (.iload_n 1, 1) := by decide +kernel
theorem dX4_begin_7 : decode cX4_begin 7 = .ok (.putfield 19, 3) := by decide +kernel
theorem dX4_begin_10 : decode cX4_begin 10 = .ok (.aload_n 0, 1) := by decide +kernel
theorem dX4_begin_11 : decode cX4_begin 11 = .ok (.iload_n 2, 1) := by decide +kernel
theorem dX4_begin_12 : decode cX4_begin 12 = .ok (.putfield 23, 3) := by decide +kernel
theorem dX4_begin_15 : decode cX4_begin 15 = .ok (.aload_n 0, 1) := by decide +kernel
theorem dX4_begin_16 : decode cX4_begin 16 = .ok (.getfield 9, 3) := by decide +kernel
theorem dX4_begin_19 : decode cX4_begin 19 = .ok (.lconst 0, 1) := by decide +kernel
theorem dX4_begin_20 : decode cX4_begin 20 = .ok (.invokestatic 26, 3) := by decide +kernel
theorem dX4_begin_23 : decode cX4_begin 23 = .ok (.return_, 1) := by decide +kernel
set_option maxHeartbeats 4000000 in
set_option maxRecDepth 100000 in
theorem c_X4_begin (l : Launch) (D : va_G) (K : Nat → ClassId) (r0 n0 : Nat) (fn0 : Nat → Int64) (p0 p1 : Int32) : fn_CV (S := Unit) l D K yX4_begin (fn_ws yX4_begin cX4_begin 3 none) ({ frames := 8, cells := 0, slots := 0, locals := 200 }) [.ref r0, .int p0, .int p1] [(r0, .inr (4, [.int 0, .int 0, .int 0, .ref n0])), (n0, .inl (K 3, 60, .inr (.inl fn0)))] (fun _ => True) (fun _ => []) 0 0 := by
  refine fn_inV (cc := cX4_begin) (maxL := 3) (ret := none) (by decide) rfl (Nat.le_of_ble_eq_true rfl) ?_
  intro p e s m below meth c A ls B hA hP hD hS hl
  obtain ⟨hx, hb, hr, hml, hts, hown, hlocks, hin, hK⟩ := B
  have hown : s.vm.findClass RX4 = some m.cls := hown
  have hts := fun w h => hts w (List.mem_cons_of_mem _ h)
  have hl : lv_has ls 3 [(0, .ref r0), (1, .int p0), (2, .int p1)] := hl
  refine lv_aload_n hx hb dX4_begin_0 rfl (lv_at hl 0 rfl) ?_
  refine lv_iconst (v := 1) hx hb dX4_begin_1 (by decide) ?_
  refine va_put (D := D) (own := RX4) (ci := 4) (v := .int 1) (ty := .boolean) (C := RX4) (T := TX4) (N := 4) hx hb hts inb_X4 tyX4 tyX4_ok nmX4 hown hK.1 hP hD hS 0 rfl rfl 0 (by decide) (hts _ wd_404) (fun _ h9 => h9) rfl (by decide +kernel) rfl rfl (Nat.le_of_ble_eq_true rfl) dX4_begin_2 (fun H locs hP hD hS => ?_)
  have hP : va_P D vwCl [(r0, .inr (4, [.int 1, .int 0, .int 0, .ref n0])), (n0, .inl (K 3, 60, .inr (.inl fn0)))] H := hP
  have hD : va_D A [(r0, .inr (4, [.int 1, .int 0, .int 0, .ref n0])), (n0, .inl (K 3, 60, .inr (.inl fn0)))] := hD
  refine lv_aload_n hx hb dX4_begin_5 rfl (lv_at hl 0 rfl) ?_
  refine lv_iload_n hx hb dX4_begin_6 rfl (lv_at hl 1 rfl) ?_
  refine va_put (D := D) (own := RX4) (ci := 4) (v := .int p0) (ty := .int) (C := RX4) (T := TX4) (N := 4) hx hb hts inb_X4 tyX4 tyX4_ok nmX4 hown hK.1 hP hD hS 0 rfl rfl 1 (by decide) (hts _ wd_406) (fun _ h9 => h9) rfl (by decide +kernel) rfl rfl (Nat.le_of_ble_eq_true rfl) dX4_begin_7 (fun H locs hP hD hS => ?_)
  have hP : va_P D vwCl [(r0, .inr (4, [.int 1, .int p0, .int 0, .ref n0])), (n0, .inl (K 3, 60, .inr (.inl fn0)))] H := hP
  have hD : va_D A [(r0, .inr (4, [.int 1, .int p0, .int 0, .ref n0])), (n0, .inl (K 3, 60, .inr (.inl fn0)))] := hD
  refine lv_aload_n hx hb dX4_begin_10 rfl (lv_at hl 0 rfl) ?_
  refine lv_iload_n hx hb dX4_begin_11 rfl (lv_at hl 2 rfl) ?_
  refine va_put (D := D) (own := RX4) (ci := 4) (v := .int p1) (ty := .int) (C := RX4) (T := TX4) (N := 4) hx hb hts inb_X4 tyX4 tyX4_ok nmX4 hown hK.1 hP hD hS 0 rfl rfl 2 (by decide) (hts _ wd_408) (fun _ h9 => h9) rfl (by decide +kernel) rfl rfl (Nat.le_of_ble_eq_true rfl) dX4_begin_12 (fun H locs hP hD hS => ?_)
  have hP : va_P D vwCl [(r0, .inr (4, [.int 1, .int p0, .int p1, .ref n0])), (n0, .inl (K 3, 60, .inr (.inl fn0)))] H := hP
  have hD : va_D A [(r0, .inr (4, [.int 1, .int p0, .int p1, .ref n0])), (n0, .inl (K 3, 60, .inr (.inl fn0)))] := hD
  refine lv_aload_n hx hb dX4_begin_15 rfl (lv_at hl 0 rfl) ?_
  refine va_get (D := D) (own := RX4) (ci := 4) (v := .ref n0) (C := RX4) (T := TX4) (N := 4) hx hb hts inb_X4 hown hK.1 hP 0 rfl rfl 3 (by decide) (hts _ wd_410) (fun _ h9 => h9) rfl dX4_begin_16 ?_
  refine lv_lconst (v := 0) hx hb dX4_begin_19 (by decide) ?_
  refine fn_gov (wc := [(n0, .inl (K 3, 60, .inr (.inl fn0)))]) (wr := [(r0, .inr (4, [.int 1, .int p0, .int p1, .ref n0]))]) hK hP hD hS hA [1] [0] rfl rfl (by decide) (fun hp => va_runS (As := [.ref n0, .long 0]) (rest := []) ⟨hx, hb, hml, hown, hts⟩ (c_J7_fill_d0a16 (l := l) (D := D) (K := K) (a0 := (n0)) (p1 := (0)) (n := 60) (f := (fn0)) (hn := (by decide)) _) (va_cwS 2 hts (fn_ginS (fn_gin wd_1210) wd_1208 wd_1209 wd_20) rfl rfl rfl (by decide +kernel) ⟨Nat.le_of_ble_eq_true rfl, Nat.le_of_ble_eq_true rfl⟩) ⟨fn_blind, hp⟩ rfl rfl hl.1 rfl (lv_room (Nat.le_of_ble_eq_true rfl)) dX4_begin_20 ⟨Nat.le_of_ble_eq_true rfl, Nat.le_of_ble_eq_true rfl⟩) (fun u1 H locs hwu1 hP hD hS => ?_)
  have hP : va_P D vwCl [(r0, .inr (4, [.int 1, .int p0, .int p1, .ref n0])), (n0, .inl (K 3, 60, .inr (.inl u1)))] H := hP
  have hD : va_D A [(r0, .inr (4, [.int 1, .int p0, .int p1, .ref n0])), (n0, .inl (K 3, 60, .inr (.inl u1)))] := hD
  exact fn_vret hx hb hr hlocks hP hD hS () trivial [] (by decide) rfl dX4_begin_23
theorem dX11_row_0 : decode cX11_row 0 = .ok (.iload_n 1, 1) := by decide +kernel
theorem dX11_row_1 : decode cX11_row 1 = .ok (.invokestatic 337, 3) := by decide +kernel
theorem dX11_row_4 : decode cX11_row 4 = .ok (.ifCond .ne 18, 3) := by decide +kernel
theorem dX11_row_22 : decode cX11_row 22 = .ok (.bipush (-2), 2) := by decide +kernel
theorem dX11_row_24 : decode cX11_row 24 = .ok (.ireturn, 1) := by decide +kernel
theorem dX11_row_7 : decode cX11_row 7 = .ok (.iload_n 2, 1) := by decide +kernel
theorem dX11_row_8 : decode cX11_row 8 = .ok (.ifCond .lt 14, 3) := by decide +kernel
theorem dX11_row_11 : decode cX11_row 11 = .ok (.iload_n 2, 1) := by decide +kernel
theorem dX11_row_12 : decode cX11_row 12 = .ok (.iconst 4, 1) := by decide +kernel
theorem dX11_row_13 : decode cX11_row 13 = .ok (.if_icmp .ge 9, 3) := by decide +kernel
theorem dX11_row_16 : decode cX11_row 16 = .ok (.iload_n 3, 1) := by decide +kernel
theorem dX11_row_17 : decode cX11_row 17 = .ok (.bipush 60, 2) := by decide +kernel
theorem dX11_row_19 : decode cX11_row 19 = .ok (.if_icmp .le 6, 3) := by decide +kernel
theorem dX11_row_25 : decode cX11_row 25 = .ok (.iload_n 3, 1) := by decide +kernel
theorem dX11_row_26 : decode cX11_row 26 = .ok (.ifCond .ge 6, 3) := by decide +kernel
theorem dX11_row_32 : decode cX11_row 32 = .ok (.aload_n 0, 1) := by decide +kernel
theorem dX11_row_33 : decode cX11_row 33 = .ok (.getfield 44, 3) := by decide +kernel
theorem dX11_row_36 : decode cX11_row 36 = .ok (.iload_n 1, 1) := by decide +kernel
theorem dX11_row_37 : decode cX11_row 37 = .ok (.aaload, 1) := by decide +kernel
theorem dX11_row_38 : decode cX11_row 38 = .ok (.iload_n 2, 1) := by decide +kernel
theorem dX11_row_39 : decode cX11_row 39 = .ok (.iload_n 3, 1) := by decide +kernel
theorem dX11_row_40 : decode cX11_row 40 = .ok (.invokevirtual 452, 3) := by decide +kernel
theorem dX11_row_43 : decode cX11_row 43 = .ok (.iconst 0, 1) := by decide +kernel
theorem dX11_row_44 : decode cX11_row 44 = .ok (.ireturn, 1) := by decide +kernel
theorem dX11_row_29 : decode cX11_row 29 = .ok (.bipush (-3), 2) := by decide +kernel
theorem dX11_row_31 : decode cX11_row 31 = .ok (.ireturn, 1) := by decide +kernel
set_option maxHeartbeats 4000000 in
set_option maxRecDepth 100000 in
theorem c_X11_row (l : Launch) (D : va_G) (K : Nat → ClassId) (rw r0 r1 r2 r3 n0 n1 n2 n3 : Nat) (x0 : Nat) (fx : List Value) (hx6 : fx[6]? = some (.ref rw)) (frw : Nat → Option Nat) (hrw_0 : frw 0 = some r0) (hrw_1 : frw 1 = some r1) (hrw_2 : frw 2 = some r2) (hrw_3 : frw 3 = some r3) (fn0 fn1 fn2 fn3 : Nat → Int64) (p0 p1 p2 : Int32) : fn_CI (S := Unit) l D K yX11_row (fn_ws yX11_row cX11_row 4 (some .int)) ({ frames := 12, cells := 0, slots := 0, locals := 300 }) [.ref x0, .int p0, .int p1, .int p2] [(x0, .inr (11, fx)), (rw, .inl (K 6, 4, .inr (.inr (.inr (.inr frw))))), (r0, .inr (4, [.int 0, .int 0, .int 0, .ref n0])), (r1, .inr (4, [.int 0, .int 0, .int 0, .ref n1])), (r2, .inr (4, [.int 0, .int 0, .int 0, .ref n2])), (r3, .inr (4, [.int 0, .int 0, .int 0, .ref n3])), (n0, .inl (K 3, 60, .inr (.inl fn0))), (n1, .inl (K 3, 60, .inr (.inl fn1))), (n2, .inl (K 3, 60, .inr (.inl fn2))), (n3, .inl (K 3, 60, .inr (.inl fn3)))] (fun r _ => r = fn_sRow p0 p1 p2) (fun _ => []) 0 0 := by
  refine fn_inI (cc := cX11_row) (maxL := 4) (ret := (some .int)) (by decide) rfl (Nat.le_of_ble_eq_true rfl) ?_
  intro p e s m below meth c A ls B hA hP hD hS hl
  obtain ⟨hx, hb, hr, hml, hts, hown, hlocks, hin, hK⟩ := B
  have hown : s.vm.findClass RX11 = some m.cls := hown
  have hts := fun w h => hts w (List.mem_cons_of_mem _ h)
  have hl : lv_has ls 4 [(0, .ref x0), (1, .int p0), (2, .int p1), (3, .int p2)] := hl
  refine lv_iload_n hx hb dX11_row_0 rfl (lv_at hl 1 rfl) ?_
  refine fn_goi (wc := []) (wr := [(x0, .inr (11, fx)), (rw, .inl (K 6, 4, .inr (.inr (.inr (.inr frw))))), (r0, .inr (4, [.int 0, .int 0, .int 0, .ref n0])), (r1, .inr (4, [.int 0, .int 0, .int 0, .ref n1])), (r2, .inr (4, [.int 0, .int 0, .int 0, .ref n2])), (r3, .inr (4, [.int 0, .int 0, .int 0, .ref n3])), (n0, .inl (K 3, 60, .inr (.inl fn0))), (n1, .inl (K 3, 60, .inr (.inl fn1))), (n2, .inl (K 3, 60, .inr (.inl fn2))), (n3, .inl (K 3, 60, .inr (.inl fn3)))]) hK hP hD hS hA [] [0, 1, 2, 3, 4, 5, 6, 7, 8, 9] rfl rfl (by decide) (fun hp => va_runS (As := [.int p0]) (rest := []) ⟨hx, hb, hml, hown, hts⟩ (c_X11_noSlot (l := l) (D := D) (K := K) (p0 := (p0)) _) (va_cwS 1 hts (fn_ginS (fn_gin wd_963) wd_961 wd_962 wd_1) rfl rfl rfl (by decide +kernel) ⟨Nat.le_of_ble_eq_true rfl, Nat.le_of_ble_eq_true rfl⟩) ⟨fn_blind, hp⟩ rfl rfl hl.1 rfl (lv_room (Nat.le_of_ble_eq_true rfl)) dX11_row_1 ⟨Nat.le_of_ble_eq_true rfl, Nat.le_of_ble_eq_true rfl⟩) (fun r2 u1 H locs hwu1 hP hD hS => ?_)
  rcases hwu1 with ⟨rfl, k3⟩ | ⟨rfl, k3⟩
  · have hP : va_P D vwCl [(x0, .inr (11, fx)), (rw, .inl (K 6, 4, .inr (.inr (.inr (.inr frw))))), (r0, .inr (4, [.int 0, .int 0, .int 0, .ref n0])), (r1, .inr (4, [.int 0, .int 0, .int 0, .ref n1])), (r2, .inr (4, [.int 0, .int 0, .int 0, .ref n2])), (r3, .inr (4, [.int 0, .int 0, .int 0, .ref n3])), (n0, .inl (K 3, 60, .inr (.inl fn0))), (n1, .inl (K 3, 60, .inr (.inl fn1))), (n2, .inl (K 3, 60, .inr (.inl fn2))), (n3, .inl (K 3, 60, .inr (.inl fn3)))] H := hP
    have hD : va_D A [(x0, .inr (11, fx)), (rw, .inl (K 6, 4, .inr (.inr (.inr (.inr frw))))), (r0, .inr (4, [.int 0, .int 0, .int 0, .ref n0])), (r1, .inr (4, [.int 0, .int 0, .int 0, .ref n1])), (r2, .inr (4, [.int 0, .int 0, .int 0, .ref n2])), (r3, .inr (4, [.int 0, .int 0, .int 0, .ref n3])), (n0, .inl (K 3, 60, .inr (.inl fn0))), (n1, .inl (K 3, 60, .inr (.inl fn1))), (n2, .inl (K 3, 60, .inr (.inl fn2))), (n3, .inl (K 3, 60, .inr (.inl fn3)))] := hD
    refine lv_if_ne (tgt := 22) hx hb dX11_row_4 (by decide) (fun _ => ?_) (fun h9 => absurd h9 (by decide))
    refine lv_bipush (v := (-2)) hx hb dX11_row_22 (by decide) ?_
    exact fn_iret hx hb hr hlocks rfl hP hD hS () (by first | exact fn_row2 (fun h9 => k3 h9.1) | exact fn_row2 (fun h9 => fn_bad_a c8 h9.2.1) | exact fn_row2 (fun h9 => fn_bad_b fn_4 c13 h9.2.1) | exact fn_row2 (fun h9 => c19 ((fn_ge 60 fn_60).mpr h9.2.2)) | exact fn_row3 k3 (fn_good fn_4 c8 c13) ((fn_ge 60 fn_60).mp c19) (by rw [fn_0le] at c26; omega) | exact fn_row0 k3 (fn_good fn_4 c8 c13) ((fn_ge 60 fn_60).mp c19) (by rw [fn_0le] at c26; omega)) [] (by decide) rfl dX11_row_24
  · have hP : va_P D vwCl [(x0, .inr (11, fx)), (rw, .inl (K 6, 4, .inr (.inr (.inr (.inr frw))))), (r0, .inr (4, [.int 0, .int 0, .int 0, .ref n0])), (r1, .inr (4, [.int 0, .int 0, .int 0, .ref n1])), (r2, .inr (4, [.int 0, .int 0, .int 0, .ref n2])), (r3, .inr (4, [.int 0, .int 0, .int 0, .ref n3])), (n0, .inl (K 3, 60, .inr (.inl fn0))), (n1, .inl (K 3, 60, .inr (.inl fn1))), (n2, .inl (K 3, 60, .inr (.inl fn2))), (n3, .inl (K 3, 60, .inr (.inl fn3)))] H := hP
    have hD : va_D A [(x0, .inr (11, fx)), (rw, .inl (K 6, 4, .inr (.inr (.inr (.inr frw))))), (r0, .inr (4, [.int 0, .int 0, .int 0, .ref n0])), (r1, .inr (4, [.int 0, .int 0, .int 0, .ref n1])), (r2, .inr (4, [.int 0, .int 0, .int 0, .ref n2])), (r3, .inr (4, [.int 0, .int 0, .int 0, .ref n3])), (n0, .inl (K 3, 60, .inr (.inl fn0))), (n1, .inl (K 3, 60, .inr (.inl fn1))), (n2, .inl (K 3, 60, .inr (.inl fn2))), (n3, .inl (K 3, 60, .inr (.inl fn3)))] := hD
    refine lv_if_ne (tgt := 22) hx hb dX11_row_4 (by decide) (fun h9 => absurd rfl h9) (fun _ => ?_)
    refine lv_iload_n hx hb dX11_row_7 rfl (lv_at hl 2 rfl) ?_
    refine lv_if_lt (tgt := 22) hx hb dX11_row_8 (by decide) (fun c8 => ?_) (fun c8 => ?_)
    · refine lv_bipush (v := (-2)) hx hb dX11_row_22 (by decide) ?_
      exact fn_iret hx hb hr hlocks rfl hP hD hS () (by first | exact fn_row2 (fun h9 => k3 h9.1) | exact fn_row2 (fun h9 => fn_bad_a c8 h9.2.1) | exact fn_row2 (fun h9 => fn_bad_b fn_4 c13 h9.2.1) | exact fn_row2 (fun h9 => c19 ((fn_ge 60 fn_60).mpr h9.2.2)) | exact fn_row3 k3 (fn_good fn_4 c8 c13) ((fn_ge 60 fn_60).mp c19) (by rw [fn_0le] at c26; omega) | exact fn_row0 k3 (fn_good fn_4 c8 c13) ((fn_ge 60 fn_60).mp c19) (by rw [fn_0le] at c26; omega)) [] (by decide) rfl dX11_row_24
    · refine lv_iload_n hx hb dX11_row_11 rfl (lv_at hl 2 rfl) ?_
      refine lv_iconst (v := 4) hx hb dX11_row_12 (by decide) ?_
      refine lv_icmp_ge (tgt := 22) hx hb dX11_row_13 (by decide) (fun c13 => ?_) (fun c13 => ?_)
      · refine lv_bipush (v := (-2)) hx hb dX11_row_22 (by decide) ?_
        exact fn_iret hx hb hr hlocks rfl hP hD hS () (by first | exact fn_row2 (fun h9 => k3 h9.1) | exact fn_row2 (fun h9 => fn_bad_a c8 h9.2.1) | exact fn_row2 (fun h9 => fn_bad_b fn_4 c13 h9.2.1) | exact fn_row2 (fun h9 => c19 ((fn_ge 60 fn_60).mpr h9.2.2)) | exact fn_row3 k3 (fn_good fn_4 c8 c13) ((fn_ge 60 fn_60).mp c19) (by rw [fn_0le] at c26; omega) | exact fn_row0 k3 (fn_good fn_4 c8 c13) ((fn_ge 60 fn_60).mp c19) (by rw [fn_0le] at c26; omega)) [] (by decide) rfl dX11_row_24
      · refine lv_iload_n hx hb dX11_row_16 rfl (lv_at hl 3 rfl) ?_
        refine lv_bipush (v := 60) hx hb dX11_row_17 (by decide) ?_
        refine lv_icmp_le (tgt := 25) hx hb dX11_row_19 (by decide) (fun c19 => ?_) (fun c19 => ?_)
        · refine lv_iload_n hx hb dX11_row_25 rfl (lv_at hl 3 rfl) ?_
          refine lv_if_ge (tgt := 32) hx hb dX11_row_26 (by decide) (fun c26 => ?_) (fun c26 => ?_)
          · rcases (fn_c4 k3) with rfl | rfl | rfl | rfl
            · refine lv_aload_n hx hb dX11_row_32 rfl (lv_at hl 0 rfl) ?_
              refine va_get (D := D) (own := RX11) (ci := 11) (v := .ref rw) (C := RX11) (T := TX11) (N := 13) hx hb hts inb_X11 hown hK.1 hP 0 rfl rfl 6 (by decide) (hts _ wd_428) (fun _ h9 => h9) hx6 dX11_row_33 ?_
              refine lv_iload_n hx hb dX11_row_36 rfl (lv_at hl 1 rfl) ?_
              refine va_aldq hx hb hK.1 hP 1 6 rfl rfl (by unfold vp_in; decide) dX11_row_37 ?_
              refine fn_topv (.ref r0) (congrArg va_rf hrw_0) ?_
              refine lv_iload_n hx hb dX11_row_38 rfl (lv_at hl 2 rfl) ?_
              refine lv_iload_n hx hb dX11_row_39 rfl (lv_at hl 3 rfl) ?_
              refine fn_at 40 rfl ?_
              refine fn_gov (wc := [(r0, .inr (4, [.int 0, .int 0, .int 0, .ref n0])), (n0, .inl (K 3, 60, .inr (.inl fn0)))]) (wr := [(x0, .inr (11, fx)), (rw, .inl (K 6, 4, .inr (.inr (.inr (.inr frw))))), (r1, .inr (4, [.int 0, .int 0, .int 0, .ref n1])), (r2, .inr (4, [.int 0, .int 0, .int 0, .ref n2])), (r3, .inr (4, [.int 0, .int 0, .int 0, .ref n3])), (n1, .inl (K 3, 60, .inr (.inl fn1))), (n2, .inl (K 3, 60, .inr (.inl fn2))), (n3, .inl (K 3, 60, .inr (.inl fn3)))]) hK hP hD hS hA [2, 6] [0, 1, 3, 4, 5, 7, 8, 9] rfl rfl (by decide) (fun hp => va_runVN (C := RX4) (As := [.int p1, .int p2]) (rest := []) ⟨hx, hb, hml, hown, hts⟩ (c_X4_begin (l := l) (D := D) (K := K) (r0 := (r0)) (p0 := (p1)) (p1 := (p2)) (n0 := (n0)) (fn0 := (fn0)) _) ⟨va_cnB (own := RX11) 2 hts (fn_gin wd_1207) rfl rfl rfl (hK.nw 153 rfl) (hts _ wd_12) (by decide +kernel) ⟨Nat.le_of_ble_eq_true rfl, Nat.le_of_ble_eq_true rfl⟩, hts _ wd_1206, hts _ wp_91⟩ ⟨fn_blind, va_recv hK.1 hP (ci := 4) (q0 := 2) rfl rfl, hp⟩ rfl rfl hl.1 rfl (lv_room (Nat.le_of_ble_eq_true rfl)) dX11_row_40 ⟨Nat.le_of_ble_eq_true rfl, Nat.le_of_ble_eq_true rfl⟩) (fun u4 H locs hwu4 hP hD hS => ?_)
              have hP : va_P D vwCl [(x0, .inr (11, fx)), (rw, .inl (K 6, 4, .inr (.inr (.inr (.inr frw))))), (r1, .inr (4, [.int 0, .int 0, .int 0, .ref n1])), (r2, .inr (4, [.int 0, .int 0, .int 0, .ref n2])), (r3, .inr (4, [.int 0, .int 0, .int 0, .ref n3])), (n1, .inl (K 3, 60, .inr (.inl fn1))), (n2, .inl (K 3, 60, .inr (.inl fn2))), (n3, .inl (K 3, 60, .inr (.inl fn3)))] H := hP
              have hD : va_D A [(x0, .inr (11, fx)), (rw, .inl (K 6, 4, .inr (.inr (.inr (.inr frw))))), (r1, .inr (4, [.int 0, .int 0, .int 0, .ref n1])), (r2, .inr (4, [.int 0, .int 0, .int 0, .ref n2])), (r3, .inr (4, [.int 0, .int 0, .int 0, .ref n3])), (n1, .inl (K 3, 60, .inr (.inl fn1))), (n2, .inl (K 3, 60, .inr (.inl fn2))), (n3, .inl (K 3, 60, .inr (.inl fn3)))] := hD
              refine lv_iconst (v := 0) hx hb dX11_row_43 (by decide) ?_
              exact fn_iret hx hb hr hlocks rfl hP hD hS () (by first | exact fn_row2 (fun h9 => k3 h9.1) | exact fn_row2 (fun h9 => fn_bad_a c8 h9.2.1) | exact fn_row2 (fun h9 => fn_bad_b fn_4 c13 h9.2.1) | exact fn_row2 (fun h9 => c19 ((fn_ge 60 fn_60).mpr h9.2.2)) | exact fn_row3 k3 (fn_good fn_4 c8 c13) ((fn_ge 60 fn_60).mp c19) (by rw [fn_0le] at c26; omega) | exact fn_row0 k3 (fn_good fn_4 c8 c13) ((fn_ge 60 fn_60).mp c19) (by rw [fn_0le] at c26; omega)) [] (by decide) rfl dX11_row_44
            · refine lv_aload_n hx hb dX11_row_32 rfl (lv_at hl 0 rfl) ?_
              refine va_get (D := D) (own := RX11) (ci := 11) (v := .ref rw) (C := RX11) (T := TX11) (N := 13) hx hb hts inb_X11 hown hK.1 hP 0 rfl rfl 6 (by decide) (hts _ wd_428) (fun _ h9 => h9) hx6 dX11_row_33 ?_
              refine lv_iload_n hx hb dX11_row_36 rfl (lv_at hl 1 rfl) ?_
              refine va_aldq hx hb hK.1 hP 1 6 rfl rfl (by unfold vp_in; decide) dX11_row_37 ?_
              refine fn_topv (.ref r1) (congrArg va_rf hrw_1) ?_
              refine lv_iload_n hx hb dX11_row_38 rfl (lv_at hl 2 rfl) ?_
              refine lv_iload_n hx hb dX11_row_39 rfl (lv_at hl 3 rfl) ?_
              refine fn_at 40 rfl ?_
              refine fn_gov (wc := [(r1, .inr (4, [.int 0, .int 0, .int 0, .ref n1])), (n1, .inl (K 3, 60, .inr (.inl fn1)))]) (wr := [(x0, .inr (11, fx)), (rw, .inl (K 6, 4, .inr (.inr (.inr (.inr frw))))), (r0, .inr (4, [.int 0, .int 0, .int 0, .ref n0])), (r2, .inr (4, [.int 0, .int 0, .int 0, .ref n2])), (r3, .inr (4, [.int 0, .int 0, .int 0, .ref n3])), (n0, .inl (K 3, 60, .inr (.inl fn0))), (n2, .inl (K 3, 60, .inr (.inl fn2))), (n3, .inl (K 3, 60, .inr (.inl fn3)))]) hK hP hD hS hA [3, 7] [0, 1, 2, 4, 5, 6, 8, 9] rfl rfl (by decide) (fun hp => va_runVN (C := RX4) (As := [.int p1, .int p2]) (rest := []) ⟨hx, hb, hml, hown, hts⟩ (c_X4_begin (l := l) (D := D) (K := K) (r0 := (r1)) (p0 := (p1)) (p1 := (p2)) (n0 := (n1)) (fn0 := (fn1)) _) ⟨va_cnB (own := RX11) 2 hts (fn_gin wd_1207) rfl rfl rfl (hK.nw 153 rfl) (hts _ wd_12) (by decide +kernel) ⟨Nat.le_of_ble_eq_true rfl, Nat.le_of_ble_eq_true rfl⟩, hts _ wd_1206, hts _ wp_91⟩ ⟨fn_blind, va_recv hK.1 hP (ci := 4) (q0 := 3) rfl rfl, hp⟩ rfl rfl hl.1 rfl (lv_room (Nat.le_of_ble_eq_true rfl)) dX11_row_40 ⟨Nat.le_of_ble_eq_true rfl, Nat.le_of_ble_eq_true rfl⟩) (fun u6 H locs hwu6 hP hD hS => ?_)
              have hP : va_P D vwCl [(x0, .inr (11, fx)), (rw, .inl (K 6, 4, .inr (.inr (.inr (.inr frw))))), (r0, .inr (4, [.int 0, .int 0, .int 0, .ref n0])), (r2, .inr (4, [.int 0, .int 0, .int 0, .ref n2])), (r3, .inr (4, [.int 0, .int 0, .int 0, .ref n3])), (n0, .inl (K 3, 60, .inr (.inl fn0))), (n2, .inl (K 3, 60, .inr (.inl fn2))), (n3, .inl (K 3, 60, .inr (.inl fn3)))] H := hP
              have hD : va_D A [(x0, .inr (11, fx)), (rw, .inl (K 6, 4, .inr (.inr (.inr (.inr frw))))), (r0, .inr (4, [.int 0, .int 0, .int 0, .ref n0])), (r2, .inr (4, [.int 0, .int 0, .int 0, .ref n2])), (r3, .inr (4, [.int 0, .int 0, .int 0, .ref n3])), (n0, .inl (K 3, 60, .inr (.inl fn0))), (n2, .inl (K 3, 60, .inr (.inl fn2))), (n3, .inl (K 3, 60, .inr (.inl fn3)))] := hD
              refine lv_iconst (v := 0) hx hb dX11_row_43 (by decide) ?_
              exact fn_iret hx hb hr hlocks rfl hP hD hS () (by first | exact fn_row2 (fun h9 => k3 h9.1) | exact fn_row2 (fun h9 => fn_bad_a c8 h9.2.1) | exact fn_row2 (fun h9 => fn_bad_b fn_4 c13 h9.2.1) | exact fn_row2 (fun h9 => c19 ((fn_ge 60 fn_60).mpr h9.2.2)) | exact fn_row3 k3 (fn_good fn_4 c8 c13) ((fn_ge 60 fn_60).mp c19) (by rw [fn_0le] at c26; omega) | exact fn_row0 k3 (fn_good fn_4 c8 c13) ((fn_ge 60 fn_60).mp c19) (by rw [fn_0le] at c26; omega)) [] (by decide) rfl dX11_row_44
            · refine lv_aload_n hx hb dX11_row_32 rfl (lv_at hl 0 rfl) ?_
              refine va_get (D := D) (own := RX11) (ci := 11) (v := .ref rw) (C := RX11) (T := TX11) (N := 13) hx hb hts inb_X11 hown hK.1 hP 0 rfl rfl 6 (by decide) (hts _ wd_428) (fun _ h9 => h9) hx6 dX11_row_33 ?_
              refine lv_iload_n hx hb dX11_row_36 rfl (lv_at hl 1 rfl) ?_
              refine va_aldq hx hb hK.1 hP 1 6 rfl rfl (by unfold vp_in; decide) dX11_row_37 ?_
              refine fn_topv (.ref r2) (congrArg va_rf hrw_2) ?_
              refine lv_iload_n hx hb dX11_row_38 rfl (lv_at hl 2 rfl) ?_
              refine lv_iload_n hx hb dX11_row_39 rfl (lv_at hl 3 rfl) ?_
              refine fn_at 40 rfl ?_
              refine fn_gov (wc := [(r2, .inr (4, [.int 0, .int 0, .int 0, .ref n2])), (n2, .inl (K 3, 60, .inr (.inl fn2)))]) (wr := [(x0, .inr (11, fx)), (rw, .inl (K 6, 4, .inr (.inr (.inr (.inr frw))))), (r0, .inr (4, [.int 0, .int 0, .int 0, .ref n0])), (r1, .inr (4, [.int 0, .int 0, .int 0, .ref n1])), (r3, .inr (4, [.int 0, .int 0, .int 0, .ref n3])), (n0, .inl (K 3, 60, .inr (.inl fn0))), (n1, .inl (K 3, 60, .inr (.inl fn1))), (n3, .inl (K 3, 60, .inr (.inl fn3)))]) hK hP hD hS hA [4, 8] [0, 1, 2, 3, 5, 6, 7, 9] rfl rfl (by decide) (fun hp => va_runVN (C := RX4) (As := [.int p1, .int p2]) (rest := []) ⟨hx, hb, hml, hown, hts⟩ (c_X4_begin (l := l) (D := D) (K := K) (r0 := (r2)) (p0 := (p1)) (p1 := (p2)) (n0 := (n2)) (fn0 := (fn2)) _) ⟨va_cnB (own := RX11) 2 hts (fn_gin wd_1207) rfl rfl rfl (hK.nw 153 rfl) (hts _ wd_12) (by decide +kernel) ⟨Nat.le_of_ble_eq_true rfl, Nat.le_of_ble_eq_true rfl⟩, hts _ wd_1206, hts _ wp_91⟩ ⟨fn_blind, va_recv hK.1 hP (ci := 4) (q0 := 4) rfl rfl, hp⟩ rfl rfl hl.1 rfl (lv_room (Nat.le_of_ble_eq_true rfl)) dX11_row_40 ⟨Nat.le_of_ble_eq_true rfl, Nat.le_of_ble_eq_true rfl⟩) (fun u8 H locs hwu8 hP hD hS => ?_)
              have hP : va_P D vwCl [(x0, .inr (11, fx)), (rw, .inl (K 6, 4, .inr (.inr (.inr (.inr frw))))), (r0, .inr (4, [.int 0, .int 0, .int 0, .ref n0])), (r1, .inr (4, [.int 0, .int 0, .int 0, .ref n1])), (r3, .inr (4, [.int 0, .int 0, .int 0, .ref n3])), (n0, .inl (K 3, 60, .inr (.inl fn0))), (n1, .inl (K 3, 60, .inr (.inl fn1))), (n3, .inl (K 3, 60, .inr (.inl fn3)))] H := hP
              have hD : va_D A [(x0, .inr (11, fx)), (rw, .inl (K 6, 4, .inr (.inr (.inr (.inr frw))))), (r0, .inr (4, [.int 0, .int 0, .int 0, .ref n0])), (r1, .inr (4, [.int 0, .int 0, .int 0, .ref n1])), (r3, .inr (4, [.int 0, .int 0, .int 0, .ref n3])), (n0, .inl (K 3, 60, .inr (.inl fn0))), (n1, .inl (K 3, 60, .inr (.inl fn1))), (n3, .inl (K 3, 60, .inr (.inl fn3)))] := hD
              refine lv_iconst (v := 0) hx hb dX11_row_43 (by decide) ?_
              exact fn_iret hx hb hr hlocks rfl hP hD hS () (by first | exact fn_row2 (fun h9 => k3 h9.1) | exact fn_row2 (fun h9 => fn_bad_a c8 h9.2.1) | exact fn_row2 (fun h9 => fn_bad_b fn_4 c13 h9.2.1) | exact fn_row2 (fun h9 => c19 ((fn_ge 60 fn_60).mpr h9.2.2)) | exact fn_row3 k3 (fn_good fn_4 c8 c13) ((fn_ge 60 fn_60).mp c19) (by rw [fn_0le] at c26; omega) | exact fn_row0 k3 (fn_good fn_4 c8 c13) ((fn_ge 60 fn_60).mp c19) (by rw [fn_0le] at c26; omega)) [] (by decide) rfl dX11_row_44
            · refine lv_aload_n hx hb dX11_row_32 rfl (lv_at hl 0 rfl) ?_
              refine va_get (D := D) (own := RX11) (ci := 11) (v := .ref rw) (C := RX11) (T := TX11) (N := 13) hx hb hts inb_X11 hown hK.1 hP 0 rfl rfl 6 (by decide) (hts _ wd_428) (fun _ h9 => h9) hx6 dX11_row_33 ?_
              refine lv_iload_n hx hb dX11_row_36 rfl (lv_at hl 1 rfl) ?_
              refine va_aldq hx hb hK.1 hP 1 6 rfl rfl (by unfold vp_in; decide) dX11_row_37 ?_
              refine fn_topv (.ref r3) (congrArg va_rf hrw_3) ?_
              refine lv_iload_n hx hb dX11_row_38 rfl (lv_at hl 2 rfl) ?_
              refine lv_iload_n hx hb dX11_row_39 rfl (lv_at hl 3 rfl) ?_
              refine fn_at 40 rfl ?_
              refine fn_gov (wc := [(r3, .inr (4, [.int 0, .int 0, .int 0, .ref n3])), (n3, .inl (K 3, 60, .inr (.inl fn3)))]) (wr := [(x0, .inr (11, fx)), (rw, .inl (K 6, 4, .inr (.inr (.inr (.inr frw))))), (r0, .inr (4, [.int 0, .int 0, .int 0, .ref n0])), (r1, .inr (4, [.int 0, .int 0, .int 0, .ref n1])), (r2, .inr (4, [.int 0, .int 0, .int 0, .ref n2])), (n0, .inl (K 3, 60, .inr (.inl fn0))), (n1, .inl (K 3, 60, .inr (.inl fn1))), (n2, .inl (K 3, 60, .inr (.inl fn2)))]) hK hP hD hS hA [5, 9] [0, 1, 2, 3, 4, 6, 7, 8] rfl rfl (by decide) (fun hp => va_runVN (C := RX4) (As := [.int p1, .int p2]) (rest := []) ⟨hx, hb, hml, hown, hts⟩ (c_X4_begin (l := l) (D := D) (K := K) (r0 := (r3)) (p0 := (p1)) (p1 := (p2)) (n0 := (n3)) (fn0 := (fn3)) _) ⟨va_cnB (own := RX11) 2 hts (fn_gin wd_1207) rfl rfl rfl (hK.nw 153 rfl) (hts _ wd_12) (by decide +kernel) ⟨Nat.le_of_ble_eq_true rfl, Nat.le_of_ble_eq_true rfl⟩, hts _ wd_1206, hts _ wp_91⟩ ⟨fn_blind, va_recv hK.1 hP (ci := 4) (q0 := 5) rfl rfl, hp⟩ rfl rfl hl.1 rfl (lv_room (Nat.le_of_ble_eq_true rfl)) dX11_row_40 ⟨Nat.le_of_ble_eq_true rfl, Nat.le_of_ble_eq_true rfl⟩) (fun u10 H locs hwu10 hP hD hS => ?_)
              have hP : va_P D vwCl [(x0, .inr (11, fx)), (rw, .inl (K 6, 4, .inr (.inr (.inr (.inr frw))))), (r0, .inr (4, [.int 0, .int 0, .int 0, .ref n0])), (r1, .inr (4, [.int 0, .int 0, .int 0, .ref n1])), (r2, .inr (4, [.int 0, .int 0, .int 0, .ref n2])), (n0, .inl (K 3, 60, .inr (.inl fn0))), (n1, .inl (K 3, 60, .inr (.inl fn1))), (n2, .inl (K 3, 60, .inr (.inl fn2)))] H := hP
              have hD : va_D A [(x0, .inr (11, fx)), (rw, .inl (K 6, 4, .inr (.inr (.inr (.inr frw))))), (r0, .inr (4, [.int 0, .int 0, .int 0, .ref n0])), (r1, .inr (4, [.int 0, .int 0, .int 0, .ref n1])), (r2, .inr (4, [.int 0, .int 0, .int 0, .ref n2])), (n0, .inl (K 3, 60, .inr (.inl fn0))), (n1, .inl (K 3, 60, .inr (.inl fn1))), (n2, .inl (K 3, 60, .inr (.inl fn2)))] := hD
              refine lv_iconst (v := 0) hx hb dX11_row_43 (by decide) ?_
              exact fn_iret hx hb hr hlocks rfl hP hD hS () (by first | exact fn_row2 (fun h9 => k3 h9.1) | exact fn_row2 (fun h9 => fn_bad_a c8 h9.2.1) | exact fn_row2 (fun h9 => fn_bad_b fn_4 c13 h9.2.1) | exact fn_row2 (fun h9 => c19 ((fn_ge 60 fn_60).mpr h9.2.2)) | exact fn_row3 k3 (fn_good fn_4 c8 c13) ((fn_ge 60 fn_60).mp c19) (by rw [fn_0le] at c26; omega) | exact fn_row0 k3 (fn_good fn_4 c8 c13) ((fn_ge 60 fn_60).mp c19) (by rw [fn_0le] at c26; omega)) [] (by decide) rfl dX11_row_44
          · refine lv_bipush (v := (-3)) hx hb dX11_row_29 (by decide) ?_
            exact fn_iret hx hb hr hlocks rfl hP hD hS () (by first | exact fn_row2 (fun h9 => k3 h9.1) | exact fn_row2 (fun h9 => fn_bad_a c8 h9.2.1) | exact fn_row2 (fun h9 => fn_bad_b fn_4 c13 h9.2.1) | exact fn_row2 (fun h9 => c19 ((fn_ge 60 fn_60).mpr h9.2.2)) | exact fn_row3 k3 (fn_good fn_4 c8 c13) ((fn_ge 60 fn_60).mp c19) (by rw [fn_0le] at c26; omega) | exact fn_row0 k3 (fn_good fn_4 c8 c13) ((fn_ge 60 fn_60).mp c19) (by rw [fn_0le] at c26; omega)) [] (by decide) rfl dX11_row_31
        · refine lv_bipush (v := (-2)) hx hb dX11_row_22 (by decide) ?_
          exact fn_iret hx hb hr hlocks rfl hP hD hS () (by first | exact fn_row2 (fun h9 => k3 h9.1) | exact fn_row2 (fun h9 => fn_bad_a c8 h9.2.1) | exact fn_row2 (fun h9 => fn_bad_b fn_4 c13 h9.2.1) | exact fn_row2 (fun h9 => c19 ((fn_ge 60 fn_60).mpr h9.2.2)) | exact fn_row3 k3 (fn_good fn_4 c8 c13) ((fn_ge 60 fn_60).mp c19) (by rw [fn_0le] at c26; omega) | exact fn_row0 k3 (fn_good fn_4 c8 c13) ((fn_ge 60 fn_60).mp c19) (by rw [fn_0le] at c26; omega)) [] (by decide) rfl dX11_row_24
theorem dX11_count_0 : decode cX11_count 0 = .ok (.iload_n 1, 1) := by decide +kernel
theorem dX11_count_1 : decode cX11_count 1 = .ok (.tableswitch 138 0 9 #[55, 63, 71, 79, 90, 98, 106, 114, 122, 133], 55) := by decide +kernel
theorem dX11_count_139 : decode cX11_count 139 = .ok (.iconst (-1), 1) := by decide +kernel
theorem dX11_count_140 : decode cX11_count 140 = .ok (.ireturn, 1) := by decide +kernel
theorem dX11_count_56 : decode cX11_count 56 = .ok (.aload_n 0, 1) := by decide +kernel
theorem dX11_count_57 : decode cX11_count 57 = .ok (.getfield 19, 3) := by decide +kernel
theorem dX11_count_60 : decode cX11_count 60 = .ok (.getfield 364, 3) := by decide +kernel
theorem dX11_count_63 : decode cX11_count 63 = .ok (.ireturn, 1) := by decide +kernel
theorem dX11_count_64 : decode cX11_count 64 = .ok (.aload_n 0, 1) := by decide +kernel
theorem dX11_count_65 : decode cX11_count 65 = .ok (.getfield 19, 3) := by decide +kernel
theorem dX11_count_68 : decode cX11_count 68 = .ok (.getfield 218, 3) := by decide +kernel
theorem dX11_count_71 : decode cX11_count 71 = .ok (.ireturn, 1) := by decide +kernel
theorem dX11_count_72 : decode cX11_count 72 = .ok (.aload_n 0, 1) := by decide +kernel
theorem dX11_count_73 : decode cX11_count 73 = .ok (.getfield 19, 3) := by decide +kernel
theorem dX11_count_76 : decode cX11_count 76 = .ok (.getfield 192, 3) := by decide +kernel
theorem dX11_count_79 : decode cX11_count 79 = .ok (.ireturn, 1) := by decide +kernel
theorem dX11_count_80 : decode cX11_count 80 = .ok (.aload_n 0, 1) := by decide +kernel
theorem dX11_count_81 : decode cX11_count 81 = .ok (.getfield 19, 3) := by decide +kernel
theorem dX11_count_84 : decode cX11_count 84 = .ok (.getfield 145, 3) := by decide +kernel
theorem dX11_count_87 : decode cX11_count 87 = .ok (.invokestatic 248, 3) := by decide +kernel
theorem dX11_count_90 : decode cX11_count 90 = .ok (.ireturn, 1) := by decide +kernel
theorem dX11_count_91 : decode cX11_count 91 = .ok (.aload_n 0, 1) := by decide +kernel
theorem dX11_count_92 : decode cX11_count 92 = .ok (.getfield 19, 3) := by decide +kernel
theorem dX11_count_95 : decode cX11_count 95 = .ok (.getfield 440, 3) := by decide +kernel
theorem dX11_count_98 : decode cX11_count 98 = .ok (.ireturn, 1) := by decide +kernel
theorem dX11_count_99 : decode cX11_count 99 = .ok (.aload_n 0, 1) := by decide +kernel
theorem dX11_count_100 : decode cX11_count 100 = .ok (.getfield 19, 3) := by decide +kernel
theorem dX11_count_103 : decode cX11_count 103 = .ok (.getfield 434, 3) := by decide +kernel
theorem dX11_count_106 : decode cX11_count 106 = .ok (.ireturn, 1) := by decide +kernel
theorem dX11_count_107 : decode cX11_count 107 = .ok (.aload_n 0, 1) := by decide +kernel
theorem dX11_count_108 : decode cX11_count 108 = .ok (.getfield 26, 3) := by decide +kernel
theorem dX11_count_111 : decode cX11_count 111 = .ok (.getfield 199, 3) := by decide +kernel
theorem dX11_count_114 : decode cX11_count 114 = .ok (.ireturn, 1) := by decide +kernel
theorem dX11_count_115 : decode cX11_count 115 = .ok (.aload_n 0, 1) := by decide +kernel
theorem dX11_count_116 : decode cX11_count 116 = .ok (.getfield 19, 3) := by decide +kernel
theorem dX11_count_119 : decode cX11_count 119 = .ok (.getfield 120, 3) := by decide +kernel
theorem dX11_count_122 : decode cX11_count 122 = .ok (.ireturn, 1) := by decide +kernel
theorem dX11_count_123 : decode cX11_count 123 = .ok (.aload_n 0, 1) := by decide +kernel
theorem dX11_count_124 : decode cX11_count 124 = .ok (.getfield 10, 3) := by decide +kernel
theorem dX11_count_127 : decode cX11_count 127 = .ok (.getfield 87, 3) := by decide +kernel
theorem dX11_count_130 : decode cX11_count 130 = .ok (.getfield 91, 3) := by decide +kernel
theorem dX11_count_133 : decode cX11_count 133 = .ok (.ireturn, 1) := by decide +kernel
theorem dX11_count_134 : decode cX11_count 134 = .ok (.aload_n 0, 1) := by decide +kernel
theorem dX11_count_135 : decode cX11_count 135 = .ok (.invokevirtual 443, 3) := by decide +kernel
theorem dX11_count_138 : decode cX11_count 138 = .ok (.ireturn, 1) := by decide +kernel
set_option maxHeartbeats 4000000 in
set_option maxRecDepth 100000 in
theorem c_X11_count (l : Launch) (D : va_G) (K : Nat → ClassId) (rd tp tb td sh t0 s0 s1 s2 s3 s4 s5 s6 t0_ t1_ t2_ t3_ t4_ t5_ rw r0 r1 r2 r3 n0 n1 n2 n3 : Nat) (x0 : Nat) (fx : List Value) (hx0 : fx[0]? = some (.ref rd)) (hx1 : fx[1]? = some (.ref t0)) (hx2 : fx[2]? = some (.ref sh)) (hx6 : fx[6]? = some (.ref rw)) (frw : Nat → Option Nat) (hrw_0 : frw 0 = some r0) (hrw_1 : frw 1 = some r1) (hrw_2 : frw 2 = some r2) (hrw_3 : frw 3 = some r3) (p0 : Int32) : fn_CI (S := Unit) l D K yX11_count (fn_ws yX11_count cX11_count 2 (some .int)) ({ frames := 12, cells := 0, slots := 0, locals := 300 }) [.ref x0, .int p0] [(x0, .inr (11, fx)), (rd, .inr (3, [.ref tp, .ref td, .int 0, .int (-1)])), (tp, .inr (6, [.int 0, .ref tb, .int 0, .int 0, .int 0])), (t0, .inr (7, [.int 0, .int 0, .int 0, .int 0, .int 0, .int 0, .int 0, .int 0, .int 0, .ref t0_, .ref t1_, .ref t2_, .ref t3_, .ref t4_, .ref t5_])), (sh, .inr (5, [.int 0, .ref s0, .ref s1, .ref s2, .ref s3, .ref s4, .ref s5, .ref s6])), (rw, .inl (K 6, 4, .inr (.inr (.inr (.inr frw))))), (r0, .inr (4, [.int 0, .int 0, .int 0, .ref n0])), (r1, .inr (4, [.int 0, .int 0, .int 0, .ref n1])), (r2, .inr (4, [.int 0, .int 0, .int 0, .ref n2])), (r3, .inr (4, [.int 0, .int 0, .int 0, .ref n3]))] (fun r _ => r = fn_sCnt p0) (fun _ => []) 0 0 := by
  refine fn_inI (cc := cX11_count) (maxL := 2) (ret := (some .int)) (by decide) rfl (Nat.le_of_ble_eq_true rfl) ?_
  intro p e s m below meth c A ls B hA hP hD hS hl
  obtain ⟨hx, hb, hr, hml, hts, hown, hlocks, hin, hK⟩ := B
  have hown : s.vm.findClass RX11 = some m.cls := hown
  have hts := fun w h => hts w (List.mem_cons_of_mem _ h)
  have hl : lv_has ls 2 [(0, .ref x0), (1, .int p0)] := hl
  refine lv_iload_n hx hb dX11_count_0 rfl (lv_at hl 1 rfl) ?_
  rcases fn_c10 p0 with h9 | rfl | rfl | rfl | rfl | rfl | rfl | rfl | rfl | rfl | rfl
  · refine lv_tableOut (tgt := 139) hx hb dX11_count_1 h9 (by decide) ?_
    refine lv_iconst (v := (-1)) hx hb dX11_count_139 (by decide) ?_
    exact fn_iret hx hb hr hlocks rfl hP hD hS () (by first | exact fn_cntO h9 | decide) [] (by decide) rfl dX11_count_140
  · refine lv_tableIn (tgt := 56) (off := 55) hx hb dX11_count_1 (by decide) (by decide) (by decide) (by decide) ?_
    refine lv_aload_n hx hb dX11_count_56 rfl (lv_at hl 0 rfl) ?_
    refine va_get (D := D) (own := RX11) (ci := 11) (v := .ref t0) (C := RX11) (T := TX11) (N := 13) hx hb hts inb_X11 hown hK.1 hP 0 rfl rfl 1 (by decide) (hts _ wd_423) (fun _ h9 => h9) hx1 dX11_count_57 ?_
    refine va_getN (D := D) (own := RX11) (ci := 7) (v := .int 0) (C := RX7) (T := TX7) (N := 15) hx hb hts inb_X7 hown hK.1 hP 3 rfl rfl 3 (by decide) (hK.nf 18 rfl) (fun _ h9 => h9) rfl dX11_count_60 ?_
    exact fn_iret hx hb hr hlocks rfl hP hD hS () (by first | exact fn_cntO h9 | decide) [] (by decide) rfl dX11_count_63
  · refine lv_tableIn (tgt := 64) (off := 63) hx hb dX11_count_1 (by decide) (by decide) (by decide) (by decide) ?_
    refine lv_aload_n hx hb dX11_count_64 rfl (lv_at hl 0 rfl) ?_
    refine va_get (D := D) (own := RX11) (ci := 11) (v := .ref t0) (C := RX11) (T := TX11) (N := 13) hx hb hts inb_X11 hown hK.1 hP 0 rfl rfl 1 (by decide) (hts _ wd_423) (fun _ h9 => h9) hx1 dX11_count_65 ?_
    refine va_getN (D := D) (own := RX11) (ci := 7) (v := .int 0) (C := RX7) (T := TX7) (N := 15) hx hb hts inb_X7 hown hK.1 hP 3 rfl rfl 4 (by decide) (hK.nf 23 rfl) (fun _ h9 => h9) rfl dX11_count_68 ?_
    exact fn_iret hx hb hr hlocks rfl hP hD hS () (by first | exact fn_cntO h9 | decide) [] (by decide) rfl dX11_count_71
  · refine lv_tableIn (tgt := 72) (off := 71) hx hb dX11_count_1 (by decide) (by decide) (by decide) (by decide) ?_
    refine lv_aload_n hx hb dX11_count_72 rfl (lv_at hl 0 rfl) ?_
    refine va_get (D := D) (own := RX11) (ci := 11) (v := .ref t0) (C := RX11) (T := TX11) (N := 13) hx hb hts inb_X11 hown hK.1 hP 0 rfl rfl 1 (by decide) (hts _ wd_423) (fun _ h9 => h9) hx1 dX11_count_73 ?_
    refine va_getN (D := D) (own := RX11) (ci := 7) (v := .int 0) (C := RX7) (T := TX7) (N := 15) hx hb hts inb_X7 hown hK.1 hP 3 rfl rfl 5 (by decide) (hK.nf 29 rfl) (fun _ h9 => h9) rfl dX11_count_76 ?_
    exact fn_iret hx hb hr hlocks rfl hP hD hS () (by first | exact fn_cntO h9 | decide) [] (by decide) rfl dX11_count_79
  · refine lv_tableIn (tgt := 80) (off := 79) hx hb dX11_count_1 (by decide) (by decide) (by decide) (by decide) ?_
    refine lv_aload_n hx hb dX11_count_80 rfl (lv_at hl 0 rfl) ?_
    refine va_get (D := D) (own := RX11) (ci := 11) (v := .ref t0) (C := RX11) (T := TX11) (N := 13) hx hb hts inb_X11 hown hK.1 hP 0 rfl rfl 1 (by decide) (hts _ wd_423) (fun _ h9 => h9) hx1 dX11_count_81 ?_
    refine va_getN (D := D) (own := RX11) (ci := 7) (v := .int 0) (C := RX7) (T := TX7) (N := 15) hx hb hts inb_X7 hown hK.1 hP 3 rfl rfl 6 (by decide) (hK.nf 33 rfl) (fun _ h9 => h9) rfl dX11_count_84 ?_
    refine fn_goi (wc := []) (wr := [(x0, .inr (11, fx)), (rd, .inr (3, [.ref tp, .ref td, .int 0, .int (-1)])), (tp, .inr (6, [.int 0, .ref tb, .int 0, .int 0, .int 0])), (t0, .inr (7, [.int 0, .int 0, .int 0, .int 0, .int 0, .int 0, .int 0, .int 0, .int 0, .ref t0_, .ref t1_, .ref t2_, .ref t3_, .ref t4_, .ref t5_])), (sh, .inr (5, [.int 0, .ref s0, .ref s1, .ref s2, .ref s3, .ref s4, .ref s5, .ref s6])), (rw, .inl (K 6, 4, .inr (.inr (.inr (.inr frw))))), (r0, .inr (4, [.int 0, .int 0, .int 0, .ref n0])), (r1, .inr (4, [.int 0, .int 0, .int 0, .ref n1])), (r2, .inr (4, [.int 0, .int 0, .int 0, .ref n2])), (r3, .inr (4, [.int 0, .int 0, .int 0, .ref n3]))]) hK hP hD hS hA [] [0, 1, 2, 3, 4, 5, 6, 7, 8, 9] rfl rfl (by decide) (fun hp => va_runS (As := [.int 0]) (rest := []) ⟨hx, hb, hml, hown, hts⟩ (c_J6_bitCount_0f7a4 (l := l) (D := D) (K := K)  _) (va_cwS 1 hts (fn_ginS (fn_gin wd_841) wd_862 wd_840 wd_21) rfl rfl rfl (by decide +kernel) ⟨Nat.le_of_ble_eq_true rfl, Nat.le_of_ble_eq_true rfl⟩) ⟨fn_blind, hp⟩ rfl rfl hl.1 rfl (lv_room (Nat.le_of_ble_eq_true rfl)) dX11_count_87 ⟨Nat.le_of_ble_eq_true rfl, Nat.le_of_ble_eq_true rfl⟩) (fun r2 u1 H locs hwu1 hP hD hS => ?_)
    have r2_e : r2 = 0 := hwu1
    subst r2_e
    have hP : va_P D vwCl [(x0, .inr (11, fx)), (rd, .inr (3, [.ref tp, .ref td, .int 0, .int (-1)])), (tp, .inr (6, [.int 0, .ref tb, .int 0, .int 0, .int 0])), (t0, .inr (7, [.int 0, .int 0, .int 0, .int 0, .int 0, .int 0, .int 0, .int 0, .int 0, .ref t0_, .ref t1_, .ref t2_, .ref t3_, .ref t4_, .ref t5_])), (sh, .inr (5, [.int 0, .ref s0, .ref s1, .ref s2, .ref s3, .ref s4, .ref s5, .ref s6])), (rw, .inl (K 6, 4, .inr (.inr (.inr (.inr frw))))), (r0, .inr (4, [.int 0, .int 0, .int 0, .ref n0])), (r1, .inr (4, [.int 0, .int 0, .int 0, .ref n1])), (r2, .inr (4, [.int 0, .int 0, .int 0, .ref n2])), (r3, .inr (4, [.int 0, .int 0, .int 0, .ref n3]))] H := hP
    have hD : va_D A [(x0, .inr (11, fx)), (rd, .inr (3, [.ref tp, .ref td, .int 0, .int (-1)])), (tp, .inr (6, [.int 0, .ref tb, .int 0, .int 0, .int 0])), (t0, .inr (7, [.int 0, .int 0, .int 0, .int 0, .int 0, .int 0, .int 0, .int 0, .int 0, .ref t0_, .ref t1_, .ref t2_, .ref t3_, .ref t4_, .ref t5_])), (sh, .inr (5, [.int 0, .ref s0, .ref s1, .ref s2, .ref s3, .ref s4, .ref s5, .ref s6])), (rw, .inl (K 6, 4, .inr (.inr (.inr (.inr frw))))), (r0, .inr (4, [.int 0, .int 0, .int 0, .ref n0])), (r1, .inr (4, [.int 0, .int 0, .int 0, .ref n1])), (r2, .inr (4, [.int 0, .int 0, .int 0, .ref n2])), (r3, .inr (4, [.int 0, .int 0, .int 0, .ref n3]))] := hD
    exact fn_iret hx hb hr hlocks rfl hP hD hS () (by first | exact fn_cntO h9 | decide) [] (by decide) rfl dX11_count_90
  · refine lv_tableIn (tgt := 91) (off := 90) hx hb dX11_count_1 (by decide) (by decide) (by decide) (by decide) ?_
    refine lv_aload_n hx hb dX11_count_91 rfl (lv_at hl 0 rfl) ?_
    refine va_get (D := D) (own := RX11) (ci := 11) (v := .ref t0) (C := RX11) (T := TX11) (N := 13) hx hb hts inb_X11 hown hK.1 hP 0 rfl rfl 1 (by decide) (hts _ wd_423) (fun _ h9 => h9) hx1 dX11_count_92 ?_
    refine va_getN (D := D) (own := RX11) (ci := 7) (v := .int 0) (C := RX7) (T := TX7) (N := 15) hx hb hts inb_X7 hown hK.1 hP 3 rfl rfl 1 (by decide) (hK.nf 10 rfl) (fun _ h9 => h9) rfl dX11_count_95 ?_
    exact fn_iret hx hb hr hlocks rfl hP hD hS () (by first | exact fn_cntO h9 | decide) [] (by decide) rfl dX11_count_98
  · refine lv_tableIn (tgt := 99) (off := 98) hx hb dX11_count_1 (by decide) (by decide) (by decide) (by decide) ?_
    refine lv_aload_n hx hb dX11_count_99 rfl (lv_at hl 0 rfl) ?_
    refine va_get (D := D) (own := RX11) (ci := 11) (v := .ref t0) (C := RX11) (T := TX11) (N := 13) hx hb hts inb_X11 hown hK.1 hP 0 rfl rfl 1 (by decide) (hts _ wd_423) (fun _ h9 => h9) hx1 dX11_count_100 ?_
    refine va_getN (D := D) (own := RX11) (ci := 7) (v := .int 0) (C := RX7) (T := TX7) (N := 15) hx hb hts inb_X7 hown hK.1 hP 3 rfl rfl 2 (by decide) (hK.nf 12 rfl) (fun _ h9 => h9) rfl dX11_count_103 ?_
    exact fn_iret hx hb hr hlocks rfl hP hD hS () (by first | exact fn_cntO h9 | decide) [] (by decide) rfl dX11_count_106
  · refine lv_tableIn (tgt := 107) (off := 106) hx hb dX11_count_1 (by decide) (by decide) (by decide) (by decide) ?_
    refine lv_aload_n hx hb dX11_count_107 rfl (lv_at hl 0 rfl) ?_
    refine va_get (D := D) (own := RX11) (ci := 11) (v := .ref sh) (C := RX11) (T := TX11) (N := 13) hx hb hts inb_X11 hown hK.1 hP 0 rfl rfl 2 (by decide) (hts _ wd_424) (fun _ h9 => h9) hx2 dX11_count_108 ?_
    refine va_getN (D := D) (own := RX11) (ci := 5) (v := .int 0) (C := RX5) (T := TX5) (N := 8) hx hb hts inb_X5 hown hK.1 hP 4 rfl rfl 0 (by decide) (hK.nf 56 rfl) (fun _ h9 => h9) rfl dX11_count_111 ?_
    exact fn_iret hx hb hr hlocks rfl hP hD hS () (by first | exact fn_cntO h9 | decide) [] (by decide) rfl dX11_count_114
  · refine lv_tableIn (tgt := 115) (off := 114) hx hb dX11_count_1 (by decide) (by decide) (by decide) (by decide) ?_
    refine lv_aload_n hx hb dX11_count_115 rfl (lv_at hl 0 rfl) ?_
    refine va_get (D := D) (own := RX11) (ci := 11) (v := .ref t0) (C := RX11) (T := TX11) (N := 13) hx hb hts inb_X11 hown hK.1 hP 0 rfl rfl 1 (by decide) (hts _ wd_423) (fun _ h9 => h9) hx1 dX11_count_116 ?_
    refine va_getN (D := D) (own := RX11) (ci := 7) (v := .int 0) (C := RX7) (T := TX7) (N := 15) hx hb hts inb_X7 hown hK.1 hP 3 rfl rfl 0 (by decide) (hK.nf 7 rfl) (fun _ h9 => h9) rfl dX11_count_119 ?_
    exact fn_iret hx hb hr hlocks rfl hP hD hS () (by first | exact fn_cntO h9 | decide) [] (by decide) rfl dX11_count_122
  · refine lv_tableIn (tgt := 123) (off := 122) hx hb dX11_count_1 (by decide) (by decide) (by decide) (by decide) ?_
    refine lv_aload_n hx hb dX11_count_123 rfl (lv_at hl 0 rfl) ?_
    refine va_get (D := D) (own := RX11) (ci := 11) (v := .ref rd) (C := RX11) (T := TX11) (N := 13) hx hb hts inb_X11 hown hK.1 hP 0 rfl rfl 0 (by decide) (hts _ wd_422) (fun _ h9 => h9) hx0 dX11_count_124 ?_
    refine va_getN (D := D) (own := RX11) (ci := 3) (v := .ref tp) (C := RX3) (T := TX3) (N := 4) hx hb hts inb_X3 hown hK.1 hP 1 rfl rfl 0 (by decide) (hK.nf 50 rfl) (fun _ h9 => h9) rfl dX11_count_127 ?_
    refine va_getN (D := D) (own := RX11) (ci := 6) (v := .int 0) (C := RX6) (T := TX6) (N := 5) hx hb hts inb_X6 hown hK.1 hP 2 rfl rfl 0 (by decide) (hK.nf 2 rfl) (fun _ h9 => h9) rfl dX11_count_130 ?_
    exact fn_iret hx hb hr hlocks rfl hP hD hS () (by first | exact fn_cntO h9 | decide) [] (by decide) rfl dX11_count_133
  · refine lv_tableIn (tgt := 134) (off := 133) hx hb dX11_count_1 (by decide) (by decide) (by decide) (by decide) ?_
    refine lv_aload_n hx hb dX11_count_134 rfl (lv_at hl 0 rfl) ?_
    refine fn_goi (wc := [(x0, .inr (11, fx)), (rw, .inl (K 6, 4, .inr (.inr (.inr (.inr frw))))), (r0, .inr (4, [.int 0, .int 0, .int 0, .ref n0])), (r1, .inr (4, [.int 0, .int 0, .int 0, .ref n1])), (r2, .inr (4, [.int 0, .int 0, .int 0, .ref n2])), (r3, .inr (4, [.int 0, .int 0, .int 0, .ref n3]))]) (wr := [(rd, .inr (3, [.ref tp, .ref td, .int 0, .int (-1)])), (tp, .inr (6, [.int 0, .ref tb, .int 0, .int 0, .int 0])), (t0, .inr (7, [.int 0, .int 0, .int 0, .int 0, .int 0, .int 0, .int 0, .int 0, .int 0, .ref t0_, .ref t1_, .ref t2_, .ref t3_, .ref t4_, .ref t5_])), (sh, .inr (5, [.int 0, .ref s0, .ref s1, .ref s2, .ref s3, .ref s4, .ref s5, .ref s6]))]) hK hP hD hS hA [0, 5, 6, 7, 8, 9] [1, 2, 3, 4] rfl rfl (by decide) (fun hp => va_runV (C := RX11) (As := []) (rest := []) ⟨hx, hb, hml, hown, hts⟩ (c_X11_rowsPresent (l := l) (D := D) (K := K) (x0 := (x0)) (fx := (fx)) (rw := (rw)) (hx6 := hx6) (r0 := (r0)) (hrw_0 := hrw_0) (r1 := (r1)) (hrw_1 := hrw_1) (r2 := (r2)) (hrw_2 := hrw_2) (r3 := (r3)) (hrw_3 := hrw_3) (frw := (frw)) (n0 := (n0)) (n1 := (n1)) (n2 := (n2)) (n3 := (n3)) _) (cwV 0 hts (fn_ginV (fn_gin wd_1184) wd_1181 wd_1183 wp_89 wd_1) rfl rfl rfl (by decide +kernel) ⟨Nat.le_of_ble_eq_true rfl, Nat.le_of_ble_eq_true rfl⟩) ⟨fn_blind, va_recv hK.1 hP (ci := 11) (q0 := 0) rfl rfl, hp⟩ rfl rfl hl.1 rfl (lv_room (Nat.le_of_ble_eq_true rfl)) dX11_count_135 ⟨Nat.le_of_ble_eq_true rfl, Nat.le_of_ble_eq_true rfl⟩) (fun r4 u3 H locs hwu3 hP hD hS => ?_)
    have r4_e : r4 = 0 := hwu3
    subst r4_e
    have hP : va_P D vwCl [(rd, .inr (3, [.ref tp, .ref td, .int 0, .int (-1)])), (tp, .inr (6, [.int 0, .ref tb, .int 0, .int 0, .int 0])), (t0, .inr (7, [.int 0, .int 0, .int 0, .int 0, .int 0, .int 0, .int 0, .int 0, .int 0, .ref t0_, .ref t1_, .ref t2_, .ref t3_, .ref t4_, .ref t5_])), (sh, .inr (5, [.int 0, .ref s0, .ref s1, .ref s2, .ref s3, .ref s4, .ref s5, .ref s6]))] H := hP
    have hD : va_D A [(rd, .inr (3, [.ref tp, .ref td, .int 0, .int (-1)])), (tp, .inr (6, [.int 0, .ref tb, .int 0, .int 0, .int 0])), (t0, .inr (7, [.int 0, .int 0, .int 0, .int 0, .int 0, .int 0, .int 0, .int 0, .int 0, .ref t0_, .ref t1_, .ref t2_, .ref t3_, .ref t4_, .ref t5_])), (sh, .inr (5, [.int 0, .ref s0, .ref s1, .ref s2, .ref s3, .ref s4, .ref s5, .ref s6]))] := hD
    exact fn_iret hx hb hr hlocks rfl hP hD hS () (by first | exact fn_cntO h9 | decide) [] (by decide) rfl dX11_count_138
