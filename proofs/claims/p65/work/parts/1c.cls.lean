theorem wd_517 : Cond.code ⟨"java/lang/String", "length", "()I"⟩ prog_17_method_54_code 1 (Option.some Jvm.ClassFile.FieldType.int) ∈ fn_big := fn_tb (fn_l3 (List.mem_of_getElem? (i := 37) (by decide +kernel))) (by decide +kernel)
theorem wd_514 : Cond.methodLink "FootNotes$Tape" 35 ⟨"java/lang/String", "length", "()I"⟩ ∈ fn_big := fn_tb (fn_l3 (List.mem_of_getElem? (i := 34) (by decide +kernel))) (by decide +kernel)
theorem wd_515 : Cond.instanceMethod ⟨"java/lang/String", "length", "()I"⟩ ∈ fn_big := fn_tb (fn_l3 (List.mem_of_getElem? (i := 35) (by decide +kernel))) (by decide +kernel)
theorem wd_516 : Cond.selects "java/lang/String" ⟨"java/lang/String", "length", "()I"⟩ ⟨"java/lang/String", "length", "()I"⟩ ∈ fn_big := fn_tb (fn_l3 (List.mem_of_getElem? (i := 36) (by decide +kernel))) (by decide +kernel)
theorem wd_527 : Cond.code ⟨"java/lang/String", "charAt", "(I)C"⟩ prog_17_method_56_code 2 (Option.some Jvm.ClassFile.FieldType.char) ∈ fn_big := fn_tb (fn_l3 (List.mem_of_getElem? (i := 47) (by decide +kernel))) (by decide +kernel)
theorem wd_524 : Cond.methodLink "FootNotes$Tape" 41 ⟨"java/lang/String", "charAt", "(I)C"⟩ ∈ fn_big := fn_tb (fn_l3 (List.mem_of_getElem? (i := 44) (by decide +kernel))) (by decide +kernel)
theorem wd_525 : Cond.instanceMethod ⟨"java/lang/String", "charAt", "(I)C"⟩ ∈ fn_big := fn_tb (fn_l3 (List.mem_of_getElem? (i := 45) (by decide +kernel))) (by decide +kernel)
theorem wd_526 : Cond.selects "java/lang/String" ⟨"java/lang/String", "charAt", "(I)C"⟩ ⟨"java/lang/String", "charAt", "(I)C"⟩ ∈ fn_big := fn_tb (fn_l3 (List.mem_of_getElem? (i := 46) (by decide +kernel))) (by decide +kernel)
theorem dX6_isWord_28 : decode cX6_isWord 28 = .ok (.iload_n 2, 1) := by decide +kernel
theorem dX6_isWord_29 : decode cX6_isWord 29 = .ok (.aload_n 1, 1) := by decide +kernel
theorem dX6_isWord_30 : decode cX6_isWord 30 = .ok (.invokevirtual 35, 3) := by decide +kernel
theorem dX6_isWord_33 : decode cX6_isWord 33 = .ok (.if_icmp .ge 30, 3) := by decide +kernel
theorem dX6_isWord_63 : decode cX6_isWord 63 = .ok (.iconst 1, 1) := by decide +kernel
theorem dX6_isWord_64 : decode cX6_isWord 64 = .ok (.ireturn, 1) := by decide +kernel
theorem dX6_isWord_36 : decode cX6_isWord 36 = .ok (.aload_n 0, 1) := by decide +kernel
theorem dX6_isWord_37 : decode cX6_isWord 37 = .ok (.getfield 9, 3) := by decide +kernel
theorem dX6_isWord_40 : decode cX6_isWord 40 = .ok (.aload_n 0, 1) := by decide +kernel
theorem dX6_isWord_41 : decode cX6_isWord 41 = .ok (.getfield 25, 3) := by decide +kernel
theorem dX6_isWord_44 : decode cX6_isWord 44 = .ok (.iload_n 2, 1) := by decide +kernel
theorem dX6_isWord_45 : decode cX6_isWord 45 = .ok (.iadd, 1) := by decide +kernel
theorem dX6_isWord_46 : decode cX6_isWord 46 = .ok (.baload, 1) := by decide +kernel
theorem dX6_isWord_47 : decode cX6_isWord 47 = .ok (.aload_n 1, 1) := by decide +kernel
theorem dX6_isWord_48 : decode cX6_isWord 48 = .ok (.iload_n 2, 1) := by decide +kernel
theorem dX6_isWord_49 : decode cX6_isWord 49 = .ok (.invokevirtual 41, 3) := by decide +kernel
theorem dX6_isWord_52 : decode cX6_isWord 52 = .ok (.if_icmp .eq 5, 3) := by decide +kernel
theorem dX6_isWord_57 : decode cX6_isWord 57 = .ok (.iinc 2 1, 3) := by decide +kernel
theorem dX6_isWord_60 : decode cX6_isWord 60 = .ok (.goto (-32), 3) := by decide +kernel
theorem dX6_isWord_55 : decode cX6_isWord 55 = .ok (.iconst 0, 1) := by decide +kernel
theorem dX6_isWord_56 : decode cX6_isWord 56 = .ok (.ireturn, 1) := by decide +kernel
theorem dX6_isWord_0 : decode cX6_isWord 0 = .ok (.aload_n 0, 1) := by decide +kernel
theorem dX6_isWord_1 : decode cX6_isWord 1 = .ok (.getfield 28, 3) := by decide +kernel
theorem dX6_isWord_4 : decode cX6_isWord 4 = .ok (.iconst 1, 1) := by decide +kernel
theorem dX6_isWord_5 : decode cX6_isWord 5 = .ok (.if_icmp .ne 19, 3) := by decide +kernel
theorem dX6_isWord_24 : decode cX6_isWord 24 = .ok (.iconst 0, 1) := by decide +kernel
theorem dX6_isWord_25 : decode cX6_isWord 25 = .ok (.ireturn, 1) := by decide +kernel
theorem dX6_isWord_8 : decode cX6_isWord 8 = .ok (.aload_n 0, 1) := by decide +kernel
theorem dX6_isWord_9 : decode cX6_isWord 9 = .ok (.getfield 19, 3) := by decide +kernel
theorem dX6_isWord_12 : decode cX6_isWord 12 = .ok (.aload_n 0, 1) := by decide +kernel
theorem dX6_isWord_13 : decode cX6_isWord 13 = .ok (.getfield 25, 3) := by decide +kernel
theorem dX6_isWord_16 : decode cX6_isWord 16 = .ok (.isub, 1) := by decide +kernel
theorem dX6_isWord_17 : decode cX6_isWord 17 = .ok (.aload_n 1, 1) := by decide +kernel
theorem dX6_isWord_18 : decode cX6_isWord 18 = .ok (.invokevirtual 35, 3) := by decide +kernel
theorem dX6_isWord_21 : decode cX6_isWord 21 = .ok (.if_icmp .eq 5, 3) := by decide +kernel
theorem dX6_isWord_26 : decode cX6_isWord 26 = .ok (.iconst 0, 1) := by decide +kernel
theorem dX6_isWord_27 : decode cX6_isWord 27 = .ok (.istore_n 2, 1) := by decide +kernel
set_option maxHeartbeats 4000000 in
set_option maxRecDepth 100000 in
theorem k_X6_isWord (l : Launch) (D : va_G) (K : Nat → ClassId) (adK adV : Nat → Nat) (t s1 : Nat) (t_q : Nat → Nat) (t_x0 t_x2 t_x3 t_x4 : Int) (t_1_c : Nat → Int) (hs1 : s1 < 11) (hi_t : bX6 t_x0 t_x2 t_x3 t_x4) (hc_t_1 : ∀ j : Nat, (-128) ≤ t_1_c j ∧ t_1_c j ≤ 127) : fn_CIO adK adV (S := (Nat → Int) × (Nat → Nat → Int)) l D K yX6_isWord (fn_ws yX6_isWord cX6_isWord 3 (some .boolean)) ({ frames := 24, cells := 0, slots := 0, locals := 600 } : Room) [.ref t, .ref (adK s1)] [(t, .inr (6, oX6 t_q t_x0 t_x2 t_x3 t_x4)), ((t_q 1), .inl (K 1, 1400, .inl (fun j => iI (t_1_c j))))] (fun r u => ∃ k : Int, r = iI k ∧ (0 ≤ k ∧ k ≤ 1) ∧ True) (fun u => [(t, .inr (6, oX6 t_q t_x0 t_x2 t_x3 t_x4)), ((t_q 1), .inl (K 1, 1400, .inl (fun j => iI (t_1_c j))))]) 0 0 := by
  refine g_inIO (cc := cX6_isWord) (maxL := 3) (ret := (some .boolean)) (by decide) rfl (Nat.le_of_ble_eq_true rfl) ?_
  intro p e s m below meth c A ls ag Q B hO hA hP hD hS hl hQ
  obtain ⟨hx, hb, hr, hml, hts, hown, hlocks, hin, hK⟩ := B
  have hown : s.vm.findClass RX6 = some m.cls := hown
  have hts := fun w h => hts w (List.mem_cons_of_mem _ h)
  have J28 : ∀ (n : Nat) (x28_2 : Int) (H : Heap) (locs : List Loc) (ls : Array Slot), (6 - x28_2).toNat < n → (0 ≤ x28_2 ∧ x28_2 ≤ 6 ∧ 1 ≤ t_x2 ∧ t_x2 ≤ 1 ∧ t_x4 - t_x3 = ((fn_len.getD s1 0 : Nat) : Int) ∧ 0 ≤ t_x3 ∧ t_x4 ≤ 1400) → va_P D vwCl [(t, .inr (6, oX6 t_q t_x0 t_x2 t_x3 t_x4)), ((t_q 1), .inl (K 1, 1400, .inl (fun j => iI (t_1_c j))))] H → va_D A [(t, .inr (6, oX6 t_q t_x0 t_x2 t_x3 t_x4)), ((t_q 1), .inl (K 1, 1400, .inl (fun j => iI (t_1_c j))))] → va_S A s.heap H locs → lv_has ls 3 [(0, .ref t), (1, .ref (adK s1)), (2, .int (iI x28_2))] → W p l e ({ frames := 24, cells := 0, slots := 0, locals := 600 } : Room) s m ag below meth c H locs 0 0 Q (F0 m 28 ls []) := by
    intro n
    induction n with
    | zero =>
      intro x28_2 H locs ls hm28 hf28 hP hD hS hl
      exact absurd hm28 (Nat.not_lt_zero _)
    | succ n ih28 =>
      intro x28_2 H locs ls hm28 hf28 hP hD hS hl
      refine lv_iload_n hx hb dX6_isWord_28 rfl (lv_at hl 2 rfl) ?_
      refine lv_aload_n hx hb dX6_isWord_29 rfl (lv_at hl 1 rfl) ?_
      refine fn_goiO (wc := []) (wr := [(t, .inr (6, oX6 t_q t_x0 t_x2 t_x3 t_x4)), ((t_q 1), .inl (K 1, 1400, .inl (fun j => iI (t_1_c j))))]) hO hK hP hD hS hA [] [0, 1] rfl rfl (by decide) (fun hp => va_runV (C := RJ0) (As := []) (rest := [.int (iI x28_2)]) ⟨hx, hb, hml, hown, hts⟩ (k_J0_length_8abf5 (l := l) (D := D) (K := K) (adK := adK) (adV := adV) (s0 := s1) (hs0 := hs1) _) (cwV 0 hts (fn_ginV (fn_gin wd_517) wd_514 wd_515 wd_516 wd_14) rfl rfl rfl (by decide +kernel) ⟨Nat.le_of_ble_eq_true rfl, Nat.le_of_ble_eq_true rfl⟩) ⟨fn_blindO, vk_recv hO.1 hs1 hS, hp⟩ rfl rfl hl.1 rfl (lv_room (Nat.le_of_ble_eq_true rfl)) dX6_isWord_30 ⟨Nat.le_of_ble_eq_true rfl, Nat.le_of_ble_eq_true rfl⟩) (fun r30 u30 H locs hwu30 hP hD hS => ?_)
      obtain ⟨u30a, u30b⟩ := u30
      obtain ⟨kr30, rfl, hkr30, hqu300, -⟩ := hwu30
      have hqu30 : (kr30 = ((fn_len.getD s1 0 : Nat) : Int)) := hqu300
      clear hqu300
      have hP : va_P D vwCl [(t, .inr (6, oX6 t_q t_x0 t_x2 t_x3 t_x4)), ((t_q 1), .inl (K 1, 1400, .inl (fun j => iI (t_1_c j))))] H := hP
      have hD : va_D A [(t, .inr (6, oX6 t_q t_x0 t_x2 t_x3 t_x4)), ((t_q 1), .inl (K 1, 1400, .inl (fun j => iI (t_1_c j))))] := hD
      refine g_icmp_ge (tgt := 63) hx hb (by omega) (by omega) dX6_isWord_33 (by decide) (fun c33 => ?_) (fun c33 => ?_)
      · refine lv_iconst (v := iI 1) hx hb dX6_isWord_63 rfl ?_
        rw [hQ]; exact fn_iret hx hb hr hlocks (iI_nz (by omega)) hP hD hS ((fun _ => 0), (fun _ _ => 0)) ⟨1, rfl, by omega, trivial⟩ [0, 1] (by decide) rfl dX6_isWord_64
      · refine lv_aload_n hx hb dX6_isWord_36 rfl (lv_at hl 0 rfl) ?_
        refine va_get (D := D) (own := RX6) (ci := 6) (v := .ref (t_q 1)) (C := RX6) (T := TX6) (N := 5) hx hb hts inb_X6 hown hK.1 hP 0 rfl rfl 1 (by decide) (hts _ wd_44) (fun _ h9 => h9) rfl dX6_isWord_37 ?_
        refine lv_aload_n hx hb dX6_isWord_40 rfl (lv_at hl 0 rfl) ?_
        refine va_get (D := D) (own := RX6) (ci := 6) (v := .int (iI t_x3)) (C := RX6) (T := TX6) (N := 5) hx hb hts inb_X6 hown hK.1 hP 0 rfl rfl 3 (by decide) (hts _ wd_48) (fun _ h9 => h9) rfl dX6_isWord_41 ?_
        have y41_1 : 0 ≤ t_x3 ∧ t_x3 ≤ 1400 := hi_t.2.2.1
        refine lv_iload_n hx hb dX6_isWord_44 rfl (lv_at hl 2 rfl) ?_
        refine g_iadd hx hb dX6_isWord_45 ?_
        refine g_bald hx hb hK.1 hP 1 1 rfl rfl (by omega) (by omega) (by decide) dX6_isWord_46 ?_
        have y46 : (-128) ≤ (t_1_c ((t_x3 + x28_2).toNat)) ∧ (t_1_c ((t_x3 + x28_2).toNat)) ≤ 127 := hc_t_1 ((t_x3 + x28_2).toNat)
        refine lv_aload_n hx hb dX6_isWord_47 rfl (lv_at hl 1 rfl) ?_
        refine lv_iload_n hx hb dX6_isWord_48 rfl (lv_at hl 2 rfl) ?_
        refine fn_goiO (wc := []) (wr := [(t, .inr (6, oX6 t_q t_x0 t_x2 t_x3 t_x4)), ((t_q 1), .inl (K 1, 1400, .inl (fun j => iI (t_1_c j))))]) hO hK hP hD hS hA [] [0, 1] rfl rfl (by decide) (fun hp => va_runV (C := RJ0) (As := [.int (iI x28_2)]) (rest := [.int (iI (t_1_c ((t_x3 + x28_2).toNat)))]) ⟨hx, hb, hml, hown, hts⟩ (k_J0_charAt_5068e (l := l) (D := D) (K := K) (adK := adK) (adV := adV) (s0 := s1) (p1 := x28_2) (hs0 := hs1) (hp1 := (by omega)) (ck := (show 0 ≤ x28_2 ∧ x28_2 < ((fn_len.getD s1 0 : Nat) : Int) from by omega)) _) (cwV 1 hts (fn_ginV (fn_gin wd_527) wd_524 wd_525 wd_526 wd_14) rfl rfl rfl (by decide +kernel) ⟨Nat.le_of_ble_eq_true rfl, Nat.le_of_ble_eq_true rfl⟩) ⟨fn_blindO, vk_recv hO.1 hs1 hS, hp⟩ rfl rfl hl.1 rfl (lv_room (Nat.le_of_ble_eq_true rfl)) dX6_isWord_49 ⟨Nat.le_of_ble_eq_true rfl, Nat.le_of_ble_eq_true rfl⟩) (fun r49 u49 H locs hwu49 hP hD hS => ?_)
        obtain ⟨u49a, u49b⟩ := u49
        obtain ⟨kr49, rfl, hkr49, -⟩ := hwu49
        have hP : va_P D vwCl [(t, .inr (6, oX6 t_q t_x0 t_x2 t_x3 t_x4)), ((t_q 1), .inl (K 1, 1400, .inl (fun j => iI (t_1_c j))))] H := hP
        have hD : va_D A [(t, .inr (6, oX6 t_q t_x0 t_x2 t_x3 t_x4)), ((t_q 1), .inl (K 1, 1400, .inl (fun j => iI (t_1_c j))))] := hD
        refine g_icmp_eq (tgt := 57) hx hb (by omega) (by omega) dX6_isWord_52 (by decide) (fun c52 => ?_) (fun c52 => ?_)
        · refine lv_iinc (v := iI (x28_2 + 1)) (lv' := [(2, .int (iI (x28_2 + 1))), (0, .ref t), (1, .ref (adK s1))]) hx hb dX6_isWord_57 hl (k := 2) rfl (iI_add _ _) (by decide) rfl (fun ls hl => ?_)
          refine lv_goto (tgt := 28) hx hb dX6_isWord_60 (by decide) ?_
          exact ih28 (x28_2 + 1) _ _ ls (by omega) (by omega) (hP.sub [0, 1] rfl) (hD.sub [0, 1] (by decide) rfl) hS (lv_sub hl [1, 2, 0] rfl)
        · refine lv_iconst (v := iI 0) hx hb dX6_isWord_55 rfl ?_
          rw [hQ]; exact fn_iret hx hb hr hlocks (iI_nz (by omega)) hP hD hS ((fun _ => 0), (fun _ _ => 0)) ⟨0, rfl, by omega, trivial⟩ [0, 1] (by decide) rfl dX6_isWord_56
  have hl : lv_has ls 3 [(0, .ref t), (1, .ref (adK s1))] := hl
  refine lv_aload_n hx hb dX6_isWord_0 rfl (lv_at hl 0 rfl) ?_
  refine va_get (D := D) (own := RX6) (ci := 6) (v := .int (iI t_x2)) (C := RX6) (T := TX6) (N := 5) hx hb hts inb_X6 hown hK.1 hP 0 rfl rfl 2 (by decide) (hts _ wd_46) (fun _ h9 => h9) rfl dX6_isWord_1 ?_
  have y1_1 : 0 ≤ t_x2 ∧ t_x2 ≤ 4 := hi_t.2.1
  refine lv_iconst (v := iI 1) hx hb dX6_isWord_4 rfl ?_
  refine g_icmp_ne (tgt := 24) hx hb (by omega) (by omega) dX6_isWord_5 (by decide) (fun c5 => ?_) (fun c5 => ?_)
  · refine lv_iconst (v := iI 0) hx hb dX6_isWord_24 rfl ?_
    rw [hQ]; exact fn_iret hx hb hr hlocks (iI_nz (by omega)) hP hD hS ((fun _ => 0), (fun _ _ => 0)) ⟨0, rfl, by omega, trivial⟩ [0, 1] (by decide) rfl dX6_isWord_25
  · refine lv_aload_n hx hb dX6_isWord_8 rfl (lv_at hl 0 rfl) ?_
    refine va_get (D := D) (own := RX6) (ci := 6) (v := .int (iI t_x4)) (C := RX6) (T := TX6) (N := 5) hx hb hts inb_X6 hown hK.1 hP 0 rfl rfl 4 (by decide) (hts _ wd_49) (fun _ h9 => h9) rfl dX6_isWord_9 ?_
    have y9_2 : 0 ≤ t_x4 ∧ t_x4 ≤ 1400 := hi_t.2.2.2
    refine lv_aload_n hx hb dX6_isWord_12 rfl (lv_at hl 0 rfl) ?_
    refine va_get (D := D) (own := RX6) (ci := 6) (v := .int (iI t_x3)) (C := RX6) (T := TX6) (N := 5) hx hb hts inb_X6 hown hK.1 hP 0 rfl rfl 3 (by decide) (hts _ wd_48) (fun _ h9 => h9) rfl dX6_isWord_13 ?_
    have y13_3 : 0 ≤ t_x3 ∧ t_x3 ≤ 1400 := hi_t.2.2.1
    refine g_isub hx hb dX6_isWord_16 ?_
    refine lv_aload_n hx hb dX6_isWord_17 rfl (lv_at hl 1 rfl) ?_
    refine fn_goiO (wc := []) (wr := [(t, .inr (6, oX6 t_q t_x0 t_x2 t_x3 t_x4)), ((t_q 1), .inl (K 1, 1400, .inl (fun j => iI (t_1_c j))))]) hO hK hP hD hS hA [] [0, 1] rfl rfl (by decide) (fun hp => va_runV (C := RJ0) (As := []) (rest := [.int (iI (t_x4 - t_x3))]) ⟨hx, hb, hml, hown, hts⟩ (k_J0_length_8abf5 (l := l) (D := D) (K := K) (adK := adK) (adV := adV) (s0 := s1) (hs0 := hs1) _) (cwV 0 hts (fn_ginV (fn_gin wd_517) wd_514 wd_515 wd_516 wd_14) rfl rfl rfl (by decide +kernel) ⟨Nat.le_of_ble_eq_true rfl, Nat.le_of_ble_eq_true rfl⟩) ⟨fn_blindO, vk_recv hO.1 hs1 hS, hp⟩ rfl rfl hl.1 rfl (lv_room (Nat.le_of_ble_eq_true rfl)) dX6_isWord_18 ⟨Nat.le_of_ble_eq_true rfl, Nat.le_of_ble_eq_true rfl⟩) (fun r18 u18 H locs hwu18 hP hD hS => ?_)
    obtain ⟨u18a, u18b⟩ := u18
    obtain ⟨kr18, rfl, hkr18, hqu180, -⟩ := hwu18
    have hqu18 : (kr18 = ((fn_len.getD s1 0 : Nat) : Int)) := hqu180
    clear hqu180
    have hP : va_P D vwCl [(t, .inr (6, oX6 t_q t_x0 t_x2 t_x3 t_x4)), ((t_q 1), .inl (K 1, 1400, .inl (fun j => iI (t_1_c j))))] H := hP
    have hD : va_D A [(t, .inr (6, oX6 t_q t_x0 t_x2 t_x3 t_x4)), ((t_q 1), .inl (K 1, 1400, .inl (fun j => iI (t_1_c j))))] := hD
    refine g_icmp_eq (tgt := 26) hx hb (by omega) (by omega) dX6_isWord_21 (by decide) (fun c21 => ?_) (fun c21 => ?_)
    · refine lv_iconst (v := iI 0) hx hb dX6_isWord_26 rfl ?_
      refine lv_istore_n (lv' := [(2, .int (iI 0)), (0, .ref t), (1, .ref (adK s1))]) hx hb dX6_isWord_27 rfl hl (by decide) rfl (fun ls hl => ?_)
      exact J28 _ 0 _ _ ls (Nat.lt_succ_self _) (by omega) (hP.sub [0, 1] rfl) (hD.sub [0, 1] (by decide) rfl) hS (lv_sub hl [1, 2, 0] rfl)
    · refine lv_iconst (v := iI 0) hx hb dX6_isWord_24 rfl ?_
      rw [hQ]; exact fn_iret hx hb hr hlocks (iI_nz (by omega)) hP hD hS ((fun _ => 0), (fun _ _ => 0)) ⟨0, rfl, by omega, trivial⟩ [0, 1] (by decide) rfl dX6_isWord_25
theorem wd_513 : Cond.code ⟨"FootNotes$Tape", "isWord", "(Ljava/lang/String;)Z"⟩ prog_8_method_6_code 3 (Option.some Jvm.ClassFile.FieldType.boolean) ∈ fn_big := fn_tb (fn_l3 (List.mem_of_getElem? (i := 33) (by decide +kernel))) (by decide +kernel)
theorem wd_512 : Cond.instanceMethod ⟨"FootNotes$Tape", "isWord", "(Ljava/lang/String;)Z"⟩ ∈ fn_big := fn_tb (fn_l3 (List.mem_of_getElem? (i := 32) (by decide +kernel))) (by decide +kernel)
theorem wp_8 : Cond.selects "FootNotes$Tape" ⟨"FootNotes$Tape", "isWord", "(Ljava/lang/String;)Z"⟩ ⟨"FootNotes$Tape", "isWord", "(Ljava/lang/String;)Z"⟩ ∈ fn_big := fn_sel (q := (⟨"FootNotes$Tape", "isWord", "(Ljava/lang/String;)Z"⟩, 5)) 8 (by decide +kernel) (by decide +kernel)
theorem dX3_takeWord_0 : decode cX3_takeWord 0 = .ok (.aload_n 0, 1) := by decide +kernel
theorem dX3_takeWord_1 : decode cX3_takeWord 1 = .ok (.getfield 12, 3) := by decide +kernel
theorem dX3_takeWord_4 : decode cX3_takeWord 4 = .ok (.aload_n 1, 1) := by decide +kernel
theorem dX3_takeWord_5 : decode cX3_takeWord 5 = .ok (.invokevirtual 55, 3) := by decide +kernel
theorem dX3_takeWord_8 : decode cX3_takeWord 8 = .ok (.ifCond .eq 13, 3) := by decide +kernel
theorem dX3_takeWord_21 : decode cX3_takeWord 21 = .ok (.aload_n 0, 1) := by decide +kernel
theorem dX3_takeWord_22 : decode cX3_takeWord 22 = .ok (.iconst 1, 1) := by decide +kernel
theorem dX3_takeWord_23 : decode cX3_takeWord 23 = .ok (.aload_n 0, 1) := by decide +kernel
theorem dX3_takeWord_24 : decode cX3_takeWord 24 = .ok (.getfield 12, 3) := by decide +kernel
theorem dX3_takeWord_27 : decode cX3_takeWord 27 = .ok (.getfield 87, 3) := by decide +kernel
theorem dX3_takeWord_30 : decode cX3_takeWord 30 = .ok (.invokevirtual 90, 3) := by decide +kernel
theorem dX3_takeWord_33 : decode cX3_takeWord 33 = .ok (.return_, 1) := by decide +kernel
theorem dX3_takeWord_11 : decode cX3_takeWord 11 = .ok (.aload_n 0, 1) := by decide +kernel
theorem dX3_takeWord_12 : decode cX3_takeWord 12 = .ok (.getfield 12, 3) := by decide +kernel
theorem dX3_takeWord_15 : decode cX3_takeWord 15 = .ok (.invokevirtual 127, 3) := by decide +kernel
theorem dX3_takeWord_18 : decode cX3_takeWord 18 = .ok (.goto 15, 3) := by decide +kernel
set_option maxHeartbeats 4000000 in
set_option maxRecDepth 100000 in
theorem k_X3_takeWord (l : Launch) (D : va_G) (K : Nat → ClassId) (adK adV : Nat → Nat) (t s1 : Nat) (t_q t_0_q : Nat → Nat) (t_x2 t_x3 t_0_x0 t_0_x2 t_0_x3 t_0_x4 : Int) (t_0_1_c : Nat → Int) (hs1 : s1 < 11) (hi_t : bX3 t_x2 t_x3) (hi_t_0 : bX6 t_0_x0 t_0_x2 t_0_x3 t_0_x4) (hc_t_0_1 : ∀ j : Nat, (-128) ≤ t_0_1_c j ∧ t_0_1_c j ≤ 127) : fn_CVO adK adV (S := (Nat → Int) × (Nat → Nat → Int)) l D K yX3_takeWord (fn_ws yX3_takeWord cX3_takeWord 2 none) ({ frames := 28, cells := 0, slots := 0, locals := 700 } : Room) [.ref t, .ref (adK s1)] [(t, .inr (3, oX3 t_q t_x2 t_x3)), ((t_q 0), .inr (6, oX6 t_0_q t_0_x0 t_0_x2 t_0_x3 t_0_x4)), ((t_0_q 1), .inl (K 1, 1400, .inl (fun j => iI (t_0_1_c j))))] (fun u => (0 ≤ (u.1 0) ∧ (u.1 0) ≤ 3 ∧ (-2147483648) ≤ (u.1 1) ∧ (u.1 1) ≤ 2147483647 ∧ 0 ≤ (u.1 2) ∧ (u.1 2) ≤ 4 ∧ 0 ≤ (u.1 3) ∧ (u.1 3) ≤ 1400 ∧ 0 ≤ (u.1 4) ∧ (u.1 4) ≤ 1400) ∧ True) (fun u => [(t, .inr (3, oX3 t_q (u.1 0) (u.1 1))), ((t_q 0), .inr (6, oX6 t_0_q t_0_x0 (u.1 2) (u.1 3) (u.1 4))), ((t_0_q 1), .inl (K 1, 1400, .inl (fun j => iI (t_0_1_c j))))]) 0 0 := by
  refine g_inVO (cc := cX3_takeWord) (maxL := 2) (ret := none) (by decide) rfl (Nat.le_of_ble_eq_true rfl) ?_
  intro p e s m below meth c A ls ag Q B hO hA hP hD hS hl hQ
  obtain ⟨hx, hb, hr, hml, hts, hown, hlocks, hin, hK⟩ := B
  have hown : s.vm.findClass RX3 = some m.cls := hown
  have hts := fun w h => hts w (List.mem_cons_of_mem _ h)
  have hl : lv_has ls 2 [(0, .ref t), (1, .ref (adK s1))] := hl
  refine lv_aload_n hx hb dX3_takeWord_0 rfl (lv_at hl 0 rfl) ?_
  refine va_get (D := D) (own := RX3) (ci := 3) (v := .ref (t_q 0)) (C := RX3) (T := TX3) (N := 4) hx hb hts inb_X3 hown hK.1 hP 0 rfl rfl 0 (by decide) (hts _ wd_159) (fun _ h9 => h9) rfl dX3_takeWord_1 ?_
  refine lv_aload_n hx hb dX3_takeWord_4 rfl (lv_at hl 1 rfl) ?_
  refine fn_goiO (wc := [((t_q 0), .inr (6, oX6 t_0_q t_0_x0 t_0_x2 t_0_x3 t_0_x4)), ((t_0_q 1), .inl (K 1, 1400, .inl (fun j => iI (t_0_1_c j))))]) (wr := [(t, .inr (3, oX3 t_q t_x2 t_x3))]) hO hK hP hD hS hA [1, 2] [0] rfl rfl (by decide) (fun hp => va_runVN (C := RX6) (As := [.ref (adK s1)]) (rest := []) ⟨hx, hb, hml, hown, hts⟩ (k_X6_isWord (l := l) (D := D) (K := K) (adK := adK) (adV := adV) (t := (t_q 0)) (s1 := s1) (t_q := t_0_q) (t_x0 := t_0_x0) (t_x2 := t_0_x2) (t_x3 := t_0_x3) (t_x4 := t_0_x4) (t_1_c := t_0_1_c) (hs1 := hs1) (hi_t := hi_t_0) (hc_t_1 := hc_t_0_1) _) ⟨va_cnB (own := RX3) 1 hts (fn_gin wd_513) rfl rfl rfl (hK.nw 97 rfl) (hts _ wd_3) (by decide +kernel) ⟨Nat.le_of_ble_eq_true rfl, Nat.le_of_ble_eq_true rfl⟩, hts _ wd_512, hts _ wp_8⟩ ⟨fn_blindO, va_recv hK.1 hP (ci := 6) (q0 := 1) rfl rfl, hp⟩ rfl rfl hl.1 rfl (lv_room (Nat.le_of_ble_eq_true rfl)) dX3_takeWord_5 ⟨Nat.le_of_ble_eq_true rfl, Nat.le_of_ble_eq_true rfl⟩) (fun r5 u5 H locs hwu5 hP hD hS => ?_)
  obtain ⟨u5a, u5b⟩ := u5
  obtain ⟨kr5, rfl, hkr5, -⟩ := hwu5
  have hP : va_P D vwCl [(t, .inr (3, oX3 t_q t_x2 t_x3)), ((t_q 0), .inr (6, oX6 t_0_q t_0_x0 t_0_x2 t_0_x3 t_0_x4)), ((t_0_q 1), .inl (K 1, 1400, .inl (fun j => iI (t_0_1_c j))))] H := hP
  have hD : va_D A [(t, .inr (3, oX3 t_q t_x2 t_x3)), ((t_q 0), .inr (6, oX6 t_0_q t_0_x0 t_0_x2 t_0_x3 t_0_x4)), ((t_0_q 1), .inl (K 1, 1400, .inl (fun j => iI (t_0_1_c j))))] := hD
  refine g_if_eq (tgt := 21) hx hb (by omega) dX3_takeWord_8 (by decide) (fun c8 => ?_) (fun c8 => ?_)
  · refine lv_aload_n hx hb dX3_takeWord_21 rfl (lv_at hl 0 rfl) ?_
    refine lv_iconst (v := iI 1) hx hb dX3_takeWord_22 rfl ?_
    refine lv_aload_n hx hb dX3_takeWord_23 rfl (lv_at hl 0 rfl) ?_
    refine va_get (D := D) (own := RX3) (ci := 3) (v := .ref (t_q 0)) (C := RX3) (T := TX3) (N := 4) hx hb hts inb_X3 hown hK.1 hP 0 rfl rfl 0 (by decide) (hts _ wd_159) (fun _ h9 => h9) rfl dX3_takeWord_24 ?_
    refine va_getN (D := D) (own := RX3) (ci := 6) (v := .int (iI t_0_x3)) (C := RX6) (T := TX6) (N := 5) hx hb hts inb_X6 hown hK.1 hP 1 rfl rfl 3 (by decide) (hK.nf 4 rfl) (fun _ h9 => h9) rfl dX3_takeWord_27 ?_
    have y27_1 : 0 ≤ t_0_x3 ∧ t_0_x3 ≤ 1400 := hi_t_0.2.2.1
    refine fn_gov (wc := [(t, .inr (3, oX3 t_q t_x2 t_x3))]) (wr := [((t_q 0), .inr (6, oX6 t_0_q t_0_x0 t_0_x2 t_0_x3 t_0_x4)), ((t_0_q 1), .inl (K 1, 1400, .inl (fun j => iI (t_0_1_c j))))]) hK hP hD hS hA [0] [1, 2] rfl rfl (by decide) (fun hp => va_runV (C := RX3) (As := [.int (iI 1), .int (iI t_0_x3)]) (rest := []) ⟨hx, hb, hml, hown, hts⟩ (k_X3_blame (l := l) (D := D) (K := K) (t := t) (p1 := 1) (p2 := t_0_x3) (t_q := t_q) (t_x2 := t_x2) (t_x3 := t_x3) (hp1 := (by omega)) (hp2 := (by omega)) (hi_t := hi_t) _) (cwV 2 hts (fn_ginV (fn_gin wd_566) wd_563 wd_565 wp_9 wd_2) rfl rfl rfl (by decide +kernel) ⟨Nat.le_of_ble_eq_true rfl, Nat.le_of_ble_eq_true rfl⟩) ⟨fn_blind, va_recv hK.1 hP (ci := 3) (q0 := 0) rfl rfl, hp⟩ rfl rfl hl.1 rfl (lv_room (Nat.le_of_ble_eq_true rfl)) dX3_takeWord_30 ⟨Nat.le_of_ble_eq_true rfl, Nat.le_of_ble_eq_true rfl⟩) (fun u30 H locs hwu30 hP hD hS => ?_)
    obtain ⟨u30a, u30b⟩ := u30
    obtain ⟨hqu300, -⟩ := hwu30
    have hqu30 : 0 ≤ (u30a 0) ∧ (u30a 0) ≤ 3 ∧ (-2147483648) ≤ (u30a 1) ∧ (u30a 1) ≤ 2147483647 := hqu300
    clear hqu300
    have hP : va_P D vwCl [((t_q 0), .inr (6, oX6 t_0_q t_0_x0 t_0_x2 t_0_x3 t_0_x4)), ((t_0_q 1), .inl (K 1, 1400, .inl (fun j => iI (t_0_1_c j)))), (t, .inr (3, oX3 t_q (u30a 0) (u30a 1)))] H := hP
    have hD : va_D A [((t_q 0), .inr (6, oX6 t_0_q t_0_x0 t_0_x2 t_0_x3 t_0_x4)), ((t_0_q 1), .inl (K 1, 1400, .inl (fun j => iI (t_0_1_c j)))), (t, .inr (3, oX3 t_q (u30a 0) (u30a 1)))] := hD
    have y33_2 : 0 ≤ t_0_x2 ∧ t_0_x2 ≤ 4 := hi_t_0.2.1
    have y33_3 : 0 ≤ t_0_x4 ∧ t_0_x4 ≤ 1400 := hi_t_0.2.2.2
    rw [hQ]; exact fn_vret hx hb hr hlocks hP hD hS ((fun k => ([(u30a 0), (u30a 1), t_0_x2, t_0_x3, t_0_x4] : List Int).getD k 0), (fun _ _ => 0)) ⟨(by show 0 ≤ (u30a 0) ∧ (u30a 0) ≤ 3 ∧ (-2147483648) ≤ (u30a 1) ∧ (u30a 1) ≤ 2147483647 ∧ 0 ≤ t_0_x2 ∧ t_0_x2 ≤ 4 ∧ 0 ≤ t_0_x3 ∧ t_0_x3 ≤ 1400 ∧ 0 ≤ t_0_x4 ∧ t_0_x4 ≤ 1400; omega), trivial⟩ [2, 0, 1] (by decide) rfl dX3_takeWord_33
  · refine lv_aload_n hx hb dX3_takeWord_11 rfl (lv_at hl 0 rfl) ?_
    refine va_get (D := D) (own := RX3) (ci := 3) (v := .ref (t_q 0)) (C := RX3) (T := TX3) (N := 4) hx hb hts inb_X3 hown hK.1 hP 0 rfl rfl 0 (by decide) (hts _ wd_159) (fun _ h9 => h9) rfl dX3_takeWord_12 ?_
    refine fn_gov (wc := [((t_q 0), .inr (6, oX6 t_0_q t_0_x0 t_0_x2 t_0_x3 t_0_x4)), ((t_0_q 1), .inl (K 1, 1400, .inl (fun j => iI (t_0_1_c j))))]) (wr := [(t, .inr (3, oX3 t_q t_x2 t_x3))]) hK hP hD hS hA [1, 2] [0] rfl rfl (by decide) (fun hp => va_runVN (C := RX6) (As := []) (rest := []) ⟨hx, hb, hml, hown, hts⟩ (k_X6_moveOn (l := l) (D := D) (K := K) (t := (t_q 0)) (t_q := t_0_q) (t_x0 := t_0_x0) (t_x2 := t_0_x2) (t_x3 := t_0_x3) (t_x4 := t_0_x4) (t_1_c := t_0_1_c) (hi_t := hi_t_0) (hc_t_1 := hc_t_0_1) _) ⟨va_cnB (own := RX3) 0 hts (fn_gin wd_493) rfl rfl rfl (hK.nw 98 rfl) (hts _ wd_3) (by decide +kernel) ⟨Nat.le_of_ble_eq_true rfl, Nat.le_of_ble_eq_true rfl⟩, hts _ wd_492, hts _ wp_4⟩ ⟨fn_blind, va_recv hK.1 hP (ci := 6) (q0 := 1) rfl rfl, hp⟩ rfl rfl hl.1 rfl (lv_room (Nat.le_of_ble_eq_true rfl)) dX3_takeWord_15 ⟨Nat.le_of_ble_eq_true rfl, Nat.le_of_ble_eq_true rfl⟩) (fun u15 H locs hwu15 hP hD hS => ?_)
    obtain ⟨u15a, u15b⟩ := u15
    obtain ⟨hqu150, -⟩ := hwu15
    have hqu15 : 0 ≤ (u15a 0) ∧ (u15a 0) ≤ 4 ∧ 0 ≤ (u15a 1) ∧ (u15a 1) ≤ 1400 ∧ 0 ≤ (u15a 2) ∧ (u15a 2) ≤ 1400 := hqu150
    clear hqu150
    have hP : va_P D vwCl [(t, .inr (3, oX3 t_q t_x2 t_x3)), ((t_q 0), .inr (6, oX6 t_0_q t_0_x0 (u15a 0) (u15a 1) (u15a 2))), ((t_0_q 1), .inl (K 1, 1400, .inl (fun j => iI (t_0_1_c j))))] H := hP
    have hD : va_D A [(t, .inr (3, oX3 t_q t_x2 t_x3)), ((t_q 0), .inr (6, oX6 t_0_q t_0_x0 (u15a 0) (u15a 1) (u15a 2))), ((t_0_q 1), .inl (K 1, 1400, .inl (fun j => iI (t_0_1_c j))))] := hD
    refine lv_goto (tgt := 33) hx hb dX3_takeWord_18 (by decide) ?_
    have y33_1 : 0 ≤ t_x2 ∧ t_x2 ≤ 3 := hi_t.1
    have y33_2 : (-2147483648) ≤ t_x3 ∧ t_x3 ≤ 2147483647 := hi_t.2
    rw [hQ]; exact fn_vret hx hb hr hlocks hP hD hS ((fun k => ([t_x2, t_x3, (u15a 0), (u15a 1), (u15a 2)] : List Int).getD k 0), (fun _ _ => 0)) ⟨(by show 0 ≤ t_x2 ∧ t_x2 ≤ 3 ∧ (-2147483648) ≤ t_x3 ∧ t_x3 ≤ 2147483647 ∧ 0 ≤ (u15a 0) ∧ (u15a 0) ≤ 4 ∧ 0 ≤ (u15a 1) ∧ (u15a 1) ≤ 1400 ∧ 0 ≤ (u15a 2) ∧ (u15a 2) ≤ 1400; omega), trivial⟩ [0, 1, 2] (by decide) rfl dX3_takeWord_33
theorem wd_80 : Cond.fieldLink "FootNotes$Text" 40 "FootNotes$Text" "books" "I" ∈ fn_big := fn_tb (fn_l1 (List.mem_of_getElem? (i := 80) (by decide +kernel))) (by decide +kernel)
theorem wd_87 : Cond.fieldLink "FootNotes$Text" 43 "FootNotes$Text" "pages" "I" ∈ fn_big := fn_tb (fn_l1 (List.mem_of_getElem? (i := 87) (by decide +kernel))) (by decide +kernel)
theorem wd_109 : Cond.fieldLink "FootNotes$Text" 9 "FootNotes$Text" "scholar" "[I" ∈ fn_big := fn_tb (fn_l1 (List.mem_of_getElem? (i := 109) (by decide +kernel))) (by decide +kernel)
theorem wd_111 : Cond.fieldLink "FootNotes$Text" 15 "FootNotes$Text" "firstPage" "[I" ∈ fn_big := fn_tb (fn_l1 (List.mem_of_getElem? (i := 111) (by decide +kernel))) (by decide +kernel)
theorem wd_113 : Cond.fieldLink "FootNotes$Text" 18 "FootNotes$Text" "bookOf" "[I" ∈ fn_big := fn_tb (fn_l1 (List.mem_of_getElem? (i := 113) (by decide +kernel))) (by decide +kernel)
theorem dX7_addBook_45 : decode cX7_addBook 45 = .ok (.iload_n 3, 1) := by decide +kernel
theorem dX7_addBook_46 : decode cX7_addBook 46 = .ok (.iload_n 1, 1) := by decide +kernel
theorem dX7_addBook_47 : decode cX7_addBook 47 = .ok (.if_icmp .ge 32, 3) := by decide +kernel
theorem dX7_addBook_79 : decode cX7_addBook 79 = .ok (.aload_n 0, 1) := by decide +kernel
theorem dX7_addBook_80 : decode cX7_addBook 80 = .ok (.dup, 1) := by decide +kernel
theorem dX7_addBook_81 : decode cX7_addBook 81 = .ok (.getfield 40, 3) := by decide +kernel
theorem dX7_addBook_84 : decode cX7_addBook 84 = .ok (.iconst 1, 1) := by decide +kernel
theorem dX7_addBook_85 : decode cX7_addBook 85 = .ok (.iadd, 1) := by decide +kernel
theorem dX7_addBook_86 : decode cX7_addBook 86 = .ok (.putfield 40, 3) := by decide +kernel
theorem dX7_addBook_89 : decode cX7_addBook 89 = .ok (.aload_n 0, 1) := by decide +kernel
theorem dX7_addBook_90 : decode cX7_addBook 90 = .ok (.getfield 15, 3) := by decide +kernel
theorem dX7_addBook_93 : decode cX7_addBook 93 = .ok (.aload_n 0, 1) := by decide +kernel
theorem dX7_addBook_94 : decode cX7_addBook 94 = .ok (.getfield 40, 3) := by decide +kernel
theorem dX7_addBook_97 : decode cX7_addBook 97 = .ok (.aload_n 0, 1) := by decide +kernel
theorem dX7_addBook_98 : decode cX7_addBook 98 = .ok (.getfield 43, 3) := by decide +kernel
theorem dX7_addBook_101 : decode cX7_addBook 101 = .ok (.iastore, 1) := by decide +kernel
theorem dX7_addBook_102 : decode cX7_addBook 102 = .ok (.return_, 1) := by decide +kernel
theorem dX7_addBook_50 : decode cX7_addBook 50 = .ok (.aload_n 0, 1) := by decide +kernel
theorem dX7_addBook_51 : decode cX7_addBook 51 = .ok (.getfield 18, 3) := by decide +kernel
theorem dX7_addBook_54 : decode cX7_addBook 54 = .ok (.aload_n 0, 1) := by decide +kernel
theorem dX7_addBook_55 : decode cX7_addBook 55 = .ok (.getfield 43, 3) := by decide +kernel
theorem dX7_addBook_58 : decode cX7_addBook 58 = .ok (.aload_n 0, 1) := by decide +kernel
theorem dX7_addBook_59 : decode cX7_addBook 59 = .ok (.getfield 40, 3) := by decide +kernel
theorem dX7_addBook_62 : decode cX7_addBook 62 = .ok (.iastore, 1) := by decide +kernel
theorem dX7_addBook_63 : decode cX7_addBook 63 = .ok (.aload_n 0, 1) := by decide +kernel
theorem dX7_addBook_64 : decode cX7_addBook 64 = .ok (.dup, 1) := by decide +kernel
theorem dX7_addBook_65 : decode cX7_addBook 65 = .ok (.getfield 43, 3) := by decide +kernel
theorem dX7_addBook_68 : decode cX7_addBook 68 = .ok (.iconst 1, 1) := by decide +kernel
theorem dX7_addBook_69 : decode cX7_addBook 69 = .ok (.iadd, 1) := by decide +kernel
theorem dX7_addBook_70 : decode cX7_addBook 70 = .ok (.putfield 43, 3) := by decide +kernel
theorem dX7_addBook_73 : decode cX7_addBook 73 = .ok (.iinc 3 1, 3) := by decide +kernel
theorem dX7_addBook_76 : decode cX7_addBook 76 = .ok (.goto (-31), 3) := by decide +kernel
theorem dX7_addBook_0 : decode cX7_addBook 0 = .ok (.aload_n 0, 1) := by decide +kernel
theorem dX7_addBook_1 : decode cX7_addBook 1 = .ok (.getfield 40, 3) := by decide +kernel
theorem dX7_addBook_4 : decode cX7_addBook 4 = .ok (.iconst 5, 1) := by decide +kernel
theorem dX7_addBook_5 : decode cX7_addBook 5 = .ok (.if_icmp .ge 14, 3) := by decide +kernel
theorem dX7_addBook_19 : decode cX7_addBook 19 = .ok (.return_, 1) := by decide +kernel
theorem dX7_addBook_8 : decode cX7_addBook 8 = .ok (.aload_n 0, 1) := by decide +kernel
theorem dX7_addBook_9 : decode cX7_addBook 9 = .ok (.getfield 43, 3) := by decide +kernel
theorem dX7_addBook_12 : decode cX7_addBook 12 = .ok (.iload_n 1, 1) := by decide +kernel
theorem dX7_addBook_13 : decode cX7_addBook 13 = .ok (.iadd, 1) := by decide +kernel
theorem dX7_addBook_14 : decode cX7_addBook 14 = .ok (.bipush 12, 2) := by decide +kernel
theorem dX7_addBook_16 : decode cX7_addBook 16 = .ok (.if_icmp .le 4, 3) := by decide +kernel
theorem dX7_addBook_20 : decode cX7_addBook 20 = .ok (.aload_n 0, 1) := by decide +kernel
theorem dX7_addBook_21 : decode cX7_addBook 21 = .ok (.getfield 9, 3) := by decide +kernel
theorem dX7_addBook_24 : decode cX7_addBook 24 = .ok (.aload_n 0, 1) := by decide +kernel
theorem dX7_addBook_25 : decode cX7_addBook 25 = .ok (.getfield 40, 3) := by decide +kernel
theorem dX7_addBook_28 : decode cX7_addBook 28 = .ok (.iload_n 2, 1) := by decide +kernel
theorem dX7_addBook_29 : decode cX7_addBook 29 = .ok (.iastore, 1) := by decide +kernel
theorem dX7_addBook_30 : decode cX7_addBook 30 = .ok (.aload_n 0, 1) := by decide +kernel
theorem dX7_addBook_31 : decode cX7_addBook 31 = .ok (.getfield 15, 3) := by decide +kernel
theorem dX7_addBook_34 : decode cX7_addBook 34 = .ok (.aload_n 0, 1) := by decide +kernel
theorem dX7_addBook_35 : decode cX7_addBook 35 = .ok (.getfield 40, 3) := by decide +kernel
theorem dX7_addBook_38 : decode cX7_addBook 38 = .ok (.aload_n 0, 1) := by decide +kernel
theorem dX7_addBook_39 : decode cX7_addBook 39 = .ok (.getfield 43, 3) := by decide +kernel
theorem dX7_addBook_42 : decode cX7_addBook 42 = .ok (.iastore, 1) := by decide +kernel
theorem dX7_addBook_43 : decode cX7_addBook 43 = .ok (.iconst 0, 1) := by decide +kernel
theorem dX7_addBook_44 : decode cX7_addBook 44 = .ok (.istore_n 3, 1) := by decide +kernel
set_option maxHeartbeats 4000000 in
set_option maxRecDepth 100000 in
theorem k_X7_addBook (l : Launch) (D : va_G) (K : Nat → ClassId) (t : Nat) (t_q : Nat → Nat) (p1 p2 t_x0 t_x1 t_x2 t_x3 t_x4 t_x5 t_x6 t_x7 t_x8 : Int) (t_9_c : Nat → Int) (t_10_c : Nat → Int) (t_11_c : Nat → Int) (hp1 : 1 ≤ p1 ∧ p1 ≤ 9) (hp2 : 0 ≤ p2 ∧ p2 ≤ 4) (hi_t : bX7 t_x0 t_x1 t_x2 t_x3 t_x4 t_x5 t_x6 t_x7 t_x8) (hc_t_9 : ∀ j : Nat, 0 ≤ t_9_c j ∧ t_9_c j ≤ 4) (hc_t_10 : ∀ j : Nat, 0 ≤ t_10_c j ∧ t_10_c j ≤ 12) (hc_t_11 : ∀ j : Nat, 0 ≤ t_11_c j ∧ t_11_c j ≤ 4) : fn_CV (S := (Nat → Int) × (Nat → Nat → Int)) l D K yX7_addBook (fn_ws yX7_addBook cX7_addBook 4 none) ({ frames := 4, cells := 0, slots := 0, locals := 100 } : Room) [.ref t, .int (iI p1), .int (iI p2)] [(t, .inr (7, oX7 t_q t_x0 t_x1 t_x2 t_x3 t_x4 t_x5 t_x6 t_x7 t_x8)), ((t_q 9), .inl (K 0, 5, .inl (fun j => iI (t_9_c j)))), ((t_q 10), .inl (K 0, 6, .inl (fun j => iI (t_10_c j)))), ((t_q 11), .inl (K 0, 12, .inl (fun j => iI (t_11_c j))))] (fun u => (0 ≤ (u.1 0) ∧ (u.1 0) ≤ 5 ∧ 0 ≤ (u.1 1) ∧ (u.1 1) ≤ 12) ∧ (∀ j : Nat, 0 ≤ (u.2 0) j ∧ (u.2 0) j ≤ 12) ∧ (∀ j : Nat, 0 ≤ (u.2 1) j ∧ (u.2 1) j ≤ 4) ∧ (∀ j : Nat, 0 ≤ (u.2 2) j ∧ (u.2 2) j ≤ 4) ∧ True) (fun u => [(t, .inr (7, oX7 t_q t_x0 t_x1 t_x2 (u.1 0) (u.1 1) t_x5 t_x6 t_x7 t_x8)), ((t_q 9), .inl (K 0, 5, .inl (fun j => iI ((u.2 2) j)))), ((t_q 10), .inl (K 0, 6, .inl (fun j => iI ((u.2 0) j)))), ((t_q 11), .inl (K 0, 12, .inl (fun j => iI ((u.2 1) j))))]) 0 0 := by
  refine g_inV (cc := cX7_addBook) (maxL := 4) (ret := none) (by decide) rfl (Nat.le_of_ble_eq_true rfl) ?_
  intro p e s m below meth c A ls ag Q B hA hP hD hS hl hQ
  obtain ⟨hx, hb, hr, hml, hts, hown, hlocks, hin, hK⟩ := B
  have hown : s.vm.findClass RX7 = some m.cls := hown
  have hts := fun w h => hts w (List.mem_cons_of_mem _ h)
  have J45 : ∀ (n : Nat) (x45_3 : Int) (f45_t_4 : Int) (c45_t_9 : Nat → Int) (c45_t_10 : Nat → Int) (c45_t_11 : Nat → Int) (H : Heap) (locs : List Loc) (ls : Array Slot), (9 - x45_3).toNat < n → (0 ≤ x45_3 ∧ x45_3 ≤ 9 ∧ 0 ≤ t_x3 ∧ t_x3 ≤ 4 ∧ 0 ≤ f45_t_4 ∧ f45_t_4 ≤ 12 ∧ f45_t_4 = t_x4 + x45_3 ∧ x45_3 ≤ p1 ∧ t_x4 + p1 ≤ 12 ∧ 0 ≤ t_x4) → (∀ j : Nat, 0 ≤ c45_t_9 j ∧ c45_t_9 j ≤ 4) → (∀ j : Nat, 0 ≤ c45_t_10 j ∧ c45_t_10 j ≤ 12) → (∀ j : Nat, 0 ≤ c45_t_11 j ∧ c45_t_11 j ≤ 4) → va_P D vwCl [(t, .inr (7, oX7 t_q t_x0 t_x1 t_x2 t_x3 f45_t_4 t_x5 t_x6 t_x7 t_x8)), ((t_q 9), .inl (K 0, 5, .inl (fun j => iI (c45_t_9 j)))), ((t_q 10), .inl (K 0, 6, .inl (fun j => iI (c45_t_10 j)))), ((t_q 11), .inl (K 0, 12, .inl (fun j => iI (c45_t_11 j))))] H → va_D A [(t, .inr (7, oX7 t_q t_x0 t_x1 t_x2 t_x3 f45_t_4 t_x5 t_x6 t_x7 t_x8)), ((t_q 9), .inl (K 0, 5, .inl (fun j => iI (c45_t_9 j)))), ((t_q 10), .inl (K 0, 6, .inl (fun j => iI (c45_t_10 j)))), ((t_q 11), .inl (K 0, 12, .inl (fun j => iI (c45_t_11 j))))] → va_S A s.heap H locs → lv_has ls 4 [(0, .ref t), (1, .int (iI p1)), (2, .int (iI p2)), (3, .int (iI x45_3))] → W p l e ({ frames := 4, cells := 0, slots := 0, locals := 100 } : Room) s m ag below meth c H locs 0 0 Q (F0 m 45 ls []) := by
    intro n
    induction n with
    | zero =>
      intro x45_3 f45_t_4 c45_t_9 c45_t_10 c45_t_11 H locs ls hm45 hf45 hc45_t_9 hc45_t_10 hc45_t_11 hP hD hS hl
      exact absurd hm45 (Nat.not_lt_zero _)
    | succ n ih45 =>
      intro x45_3 f45_t_4 c45_t_9 c45_t_10 c45_t_11 H locs ls hm45 hf45 hc45_t_9 hc45_t_10 hc45_t_11 hP hD hS hl
      refine lv_iload_n hx hb dX7_addBook_45 rfl (lv_at hl 3 rfl) ?_
      refine lv_iload_n hx hb dX7_addBook_46 rfl (lv_at hl 1 rfl) ?_
      refine g_icmp_ge (tgt := 79) hx hb (by omega) (by omega) dX7_addBook_47 (by decide) (fun c47 => ?_) (fun c47 => ?_)
      · refine lv_aload_n hx hb dX7_addBook_79 rfl (lv_at hl 0 rfl) ?_
        refine lv_dup hx hb dX7_addBook_80 rfl ?_
        refine va_get (D := D) (own := RX7) (ci := 7) (v := .int (iI t_x3)) (C := RX7) (T := TX7) (N := 15) hx hb hts inb_X7 hown hK.1 hP 0 rfl rfl 3 (by decide) (hts _ wd_80) (fun _ h9 => h9) rfl dX7_addBook_81 ?_
        have y81_1 : 0 ≤ t_x3 ∧ t_x3 ≤ 5 := hi_t.2.2.2.1
        refine lv_iconst (v := iI 1) hx hb dX7_addBook_84 rfl ?_
        refine g_iadd hx hb dX7_addBook_85 ?_
        refine va_put (D := D) (own := RX7) (ci := 7) (v := .int (iI (t_x3 + 1))) (ty := .int) (C := RX7) (T := TX7) (N := 15) hx hb hts inb_X7 tyX7 tyX7_ok nmX7 hown hK.1 hP hD hS 0 rfl rfl 3 (by decide) (hts _ wd_80) (fun _ h9 => h9) rfl (by decide +kernel) rfl rfl (Nat.le_of_ble_eq_true rfl) dX7_addBook_86 (fun H locs hP hD hS => ?_)
        have hP : va_P D vwCl [(t, .inr (7, oX7 t_q t_x0 t_x1 t_x2 (t_x3 + 1) f45_t_4 t_x5 t_x6 t_x7 t_x8)), ((t_q 9), .inl (K 0, 5, .inl (fun j => iI (c45_t_9 j)))), ((t_q 10), .inl (K 0, 6, .inl (fun j => iI (c45_t_10 j)))), ((t_q 11), .inl (K 0, 12, .inl (fun j => iI (c45_t_11 j))))] H := hP
        have hD : va_D A [(t, .inr (7, oX7 t_q t_x0 t_x1 t_x2 (t_x3 + 1) f45_t_4 t_x5 t_x6 t_x7 t_x8)), ((t_q 9), .inl (K 0, 5, .inl (fun j => iI (c45_t_9 j)))), ((t_q 10), .inl (K 0, 6, .inl (fun j => iI (c45_t_10 j)))), ((t_q 11), .inl (K 0, 12, .inl (fun j => iI (c45_t_11 j))))] := hD
        refine lv_aload_n hx hb dX7_addBook_89 rfl (lv_at hl 0 rfl) ?_
        refine va_get (D := D) (own := RX7) (ci := 7) (v := .ref (t_q 10)) (C := RX7) (T := TX7) (N := 15) hx hb hts inb_X7 hown hK.1 hP 0 rfl rfl 10 (by decide) (hts _ wd_111) (fun _ h9 => h9) rfl dX7_addBook_90 ?_
        refine lv_aload_n hx hb dX7_addBook_93 rfl (lv_at hl 0 rfl) ?_
        refine va_get (D := D) (own := RX7) (ci := 7) (v := .int (iI (t_x3 + 1))) (C := RX7) (T := TX7) (N := 15) hx hb hts inb_X7 hown hK.1 hP 0 rfl rfl 3 (by decide) (hts _ wd_80) (fun _ h9 => h9) rfl dX7_addBook_94 ?_
        refine lv_aload_n hx hb dX7_addBook_97 rfl (lv_at hl 0 rfl) ?_
        refine va_get (D := D) (own := RX7) (ci := 7) (v := .int (iI f45_t_4)) (C := RX7) (T := TX7) (N := 15) hx hb hts inb_X7 hown hK.1 hP 0 rfl rfl 4 (by decide) (hts _ wd_87) (fun _ h9 => h9) rfl dX7_addBook_98 ?_
        refine g_iast hx hb hK.1 hP hD hS 2 0 rfl rfl (by omega) (by omega) (by decide) dX7_addBook_101 (fun H locs g101 eg101 hP hD hS => ?_)
        have hg101 : ∀ j : Nat, 0 ≤ g101 j ∧ g101 j ≤ 12 := by rw [eg101]; exact uI_all hc45_t_10 (by omega)
        have hP : va_P D vwCl [(t, .inr (7, oX7 t_q t_x0 t_x1 t_x2 (t_x3 + 1) f45_t_4 t_x5 t_x6 t_x7 t_x8)), ((t_q 9), .inl (K 0, 5, .inl (fun j => iI (c45_t_9 j)))), ((t_q 10), .inl (K 0, 6, .inl (fun j => iI (g101 j)))), ((t_q 11), .inl (K 0, 12, .inl (fun j => iI (c45_t_11 j))))] H := hP
        have hD : va_D A [(t, .inr (7, oX7 t_q t_x0 t_x1 t_x2 (t_x3 + 1) f45_t_4 t_x5 t_x6 t_x7 t_x8)), ((t_q 9), .inl (K 0, 5, .inl (fun j => iI (c45_t_9 j)))), ((t_q 10), .inl (K 0, 6, .inl (fun j => iI (g101 j)))), ((t_q 11), .inl (K 0, 12, .inl (fun j => iI (c45_t_11 j))))] := hD
        rw [hQ]; exact fn_vret hx hb hr hlocks hP hD hS ((fun k => ([t_x3 + 1, f45_t_4] : List Int).getD k 0), (fun k => ([g101, c45_t_11, c45_t_9] : List (Nat → Int)).getD k (fun _ => 0))) ⟨(by show 0 ≤ (t_x3 + 1) ∧ (t_x3 + 1) ≤ 5 ∧ 0 ≤ f45_t_4 ∧ f45_t_4 ≤ 12; omega), (hg101), (hc45_t_11), (hc45_t_9), trivial⟩ [0, 1, 2, 3] (by decide) rfl dX7_addBook_102
      · refine lv_aload_n hx hb dX7_addBook_50 rfl (lv_at hl 0 rfl) ?_
        refine va_get (D := D) (own := RX7) (ci := 7) (v := .ref (t_q 11)) (C := RX7) (T := TX7) (N := 15) hx hb hts inb_X7 hown hK.1 hP 0 rfl rfl 11 (by decide) (hts _ wd_113) (fun _ h9 => h9) rfl dX7_addBook_51 ?_
        refine lv_aload_n hx hb dX7_addBook_54 rfl (lv_at hl 0 rfl) ?_
        refine va_get (D := D) (own := RX7) (ci := 7) (v := .int (iI f45_t_4)) (C := RX7) (T := TX7) (N := 15) hx hb hts inb_X7 hown hK.1 hP 0 rfl rfl 4 (by decide) (hts _ wd_87) (fun _ h9 => h9) rfl dX7_addBook_55 ?_
        refine lv_aload_n hx hb dX7_addBook_58 rfl (lv_at hl 0 rfl) ?_
        refine va_get (D := D) (own := RX7) (ci := 7) (v := .int (iI t_x3)) (C := RX7) (T := TX7) (N := 15) hx hb hts inb_X7 hown hK.1 hP 0 rfl rfl 3 (by decide) (hts _ wd_80) (fun _ h9 => h9) rfl dX7_addBook_59 ?_
        have y59_1 : 0 ≤ t_x3 ∧ t_x3 ≤ 5 := hi_t.2.2.2.1
        refine g_iast hx hb hK.1 hP hD hS 3 0 rfl rfl (by omega) (by omega) (by decide) dX7_addBook_62 (fun H locs g62 eg62 hP hD hS => ?_)
        have hg62 : ∀ j : Nat, 0 ≤ g62 j ∧ g62 j ≤ 4 := by rw [eg62]; exact uI_all hc45_t_11 (by omega)
        have hP : va_P D vwCl [(t, .inr (7, oX7 t_q t_x0 t_x1 t_x2 t_x3 f45_t_4 t_x5 t_x6 t_x7 t_x8)), ((t_q 9), .inl (K 0, 5, .inl (fun j => iI (c45_t_9 j)))), ((t_q 10), .inl (K 0, 6, .inl (fun j => iI (c45_t_10 j)))), ((t_q 11), .inl (K 0, 12, .inl (fun j => iI (g62 j))))] H := hP
        have hD : va_D A [(t, .inr (7, oX7 t_q t_x0 t_x1 t_x2 t_x3 f45_t_4 t_x5 t_x6 t_x7 t_x8)), ((t_q 9), .inl (K 0, 5, .inl (fun j => iI (c45_t_9 j)))), ((t_q 10), .inl (K 0, 6, .inl (fun j => iI (c45_t_10 j)))), ((t_q 11), .inl (K 0, 12, .inl (fun j => iI (g62 j))))] := hD
        refine lv_aload_n hx hb dX7_addBook_63 rfl (lv_at hl 0 rfl) ?_
        refine lv_dup hx hb dX7_addBook_64 rfl ?_
        refine va_get (D := D) (own := RX7) (ci := 7) (v := .int (iI f45_t_4)) (C := RX7) (T := TX7) (N := 15) hx hb hts inb_X7 hown hK.1 hP 0 rfl rfl 4 (by decide) (hts _ wd_87) (fun _ h9 => h9) rfl dX7_addBook_65 ?_
        refine lv_iconst (v := iI 1) hx hb dX7_addBook_68 rfl ?_
        refine g_iadd hx hb dX7_addBook_69 ?_
        refine va_put (D := D) (own := RX7) (ci := 7) (v := .int (iI (f45_t_4 + 1))) (ty := .int) (C := RX7) (T := TX7) (N := 15) hx hb hts inb_X7 tyX7 tyX7_ok nmX7 hown hK.1 hP hD hS 0 rfl rfl 4 (by decide) (hts _ wd_87) (fun _ h9 => h9) rfl (by decide +kernel) rfl rfl (Nat.le_of_ble_eq_true rfl) dX7_addBook_70 (fun H locs hP hD hS => ?_)
        have hP : va_P D vwCl [(t, .inr (7, oX7 t_q t_x0 t_x1 t_x2 t_x3 (f45_t_4 + 1) t_x5 t_x6 t_x7 t_x8)), ((t_q 9), .inl (K 0, 5, .inl (fun j => iI (c45_t_9 j)))), ((t_q 10), .inl (K 0, 6, .inl (fun j => iI (c45_t_10 j)))), ((t_q 11), .inl (K 0, 12, .inl (fun j => iI (g62 j))))] H := hP
        have hD : va_D A [(t, .inr (7, oX7 t_q t_x0 t_x1 t_x2 t_x3 (f45_t_4 + 1) t_x5 t_x6 t_x7 t_x8)), ((t_q 9), .inl (K 0, 5, .inl (fun j => iI (c45_t_9 j)))), ((t_q 10), .inl (K 0, 6, .inl (fun j => iI (c45_t_10 j)))), ((t_q 11), .inl (K 0, 12, .inl (fun j => iI (g62 j))))] := hD
        refine lv_iinc (v := iI (x45_3 + 1)) (lv' := [(3, .int (iI (x45_3 + 1))), (0, .ref t), (1, .int (iI p1)), (2, .int (iI p2))]) hx hb dX7_addBook_73 hl (k := 3) rfl (iI_add _ _) (by decide) rfl (fun ls hl => ?_)
        refine lv_goto (tgt := 45) hx hb dX7_addBook_76 (by decide) ?_
        exact ih45 (x45_3 + 1) (f45_t_4 + 1) c45_t_9 c45_t_10 g62 _ _ ls (by omega) (by omega) hc45_t_9 hc45_t_10 hg62 (hP.sub [0, 1, 2, 3] rfl) (hD.sub [0, 1, 2, 3] (by decide) rfl) hS (lv_sub hl [1, 2, 3, 0] rfl)
  have hl : lv_has ls 4 [(0, .ref t), (1, .int (iI p1)), (2, .int (iI p2))] := hl
  refine lv_aload_n hx hb dX7_addBook_0 rfl (lv_at hl 0 rfl) ?_
  refine va_get (D := D) (own := RX7) (ci := 7) (v := .int (iI t_x3)) (C := RX7) (T := TX7) (N := 15) hx hb hts inb_X7 hown hK.1 hP 0 rfl rfl 3 (by decide) (hts _ wd_80) (fun _ h9 => h9) rfl dX7_addBook_1 ?_
  have y1_1 : 0 ≤ t_x3 ∧ t_x3 ≤ 5 := hi_t.2.2.2.1
  refine lv_iconst (v := iI 5) hx hb dX7_addBook_4 rfl ?_
  refine g_icmp_ge (tgt := 19) hx hb (by omega) (by omega) dX7_addBook_5 (by decide) (fun c5 => ?_) (fun c5 => ?_)
  · have y19_2 : 0 ≤ t_x4 ∧ t_x4 ≤ 12 := hi_t.2.2.2.2.1
    rw [hQ]; exact fn_vret hx hb hr hlocks hP hD hS ((fun k => ([t_x3, t_x4] : List Int).getD k 0), (fun k => ([t_10_c, t_11_c, t_9_c] : List (Nat → Int)).getD k (fun _ => 0))) ⟨(by show 0 ≤ t_x3 ∧ t_x3 ≤ 5 ∧ 0 ≤ t_x4 ∧ t_x4 ≤ 12; omega), (hc_t_10), (hc_t_11), (hc_t_9), trivial⟩ [0, 1, 2, 3] (by decide) rfl dX7_addBook_19
  · refine lv_aload_n hx hb dX7_addBook_8 rfl (lv_at hl 0 rfl) ?_
    refine va_get (D := D) (own := RX7) (ci := 7) (v := .int (iI t_x4)) (C := RX7) (T := TX7) (N := 15) hx hb hts inb_X7 hown hK.1 hP 0 rfl rfl 4 (by decide) (hts _ wd_87) (fun _ h9 => h9) rfl dX7_addBook_9 ?_
    have y9_2 : 0 ≤ t_x4 ∧ t_x4 ≤ 12 := hi_t.2.2.2.2.1
    refine lv_iload_n hx hb dX7_addBook_12 rfl (lv_at hl 1 rfl) ?_
    refine g_iadd hx hb dX7_addBook_13 ?_
    refine lv_bipush (v := iI 12) hx hb dX7_addBook_14 (by decide) ?_
    refine g_icmp_le (tgt := 20) hx hb (by omega) (by omega) dX7_addBook_16 (by decide) (fun c16 => ?_) (fun c16 => ?_)
    · refine lv_aload_n hx hb dX7_addBook_20 rfl (lv_at hl 0 rfl) ?_
      refine va_get (D := D) (own := RX7) (ci := 7) (v := .ref (t_q 9)) (C := RX7) (T := TX7) (N := 15) hx hb hts inb_X7 hown hK.1 hP 0 rfl rfl 9 (by decide) (hts _ wd_109) (fun _ h9 => h9) rfl dX7_addBook_21 ?_
      refine lv_aload_n hx hb dX7_addBook_24 rfl (lv_at hl 0 rfl) ?_
      refine va_get (D := D) (own := RX7) (ci := 7) (v := .int (iI t_x3)) (C := RX7) (T := TX7) (N := 15) hx hb hts inb_X7 hown hK.1 hP 0 rfl rfl 3 (by decide) (hts _ wd_80) (fun _ h9 => h9) rfl dX7_addBook_25 ?_
      refine lv_iload_n hx hb dX7_addBook_28 rfl (lv_at hl 2 rfl) ?_
      refine g_iast hx hb hK.1 hP hD hS 1 0 rfl rfl (by omega) (by omega) (by decide) dX7_addBook_29 (fun H locs g29 eg29 hP hD hS => ?_)
      have hg29 : ∀ j : Nat, 0 ≤ g29 j ∧ g29 j ≤ 4 := by rw [eg29]; exact uI_all hc_t_9 (by omega)
      have hP : va_P D vwCl [(t, .inr (7, oX7 t_q t_x0 t_x1 t_x2 t_x3 t_x4 t_x5 t_x6 t_x7 t_x8)), ((t_q 9), .inl (K 0, 5, .inl (fun j => iI (g29 j)))), ((t_q 10), .inl (K 0, 6, .inl (fun j => iI (t_10_c j)))), ((t_q 11), .inl (K 0, 12, .inl (fun j => iI (t_11_c j))))] H := hP
      have hD : va_D A [(t, .inr (7, oX7 t_q t_x0 t_x1 t_x2 t_x3 t_x4 t_x5 t_x6 t_x7 t_x8)), ((t_q 9), .inl (K 0, 5, .inl (fun j => iI (g29 j)))), ((t_q 10), .inl (K 0, 6, .inl (fun j => iI (t_10_c j)))), ((t_q 11), .inl (K 0, 12, .inl (fun j => iI (t_11_c j))))] := hD
      refine lv_aload_n hx hb dX7_addBook_30 rfl (lv_at hl 0 rfl) ?_
      refine va_get (D := D) (own := RX7) (ci := 7) (v := .ref (t_q 10)) (C := RX7) (T := TX7) (N := 15) hx hb hts inb_X7 hown hK.1 hP 0 rfl rfl 10 (by decide) (hts _ wd_111) (fun _ h9 => h9) rfl dX7_addBook_31 ?_
      refine lv_aload_n hx hb dX7_addBook_34 rfl (lv_at hl 0 rfl) ?_
      refine fn_at 35 rfl ?_
      refine va_get (D := D) (own := RX7) (ci := 7) (v := .int (iI t_x3)) (C := RX7) (T := TX7) (N := 15) hx hb hts inb_X7 hown hK.1 hP 0 rfl rfl 3 (by decide) (hts _ wd_80) (fun _ h9 => h9) rfl dX7_addBook_35 ?_
      refine lv_aload_n hx hb dX7_addBook_38 rfl (lv_at hl 0 rfl) ?_
      refine va_get (D := D) (own := RX7) (ci := 7) (v := .int (iI t_x4)) (C := RX7) (T := TX7) (N := 15) hx hb hts inb_X7 hown hK.1 hP 0 rfl rfl 4 (by decide) (hts _ wd_87) (fun _ h9 => h9) rfl dX7_addBook_39 ?_
      refine g_iast hx hb hK.1 hP hD hS 2 0 rfl rfl (by omega) (by omega) (by decide) dX7_addBook_42 (fun H locs g42 eg42 hP hD hS => ?_)
      have hg42 : ∀ j : Nat, 0 ≤ g42 j ∧ g42 j ≤ 12 := by rw [eg42]; exact uI_all hc_t_10 (by omega)
      have hP : va_P D vwCl [(t, .inr (7, oX7 t_q t_x0 t_x1 t_x2 t_x3 t_x4 t_x5 t_x6 t_x7 t_x8)), ((t_q 9), .inl (K 0, 5, .inl (fun j => iI (g29 j)))), ((t_q 10), .inl (K 0, 6, .inl (fun j => iI (g42 j)))), ((t_q 11), .inl (K 0, 12, .inl (fun j => iI (t_11_c j))))] H := hP
      have hD : va_D A [(t, .inr (7, oX7 t_q t_x0 t_x1 t_x2 t_x3 t_x4 t_x5 t_x6 t_x7 t_x8)), ((t_q 9), .inl (K 0, 5, .inl (fun j => iI (g29 j)))), ((t_q 10), .inl (K 0, 6, .inl (fun j => iI (g42 j)))), ((t_q 11), .inl (K 0, 12, .inl (fun j => iI (t_11_c j))))] := hD
      refine lv_iconst (v := iI 0) hx hb dX7_addBook_43 rfl ?_
      refine lv_istore_n (lv' := [(3, .int (iI 0)), (0, .ref t), (1, .int (iI p1)), (2, .int (iI p2))]) hx hb dX7_addBook_44 rfl hl (by decide) rfl (fun ls hl => ?_)
      exact J45 _ 0 t_x4 g29 g42 t_11_c _ _ ls (Nat.lt_succ_self _) (by omega) hg29 hg42 hc_t_11 (hP.sub [0, 1, 2, 3] rfl) (hD.sub [0, 1, 2, 3] (by decide) rfl) hS (lv_sub hl [1, 2, 3, 0] rfl)
    · rw [hQ]; exact fn_vret hx hb hr hlocks hP hD hS ((fun k => ([t_x3, t_x4] : List Int).getD k 0), (fun k => ([t_10_c, t_11_c, t_9_c] : List (Nat → Int)).getD k (fun _ => 0))) ⟨(by show 0 ≤ t_x3 ∧ t_x3 ≤ 5 ∧ 0 ≤ t_x4 ∧ t_x4 ≤ 12; omega), (hc_t_10), (hc_t_11), (hc_t_9), trivial⟩ [0, 1, 2, 3] (by decide) rfl dX7_addBook_19
theorem wd_161 : Cond.fieldLink "FootNotes$Reader" 21 "FootNotes$Reader" "told" "LFootNotes$Text;" ∈ fn_big := fn_tb (fn_l1 (List.mem_of_getElem? (i := 161) (by decide +kernel))) (by decide +kernel)
theorem wd_509 : Cond.code ⟨"FootNotes$Reader", "takeWord", "(Ljava/lang/String;)V"⟩ prog_5_method_8_code 2 (Option.none : Option Jvm.ClassFile.FieldType) ∈ fn_big := fn_tb (fn_l3 (List.mem_of_getElem? (i := 29) (by decide +kernel))) (by decide +kernel)
theorem wd_506 : Cond.methodLink "FootNotes$Reader" 69 ⟨"FootNotes$Reader", "takeWord", "(Ljava/lang/String;)V"⟩ ∈ fn_big := fn_tb (fn_l3 (List.mem_of_getElem? (i := 26) (by decide +kernel))) (by decide +kernel)
theorem wd_508 : Cond.instanceMethod ⟨"FootNotes$Reader", "takeWord", "(Ljava/lang/String;)V"⟩ ∈ fn_big := fn_tb (fn_l3 (List.mem_of_getElem? (i := 28) (by decide +kernel))) (by decide +kernel)
theorem wp_7 : Cond.selects "FootNotes$Reader" ⟨"FootNotes$Reader", "takeWord", "(Ljava/lang/String;)V"⟩ ⟨"FootNotes$Reader", "takeWord", "(Ljava/lang/String;)V"⟩ ∈ fn_big := fn_sel (q := (⟨"FootNotes$Reader", "takeWord", "(Ljava/lang/String;)V"⟩, 4)) 7 (by decide +kernel) (by decide +kernel)
theorem wd_571 : Cond.code ⟨"FootNotes$Reader", "takeNumber", "(II)I"⟩ prog_5_method_10_code 4 (Option.some Jvm.ClassFile.FieldType.int) ∈ fn_big := fn_tb (fn_l3 (List.mem_of_getElem? (i := 91) (by decide +kernel))) (by decide +kernel)
theorem wd_568 : Cond.methodLink "FootNotes$Reader" 98 ⟨"FootNotes$Reader", "takeNumber", "(II)I"⟩ ∈ fn_big := fn_tb (fn_l3 (List.mem_of_getElem? (i := 88) (by decide +kernel))) (by decide +kernel)
theorem wd_570 : Cond.instanceMethod ⟨"FootNotes$Reader", "takeNumber", "(II)I"⟩ ∈ fn_big := fn_tb (fn_l3 (List.mem_of_getElem? (i := 90) (by decide +kernel))) (by decide +kernel)
theorem wp_10 : Cond.selects "FootNotes$Reader" ⟨"FootNotes$Reader", "takeNumber", "(II)I"⟩ ⟨"FootNotes$Reader", "takeNumber", "(II)I"⟩ ∈ fn_big := fn_sel (q := (⟨"FootNotes$Reader", "takeNumber", "(II)I"⟩, 4)) 10 (by decide +kernel) (by decide +kernel)
theorem wd_591 : Cond.code ⟨"FootNotes$Text", "addBook", "(II)V"⟩ prog_9_method_4_code 4 (Option.none : Option Jvm.ClassFile.FieldType) ∈ fn_big := fn_tb (fn_l3 (List.mem_of_getElem? (i := 111) (by decide +kernel))) (by decide +kernel)
theorem wd_4 : Cond.initialized "FootNotes$Text" ∈ fn_big := fn_tb (fn_l1 (List.mem_of_getElem? (i := 4) (by decide +kernel))) (by decide +kernel)
theorem wd_590 : Cond.instanceMethod ⟨"FootNotes$Text", "addBook", "(II)V"⟩ ∈ fn_big := fn_tb (fn_l3 (List.mem_of_getElem? (i := 110) (by decide +kernel))) (by decide +kernel)
theorem wp_13 : Cond.selects "FootNotes$Text" ⟨"FootNotes$Text", "addBook", "(II)V"⟩ ⟨"FootNotes$Text", "addBook", "(II)V"⟩ ∈ fn_big := fn_sel (q := (⟨"FootNotes$Text", "addBook", "(II)V"⟩, 15)) 13 (by decide +kernel) (by decide +kernel)
theorem dX3_readBook_71 : decode cX3_readBook 71 = .ok (.aload_n 0, 1) := by decide +kernel
theorem dX3_readBook_72 : decode cX3_readBook 72 = .ok (.ldc 111, 2) := by decide +kernel
theorem dX3_readBook_74 : decode cX3_readBook 74 = .ok (.invokevirtual 69, 3) := by decide +kernel
theorem dX3_readBook_77 : decode cX3_readBook 77 = .ok (.aload_n 0, 1) := by decide +kernel
theorem dX3_readBook_78 : decode cX3_readBook 78 = .ok (.iconst 0, 1) := by decide +kernel
theorem dX3_readBook_79 : decode cX3_readBook 79 = .ok (.iconst 4, 1) := by decide +kernel
theorem dX3_readBook_80 : decode cX3_readBook 80 = .ok (.invokevirtual 98, 3) := by decide +kernel
theorem dX3_readBook_83 : decode cX3_readBook 83 = .ok (.istore_n 3, 1) := by decide +kernel
theorem dX3_readBook_84 : decode cX3_readBook 84 = .ok (.aload_n 0, 1) := by decide +kernel
theorem dX3_readBook_85 : decode cX3_readBook 85 = .ok (.getfield 29, 3) := by decide +kernel
theorem dX3_readBook_88 : decode cX3_readBook 88 = .ok (.ifCond .ne 12, 3) := by decide +kernel
theorem dX3_readBook_100 : decode cX3_readBook 100 = .ok (.return_, 1) := by decide +kernel
theorem dX3_readBook_91 : decode cX3_readBook 91 = .ok (.aload_n 0, 1) := by decide +kernel
theorem dX3_readBook_92 : decode cX3_readBook 92 = .ok (.getfield 21, 3) := by decide +kernel
theorem dX3_readBook_95 : decode cX3_readBook 95 = .ok (.iload_n 2, 1) := by decide +kernel
theorem dX3_readBook_96 : decode cX3_readBook 96 = .ok (.iload_n 3, 1) := by decide +kernel
theorem dX3_readBook_97 : decode cX3_readBook 97 = .ok (.invokevirtual 113, 3) := by decide +kernel
theorem dX3_readBook_23 : decode cX3_readBook 23 = .ok (.aload_n 0, 1) := by decide +kernel
theorem dX3_readBook_24 : decode cX3_readBook 24 = .ok (.ldc 53, 2) := by decide +kernel
theorem dX3_readBook_26 : decode cX3_readBook 26 = .ok (.invokevirtual 69, 3) := by decide +kernel
theorem dX3_readBook_29 : decode cX3_readBook 29 = .ok (.aload_n 0, 1) := by decide +kernel
theorem dX3_readBook_30 : decode cX3_readBook 30 = .ok (.ldc 110, 2) := by decide +kernel
theorem dX3_readBook_32 : decode cX3_readBook 32 = .ok (.invokevirtual 69, 3) := by decide +kernel
theorem dX3_readBook_35 : decode cX3_readBook 35 = .ok (.aload_n 0, 1) := by decide +kernel
theorem dX3_readBook_36 : decode cX3_readBook 36 = .ok (.getfield 12, 3) := by decide +kernel
theorem dX3_readBook_39 : decode cX3_readBook 39 = .ok (.getfield 87, 3) := by decide +kernel
theorem dX3_readBook_42 : decode cX3_readBook 42 = .ok (.istore_n 1, 1) := by decide +kernel
theorem dX3_readBook_43 : decode cX3_readBook 43 = .ok (.aload_n 0, 1) := by decide +kernel
theorem dX3_readBook_44 : decode cX3_readBook 44 = .ok (.iconst 1, 1) := by decide +kernel
theorem dX3_readBook_45 : decode cX3_readBook 45 = .ok (.bipush 9, 2) := by decide +kernel
theorem dX3_readBook_47 : decode cX3_readBook 47 = .ok (.invokevirtual 98, 3) := by decide +kernel
theorem dX3_readBook_50 : decode cX3_readBook 50 = .ok (.istore_n 2, 1) := by decide +kernel
theorem dX3_readBook_51 : decode cX3_readBook 51 = .ok (.aload_n 0, 1) := by decide +kernel
theorem dX3_readBook_52 : decode cX3_readBook 52 = .ok (.getfield 21, 3) := by decide +kernel
theorem dX3_readBook_55 : decode cX3_readBook 55 = .ok (.getfield 76, 3) := by decide +kernel
theorem dX3_readBook_58 : decode cX3_readBook 58 = .ok (.iload_n 2, 1) := by decide +kernel
theorem dX3_readBook_59 : decode cX3_readBook 59 = .ok (.iadd, 1) := by decide +kernel
theorem dX3_readBook_60 : decode cX3_readBook 60 = .ok (.bipush 12, 2) := by decide +kernel
theorem dX3_readBook_62 : decode cX3_readBook 62 = .ok (.if_icmp .le 9, 3) := by decide +kernel
theorem dX3_readBook_65 : decode cX3_readBook 65 = .ok (.aload_n 0, 1) := by decide +kernel
theorem dX3_readBook_66 : decode cX3_readBook 66 = .ok (.iconst 3, 1) := by decide +kernel
theorem dX3_readBook_67 : decode cX3_readBook 67 = .ok (.iload_n 1, 1) := by decide +kernel
theorem dX3_readBook_68 : decode cX3_readBook 68 = .ok (.invokevirtual 90, 3) := by decide +kernel
theorem dX3_readBook_0 : decode cX3_readBook 0 = .ok (.aload_n 0, 1) := by decide +kernel
theorem dX3_readBook_1 : decode cX3_readBook 1 = .ok (.getfield 21, 3) := by decide +kernel
theorem dX3_readBook_4 : decode cX3_readBook 4 = .ok (.getfield 107, 3) := by decide +kernel
theorem dX3_readBook_7 : decode cX3_readBook 7 = .ok (.iconst 5, 1) := by decide +kernel
theorem dX3_readBook_8 : decode cX3_readBook 8 = .ok (.if_icmp .lt 15, 3) := by decide +kernel
theorem dX3_readBook_11 : decode cX3_readBook 11 = .ok (.aload_n 0, 1) := by decide +kernel
theorem dX3_readBook_12 : decode cX3_readBook 12 = .ok (.iconst 3, 1) := by decide +kernel
theorem dX3_readBook_13 : decode cX3_readBook 13 = .ok (.aload_n 0, 1) := by decide +kernel
theorem dX3_readBook_14 : decode cX3_readBook 14 = .ok (.getfield 12, 3) := by decide +kernel
theorem dX3_readBook_17 : decode cX3_readBook 17 = .ok (.getfield 87, 3) := by decide +kernel
theorem dX3_readBook_20 : decode cX3_readBook 20 = .ok (.invokevirtual 90, 3) := by decide +kernel
set_option maxHeartbeats 4000000 in
set_option maxRecDepth 100000 in
theorem k_X3_readBook (l : Launch) (D : va_G) (K : Nat → ClassId) (adK adV : Nat → Nat) (t : Nat) (t_q t_1_q t_0_q : Nat → Nat) (t_x2 t_x3 t_1_x0 t_1_x1 t_1_x2 t_1_x3 t_1_x4 t_1_x5 t_1_x6 t_1_x7 t_1_x8 t_0_x0 t_0_x2 t_0_x3 t_0_x4 : Int) (t_0_1_c : Nat → Int) (t_1_9_c : Nat → Int) (t_1_10_c : Nat → Int) (t_1_11_c : Nat → Int) (hi_t : bX3 t_x2 t_x3) (hi_t_1 : bX7 t_1_x0 t_1_x1 t_1_x2 t_1_x3 t_1_x4 t_1_x5 t_1_x6 t_1_x7 t_1_x8) (hi_t_0 : bX6 t_0_x0 t_0_x2 t_0_x3 t_0_x4) (hc_t_0_1 : ∀ j : Nat, (-128) ≤ t_0_1_c j ∧ t_0_1_c j ≤ 127) (hc_t_1_9 : ∀ j : Nat, 0 ≤ t_1_9_c j ∧ t_1_9_c j ≤ 4) (hc_t_1_10 : ∀ j : Nat, 0 ≤ t_1_10_c j ∧ t_1_10_c j ≤ 12) (hc_t_1_11 : ∀ j : Nat, 0 ≤ t_1_11_c j ∧ t_1_11_c j ≤ 4) : fn_CVO adK adV (S := (Nat → Int) × (Nat → Nat → Int)) l D K yX3_readBook (fn_ws yX3_readBook cX3_readBook 4 none) ({ frames := 32, cells := 0, slots := 0, locals := 800 } : Room) [.ref t] [(t, .inr (3, oX3 t_q t_x2 t_x3)), ((t_q 1), .inr (7, oX7 t_1_q t_1_x0 t_1_x1 t_1_x2 t_1_x3 t_1_x4 t_1_x5 t_1_x6 t_1_x7 t_1_x8)), ((t_q 0), .inr (6, oX6 t_0_q t_0_x0 t_0_x2 t_0_x3 t_0_x4)), ((t_0_q 1), .inl (K 1, 1400, .inl (fun j => iI (t_0_1_c j)))), ((t_1_q 9), .inl (K 0, 5, .inl (fun j => iI (t_1_9_c j)))), ((t_1_q 10), .inl (K 0, 6, .inl (fun j => iI (t_1_10_c j)))), ((t_1_q 11), .inl (K 0, 12, .inl (fun j => iI (t_1_11_c j))))] (fun u => (0 ≤ (u.1 0) ∧ (u.1 0) ≤ 3 ∧ (-2147483648) ≤ (u.1 1) ∧ (u.1 1) ≤ 2147483647 ∧ 0 ≤ (u.1 2) ∧ (u.1 2) ≤ 4 ∧ 0 ≤ (u.1 3) ∧ (u.1 3) ≤ 1400 ∧ 0 ≤ (u.1 4) ∧ (u.1 4) ≤ 1400 ∧ 0 ≤ (u.1 5) ∧ (u.1 5) ≤ 5 ∧ 0 ≤ (u.1 6) ∧ (u.1 6) ≤ 12) ∧ (∀ j : Nat, 0 ≤ (u.2 0) j ∧ (u.2 0) j ≤ 12) ∧ (∀ j : Nat, 0 ≤ (u.2 1) j ∧ (u.2 1) j ≤ 4) ∧ (∀ j : Nat, 0 ≤ (u.2 2) j ∧ (u.2 2) j ≤ 4) ∧ True) (fun u => [(t, .inr (3, oX3 t_q (u.1 0) (u.1 1))), ((t_q 1), .inr (7, oX7 t_1_q t_1_x0 t_1_x1 t_1_x2 (u.1 5) (u.1 6) t_1_x5 t_1_x6 t_1_x7 t_1_x8)), ((t_q 0), .inr (6, oX6 t_0_q t_0_x0 (u.1 2) (u.1 3) (u.1 4))), ((t_0_q 1), .inl (K 1, 1400, .inl (fun j => iI (t_0_1_c j)))), ((t_1_q 9), .inl (K 0, 5, .inl (fun j => iI ((u.2 2) j)))), ((t_1_q 10), .inl (K 0, 6, .inl (fun j => iI ((u.2 0) j)))), ((t_1_q 11), .inl (K 0, 12, .inl (fun j => iI ((u.2 1) j))))]) 0 0 := by
  refine g_inVO (cc := cX3_readBook) (maxL := 4) (ret := none) (by decide) rfl (Nat.le_of_ble_eq_true rfl) ?_
  intro p e s m below meth c A ls ag Q B hO hA hP hD hS hl hQ
  obtain ⟨hx, hb, hr, hml, hts, hown, hlocks, hin, hK⟩ := B
  have hown : s.vm.findClass RX3 = some m.cls := hown
  have hts := fun w h => hts w (List.mem_cons_of_mem _ h)
  have J71 : ∀ (x71_1 : Int) (x71_2 : Int) (f71_t_2 : Int) (f71_t_3 : Int) (f71_t_0_2 : Int) (f71_t_0_3 : Int) (f71_t_0_4 : Int) (H : Heap) (locs : List Loc) (ls : Array Slot), (0 ≤ x71_1 ∧ x71_1 ≤ 1400 ∧ 1 ≤ x71_2 ∧ x71_2 ≤ 9 ∧ 0 ≤ f71_t_2 ∧ f71_t_2 ≤ 3 ∧ (-2147483648) ≤ f71_t_3 ∧ f71_t_3 ≤ 2147483647 ∧ 0 ≤ f71_t_0_2 ∧ f71_t_0_2 ≤ 4 ∧ 0 ≤ f71_t_0_3 ∧ f71_t_0_3 ≤ 1400 ∧ 0 ≤ f71_t_0_4 ∧ f71_t_0_4 ≤ 1400) → va_P D vwCl [(t, .inr (3, oX3 t_q f71_t_2 f71_t_3)), ((t_q 1), .inr (7, oX7 t_1_q t_1_x0 t_1_x1 t_1_x2 t_1_x3 t_1_x4 t_1_x5 t_1_x6 t_1_x7 t_1_x8)), ((t_q 0), .inr (6, oX6 t_0_q t_0_x0 f71_t_0_2 f71_t_0_3 f71_t_0_4)), ((t_0_q 1), .inl (K 1, 1400, .inl (fun j => iI (t_0_1_c j)))), ((t_1_q 9), .inl (K 0, 5, .inl (fun j => iI (t_1_9_c j)))), ((t_1_q 10), .inl (K 0, 6, .inl (fun j => iI (t_1_10_c j)))), ((t_1_q 11), .inl (K 0, 12, .inl (fun j => iI (t_1_11_c j))))] H → va_D A [(t, .inr (3, oX3 t_q f71_t_2 f71_t_3)), ((t_q 1), .inr (7, oX7 t_1_q t_1_x0 t_1_x1 t_1_x2 t_1_x3 t_1_x4 t_1_x5 t_1_x6 t_1_x7 t_1_x8)), ((t_q 0), .inr (6, oX6 t_0_q t_0_x0 f71_t_0_2 f71_t_0_3 f71_t_0_4)), ((t_0_q 1), .inl (K 1, 1400, .inl (fun j => iI (t_0_1_c j)))), ((t_1_q 9), .inl (K 0, 5, .inl (fun j => iI (t_1_9_c j)))), ((t_1_q 10), .inl (K 0, 6, .inl (fun j => iI (t_1_10_c j)))), ((t_1_q 11), .inl (K 0, 12, .inl (fun j => iI (t_1_11_c j))))] → va_S A s.heap H locs → lv_has ls 4 [(0, .ref t), (1, .int (iI x71_1)), (2, .int (iI x71_2))] → W p l e ({ frames := 32, cells := 0, slots := 0, locals := 800 } : Room) s m ag below meth c H locs 0 0 Q (F0 m 71 ls []) := by
    intro x71_1 x71_2 f71_t_2 f71_t_3 f71_t_0_2 f71_t_0_3 f71_t_0_4 H locs ls hf71 hP hD hS hl
    refine lv_aload_n hx hb dX3_readBook_71 rfl (lv_at hl 0 rfl) ?_
    refine va_ldcS (own := RX3) (tx := "by") (q := adK 5) hx hb hown (hO.2.2.2 5 (111, "by") rfl) dX3_readBook_72 ?_
    refine fn_govO (wc := [(t, .inr (3, oX3 t_q f71_t_2 f71_t_3)), ((t_q 0), .inr (6, oX6 t_0_q t_0_x0 f71_t_0_2 f71_t_0_3 f71_t_0_4)), ((t_0_q 1), .inl (K 1, 1400, .inl (fun j => iI (t_0_1_c j))))]) (wr := [((t_q 1), .inr (7, oX7 t_1_q t_1_x0 t_1_x1 t_1_x2 t_1_x3 t_1_x4 t_1_x5 t_1_x6 t_1_x7 t_1_x8)), ((t_1_q 9), .inl (K 0, 5, .inl (fun j => iI (t_1_9_c j)))), ((t_1_q 10), .inl (K 0, 6, .inl (fun j => iI (t_1_10_c j)))), ((t_1_q 11), .inl (K 0, 12, .inl (fun j => iI (t_1_11_c j))))]) hO hK hP hD hS hA [0, 2, 3] [1, 4, 5, 6] rfl rfl (by decide) (fun hp => va_runV (C := RX3) (As := [.ref (adK 5)]) (rest := []) ⟨hx, hb, hml, hown, hts⟩ (k_X3_takeWord (l := l) (D := D) (K := K) (adK := adK) (adV := adV) (t := t) (s1 := 5) (t_q := t_q) (t_x2 := f71_t_2) (t_x3 := f71_t_3) (t_0_q := t_0_q) (t_0_x0 := t_0_x0) (t_0_x2 := f71_t_0_2) (t_0_x3 := f71_t_0_3) (t_0_x4 := f71_t_0_4) (t_0_1_c := t_0_1_c) (hs1 := (by decide)) (hi_t := ⟨(by omega), (by omega)⟩) (hi_t_0 := ⟨hi_t_0.1, (by omega), (by omega), (by omega)⟩) (hc_t_0_1 := hc_t_0_1) _) (cwV 1 hts (fn_ginV (fn_gin wd_509) wd_506 wd_508 wp_7 wd_2) rfl rfl rfl (by decide +kernel) ⟨Nat.le_of_ble_eq_true rfl, Nat.le_of_ble_eq_true rfl⟩) ⟨fn_blindO, va_recv hK.1 hP (ci := 3) (q0 := 0) rfl rfl, hp⟩ rfl rfl hl.1 rfl (lv_room (Nat.le_of_ble_eq_true rfl)) dX3_readBook_74 ⟨Nat.le_of_ble_eq_true rfl, Nat.le_of_ble_eq_true rfl⟩) (fun u74 H locs hwu74 hP hD hS => ?_)
    obtain ⟨u74a, u74b⟩ := u74
    obtain ⟨hqu740, -⟩ := hwu74
    have hqu74 : 0 ≤ (u74a 0) ∧ (u74a 0) ≤ 3 ∧ (-2147483648) ≤ (u74a 1) ∧ (u74a 1) ≤ 2147483647 ∧ 0 ≤ (u74a 2) ∧ (u74a 2) ≤ 4 ∧ 0 ≤ (u74a 3) ∧ (u74a 3) ≤ 1400 ∧ 0 ≤ (u74a 4) ∧ (u74a 4) ≤ 1400 := hqu740
    clear hqu740
    have hP : va_P D vwCl [((t_q 1), .inr (7, oX7 t_1_q t_1_x0 t_1_x1 t_1_x2 t_1_x3 t_1_x4 t_1_x5 t_1_x6 t_1_x7 t_1_x8)), ((t_1_q 9), .inl (K 0, 5, .inl (fun j => iI (t_1_9_c j)))), ((t_1_q 10), .inl (K 0, 6, .inl (fun j => iI (t_1_10_c j)))), ((t_1_q 11), .inl (K 0, 12, .inl (fun j => iI (t_1_11_c j)))), (t, .inr (3, oX3 t_q (u74a 0) (u74a 1))), ((t_q 0), .inr (6, oX6 t_0_q t_0_x0 (u74a 2) (u74a 3) (u74a 4))), ((t_0_q 1), .inl (K 1, 1400, .inl (fun j => iI (t_0_1_c j))))] H := hP
    have hD : va_D A [((t_q 1), .inr (7, oX7 t_1_q t_1_x0 t_1_x1 t_1_x2 t_1_x3 t_1_x4 t_1_x5 t_1_x6 t_1_x7 t_1_x8)), ((t_1_q 9), .inl (K 0, 5, .inl (fun j => iI (t_1_9_c j)))), ((t_1_q 10), .inl (K 0, 6, .inl (fun j => iI (t_1_10_c j)))), ((t_1_q 11), .inl (K 0, 12, .inl (fun j => iI (t_1_11_c j)))), (t, .inr (3, oX3 t_q (u74a 0) (u74a 1))), ((t_q 0), .inr (6, oX6 t_0_q t_0_x0 (u74a 2) (u74a 3) (u74a 4))), ((t_0_q 1), .inl (K 1, 1400, .inl (fun j => iI (t_0_1_c j))))] := hD
    refine lv_aload_n hx hb dX3_readBook_77 rfl (lv_at hl 0 rfl) ?_
    refine lv_iconst (v := iI 0) hx hb dX3_readBook_78 rfl ?_
    refine lv_iconst (v := iI 4) hx hb dX3_readBook_79 rfl ?_
    refine fn_goi (wc := [(t, .inr (3, oX3 t_q (u74a 0) (u74a 1))), ((t_q 0), .inr (6, oX6 t_0_q t_0_x0 (u74a 2) (u74a 3) (u74a 4))), ((t_0_q 1), .inl (K 1, 1400, .inl (fun j => iI (t_0_1_c j))))]) (wr := [((t_q 1), .inr (7, oX7 t_1_q t_1_x0 t_1_x1 t_1_x2 t_1_x3 t_1_x4 t_1_x5 t_1_x6 t_1_x7 t_1_x8)), ((t_1_q 9), .inl (K 0, 5, .inl (fun j => iI (t_1_9_c j)))), ((t_1_q 10), .inl (K 0, 6, .inl (fun j => iI (t_1_10_c j)))), ((t_1_q 11), .inl (K 0, 12, .inl (fun j => iI (t_1_11_c j))))]) hK hP hD hS hA [4, 5, 6] [0, 1, 2, 3] rfl rfl (by decide) (fun hp => va_runV (C := RX3) (As := [.int (iI 0), .int (iI 4)]) (rest := []) ⟨hx, hb, hml, hown, hts⟩ (k_X3_takeNumber (l := l) (D := D) (K := K) (t := t) (p1 := 0) (p2 := 4) (t_q := t_q) (t_x2 := (u74a 0)) (t_x3 := (u74a 1)) (t_0_q := t_0_q) (t_0_x0 := t_0_x0) (t_0_x2 := (u74a 2)) (t_0_x3 := (u74a 3)) (t_0_x4 := (u74a 4)) (t_0_1_c := t_0_1_c) (hp1 := (by omega)) (hp2 := (by omega)) (hi_t := ⟨(by omega), (by omega)⟩) (hi_t_0 := ⟨hi_t_0.1, (by omega), (by omega), (by omega)⟩) (hc_t_0_1 := hc_t_0_1) _) (cwV 2 hts (fn_ginV (fn_gin wd_571) wd_568 wd_570 wp_10 wd_2) rfl rfl rfl (by decide +kernel) ⟨Nat.le_of_ble_eq_true rfl, Nat.le_of_ble_eq_true rfl⟩) ⟨fn_blind, va_recv hK.1 hP (ci := 3) (q0 := 4) rfl rfl, hp⟩ rfl rfl hl.1 rfl (lv_room (Nat.le_of_ble_eq_true rfl)) dX3_readBook_80 ⟨Nat.le_of_ble_eq_true rfl, Nat.le_of_ble_eq_true rfl⟩) (fun r80 u80 H locs hwu80 hP hD hS => ?_)
    obtain ⟨u80a, u80b⟩ := u80
    obtain ⟨kr80, rfl, hkr80, hqu800, -⟩ := hwu80
    have hqu80 : 0 ≤ (u80a 0) ∧ (u80a 0) ≤ 3 ∧ (-2147483648) ≤ (u80a 1) ∧ (u80a 1) ≤ 2147483647 ∧ 0 ≤ (u80a 2) ∧ (u80a 2) ≤ 4 ∧ 0 ≤ (u80a 3) ∧ (u80a 3) ≤ 1400 ∧ 0 ≤ (u80a 4) ∧ (u80a 4) ≤ 1400 ∧ (kr80 = (0 : Int) ∨ ((0 : Int) ≤ kr80 ∧ kr80 ≤ (4 : Int))) := hqu800
    clear hqu800
    have hP : va_P D vwCl [((t_q 1), .inr (7, oX7 t_1_q t_1_x0 t_1_x1 t_1_x2 t_1_x3 t_1_x4 t_1_x5 t_1_x6 t_1_x7 t_1_x8)), ((t_1_q 9), .inl (K 0, 5, .inl (fun j => iI (t_1_9_c j)))), ((t_1_q 10), .inl (K 0, 6, .inl (fun j => iI (t_1_10_c j)))), ((t_1_q 11), .inl (K 0, 12, .inl (fun j => iI (t_1_11_c j)))), (t, .inr (3, oX3 t_q (u80a 0) (u80a 1))), ((t_q 0), .inr (6, oX6 t_0_q t_0_x0 (u80a 2) (u80a 3) (u80a 4))), ((t_0_q 1), .inl (K 1, 1400, .inl (fun j => iI (t_0_1_c j))))] H := hP
    have hD : va_D A [((t_q 1), .inr (7, oX7 t_1_q t_1_x0 t_1_x1 t_1_x2 t_1_x3 t_1_x4 t_1_x5 t_1_x6 t_1_x7 t_1_x8)), ((t_1_q 9), .inl (K 0, 5, .inl (fun j => iI (t_1_9_c j)))), ((t_1_q 10), .inl (K 0, 6, .inl (fun j => iI (t_1_10_c j)))), ((t_1_q 11), .inl (K 0, 12, .inl (fun j => iI (t_1_11_c j)))), (t, .inr (3, oX3 t_q (u80a 0) (u80a 1))), ((t_q 0), .inr (6, oX6 t_0_q t_0_x0 (u80a 2) (u80a 3) (u80a 4))), ((t_0_q 1), .inl (K 1, 1400, .inl (fun j => iI (t_0_1_c j))))] := hD
    refine lv_istore_n (lv' := [(3, .int (iI kr80)), (0, .ref t), (1, .int (iI x71_1)), (2, .int (iI x71_2))]) hx hb dX3_readBook_83 rfl hl (by decide) rfl (fun ls hl => ?_)
    refine lv_aload_n hx hb dX3_readBook_84 rfl (lv_at hl 1 rfl) ?_
    refine va_get (D := D) (own := RX3) (ci := 3) (v := .int (iI (u80a 0))) (C := RX3) (T := TX3) (N := 4) hx hb hts inb_X3 hown hK.1 hP 4 rfl rfl 2 (by decide) (hts _ wd_163) (fun _ h9 => h9) rfl dX3_readBook_85 ?_
    refine g_if_ne (tgt := 100) hx hb (by omega) dX3_readBook_88 (by decide) (fun c88 => ?_) (fun c88 => ?_)
    · have y100_1 : 0 ≤ t_1_x3 ∧ t_1_x3 ≤ 5 := hi_t_1.2.2.2.1
      have y100_2 : 0 ≤ t_1_x4 ∧ t_1_x4 ≤ 12 := hi_t_1.2.2.2.2.1
      rw [hQ]; exact fn_vret hx hb hr hlocks hP hD hS ((fun k => ([(u80a 0), (u80a 1), (u80a 2), (u80a 3), (u80a 4), t_1_x3, t_1_x4] : List Int).getD k 0), (fun k => ([t_1_10_c, t_1_11_c, t_1_9_c] : List (Nat → Int)).getD k (fun _ => 0))) ⟨(by show 0 ≤ (u80a 0) ∧ (u80a 0) ≤ 3 ∧ (-2147483648) ≤ (u80a 1) ∧ (u80a 1) ≤ 2147483647 ∧ 0 ≤ (u80a 2) ∧ (u80a 2) ≤ 4 ∧ 0 ≤ (u80a 3) ∧ (u80a 3) ≤ 1400 ∧ 0 ≤ (u80a 4) ∧ (u80a 4) ≤ 1400 ∧ 0 ≤ t_1_x3 ∧ t_1_x3 ≤ 5 ∧ 0 ≤ t_1_x4 ∧ t_1_x4 ≤ 12; omega), (hc_t_1_10), (hc_t_1_11), (hc_t_1_9), trivial⟩ [4, 0, 5, 6, 1, 2, 3] (by decide) rfl dX3_readBook_100
    · refine lv_aload_n hx hb dX3_readBook_91 rfl (lv_at hl 1 rfl) ?_
      refine va_get (D := D) (own := RX3) (ci := 3) (v := .ref (t_q 1)) (C := RX3) (T := TX3) (N := 4) hx hb hts inb_X3 hown hK.1 hP 4 rfl rfl 1 (by decide) (hts _ wd_161) (fun _ h9 => h9) rfl dX3_readBook_92 ?_
      refine lv_iload_n hx hb dX3_readBook_95 rfl (lv_at hl 3 rfl) ?_
      refine lv_iload_n hx hb dX3_readBook_96 rfl (lv_at hl 0 rfl) ?_
      refine fn_gov (wc := [((t_q 1), .inr (7, oX7 t_1_q t_1_x0 t_1_x1 t_1_x2 t_1_x3 t_1_x4 t_1_x5 t_1_x6 t_1_x7 t_1_x8)), ((t_1_q 9), .inl (K 0, 5, .inl (fun j => iI (t_1_9_c j)))), ((t_1_q 10), .inl (K 0, 6, .inl (fun j => iI (t_1_10_c j)))), ((t_1_q 11), .inl (K 0, 12, .inl (fun j => iI (t_1_11_c j))))]) (wr := [(t, .inr (3, oX3 t_q (u80a 0) (u80a 1))), ((t_q 0), .inr (6, oX6 t_0_q t_0_x0 (u80a 2) (u80a 3) (u80a 4))), ((t_0_q 1), .inl (K 1, 1400, .inl (fun j => iI (t_0_1_c j))))]) hK hP hD hS hA [0, 1, 2, 3] [4, 5, 6] rfl rfl (by decide) (fun hp => va_runVN (C := RX7) (As := [.int (iI x71_2), .int (iI kr80)]) (rest := []) ⟨hx, hb, hml, hown, hts⟩ (k_X7_addBook (l := l) (D := D) (K := K) (t := (t_q 1)) (p1 := x71_2) (p2 := kr80) (t_q := t_1_q) (t_x0 := t_1_x0) (t_x1 := t_1_x1) (t_x2 := t_1_x2) (t_x3 := t_1_x3) (t_x4 := t_1_x4) (t_x5 := t_1_x5) (t_x6 := t_1_x6) (t_x7 := t_1_x7) (t_x8 := t_1_x8) (t_9_c := t_1_9_c) (t_10_c := t_1_10_c) (t_11_c := t_1_11_c) (hp1 := (by omega)) (hp2 := (by omega)) (hi_t := hi_t_1) (hc_t_9 := hc_t_1_9) (hc_t_10 := hc_t_1_10) (hc_t_11 := hc_t_1_11) _) ⟨va_cnB (own := RX3) 2 hts (fn_gin wd_591) rfl rfl rfl (hK.nw 100 rfl) (hts _ wd_4) (by decide +kernel) ⟨Nat.le_of_ble_eq_true rfl, Nat.le_of_ble_eq_true rfl⟩, hts _ wd_590, hts _ wp_13⟩ ⟨fn_blind, va_recv hK.1 hP (ci := 7) (q0 := 0) rfl rfl, hp⟩ rfl rfl hl.1 rfl (lv_room (Nat.le_of_ble_eq_true rfl)) dX3_readBook_97 ⟨Nat.le_of_ble_eq_true rfl, Nat.le_of_ble_eq_true rfl⟩) (fun u97 H locs hwu97 hP hD hS => ?_)
      obtain ⟨u97a, u97b⟩ := u97
      obtain ⟨hqu970, hu97_00, hu97_10, hu97_20, -⟩ := hwu97
      have hqu97 : 0 ≤ (u97a 0) ∧ (u97a 0) ≤ 5 ∧ 0 ≤ (u97a 1) ∧ (u97a 1) ≤ 12 := hqu970
      have hu97_0 : ∀ j : Nat, 0 ≤ (u97b 0) j ∧ (u97b 0) j ≤ 12 := hu97_00
      have hu97_1 : ∀ j : Nat, 0 ≤ (u97b 1) j ∧ (u97b 1) j ≤ 4 := hu97_10
      have hu97_2 : ∀ j : Nat, 0 ≤ (u97b 2) j ∧ (u97b 2) j ≤ 4 := hu97_20
      clear hqu970 hu97_00 hu97_10 hu97_20
      have hP : va_P D vwCl [(t, .inr (3, oX3 t_q (u80a 0) (u80a 1))), ((t_q 0), .inr (6, oX6 t_0_q t_0_x0 (u80a 2) (u80a 3) (u80a 4))), ((t_0_q 1), .inl (K 1, 1400, .inl (fun j => iI (t_0_1_c j)))), ((t_q 1), .inr (7, oX7 t_1_q t_1_x0 t_1_x1 t_1_x2 (u97a 0) (u97a 1) t_1_x5 t_1_x6 t_1_x7 t_1_x8)), ((t_1_q 9), .inl (K 0, 5, .inl (fun j => iI ((u97b 2) j)))), ((t_1_q 10), .inl (K 0, 6, .inl (fun j => iI ((u97b 0) j)))), ((t_1_q 11), .inl (K 0, 12, .inl (fun j => iI ((u97b 1) j))))] H := hP
      have hD : va_D A [(t, .inr (3, oX3 t_q (u80a 0) (u80a 1))), ((t_q 0), .inr (6, oX6 t_0_q t_0_x0 (u80a 2) (u80a 3) (u80a 4))), ((t_0_q 1), .inl (K 1, 1400, .inl (fun j => iI (t_0_1_c j)))), ((t_q 1), .inr (7, oX7 t_1_q t_1_x0 t_1_x1 t_1_x2 (u97a 0) (u97a 1) t_1_x5 t_1_x6 t_1_x7 t_1_x8)), ((t_1_q 9), .inl (K 0, 5, .inl (fun j => iI ((u97b 2) j)))), ((t_1_q 10), .inl (K 0, 6, .inl (fun j => iI ((u97b 0) j)))), ((t_1_q 11), .inl (K 0, 12, .inl (fun j => iI ((u97b 1) j))))] := hD
      rw [hQ]; exact fn_vret hx hb hr hlocks hP hD hS ((fun k => ([(u80a 0), (u80a 1), (u80a 2), (u80a 3), (u80a 4), (u97a 0), (u97a 1)] : List Int).getD k 0), (fun k => ([(u97b 0), (u97b 1), (u97b 2)] : List (Nat → Int)).getD k (fun _ => 0))) ⟨(by show 0 ≤ (u80a 0) ∧ (u80a 0) ≤ 3 ∧ (-2147483648) ≤ (u80a 1) ∧ (u80a 1) ≤ 2147483647 ∧ 0 ≤ (u80a 2) ∧ (u80a 2) ≤ 4 ∧ 0 ≤ (u80a 3) ∧ (u80a 3) ≤ 1400 ∧ 0 ≤ (u80a 4) ∧ (u80a 4) ≤ 1400 ∧ 0 ≤ (u97a 0) ∧ (u97a 0) ≤ 5 ∧ 0 ≤ (u97a 1) ∧ (u97a 1) ≤ 12; omega), (hu97_0), (hu97_1), (hu97_2), trivial⟩ [0, 3, 1, 2, 4, 5, 6] (by decide) rfl dX3_readBook_100
  have J23 : ∀ (f23_t_2 : Int) (f23_t_3 : Int) (H : Heap) (locs : List Loc) (ls : Array Slot), (0 ≤ f23_t_2 ∧ f23_t_2 ≤ 3 ∧ (-2147483648) ≤ f23_t_3 ∧ f23_t_3 ≤ 2147483647) → va_P D vwCl [(t, .inr (3, oX3 t_q f23_t_2 f23_t_3)), ((t_q 1), .inr (7, oX7 t_1_q t_1_x0 t_1_x1 t_1_x2 t_1_x3 t_1_x4 t_1_x5 t_1_x6 t_1_x7 t_1_x8)), ((t_q 0), .inr (6, oX6 t_0_q t_0_x0 t_0_x2 t_0_x3 t_0_x4)), ((t_0_q 1), .inl (K 1, 1400, .inl (fun j => iI (t_0_1_c j)))), ((t_1_q 9), .inl (K 0, 5, .inl (fun j => iI (t_1_9_c j)))), ((t_1_q 10), .inl (K 0, 6, .inl (fun j => iI (t_1_10_c j)))), ((t_1_q 11), .inl (K 0, 12, .inl (fun j => iI (t_1_11_c j))))] H → va_D A [(t, .inr (3, oX3 t_q f23_t_2 f23_t_3)), ((t_q 1), .inr (7, oX7 t_1_q t_1_x0 t_1_x1 t_1_x2 t_1_x3 t_1_x4 t_1_x5 t_1_x6 t_1_x7 t_1_x8)), ((t_q 0), .inr (6, oX6 t_0_q t_0_x0 t_0_x2 t_0_x3 t_0_x4)), ((t_0_q 1), .inl (K 1, 1400, .inl (fun j => iI (t_0_1_c j)))), ((t_1_q 9), .inl (K 0, 5, .inl (fun j => iI (t_1_9_c j)))), ((t_1_q 10), .inl (K 0, 6, .inl (fun j => iI (t_1_10_c j)))), ((t_1_q 11), .inl (K 0, 12, .inl (fun j => iI (t_1_11_c j))))] → va_S A s.heap H locs → lv_has ls 4 [(0, .ref t)] → W p l e ({ frames := 32, cells := 0, slots := 0, locals := 800 } : Room) s m ag below meth c H locs 0 0 Q (F0 m 23 ls []) := by
    intro f23_t_2 f23_t_3 H locs ls hf23 hP hD hS hl
    refine lv_aload_n hx hb dX3_readBook_23 rfl (lv_at hl 0 rfl) ?_
    refine va_ldcS (own := RX3) (tx := "book") (q := adK 3) hx hb hown (hO.2.2.2 3 (53, "book") rfl) dX3_readBook_24 ?_
    refine fn_govO (wc := [(t, .inr (3, oX3 t_q f23_t_2 f23_t_3)), ((t_q 0), .inr (6, oX6 t_0_q t_0_x0 t_0_x2 t_0_x3 t_0_x4)), ((t_0_q 1), .inl (K 1, 1400, .inl (fun j => iI (t_0_1_c j))))]) (wr := [((t_q 1), .inr (7, oX7 t_1_q t_1_x0 t_1_x1 t_1_x2 t_1_x3 t_1_x4 t_1_x5 t_1_x6 t_1_x7 t_1_x8)), ((t_1_q 9), .inl (K 0, 5, .inl (fun j => iI (t_1_9_c j)))), ((t_1_q 10), .inl (K 0, 6, .inl (fun j => iI (t_1_10_c j)))), ((t_1_q 11), .inl (K 0, 12, .inl (fun j => iI (t_1_11_c j))))]) hO hK hP hD hS hA [0, 2, 3] [1, 4, 5, 6] rfl rfl (by decide) (fun hp => va_runV (C := RX3) (As := [.ref (adK 3)]) (rest := []) ⟨hx, hb, hml, hown, hts⟩ (k_X3_takeWord (l := l) (D := D) (K := K) (adK := adK) (adV := adV) (t := t) (s1 := 3) (t_q := t_q) (t_x2 := f23_t_2) (t_x3 := f23_t_3) (t_0_q := t_0_q) (t_0_x0 := t_0_x0) (t_0_x2 := t_0_x2) (t_0_x3 := t_0_x3) (t_0_x4 := t_0_x4) (t_0_1_c := t_0_1_c) (hs1 := (by decide)) (hi_t := ⟨(by omega), (by omega)⟩) (hi_t_0 := hi_t_0) (hc_t_0_1 := hc_t_0_1) _) (cwV 1 hts (fn_ginV (fn_gin wd_509) wd_506 wd_508 wp_7 wd_2) rfl rfl rfl (by decide +kernel) ⟨Nat.le_of_ble_eq_true rfl, Nat.le_of_ble_eq_true rfl⟩) ⟨fn_blindO, va_recv hK.1 hP (ci := 3) (q0 := 0) rfl rfl, hp⟩ rfl rfl hl.1 rfl (lv_room (Nat.le_of_ble_eq_true rfl)) dX3_readBook_26 ⟨Nat.le_of_ble_eq_true rfl, Nat.le_of_ble_eq_true rfl⟩) (fun u26 H locs hwu26 hP hD hS => ?_)
    obtain ⟨u26a, u26b⟩ := u26
    obtain ⟨hqu260, -⟩ := hwu26
    have hqu26 : 0 ≤ (u26a 0) ∧ (u26a 0) ≤ 3 ∧ (-2147483648) ≤ (u26a 1) ∧ (u26a 1) ≤ 2147483647 ∧ 0 ≤ (u26a 2) ∧ (u26a 2) ≤ 4 ∧ 0 ≤ (u26a 3) ∧ (u26a 3) ≤ 1400 ∧ 0 ≤ (u26a 4) ∧ (u26a 4) ≤ 1400 := hqu260
    clear hqu260
    have hP : va_P D vwCl [((t_q 1), .inr (7, oX7 t_1_q t_1_x0 t_1_x1 t_1_x2 t_1_x3 t_1_x4 t_1_x5 t_1_x6 t_1_x7 t_1_x8)), ((t_1_q 9), .inl (K 0, 5, .inl (fun j => iI (t_1_9_c j)))), ((t_1_q 10), .inl (K 0, 6, .inl (fun j => iI (t_1_10_c j)))), ((t_1_q 11), .inl (K 0, 12, .inl (fun j => iI (t_1_11_c j)))), (t, .inr (3, oX3 t_q (u26a 0) (u26a 1))), ((t_q 0), .inr (6, oX6 t_0_q t_0_x0 (u26a 2) (u26a 3) (u26a 4))), ((t_0_q 1), .inl (K 1, 1400, .inl (fun j => iI (t_0_1_c j))))] H := hP
    have hD : va_D A [((t_q 1), .inr (7, oX7 t_1_q t_1_x0 t_1_x1 t_1_x2 t_1_x3 t_1_x4 t_1_x5 t_1_x6 t_1_x7 t_1_x8)), ((t_1_q 9), .inl (K 0, 5, .inl (fun j => iI (t_1_9_c j)))), ((t_1_q 10), .inl (K 0, 6, .inl (fun j => iI (t_1_10_c j)))), ((t_1_q 11), .inl (K 0, 12, .inl (fun j => iI (t_1_11_c j)))), (t, .inr (3, oX3 t_q (u26a 0) (u26a 1))), ((t_q 0), .inr (6, oX6 t_0_q t_0_x0 (u26a 2) (u26a 3) (u26a 4))), ((t_0_q 1), .inl (K 1, 1400, .inl (fun j => iI (t_0_1_c j))))] := hD
    refine lv_aload_n hx hb dX3_readBook_29 rfl (lv_at hl 0 rfl) ?_
    refine va_ldcS (own := RX3) (tx := "pages") (q := adK 4) hx hb hown (hO.2.2.2 4 (110, "pages") rfl) dX3_readBook_30 ?_
    refine fn_govO (wc := [(t, .inr (3, oX3 t_q (u26a 0) (u26a 1))), ((t_q 0), .inr (6, oX6 t_0_q t_0_x0 (u26a 2) (u26a 3) (u26a 4))), ((t_0_q 1), .inl (K 1, 1400, .inl (fun j => iI (t_0_1_c j))))]) (wr := [((t_q 1), .inr (7, oX7 t_1_q t_1_x0 t_1_x1 t_1_x2 t_1_x3 t_1_x4 t_1_x5 t_1_x6 t_1_x7 t_1_x8)), ((t_1_q 9), .inl (K 0, 5, .inl (fun j => iI (t_1_9_c j)))), ((t_1_q 10), .inl (K 0, 6, .inl (fun j => iI (t_1_10_c j)))), ((t_1_q 11), .inl (K 0, 12, .inl (fun j => iI (t_1_11_c j))))]) hO hK hP hD hS hA [4, 5, 6] [0, 1, 2, 3] rfl rfl (by decide) (fun hp => va_runV (C := RX3) (As := [.ref (adK 4)]) (rest := []) ⟨hx, hb, hml, hown, hts⟩ (k_X3_takeWord (l := l) (D := D) (K := K) (adK := adK) (adV := adV) (t := t) (s1 := 4) (t_q := t_q) (t_x2 := (u26a 0)) (t_x3 := (u26a 1)) (t_0_q := t_0_q) (t_0_x0 := t_0_x0) (t_0_x2 := (u26a 2)) (t_0_x3 := (u26a 3)) (t_0_x4 := (u26a 4)) (t_0_1_c := t_0_1_c) (hs1 := (by decide)) (hi_t := ⟨(by omega), (by omega)⟩) (hi_t_0 := ⟨hi_t_0.1, (by omega), (by omega), (by omega)⟩) (hc_t_0_1 := hc_t_0_1) _) (cwV 1 hts (fn_ginV (fn_gin wd_509) wd_506 wd_508 wp_7 wd_2) rfl rfl rfl (by decide +kernel) ⟨Nat.le_of_ble_eq_true rfl, Nat.le_of_ble_eq_true rfl⟩) ⟨fn_blindO, va_recv hK.1 hP (ci := 3) (q0 := 4) rfl rfl, hp⟩ rfl rfl hl.1 rfl (lv_room (Nat.le_of_ble_eq_true rfl)) dX3_readBook_32 ⟨Nat.le_of_ble_eq_true rfl, Nat.le_of_ble_eq_true rfl⟩) (fun u32 H locs hwu32 hP hD hS => ?_)
    obtain ⟨u32a, u32b⟩ := u32
    obtain ⟨hqu320, -⟩ := hwu32
    have hqu32 : 0 ≤ (u32a 0) ∧ (u32a 0) ≤ 3 ∧ (-2147483648) ≤ (u32a 1) ∧ (u32a 1) ≤ 2147483647 ∧ 0 ≤ (u32a 2) ∧ (u32a 2) ≤ 4 ∧ 0 ≤ (u32a 3) ∧ (u32a 3) ≤ 1400 ∧ 0 ≤ (u32a 4) ∧ (u32a 4) ≤ 1400 := hqu320
    clear hqu320
    have hP : va_P D vwCl [((t_q 1), .inr (7, oX7 t_1_q t_1_x0 t_1_x1 t_1_x2 t_1_x3 t_1_x4 t_1_x5 t_1_x6 t_1_x7 t_1_x8)), ((t_1_q 9), .inl (K 0, 5, .inl (fun j => iI (t_1_9_c j)))), ((t_1_q 10), .inl (K 0, 6, .inl (fun j => iI (t_1_10_c j)))), ((t_1_q 11), .inl (K 0, 12, .inl (fun j => iI (t_1_11_c j)))), (t, .inr (3, oX3 t_q (u32a 0) (u32a 1))), ((t_q 0), .inr (6, oX6 t_0_q t_0_x0 (u32a 2) (u32a 3) (u32a 4))), ((t_0_q 1), .inl (K 1, 1400, .inl (fun j => iI (t_0_1_c j))))] H := hP
    have hD : va_D A [((t_q 1), .inr (7, oX7 t_1_q t_1_x0 t_1_x1 t_1_x2 t_1_x3 t_1_x4 t_1_x5 t_1_x6 t_1_x7 t_1_x8)), ((t_1_q 9), .inl (K 0, 5, .inl (fun j => iI (t_1_9_c j)))), ((t_1_q 10), .inl (K 0, 6, .inl (fun j => iI (t_1_10_c j)))), ((t_1_q 11), .inl (K 0, 12, .inl (fun j => iI (t_1_11_c j)))), (t, .inr (3, oX3 t_q (u32a 0) (u32a 1))), ((t_q 0), .inr (6, oX6 t_0_q t_0_x0 (u32a 2) (u32a 3) (u32a 4))), ((t_0_q 1), .inl (K 1, 1400, .inl (fun j => iI (t_0_1_c j))))] := hD
    refine lv_aload_n hx hb dX3_readBook_35 rfl (lv_at hl 0 rfl) ?_
    refine va_get (D := D) (own := RX3) (ci := 3) (v := .ref (t_q 0)) (C := RX3) (T := TX3) (N := 4) hx hb hts inb_X3 hown hK.1 hP 4 rfl rfl 0 (by decide) (hts _ wd_159) (fun _ h9 => h9) rfl dX3_readBook_36 ?_
    refine va_getN (D := D) (own := RX3) (ci := 6) (v := .int (iI (u32a 3))) (C := RX6) (T := TX6) (N := 5) hx hb hts inb_X6 hown hK.1 hP 5 rfl rfl 3 (by decide) (hK.nf 4 rfl) (fun _ h9 => h9) rfl dX3_readBook_39 ?_
    refine lv_istore_n (lv' := [(1, .int (iI (u32a 3))), (0, .ref t)]) hx hb dX3_readBook_42 rfl hl (by decide) rfl (fun ls hl => ?_)
    refine lv_aload_n hx hb dX3_readBook_43 rfl (lv_at hl 1 rfl) ?_
    refine lv_iconst (v := iI 1) hx hb dX3_readBook_44 rfl ?_
    refine lv_bipush (v := iI 9) hx hb dX3_readBook_45 (by decide) ?_
    refine fn_goi (wc := [(t, .inr (3, oX3 t_q (u32a 0) (u32a 1))), ((t_q 0), .inr (6, oX6 t_0_q t_0_x0 (u32a 2) (u32a 3) (u32a 4))), ((t_0_q 1), .inl (K 1, 1400, .inl (fun j => iI (t_0_1_c j))))]) (wr := [((t_q 1), .inr (7, oX7 t_1_q t_1_x0 t_1_x1 t_1_x2 t_1_x3 t_1_x4 t_1_x5 t_1_x6 t_1_x7 t_1_x8)), ((t_1_q 9), .inl (K 0, 5, .inl (fun j => iI (t_1_9_c j)))), ((t_1_q 10), .inl (K 0, 6, .inl (fun j => iI (t_1_10_c j)))), ((t_1_q 11), .inl (K 0, 12, .inl (fun j => iI (t_1_11_c j))))]) hK hP hD hS hA [4, 5, 6] [0, 1, 2, 3] rfl rfl (by decide) (fun hp => va_runV (C := RX3) (As := [.int (iI 1), .int (iI 9)]) (rest := []) ⟨hx, hb, hml, hown, hts⟩ (k_X3_takeNumber (l := l) (D := D) (K := K) (t := t) (p1 := 1) (p2 := 9) (t_q := t_q) (t_x2 := (u32a 0)) (t_x3 := (u32a 1)) (t_0_q := t_0_q) (t_0_x0 := t_0_x0) (t_0_x2 := (u32a 2)) (t_0_x3 := (u32a 3)) (t_0_x4 := (u32a 4)) (t_0_1_c := t_0_1_c) (hp1 := (by omega)) (hp2 := (by omega)) (hi_t := ⟨(by omega), (by omega)⟩) (hi_t_0 := ⟨hi_t_0.1, (by omega), (by omega), (by omega)⟩) (hc_t_0_1 := hc_t_0_1) _) (cwV 2 hts (fn_ginV (fn_gin wd_571) wd_568 wd_570 wp_10 wd_2) rfl rfl rfl (by decide +kernel) ⟨Nat.le_of_ble_eq_true rfl, Nat.le_of_ble_eq_true rfl⟩) ⟨fn_blind, va_recv hK.1 hP (ci := 3) (q0 := 4) rfl rfl, hp⟩ rfl rfl hl.1 rfl (lv_room (Nat.le_of_ble_eq_true rfl)) dX3_readBook_47 ⟨Nat.le_of_ble_eq_true rfl, Nat.le_of_ble_eq_true rfl⟩) (fun r47 u47 H locs hwu47 hP hD hS => ?_)
    obtain ⟨u47a, u47b⟩ := u47
    obtain ⟨kr47, rfl, hkr47, hqu470, -⟩ := hwu47
    have hqu47 : 0 ≤ (u47a 0) ∧ (u47a 0) ≤ 3 ∧ (-2147483648) ≤ (u47a 1) ∧ (u47a 1) ≤ 2147483647 ∧ 0 ≤ (u47a 2) ∧ (u47a 2) ≤ 4 ∧ 0 ≤ (u47a 3) ∧ (u47a 3) ≤ 1400 ∧ 0 ≤ (u47a 4) ∧ (u47a 4) ≤ 1400 ∧ (kr47 = (1 : Int) ∨ ((1 : Int) ≤ kr47 ∧ kr47 ≤ (9 : Int))) := hqu470
    clear hqu470
    have hP : va_P D vwCl [((t_q 1), .inr (7, oX7 t_1_q t_1_x0 t_1_x1 t_1_x2 t_1_x3 t_1_x4 t_1_x5 t_1_x6 t_1_x7 t_1_x8)), ((t_1_q 9), .inl (K 0, 5, .inl (fun j => iI (t_1_9_c j)))), ((t_1_q 10), .inl (K 0, 6, .inl (fun j => iI (t_1_10_c j)))), ((t_1_q 11), .inl (K 0, 12, .inl (fun j => iI (t_1_11_c j)))), (t, .inr (3, oX3 t_q (u47a 0) (u47a 1))), ((t_q 0), .inr (6, oX6 t_0_q t_0_x0 (u47a 2) (u47a 3) (u47a 4))), ((t_0_q 1), .inl (K 1, 1400, .inl (fun j => iI (t_0_1_c j))))] H := hP
    have hD : va_D A [((t_q 1), .inr (7, oX7 t_1_q t_1_x0 t_1_x1 t_1_x2 t_1_x3 t_1_x4 t_1_x5 t_1_x6 t_1_x7 t_1_x8)), ((t_1_q 9), .inl (K 0, 5, .inl (fun j => iI (t_1_9_c j)))), ((t_1_q 10), .inl (K 0, 6, .inl (fun j => iI (t_1_10_c j)))), ((t_1_q 11), .inl (K 0, 12, .inl (fun j => iI (t_1_11_c j)))), (t, .inr (3, oX3 t_q (u47a 0) (u47a 1))), ((t_q 0), .inr (6, oX6 t_0_q t_0_x0 (u47a 2) (u47a 3) (u47a 4))), ((t_0_q 1), .inl (K 1, 1400, .inl (fun j => iI (t_0_1_c j))))] := hD
    refine lv_istore_n (lv' := [(2, .int (iI kr47)), (1, .int (iI (u32a 3))), (0, .ref t)]) hx hb dX3_readBook_50 rfl hl (by decide) rfl (fun ls hl => ?_)
    refine lv_aload_n hx hb dX3_readBook_51 rfl (lv_at hl 2 rfl) ?_
    refine va_get (D := D) (own := RX3) (ci := 3) (v := .ref (t_q 1)) (C := RX3) (T := TX3) (N := 4) hx hb hts inb_X3 hown hK.1 hP 4 rfl rfl 1 (by decide) (hts _ wd_161) (fun _ h9 => h9) rfl dX3_readBook_52 ?_
    refine va_getN (D := D) (own := RX3) (ci := 7) (v := .int (iI t_1_x4)) (C := RX7) (T := TX7) (N := 15) hx hb hts inb_X7 hown hK.1 hP 0 rfl rfl 4 (by decide) (hK.nf 21 rfl) (fun _ h9 => h9) rfl dX3_readBook_55 ?_
    have y55_1 : 0 ≤ t_1_x4 ∧ t_1_x4 ≤ 12 := hi_t_1.2.2.2.2.1
    refine lv_iload_n hx hb dX3_readBook_58 rfl (lv_at hl 0 rfl) ?_
    refine fn_at 59 rfl ?_
    refine g_iadd hx hb dX3_readBook_59 ?_
    refine lv_bipush (v := iI 12) hx hb dX3_readBook_60 (by decide) ?_
    refine g_icmp_le (tgt := 71) hx hb (by omega) (by omega) dX3_readBook_62 (by decide) (fun c62 => ?_) (fun c62 => ?_)
    · exact J71 (u32a 3) kr47 (u47a 0) (u47a 1) (u47a 2) (u47a 3) (u47a 4) _ _ ls (by omega) (hP.sub [4, 0, 5, 6, 1, 2, 3] rfl) (hD.sub [4, 0, 5, 6, 1, 2, 3] (by decide) rfl) hS (lv_sub hl [2, 1, 0] rfl)
    · refine lv_aload_n hx hb dX3_readBook_65 rfl (lv_at hl 2 rfl) ?_
      refine lv_iconst (v := iI 3) hx hb dX3_readBook_66 rfl ?_
      refine lv_iload_n hx hb dX3_readBook_67 rfl (lv_at hl 1 rfl) ?_
      refine fn_gov (wc := [(t, .inr (3, oX3 t_q (u47a 0) (u47a 1)))]) (wr := [((t_q 1), .inr (7, oX7 t_1_q t_1_x0 t_1_x1 t_1_x2 t_1_x3 t_1_x4 t_1_x5 t_1_x6 t_1_x7 t_1_x8)), ((t_1_q 9), .inl (K 0, 5, .inl (fun j => iI (t_1_9_c j)))), ((t_1_q 10), .inl (K 0, 6, .inl (fun j => iI (t_1_10_c j)))), ((t_1_q 11), .inl (K 0, 12, .inl (fun j => iI (t_1_11_c j)))), ((t_q 0), .inr (6, oX6 t_0_q t_0_x0 (u47a 2) (u47a 3) (u47a 4))), ((t_0_q 1), .inl (K 1, 1400, .inl (fun j => iI (t_0_1_c j))))]) hK hP hD hS hA [4] [0, 1, 2, 3, 5, 6] rfl rfl (by decide) (fun hp => va_runV (C := RX3) (As := [.int (iI 3), .int (iI (u32a 3))]) (rest := []) ⟨hx, hb, hml, hown, hts⟩ (k_X3_blame (l := l) (D := D) (K := K) (t := t) (p1 := 3) (p2 := (u32a 3)) (t_q := t_q) (t_x2 := (u47a 0)) (t_x3 := (u47a 1)) (hp1 := (by omega)) (hp2 := (by omega)) (hi_t := ⟨(by omega), (by omega)⟩) _) (cwV 2 hts (fn_ginV (fn_gin wd_566) wd_563 wd_565 wp_9 wd_2) rfl rfl rfl (by decide +kernel) ⟨Nat.le_of_ble_eq_true rfl, Nat.le_of_ble_eq_true rfl⟩) ⟨fn_blind, va_recv hK.1 hP (ci := 3) (q0 := 4) rfl rfl, hp⟩ rfl rfl hl.1 rfl (lv_room (Nat.le_of_ble_eq_true rfl)) dX3_readBook_68 ⟨Nat.le_of_ble_eq_true rfl, Nat.le_of_ble_eq_true rfl⟩) (fun u68 H locs hwu68 hP hD hS => ?_)
      obtain ⟨u68a, u68b⟩ := u68
      obtain ⟨hqu680, -⟩ := hwu68
      have hqu68 : 0 ≤ (u68a 0) ∧ (u68a 0) ≤ 3 ∧ (-2147483648) ≤ (u68a 1) ∧ (u68a 1) ≤ 2147483647 := hqu680
      clear hqu680
      have hP : va_P D vwCl [((t_q 1), .inr (7, oX7 t_1_q t_1_x0 t_1_x1 t_1_x2 t_1_x3 t_1_x4 t_1_x5 t_1_x6 t_1_x7 t_1_x8)), ((t_1_q 9), .inl (K 0, 5, .inl (fun j => iI (t_1_9_c j)))), ((t_1_q 10), .inl (K 0, 6, .inl (fun j => iI (t_1_10_c j)))), ((t_1_q 11), .inl (K 0, 12, .inl (fun j => iI (t_1_11_c j)))), ((t_q 0), .inr (6, oX6 t_0_q t_0_x0 (u47a 2) (u47a 3) (u47a 4))), ((t_0_q 1), .inl (K 1, 1400, .inl (fun j => iI (t_0_1_c j)))), (t, .inr (3, oX3 t_q (u68a 0) (u68a 1)))] H := hP
      have hD : va_D A [((t_q 1), .inr (7, oX7 t_1_q t_1_x0 t_1_x1 t_1_x2 t_1_x3 t_1_x4 t_1_x5 t_1_x6 t_1_x7 t_1_x8)), ((t_1_q 9), .inl (K 0, 5, .inl (fun j => iI (t_1_9_c j)))), ((t_1_q 10), .inl (K 0, 6, .inl (fun j => iI (t_1_10_c j)))), ((t_1_q 11), .inl (K 0, 12, .inl (fun j => iI (t_1_11_c j)))), ((t_q 0), .inr (6, oX6 t_0_q t_0_x0 (u47a 2) (u47a 3) (u47a 4))), ((t_0_q 1), .inl (K 1, 1400, .inl (fun j => iI (t_0_1_c j)))), (t, .inr (3, oX3 t_q (u68a 0) (u68a 1)))] := hD
      exact J71 (u32a 3) kr47 (u68a 0) (u68a 1) (u47a 2) (u47a 3) (u47a 4) _ _ ls (by omega) (hP.sub [6, 0, 4, 5, 1, 2, 3] rfl) (hD.sub [6, 0, 4, 5, 1, 2, 3] (by decide) rfl) hS (lv_sub hl [2, 1, 0] rfl)
  have hl : lv_has ls 4 [(0, .ref t)] := hl
  refine lv_aload_n hx hb dX3_readBook_0 rfl (lv_at hl 0 rfl) ?_
  refine va_get (D := D) (own := RX3) (ci := 3) (v := .ref (t_q 1)) (C := RX3) (T := TX3) (N := 4) hx hb hts inb_X3 hown hK.1 hP 0 rfl rfl 1 (by decide) (hts _ wd_161) (fun _ h9 => h9) rfl dX3_readBook_1 ?_
  refine va_getN (D := D) (own := RX3) (ci := 7) (v := .int (iI t_1_x3)) (C := RX7) (T := TX7) (N := 15) hx hb hts inb_X7 hown hK.1 hP 1 rfl rfl 3 (by decide) (hK.nf 17 rfl) (fun _ h9 => h9) rfl dX3_readBook_4 ?_
  have y4_1 : 0 ≤ t_1_x3 ∧ t_1_x3 ≤ 5 := hi_t_1.2.2.2.1
  refine lv_iconst (v := iI 5) hx hb dX3_readBook_7 rfl ?_
  refine g_icmp_lt (tgt := 23) hx hb (by omega) (by omega) dX3_readBook_8 (by decide) (fun c8 => ?_) (fun c8 => ?_)
  · have y23_2 : 0 ≤ t_x2 ∧ t_x2 ≤ 3 := hi_t.1
    have y23_3 : (-2147483648) ≤ t_x3 ∧ t_x3 ≤ 2147483647 := hi_t.2
    exact J23 t_x2 t_x3 _ _ ls (by omega) (hP.sub [0, 1, 2, 3, 4, 5, 6] rfl) (hD.sub [0, 1, 2, 3, 4, 5, 6] (by decide) rfl) hS (lv_sub hl [0] rfl)
  · refine lv_aload_n hx hb dX3_readBook_11 rfl (lv_at hl 0 rfl) ?_
    refine lv_iconst (v := iI 3) hx hb dX3_readBook_12 rfl ?_
    refine lv_aload_n hx hb dX3_readBook_13 rfl (lv_at hl 0 rfl) ?_
    refine va_get (D := D) (own := RX3) (ci := 3) (v := .ref (t_q 0)) (C := RX3) (T := TX3) (N := 4) hx hb hts inb_X3 hown hK.1 hP 0 rfl rfl 0 (by decide) (hts _ wd_159) (fun _ h9 => h9) rfl dX3_readBook_14 ?_
    refine va_getN (D := D) (own := RX3) (ci := 6) (v := .int (iI t_0_x3)) (C := RX6) (T := TX6) (N := 5) hx hb hts inb_X6 hown hK.1 hP 2 rfl rfl 3 (by decide) (hK.nf 4 rfl) (fun _ h9 => h9) rfl dX3_readBook_17 ?_
    have y17_2 : 0 ≤ t_0_x3 ∧ t_0_x3 ≤ 1400 := hi_t_0.2.2.1
    refine fn_gov (wc := [(t, .inr (3, oX3 t_q t_x2 t_x3))]) (wr := [((t_q 1), .inr (7, oX7 t_1_q t_1_x0 t_1_x1 t_1_x2 t_1_x3 t_1_x4 t_1_x5 t_1_x6 t_1_x7 t_1_x8)), ((t_q 0), .inr (6, oX6 t_0_q t_0_x0 t_0_x2 t_0_x3 t_0_x4)), ((t_0_q 1), .inl (K 1, 1400, .inl (fun j => iI (t_0_1_c j)))), ((t_1_q 9), .inl (K 0, 5, .inl (fun j => iI (t_1_9_c j)))), ((t_1_q 10), .inl (K 0, 6, .inl (fun j => iI (t_1_10_c j)))), ((t_1_q 11), .inl (K 0, 12, .inl (fun j => iI (t_1_11_c j))))]) hK hP hD hS hA [0] [1, 2, 3, 4, 5, 6] rfl rfl (by decide) (fun hp => va_runV (C := RX3) (As := [.int (iI 3), .int (iI t_0_x3)]) (rest := []) ⟨hx, hb, hml, hown, hts⟩ (k_X3_blame (l := l) (D := D) (K := K) (t := t) (p1 := 3) (p2 := t_0_x3) (t_q := t_q) (t_x2 := t_x2) (t_x3 := t_x3) (hp1 := (by omega)) (hp2 := (by omega)) (hi_t := hi_t) _) (cwV 2 hts (fn_ginV (fn_gin wd_566) wd_563 wd_565 wp_9 wd_2) rfl rfl rfl (by decide +kernel) ⟨Nat.le_of_ble_eq_true rfl, Nat.le_of_ble_eq_true rfl⟩) ⟨fn_blind, va_recv hK.1 hP (ci := 3) (q0 := 0) rfl rfl, hp⟩ rfl rfl hl.1 rfl (lv_room (Nat.le_of_ble_eq_true rfl)) dX3_readBook_20 ⟨Nat.le_of_ble_eq_true rfl, Nat.le_of_ble_eq_true rfl⟩) (fun u20 H locs hwu20 hP hD hS => ?_)
    obtain ⟨u20a, u20b⟩ := u20
    obtain ⟨hqu200, -⟩ := hwu20
    have hqu20 : 0 ≤ (u20a 0) ∧ (u20a 0) ≤ 3 ∧ (-2147483648) ≤ (u20a 1) ∧ (u20a 1) ≤ 2147483647 := hqu200
    clear hqu200
    have hP : va_P D vwCl [((t_q 1), .inr (7, oX7 t_1_q t_1_x0 t_1_x1 t_1_x2 t_1_x3 t_1_x4 t_1_x5 t_1_x6 t_1_x7 t_1_x8)), ((t_q 0), .inr (6, oX6 t_0_q t_0_x0 t_0_x2 t_0_x3 t_0_x4)), ((t_0_q 1), .inl (K 1, 1400, .inl (fun j => iI (t_0_1_c j)))), ((t_1_q 9), .inl (K 0, 5, .inl (fun j => iI (t_1_9_c j)))), ((t_1_q 10), .inl (K 0, 6, .inl (fun j => iI (t_1_10_c j)))), ((t_1_q 11), .inl (K 0, 12, .inl (fun j => iI (t_1_11_c j)))), (t, .inr (3, oX3 t_q (u20a 0) (u20a 1)))] H := hP
    have hD : va_D A [((t_q 1), .inr (7, oX7 t_1_q t_1_x0 t_1_x1 t_1_x2 t_1_x3 t_1_x4 t_1_x5 t_1_x6 t_1_x7 t_1_x8)), ((t_q 0), .inr (6, oX6 t_0_q t_0_x0 t_0_x2 t_0_x3 t_0_x4)), ((t_0_q 1), .inl (K 1, 1400, .inl (fun j => iI (t_0_1_c j)))), ((t_1_q 9), .inl (K 0, 5, .inl (fun j => iI (t_1_9_c j)))), ((t_1_q 10), .inl (K 0, 6, .inl (fun j => iI (t_1_10_c j)))), ((t_1_q 11), .inl (K 0, 12, .inl (fun j => iI (t_1_11_c j)))), (t, .inr (3, oX3 t_q (u20a 0) (u20a 1)))] := hD
    exact J23 (u20a 0) (u20a 1) _ _ ls (by omega) (hP.sub [6, 0, 1, 2, 3, 4, 5] rfl) (hD.sub [6, 0, 1, 2, 3, 4, 5] (by decide) rfl) hS (lv_sub hl [0] rfl)
theorem dX11_bit_0 : decode cX11_bit 0 = .ok (.iload_n 0, 1) := by decide +kernel
theorem dX11_bit_1 : decode cX11_bit 1 = .ok (.ifCond .eq 7, 3) := by decide +kernel
theorem dX11_bit_8 : decode cX11_bit 8 = .ok (.iconst 0, 1) := by decide +kernel
theorem dX11_bit_9 : decode cX11_bit 9 = .ok (.ireturn, 1) := by decide +kernel
theorem dX11_bit_4 : decode cX11_bit 4 = .ok (.iconst 1, 1) := by decide +kernel
theorem dX11_bit_5 : decode cX11_bit 5 = .ok (.goto 4, 3) := by decide +kernel
set_option maxHeartbeats 4000000 in
set_option maxRecDepth 100000 in
theorem k_X11_bit (l : Launch) (D : va_G) (K : Nat → ClassId) (p1 : Int) (hp1 : 0 ≤ p1 ∧ p1 ≤ 1) : fn_CI (S := (Nat → Int) × (Nat → Nat → Int)) l D K yX11_bit (fn_ws yX11_bit cX11_bit 1 (some .int)) ({ frames := 4, cells := 0, slots := 0, locals := 100 } : Room) [.int (iI p1)] [] (fun r u => ∃ k : Int, r = iI k ∧ (0 ≤ k ∧ k ≤ 1) ∧ True) (fun u => []) 0 0 := by
  refine g_inI (cc := cX11_bit) (maxL := 1) (ret := (some .int)) (by decide) rfl (Nat.le_of_ble_eq_true rfl) ?_
  intro p e s m below meth c A ls ag Q B hA hP hD hS hl hQ
  obtain ⟨hx, hb, hr, hml, hts, hown, hlocks, hin, hK⟩ := B
  have hown : s.vm.findClass RX11 = some m.cls := hown
  have hts := fun w h => hts w (List.mem_cons_of_mem _ h)
  have hl : lv_has ls 1 [(0, .int (iI p1))] := hl
  refine lv_iload_n hx hb dX11_bit_0 rfl (lv_at hl 0 rfl) ?_
  refine g_if_eq (tgt := 8) hx hb (by omega) dX11_bit_1 (by decide) (fun c1 => ?_) (fun c1 => ?_)
  · refine lv_iconst (v := iI 0) hx hb dX11_bit_8 rfl ?_
    rw [hQ]; exact fn_iret hx hb hr hlocks rfl hP hD hS ((fun _ => 0), (fun _ _ => 0)) ⟨0, rfl, by omega, trivial⟩ [] (by decide) rfl dX11_bit_9
  · refine lv_iconst (v := iI 1) hx hb dX11_bit_4 rfl ?_
    refine lv_goto (tgt := 9) hx hb dX11_bit_5 (by decide) ?_
    rw [hQ]; exact fn_iret hx hb hr hlocks rfl hP hD hS ((fun _ => 0), (fun _ _ => 0)) ⟨1, rfl, by omega, trivial⟩ [] (by decide) rfl dX11_bit_9
theorem wd_92 : Cond.fieldLink "FootNotes$Text" 46 "FootNotes$Text" "notes" "I" ∈ fn_big := fn_tb (fn_l1 (List.mem_of_getElem? (i := 92) (by decide +kernel))) (by decide +kernel)
theorem wd_116 : Cond.fieldLink "FootNotes$Text" 21 "FootNotes$Text" "notePage" "[I" ∈ fn_big := fn_tb (fn_l1 (List.mem_of_getElem? (i := 116) (by decide +kernel))) (by decide +kernel)
theorem wd_122 : Cond.fieldLink "FootNotes$Text" 24 "FootNotes$Text" "noteBook" "[I" ∈ fn_big := fn_tb (fn_l1 (List.mem_of_getElem? (i := 122) (by decide +kernel))) (by decide +kernel)
theorem wd_125 : Cond.fieldLink "FootNotes$Text" 27 "FootNotes$Text" "noteLeaf" "[I" ∈ fn_big := fn_tb (fn_l1 (List.mem_of_getElem? (i := 125) (by decide +kernel))) (by decide +kernel)
theorem wd_106 : Cond.fieldLink "FootNotes$Text" 55 "FootNotes$Text" "denials" "I" ∈ fn_big := fn_tb (fn_l1 (List.mem_of_getElem? (i := 106) (by decide +kernel))) (by decide +kernel)
theorem wd_605 : Cond.code ⟨"FootNotes", "bit", "(Z)I"⟩ prog_1_method_8_code 1 (Option.some Jvm.ClassFile.FieldType.int) ∈ fn_big := fn_tb (fn_l3 (List.mem_of_getElem? (i := 125) (by decide +kernel))) (by decide +kernel)
theorem wd_1 : Cond.initialized "FootNotes" ∈ fn_big := fn_tb (fn_l1 (List.mem_of_getElem? (i := 1) (by decide +kernel))) (by decide +kernel)
theorem wd_604 : Cond.static ⟨"FootNotes", "bit", "(Z)I"⟩ ∈ fn_big := fn_tb (fn_l3 (List.mem_of_getElem? (i := 124) (by decide +kernel))) (by decide +kernel)
theorem dX7_addNote_0 : decode cX7_addNote 0 = .ok (.aload_n 0, 1) := by decide +kernel
theorem dX7_addNote_1 : decode cX7_addNote 1 = .ok (.getfield 46, 3) := by decide +kernel
theorem dX7_addNote_4 : decode cX7_addNote 4 = .ok (.bipush 24, 2) := by decide +kernel
theorem dX7_addNote_6 : decode cX7_addNote 6 = .ok (.if_icmp .lt 4, 3) := by decide +kernel
theorem dX7_addNote_10 : decode cX7_addNote 10 = .ok (.aload_n 0, 1) := by decide +kernel
theorem dX7_addNote_11 : decode cX7_addNote 11 = .ok (.getfield 21, 3) := by decide +kernel
theorem dX7_addNote_14 : decode cX7_addNote 14 = .ok (.aload_n 0, 1) := by decide +kernel
theorem dX7_addNote_15 : decode cX7_addNote 15 = .ok (.getfield 46, 3) := by decide +kernel
theorem dX7_addNote_18 : decode cX7_addNote 18 = .ok (.iload_n 1, 1) := by decide +kernel
theorem dX7_addNote_19 : decode cX7_addNote 19 = .ok (.iastore, 1) := by decide +kernel
theorem dX7_addNote_20 : decode cX7_addNote 20 = .ok (.aload_n 0, 1) := by decide +kernel
theorem dX7_addNote_21 : decode cX7_addNote 21 = .ok (.getfield 24, 3) := by decide +kernel
theorem dX7_addNote_24 : decode cX7_addNote 24 = .ok (.aload_n 0, 1) := by decide +kernel
theorem dX7_addNote_25 : decode cX7_addNote 25 = .ok (.getfield 46, 3) := by decide +kernel
theorem dX7_addNote_28 : decode cX7_addNote 28 = .ok (.iload_n 2, 1) := by decide +kernel
theorem dX7_addNote_29 : decode cX7_addNote 29 = .ok (.iastore, 1) := by decide +kernel
theorem dX7_addNote_30 : decode cX7_addNote 30 = .ok (.aload_n 0, 1) := by decide +kernel
theorem dX7_addNote_31 : decode cX7_addNote 31 = .ok (.getfield 27, 3) := by decide +kernel
theorem dX7_addNote_34 : decode cX7_addNote 34 = .ok (.aload_n 0, 1) := by decide +kernel
theorem dX7_addNote_35 : decode cX7_addNote 35 = .ok (.getfield 46, 3) := by decide +kernel
theorem dX7_addNote_38 : decode cX7_addNote 38 = .ok (.iload_n 3, 1) := by decide +kernel
theorem dX7_addNote_39 : decode cX7_addNote 39 = .ok (.iastore, 1) := by decide +kernel
theorem dX7_addNote_40 : decode cX7_addNote 40 = .ok (.aload_n 0, 1) := by decide +kernel
theorem dX7_addNote_41 : decode cX7_addNote 41 = .ok (.dup, 1) := by decide +kernel
theorem dX7_addNote_42 : decode cX7_addNote 42 = .ok (.getfield 55, 3) := by decide +kernel
theorem dX7_addNote_45 : decode cX7_addNote 45 = .ok (.iload 4, 2) := by decide +kernel
theorem dX7_addNote_47 : decode cX7_addNote 47 = .ok (.invokestatic 64, 3) := by decide +kernel
theorem dX7_addNote_50 : decode cX7_addNote 50 = .ok (.aload_n 0, 1) := by decide +kernel
theorem dX7_addNote_51 : decode cX7_addNote 51 = .ok (.getfield 46, 3) := by decide +kernel
theorem dX7_addNote_54 : decode cX7_addNote 54 = .ok (.ishl, 1) := by decide +kernel
theorem dX7_addNote_55 : decode cX7_addNote 55 = .ok (.ior, 1) := by decide +kernel
theorem dX7_addNote_56 : decode cX7_addNote 56 = .ok (.putfield 55, 3) := by decide +kernel
theorem dX7_addNote_59 : decode cX7_addNote 59 = .ok (.aload_n 0, 1) := by decide +kernel
theorem dX7_addNote_60 : decode cX7_addNote 60 = .ok (.dup, 1) := by decide +kernel
theorem dX7_addNote_61 : decode cX7_addNote 61 = .ok (.getfield 46, 3) := by decide +kernel
theorem dX7_addNote_64 : decode cX7_addNote 64 = .ok (.iconst 1, 1) := by decide +kernel
theorem dX7_addNote_65 : decode cX7_addNote 65 = .ok (.iadd, 1) := by decide +kernel
theorem dX7_addNote_66 : decode cX7_addNote 66 = .ok (.putfield 46, 3) := by decide +kernel
theorem dX7_addNote_69 : decode cX7_addNote 69 = .ok (.return_, 1) := by decide +kernel
theorem dX7_addNote_9 : decode cX7_addNote 9 = .ok (.return_, 1) := by decide +kernel
set_option maxHeartbeats 4000000 in
set_option maxRecDepth 100000 in
theorem k_X7_addNote (l : Launch) (D : va_G) (K : Nat → ClassId) (t : Nat) (t_q : Nat → Nat) (p1 p2 p3 p4 t_x0 t_x1 t_x2 t_x3 t_x4 t_x5 t_x6 t_x7 t_x8 : Int) (t_12_c : Nat → Int) (t_13_c : Nat → Int) (t_14_c : Nat → Int) (hp1 : 0 ≤ p1 ∧ p1 ≤ 11) (hp2 : 0 ≤ p2 ∧ p2 ≤ 4) (hp3 : 0 ≤ p3 ∧ p3 ≤ 29) (hp4 : 0 ≤ p4 ∧ p4 ≤ 1) (hi_t : bX7 t_x0 t_x1 t_x2 t_x3 t_x4 t_x5 t_x6 t_x7 t_x8) (hc_t_12 : ∀ j : Nat, 0 ≤ t_12_c j ∧ t_12_c j ≤ 11) (hc_t_13 : ∀ j : Nat, 0 ≤ t_13_c j ∧ t_13_c j ≤ 4) (hc_t_14 : ∀ j : Nat, 0 ≤ t_14_c j ∧ t_14_c j ≤ 29) : fn_CV (S := (Nat → Int) × (Nat → Nat → Int)) l D K yX7_addNote (fn_ws yX7_addNote cX7_addNote 5 none) ({ frames := 8, cells := 0, slots := 0, locals := 200 } : Room) [.ref t, .int (iI p1), .int (iI p2), .int (iI p3), .int (iI p4)] [(t, .inr (7, oX7 t_q t_x0 t_x1 t_x2 t_x3 t_x4 t_x5 t_x6 t_x7 t_x8)), ((t_q 12), .inl (K 0, 24, .inl (fun j => iI (t_12_c j)))), ((t_q 13), .inl (K 0, 24, .inl (fun j => iI (t_13_c j)))), ((t_q 14), .inl (K 0, 24, .inl (fun j => iI (t_14_c j))))] (fun u => (0 ≤ (u.1 0) ∧ (u.1 0) ≤ 24 ∧ (-2147483648) ≤ (u.1 1) ∧ (u.1 1) ≤ 2147483647) ∧ (∀ j : Nat, 0 ≤ (u.2 0) j ∧ (u.2 0) j ≤ 11) ∧ (∀ j : Nat, 0 ≤ (u.2 1) j ∧ (u.2 1) j ≤ 4) ∧ (∀ j : Nat, 0 ≤ (u.2 2) j ∧ (u.2 2) j ≤ 29) ∧ True) (fun u => [(t, .inr (7, oX7 t_q t_x0 t_x1 t_x2 t_x3 t_x4 (u.1 0) t_x6 t_x7 (u.1 1))), ((t_q 12), .inl (K 0, 24, .inl (fun j => iI ((u.2 0) j)))), ((t_q 13), .inl (K 0, 24, .inl (fun j => iI ((u.2 1) j)))), ((t_q 14), .inl (K 0, 24, .inl (fun j => iI ((u.2 2) j))))]) 0 0 := by
  refine g_inV (cc := cX7_addNote) (maxL := 5) (ret := none) (by decide) rfl (Nat.le_of_ble_eq_true rfl) ?_
  intro p e s m below meth c A ls ag Q B hA hP hD hS hl hQ
  obtain ⟨hx, hb, hr, hml, hts, hown, hlocks, hin, hK⟩ := B
  have hown : s.vm.findClass RX7 = some m.cls := hown
  have hts := fun w h => hts w (List.mem_cons_of_mem _ h)
  have hl : lv_has ls 5 [(0, .ref t), (1, .int (iI p1)), (2, .int (iI p2)), (3, .int (iI p3)), (4, .int (iI p4))] := hl
  refine lv_aload_n hx hb dX7_addNote_0 rfl (lv_at hl 0 rfl) ?_
  refine va_get (D := D) (own := RX7) (ci := 7) (v := .int (iI t_x5)) (C := RX7) (T := TX7) (N := 15) hx hb hts inb_X7 hown hK.1 hP 0 rfl rfl 5 (by decide) (hts _ wd_92) (fun _ h9 => h9) rfl dX7_addNote_1 ?_
  have y1_1 : 0 ≤ t_x5 ∧ t_x5 ≤ 24 := hi_t.2.2.2.2.2.1
  refine lv_bipush (v := iI 24) hx hb dX7_addNote_4 (by decide) ?_
  refine g_icmp_lt (tgt := 10) hx hb (by omega) (by omega) dX7_addNote_6 (by decide) (fun c6 => ?_) (fun c6 => ?_)
  · refine lv_aload_n hx hb dX7_addNote_10 rfl (lv_at hl 0 rfl) ?_
    refine va_get (D := D) (own := RX7) (ci := 7) (v := .ref (t_q 12)) (C := RX7) (T := TX7) (N := 15) hx hb hts inb_X7 hown hK.1 hP 0 rfl rfl 12 (by decide) (hts _ wd_116) (fun _ h9 => h9) rfl dX7_addNote_11 ?_
    refine lv_aload_n hx hb dX7_addNote_14 rfl (lv_at hl 0 rfl) ?_
    refine va_get (D := D) (own := RX7) (ci := 7) (v := .int (iI t_x5)) (C := RX7) (T := TX7) (N := 15) hx hb hts inb_X7 hown hK.1 hP 0 rfl rfl 5 (by decide) (hts _ wd_92) (fun _ h9 => h9) rfl dX7_addNote_15 ?_
    refine lv_iload_n hx hb dX7_addNote_18 rfl (lv_at hl 1 rfl) ?_
    refine g_iast hx hb hK.1 hP hD hS 1 0 rfl rfl (by omega) (by omega) (by decide) dX7_addNote_19 (fun H locs g19 eg19 hP hD hS => ?_)
    have hg19 : ∀ j : Nat, 0 ≤ g19 j ∧ g19 j ≤ 11 := by rw [eg19]; exact uI_all hc_t_12 (by omega)
    have hP : va_P D vwCl [(t, .inr (7, oX7 t_q t_x0 t_x1 t_x2 t_x3 t_x4 t_x5 t_x6 t_x7 t_x8)), ((t_q 12), .inl (K 0, 24, .inl (fun j => iI (g19 j)))), ((t_q 13), .inl (K 0, 24, .inl (fun j => iI (t_13_c j)))), ((t_q 14), .inl (K 0, 24, .inl (fun j => iI (t_14_c j))))] H := hP
    have hD : va_D A [(t, .inr (7, oX7 t_q t_x0 t_x1 t_x2 t_x3 t_x4 t_x5 t_x6 t_x7 t_x8)), ((t_q 12), .inl (K 0, 24, .inl (fun j => iI (g19 j)))), ((t_q 13), .inl (K 0, 24, .inl (fun j => iI (t_13_c j)))), ((t_q 14), .inl (K 0, 24, .inl (fun j => iI (t_14_c j))))] := hD
    refine lv_aload_n hx hb dX7_addNote_20 rfl (lv_at hl 0 rfl) ?_
    refine va_get (D := D) (own := RX7) (ci := 7) (v := .ref (t_q 13)) (C := RX7) (T := TX7) (N := 15) hx hb hts inb_X7 hown hK.1 hP 0 rfl rfl 13 (by decide) (hts _ wd_122) (fun _ h9 => h9) rfl dX7_addNote_21 ?_
    refine lv_aload_n hx hb dX7_addNote_24 rfl (lv_at hl 0 rfl) ?_
    refine va_get (D := D) (own := RX7) (ci := 7) (v := .int (iI t_x5)) (C := RX7) (T := TX7) (N := 15) hx hb hts inb_X7 hown hK.1 hP 0 rfl rfl 5 (by decide) (hts _ wd_92) (fun _ h9 => h9) rfl dX7_addNote_25 ?_
    refine lv_iload_n hx hb dX7_addNote_28 rfl (lv_at hl 2 rfl) ?_
    refine g_iast hx hb hK.1 hP hD hS 2 0 rfl rfl (by omega) (by omega) (by decide) dX7_addNote_29 (fun H locs g29 eg29 hP hD hS => ?_)
    have hg29 : ∀ j : Nat, 0 ≤ g29 j ∧ g29 j ≤ 4 := by rw [eg29]; exact uI_all hc_t_13 (by omega)
    have hP : va_P D vwCl [(t, .inr (7, oX7 t_q t_x0 t_x1 t_x2 t_x3 t_x4 t_x5 t_x6 t_x7 t_x8)), ((t_q 12), .inl (K 0, 24, .inl (fun j => iI (g19 j)))), ((t_q 13), .inl (K 0, 24, .inl (fun j => iI (g29 j)))), ((t_q 14), .inl (K 0, 24, .inl (fun j => iI (t_14_c j))))] H := hP
    have hD : va_D A [(t, .inr (7, oX7 t_q t_x0 t_x1 t_x2 t_x3 t_x4 t_x5 t_x6 t_x7 t_x8)), ((t_q 12), .inl (K 0, 24, .inl (fun j => iI (g19 j)))), ((t_q 13), .inl (K 0, 24, .inl (fun j => iI (g29 j)))), ((t_q 14), .inl (K 0, 24, .inl (fun j => iI (t_14_c j))))] := hD
    refine lv_aload_n hx hb dX7_addNote_30 rfl (lv_at hl 0 rfl) ?_
    refine va_get (D := D) (own := RX7) (ci := 7) (v := .ref (t_q 14)) (C := RX7) (T := TX7) (N := 15) hx hb hts inb_X7 hown hK.1 hP 0 rfl rfl 14 (by decide) (hts _ wd_125) (fun _ h9 => h9) rfl dX7_addNote_31 ?_
    refine lv_aload_n hx hb dX7_addNote_34 rfl (lv_at hl 0 rfl) ?_
    refine fn_at 35 rfl ?_
    refine va_get (D := D) (own := RX7) (ci := 7) (v := .int (iI t_x5)) (C := RX7) (T := TX7) (N := 15) hx hb hts inb_X7 hown hK.1 hP 0 rfl rfl 5 (by decide) (hts _ wd_92) (fun _ h9 => h9) rfl dX7_addNote_35 ?_
    refine lv_iload_n hx hb dX7_addNote_38 rfl (lv_at hl 3 rfl) ?_
    refine g_iast hx hb hK.1 hP hD hS 3 0 rfl rfl (by omega) (by omega) (by decide) dX7_addNote_39 (fun H locs g39 eg39 hP hD hS => ?_)
    have hg39 : ∀ j : Nat, 0 ≤ g39 j ∧ g39 j ≤ 29 := by rw [eg39]; exact uI_all hc_t_14 (by omega)
    have hP : va_P D vwCl [(t, .inr (7, oX7 t_q t_x0 t_x1 t_x2 t_x3 t_x4 t_x5 t_x6 t_x7 t_x8)), ((t_q 12), .inl (K 0, 24, .inl (fun j => iI (g19 j)))), ((t_q 13), .inl (K 0, 24, .inl (fun j => iI (g29 j)))), ((t_q 14), .inl (K 0, 24, .inl (fun j => iI (g39 j))))] H := hP
    have hD : va_D A [(t, .inr (7, oX7 t_q t_x0 t_x1 t_x2 t_x3 t_x4 t_x5 t_x6 t_x7 t_x8)), ((t_q 12), .inl (K 0, 24, .inl (fun j => iI (g19 j)))), ((t_q 13), .inl (K 0, 24, .inl (fun j => iI (g29 j)))), ((t_q 14), .inl (K 0, 24, .inl (fun j => iI (g39 j))))] := hD
    refine lv_aload_n hx hb dX7_addNote_40 rfl (lv_at hl 0 rfl) ?_
    refine lv_dup hx hb dX7_addNote_41 rfl ?_
    refine va_get (D := D) (own := RX7) (ci := 7) (v := .int (iI t_x8)) (C := RX7) (T := TX7) (N := 15) hx hb hts inb_X7 hown hK.1 hP 0 rfl rfl 8 (by decide) (hts _ wd_106) (fun _ h9 => h9) rfl dX7_addNote_42 ?_
    have y42_2 : (-2147483648) ≤ t_x8 ∧ t_x8 ≤ 2147483647 := hi_t.2.2.2.2.2.2.2.2
    refine lv_iload hx hb dX7_addNote_45 (lv_at hl 4 rfl) ?_
    refine fn_goi (wc := []) (wr := [(t, .inr (7, oX7 t_q t_x0 t_x1 t_x2 t_x3 t_x4 t_x5 t_x6 t_x7 t_x8)), ((t_q 12), .inl (K 0, 24, .inl (fun j => iI (g19 j)))), ((t_q 13), .inl (K 0, 24, .inl (fun j => iI (g29 j)))), ((t_q 14), .inl (K 0, 24, .inl (fun j => iI (g39 j))))]) hK hP hD hS hA [] [0, 1, 2, 3] rfl rfl (by decide) (fun hp => va_runSN (As := [.int (iI p4)]) (rest := [.int (iI t_x8), .ref t]) ⟨hx, hb, hml, hown, hts⟩ (k_X11_bit (l := l) (D := D) (K := K) (p1 := p4) (hp1 := (by omega)) _) ⟨va_cnB (own := RX7) 1 hts (fn_gin wd_605) rfl rfl rfl (hK.nw 102 rfl) (hts _ wd_1) (by decide +kernel) ⟨Nat.le_of_ble_eq_true rfl, Nat.le_of_ble_eq_true rfl⟩, hts _ wd_604, trivial⟩ ⟨fn_blind, hp⟩ rfl rfl hl.1 rfl (lv_room (Nat.le_of_ble_eq_true rfl)) dX7_addNote_47 ⟨Nat.le_of_ble_eq_true rfl, Nat.le_of_ble_eq_true rfl⟩) (fun r47 u47 H locs hwu47 hP hD hS => ?_)
    obtain ⟨u47a, u47b⟩ := u47
    obtain ⟨kr47, rfl, hkr47, -⟩ := hwu47
    have hP : va_P D vwCl [(t, .inr (7, oX7 t_q t_x0 t_x1 t_x2 t_x3 t_x4 t_x5 t_x6 t_x7 t_x8)), ((t_q 12), .inl (K 0, 24, .inl (fun j => iI (g19 j)))), ((t_q 13), .inl (K 0, 24, .inl (fun j => iI (g29 j)))), ((t_q 14), .inl (K 0, 24, .inl (fun j => iI (g39 j))))] H := hP
    have hD : va_D A [(t, .inr (7, oX7 t_q t_x0 t_x1 t_x2 t_x3 t_x4 t_x5 t_x6 t_x7 t_x8)), ((t_q 12), .inl (K 0, 24, .inl (fun j => iI (g19 j)))), ((t_q 13), .inl (K 0, 24, .inl (fun j => iI (g29 j)))), ((t_q 14), .inl (K 0, 24, .inl (fun j => iI (g39 j))))] := hD
    refine lv_aload_n hx hb dX7_addNote_50 rfl (lv_at hl 0 rfl) ?_
    refine va_get (D := D) (own := RX7) (ci := 7) (v := .int (iI t_x5)) (C := RX7) (T := TX7) (N := 15) hx hb hts inb_X7 hown hK.1 hP 0 rfl rfl 5 (by decide) (hts _ wd_92) (fun _ h9 => h9) rfl dX7_addNote_51 ?_
    refine lv_ishl hx hb dX7_addNote_54 ?_
    refine g_any (fun w54 hw54 ew54 => ?_)
    refine lv_ior hx hb dX7_addNote_55 ?_
    refine g_any (fun w55 hw55 ew55 => ?_)
    refine va_put (D := D) (own := RX7) (ci := 7) (v := .int (iI w55)) (ty := .int) (C := RX7) (T := TX7) (N := 15) hx hb hts inb_X7 tyX7 tyX7_ok nmX7 hown hK.1 hP hD hS 0 rfl rfl 8 (by decide) (hts _ wd_106) (fun _ h9 => h9) rfl (by decide +kernel) rfl rfl (Nat.le_of_ble_eq_true rfl) dX7_addNote_56 (fun H locs hP hD hS => ?_)
    have hP : va_P D vwCl [(t, .inr (7, oX7 t_q t_x0 t_x1 t_x2 t_x3 t_x4 t_x5 t_x6 t_x7 w55)), ((t_q 12), .inl (K 0, 24, .inl (fun j => iI (g19 j)))), ((t_q 13), .inl (K 0, 24, .inl (fun j => iI (g29 j)))), ((t_q 14), .inl (K 0, 24, .inl (fun j => iI (g39 j))))] H := hP
    have hD : va_D A [(t, .inr (7, oX7 t_q t_x0 t_x1 t_x2 t_x3 t_x4 t_x5 t_x6 t_x7 w55)), ((t_q 12), .inl (K 0, 24, .inl (fun j => iI (g19 j)))), ((t_q 13), .inl (K 0, 24, .inl (fun j => iI (g29 j)))), ((t_q 14), .inl (K 0, 24, .inl (fun j => iI (g39 j))))] := hD
    refine lv_aload_n hx hb dX7_addNote_59 rfl (lv_at hl 0 rfl) ?_
    refine lv_dup hx hb dX7_addNote_60 rfl ?_
    refine va_get (D := D) (own := RX7) (ci := 7) (v := .int (iI t_x5)) (C := RX7) (T := TX7) (N := 15) hx hb hts inb_X7 hown hK.1 hP 0 rfl rfl 5 (by decide) (hts _ wd_92) (fun _ h9 => h9) rfl dX7_addNote_61 ?_
    refine lv_iconst (v := iI 1) hx hb dX7_addNote_64 rfl ?_
    refine g_iadd hx hb dX7_addNote_65 ?_
    refine va_put (D := D) (own := RX7) (ci := 7) (v := .int (iI (t_x5 + 1))) (ty := .int) (C := RX7) (T := TX7) (N := 15) hx hb hts inb_X7 tyX7 tyX7_ok nmX7 hown hK.1 hP hD hS 0 rfl rfl 5 (by decide) (hts _ wd_92) (fun _ h9 => h9) rfl (by decide +kernel) rfl rfl (Nat.le_of_ble_eq_true rfl) dX7_addNote_66 (fun H locs hP hD hS => ?_)
    have hP : va_P D vwCl [(t, .inr (7, oX7 t_q t_x0 t_x1 t_x2 t_x3 t_x4 (t_x5 + 1) t_x6 t_x7 w55)), ((t_q 12), .inl (K 0, 24, .inl (fun j => iI (g19 j)))), ((t_q 13), .inl (K 0, 24, .inl (fun j => iI (g29 j)))), ((t_q 14), .inl (K 0, 24, .inl (fun j => iI (g39 j))))] H := hP
    have hD : va_D A [(t, .inr (7, oX7 t_q t_x0 t_x1 t_x2 t_x3 t_x4 (t_x5 + 1) t_x6 t_x7 w55)), ((t_q 12), .inl (K 0, 24, .inl (fun j => iI (g19 j)))), ((t_q 13), .inl (K 0, 24, .inl (fun j => iI (g29 j)))), ((t_q 14), .inl (K 0, 24, .inl (fun j => iI (g39 j))))] := hD
    rw [hQ]; exact fn_vret hx hb hr hlocks hP hD hS ((fun k => ([t_x5 + 1, w55] : List Int).getD k 0), (fun k => ([g19, g29, g39] : List (Nat → Int)).getD k (fun _ => 0))) ⟨(by show 0 ≤ (t_x5 + 1) ∧ (t_x5 + 1) ≤ 24 ∧ (-2147483648) ≤ w55 ∧ w55 ≤ 2147483647; omega), (hg19), (hg29), (hg39), trivial⟩ [0, 1, 2, 3] (by decide) rfl dX7_addNote_69
  · have y9_2 : (-2147483648) ≤ t_x8 ∧ t_x8 ≤ 2147483647 := hi_t.2.2.2.2.2.2.2.2
    rw [hQ]; exact fn_vret hx hb hr hlocks hP hD hS ((fun k => ([t_x5, t_x8] : List Int).getD k 0), (fun k => ([t_12_c, t_13_c, t_14_c] : List (Nat → Int)).getD k (fun _ => 0))) ⟨(by show 0 ≤ t_x5 ∧ t_x5 ≤ 24 ∧ (-2147483648) ≤ t_x8 ∧ t_x8 ≤ 2147483647; omega), (hc_t_12), (hc_t_13), (hc_t_14), trivial⟩ [0, 1, 2, 3] (by decide) rfl dX7_addNote_9
theorem wd_602 : Cond.code ⟨"FootNotes$Text", "addNote", "(IIIZ)V"⟩ prog_9_method_5_code 5 (Option.none : Option Jvm.ClassFile.FieldType) ∈ fn_big := fn_tb (fn_l3 (List.mem_of_getElem? (i := 122) (by decide +kernel))) (by decide +kernel)
theorem wd_601 : Cond.instanceMethod ⟨"FootNotes$Text", "addNote", "(IIIZ)V"⟩ ∈ fn_big := fn_tb (fn_l3 (List.mem_of_getElem? (i := 121) (by decide +kernel))) (by decide +kernel)
theorem wp_15 : Cond.selects "FootNotes$Text" ⟨"FootNotes$Text", "addNote", "(IIIZ)V"⟩ ⟨"FootNotes$Text", "addNote", "(IIIZ)V"⟩ ∈ fn_big := fn_sel (q := (⟨"FootNotes$Text", "addNote", "(IIIZ)V"⟩, 15)) 15 (by decide +kernel) (by decide +kernel)
theorem dX3_readNote_96 : decode cX3_readNote 96 = .ok (.aload_n 0, 1) := by decide +kernel
theorem dX3_readNote_97 : decode cX3_readNote 97 = .ok (.getfield 29, 3) := by decide +kernel
theorem dX3_readNote_100 : decode cX3_readNote 100 = .ok (.ifCond .ne 15, 3) := by decide +kernel
theorem dX3_readNote_115 : decode cX3_readNote 115 = .ok (.return_, 1) := by decide +kernel
theorem dX3_readNote_103 : decode cX3_readNote 103 = .ok (.aload_n 0, 1) := by decide +kernel
theorem dX3_readNote_104 : decode cX3_readNote 104 = .ok (.getfield 21, 3) := by decide +kernel
theorem dX3_readNote_107 : decode cX3_readNote 107 = .ok (.iload_n 1, 1) := by decide +kernel
theorem dX3_readNote_108 : decode cX3_readNote 108 = .ok (.iload_n 2, 1) := by decide +kernel
theorem dX3_readNote_109 : decode cX3_readNote 109 = .ok (.iload_n 3, 1) := by decide +kernel
theorem dX3_readNote_110 : decode cX3_readNote 110 = .ok (.iload 4, 2) := by decide +kernel
theorem dX3_readNote_112 : decode cX3_readNote 112 = .ok (.invokevirtual 123, 3) := by decide +kernel
theorem dX3_readNote_24 : decode cX3_readNote 24 = .ok (.aload_n 0, 1) := by decide +kernel
theorem dX3_readNote_25 : decode cX3_readNote 25 = .ok (.ldc 62, 2) := by decide +kernel
theorem dX3_readNote_27 : decode cX3_readNote 27 = .ok (.invokevirtual 69, 3) := by decide +kernel
theorem dX3_readNote_30 : decode cX3_readNote 30 = .ok (.aload_n 0, 1) := by decide +kernel
theorem dX3_readNote_31 : decode cX3_readNote 31 = .ok (.iconst 0, 1) := by decide +kernel
theorem dX3_readNote_32 : decode cX3_readNote 32 = .ok (.aload_n 0, 1) := by decide +kernel
theorem dX3_readNote_33 : decode cX3_readNote 33 = .ok (.getfield 21, 3) := by decide +kernel
theorem dX3_readNote_36 : decode cX3_readNote 36 = .ok (.getfield 76, 3) := by decide +kernel
theorem dX3_readNote_39 : decode cX3_readNote 39 = .ok (.iconst 1, 1) := by decide +kernel
theorem dX3_readNote_40 : decode cX3_readNote 40 = .ok (.isub, 1) := by decide +kernel
theorem dX3_readNote_41 : decode cX3_readNote 41 = .ok (.invokevirtual 98, 3) := by decide +kernel
theorem dX3_readNote_44 : decode cX3_readNote 44 = .ok (.istore_n 1, 1) := by decide +kernel
theorem dX3_readNote_45 : decode cX3_readNote 45 = .ok (.aload_n 0, 1) := by decide +kernel
theorem dX3_readNote_46 : decode cX3_readNote 46 = .ok (.ldc 119, 2) := by decide +kernel
theorem dX3_readNote_48 : decode cX3_readNote 48 = .ok (.invokevirtual 69, 3) := by decide +kernel
theorem dX3_readNote_51 : decode cX3_readNote 51 = .ok (.aload_n 0, 1) := by decide +kernel
theorem dX3_readNote_52 : decode cX3_readNote 52 = .ok (.iconst 0, 1) := by decide +kernel
theorem dX3_readNote_53 : decode cX3_readNote 53 = .ok (.aload_n 0, 1) := by decide +kernel
theorem dX3_readNote_54 : decode cX3_readNote 54 = .ok (.getfield 21, 3) := by decide +kernel
theorem dX3_readNote_57 : decode cX3_readNote 57 = .ok (.getfield 107, 3) := by decide +kernel
theorem dX3_readNote_60 : decode cX3_readNote 60 = .ok (.iconst 1, 1) := by decide +kernel
theorem dX3_readNote_61 : decode cX3_readNote 61 = .ok (.isub, 1) := by decide +kernel
theorem dX3_readNote_62 : decode cX3_readNote 62 = .ok (.invokevirtual 98, 3) := by decide +kernel
theorem dX3_readNote_65 : decode cX3_readNote 65 = .ok (.istore_n 2, 1) := by decide +kernel
theorem dX3_readNote_66 : decode cX3_readNote 66 = .ok (.aload_n 0, 1) := by decide +kernel
theorem dX3_readNote_67 : decode cX3_readNote 67 = .ok (.iconst 0, 1) := by decide +kernel
theorem dX3_readNote_68 : decode cX3_readNote 68 = .ok (.bipush 29, 2) := by decide +kernel
theorem dX3_readNote_70 : decode cX3_readNote 70 = .ok (.invokevirtual 98, 3) := by decide +kernel
theorem dX3_readNote_73 : decode cX3_readNote 73 = .ok (.istore_n 3, 1) := by decide +kernel
theorem dX3_readNote_74 : decode cX3_readNote 74 = .ok (.aload_n 0, 1) := by decide +kernel
theorem dX3_readNote_75 : decode cX3_readNote 75 = .ok (.getfield 12, 3) := by decide +kernel
theorem dX3_readNote_78 : decode cX3_readNote 78 = .ok (.ldc 121, 2) := by decide +kernel
theorem dX3_readNote_80 : decode cX3_readNote 80 = .ok (.invokevirtual 55, 3) := by decide +kernel
theorem dX3_readNote_83 : decode cX3_readNote 83 = .ok (.istore 4, 2) := by decide +kernel
theorem dX3_readNote_85 : decode cX3_readNote 85 = .ok (.iload 4, 2) := by decide +kernel
theorem dX3_readNote_87 : decode cX3_readNote 87 = .ok (.ifCond .eq 9, 3) := by decide +kernel
theorem dX3_readNote_90 : decode cX3_readNote 90 = .ok (.aload_n 0, 1) := by decide +kernel
theorem dX3_readNote_91 : decode cX3_readNote 91 = .ok (.ldc 121, 2) := by decide +kernel
theorem dX3_readNote_93 : decode cX3_readNote 93 = .ok (.invokevirtual 69, 3) := by decide +kernel
theorem dX3_readNote_0 : decode cX3_readNote 0 = .ok (.aload_n 0, 1) := by decide +kernel
theorem dX3_readNote_1 : decode cX3_readNote 1 = .ok (.getfield 21, 3) := by decide +kernel
theorem dX3_readNote_4 : decode cX3_readNote 4 = .ok (.getfield 116, 3) := by decide +kernel
theorem dX3_readNote_7 : decode cX3_readNote 7 = .ok (.bipush 24, 2) := by decide +kernel
theorem dX3_readNote_9 : decode cX3_readNote 9 = .ok (.if_icmp .lt 15, 3) := by decide +kernel
theorem dX3_readNote_12 : decode cX3_readNote 12 = .ok (.aload_n 0, 1) := by decide +kernel
theorem dX3_readNote_13 : decode cX3_readNote 13 = .ok (.iconst 3, 1) := by decide +kernel
theorem dX3_readNote_14 : decode cX3_readNote 14 = .ok (.aload_n 0, 1) := by decide +kernel
theorem dX3_readNote_15 : decode cX3_readNote 15 = .ok (.getfield 12, 3) := by decide +kernel
theorem dX3_readNote_18 : decode cX3_readNote 18 = .ok (.getfield 87, 3) := by decide +kernel
theorem dX3_readNote_21 : decode cX3_readNote 21 = .ok (.invokevirtual 90, 3) := by decide +kernel
set_option maxHeartbeats 4000000 in
set_option maxRecDepth 100000 in
theorem k_X3_readNote (l : Launch) (D : va_G) (K : Nat → ClassId) (adK adV : Nat → Nat) (t : Nat) (t_q t_1_q t_0_q : Nat → Nat) (t_x2 t_x3 t_1_x0 t_1_x1 t_1_x2 t_1_x3 t_1_x4 t_1_x5 t_1_x6 t_1_x7 t_1_x8 t_0_x0 t_0_x2 t_0_x3 t_0_x4 : Int) (t_0_1_c : Nat → Int) (t_1_12_c : Nat → Int) (t_1_13_c : Nat → Int) (t_1_14_c : Nat → Int) (hi_t : bX3 t_x2 t_x3) (hi_t_1 : bX7 t_1_x0 t_1_x1 t_1_x2 t_1_x3 t_1_x4 t_1_x5 t_1_x6 t_1_x7 t_1_x8) (hi_t_0 : bX6 t_0_x0 t_0_x2 t_0_x3 t_0_x4) (hc_t_0_1 : ∀ j : Nat, (-128) ≤ t_0_1_c j ∧ t_0_1_c j ≤ 127) (hc_t_1_12 : ∀ j : Nat, 0 ≤ t_1_12_c j ∧ t_1_12_c j ≤ 11) (hc_t_1_13 : ∀ j : Nat, 0 ≤ t_1_13_c j ∧ t_1_13_c j ≤ 4) (hc_t_1_14 : ∀ j : Nat, 0 ≤ t_1_14_c j ∧ t_1_14_c j ≤ 29) : fn_CVO adK adV (S := (Nat → Int) × (Nat → Nat → Int)) l D K yX3_readNote (fn_ws yX3_readNote cX3_readNote 5 none) ({ frames := 32, cells := 0, slots := 0, locals := 800 } : Room) [.ref t] [(t, .inr (3, oX3 t_q t_x2 t_x3)), ((t_q 1), .inr (7, oX7 t_1_q t_1_x0 t_1_x1 t_1_x2 t_1_x3 t_1_x4 t_1_x5 t_1_x6 t_1_x7 t_1_x8)), ((t_q 0), .inr (6, oX6 t_0_q t_0_x0 t_0_x2 t_0_x3 t_0_x4)), ((t_0_q 1), .inl (K 1, 1400, .inl (fun j => iI (t_0_1_c j)))), ((t_1_q 12), .inl (K 0, 24, .inl (fun j => iI (t_1_12_c j)))), ((t_1_q 13), .inl (K 0, 24, .inl (fun j => iI (t_1_13_c j)))), ((t_1_q 14), .inl (K 0, 24, .inl (fun j => iI (t_1_14_c j))))] (fun u => (0 ≤ (u.1 0) ∧ (u.1 0) ≤ 3 ∧ (-2147483648) ≤ (u.1 1) ∧ (u.1 1) ≤ 2147483647 ∧ 0 ≤ (u.1 2) ∧ (u.1 2) ≤ 4 ∧ 0 ≤ (u.1 3) ∧ (u.1 3) ≤ 1400 ∧ 0 ≤ (u.1 4) ∧ (u.1 4) ≤ 1400 ∧ 0 ≤ (u.1 5) ∧ (u.1 5) ≤ 24 ∧ (-2147483648) ≤ (u.1 6) ∧ (u.1 6) ≤ 2147483647) ∧ (∀ j : Nat, 0 ≤ (u.2 0) j ∧ (u.2 0) j ≤ 11) ∧ (∀ j : Nat, 0 ≤ (u.2 1) j ∧ (u.2 1) j ≤ 4) ∧ (∀ j : Nat, 0 ≤ (u.2 2) j ∧ (u.2 2) j ≤ 29) ∧ True) (fun u => [(t, .inr (3, oX3 t_q (u.1 0) (u.1 1))), ((t_q 1), .inr (7, oX7 t_1_q t_1_x0 t_1_x1 t_1_x2 t_1_x3 t_1_x4 (u.1 5) t_1_x6 t_1_x7 (u.1 6))), ((t_q 0), .inr (6, oX6 t_0_q t_0_x0 (u.1 2) (u.1 3) (u.1 4))), ((t_0_q 1), .inl (K 1, 1400, .inl (fun j => iI (t_0_1_c j)))), ((t_1_q 12), .inl (K 0, 24, .inl (fun j => iI ((u.2 0) j)))), ((t_1_q 13), .inl (K 0, 24, .inl (fun j => iI ((u.2 1) j)))), ((t_1_q 14), .inl (K 0, 24, .inl (fun j => iI ((u.2 2) j))))]) 0 0 := by
  refine g_inVO (cc := cX3_readNote) (maxL := 5) (ret := none) (by decide) rfl (Nat.le_of_ble_eq_true rfl) ?_
  intro p e s m below meth c A ls ag Q B hO hA hP hD hS hl hQ
  obtain ⟨hx, hb, hr, hml, hts, hown, hlocks, hin, hK⟩ := B
  have hown : s.vm.findClass RX3 = some m.cls := hown
  have hts := fun w h => hts w (List.mem_cons_of_mem _ h)
  have J96 : ∀ (x96_1 : Int) (x96_2 : Int) (x96_3 : Int) (x96_4 : Int) (f96_t_2 : Int) (f96_t_3 : Int) (f96_t_0_2 : Int) (f96_t_0_3 : Int) (f96_t_0_4 : Int) (H : Heap) (locs : List Loc) (ls : Array Slot), (0 ≤ x96_1 ∧ x96_1 ≤ 11 ∧ 0 ≤ x96_2 ∧ x96_2 ≤ 4 ∧ 0 ≤ x96_3 ∧ x96_3 ≤ 29 ∧ 0 ≤ x96_4 ∧ x96_4 ≤ 1 ∧ 0 ≤ f96_t_2 ∧ f96_t_2 ≤ 3 ∧ (-2147483648) ≤ f96_t_3 ∧ f96_t_3 ≤ 2147483647 ∧ 0 ≤ f96_t_0_2 ∧ f96_t_0_2 ≤ 4 ∧ 0 ≤ f96_t_0_3 ∧ f96_t_0_3 ≤ 1400 ∧ 0 ≤ f96_t_0_4 ∧ f96_t_0_4 ≤ 1400) → va_P D vwCl [(t, .inr (3, oX3 t_q f96_t_2 f96_t_3)), ((t_q 1), .inr (7, oX7 t_1_q t_1_x0 t_1_x1 t_1_x2 t_1_x3 t_1_x4 t_1_x5 t_1_x6 t_1_x7 t_1_x8)), ((t_q 0), .inr (6, oX6 t_0_q t_0_x0 f96_t_0_2 f96_t_0_3 f96_t_0_4)), ((t_0_q 1), .inl (K 1, 1400, .inl (fun j => iI (t_0_1_c j)))), ((t_1_q 12), .inl (K 0, 24, .inl (fun j => iI (t_1_12_c j)))), ((t_1_q 13), .inl (K 0, 24, .inl (fun j => iI (t_1_13_c j)))), ((t_1_q 14), .inl (K 0, 24, .inl (fun j => iI (t_1_14_c j))))] H → va_D A [(t, .inr (3, oX3 t_q f96_t_2 f96_t_3)), ((t_q 1), .inr (7, oX7 t_1_q t_1_x0 t_1_x1 t_1_x2 t_1_x3 t_1_x4 t_1_x5 t_1_x6 t_1_x7 t_1_x8)), ((t_q 0), .inr (6, oX6 t_0_q t_0_x0 f96_t_0_2 f96_t_0_3 f96_t_0_4)), ((t_0_q 1), .inl (K 1, 1400, .inl (fun j => iI (t_0_1_c j)))), ((t_1_q 12), .inl (K 0, 24, .inl (fun j => iI (t_1_12_c j)))), ((t_1_q 13), .inl (K 0, 24, .inl (fun j => iI (t_1_13_c j)))), ((t_1_q 14), .inl (K 0, 24, .inl (fun j => iI (t_1_14_c j))))] → va_S A s.heap H locs → lv_has ls 5 [(0, .ref t), (1, .int (iI x96_1)), (2, .int (iI x96_2)), (3, .int (iI x96_3)), (4, .int (iI x96_4))] → W p l e ({ frames := 32, cells := 0, slots := 0, locals := 800 } : Room) s m ag below meth c H locs 0 0 Q (F0 m 96 ls []) := by
    intro x96_1 x96_2 x96_3 x96_4 f96_t_2 f96_t_3 f96_t_0_2 f96_t_0_3 f96_t_0_4 H locs ls hf96 hP hD hS hl
    refine lv_aload_n hx hb dX3_readNote_96 rfl (lv_at hl 0 rfl) ?_
    refine va_get (D := D) (own := RX3) (ci := 3) (v := .int (iI f96_t_2)) (C := RX3) (T := TX3) (N := 4) hx hb hts inb_X3 hown hK.1 hP 0 rfl rfl 2 (by decide) (hts _ wd_163) (fun _ h9 => h9) rfl dX3_readNote_97 ?_
    refine g_if_ne (tgt := 115) hx hb (by omega) dX3_readNote_100 (by decide) (fun c100 => ?_) (fun c100 => ?_)
    · have y115_1 : 0 ≤ t_1_x5 ∧ t_1_x5 ≤ 24 := hi_t_1.2.2.2.2.2.1
      have y115_2 : (-2147483648) ≤ t_1_x8 ∧ t_1_x8 ≤ 2147483647 := hi_t_1.2.2.2.2.2.2.2.2
      rw [hQ]; exact fn_vret hx hb hr hlocks hP hD hS ((fun k => ([f96_t_2, f96_t_3, f96_t_0_2, f96_t_0_3, f96_t_0_4, t_1_x5, t_1_x8] : List Int).getD k 0), (fun k => ([t_1_12_c, t_1_13_c, t_1_14_c] : List (Nat → Int)).getD k (fun _ => 0))) ⟨(by show 0 ≤ f96_t_2 ∧ f96_t_2 ≤ 3 ∧ (-2147483648) ≤ f96_t_3 ∧ f96_t_3 ≤ 2147483647 ∧ 0 ≤ f96_t_0_2 ∧ f96_t_0_2 ≤ 4 ∧ 0 ≤ f96_t_0_3 ∧ f96_t_0_3 ≤ 1400 ∧ 0 ≤ f96_t_0_4 ∧ f96_t_0_4 ≤ 1400 ∧ 0 ≤ t_1_x5 ∧ t_1_x5 ≤ 24 ∧ (-2147483648) ≤ t_1_x8 ∧ t_1_x8 ≤ 2147483647; omega), (hc_t_1_12), (hc_t_1_13), (hc_t_1_14), trivial⟩ [0, 1, 2, 3, 4, 5, 6] (by decide) rfl dX3_readNote_115
    · refine lv_aload_n hx hb dX3_readNote_103 rfl (lv_at hl 0 rfl) ?_
      refine va_get (D := D) (own := RX3) (ci := 3) (v := .ref (t_q 1)) (C := RX3) (T := TX3) (N := 4) hx hb hts inb_X3 hown hK.1 hP 0 rfl rfl 1 (by decide) (hts _ wd_161) (fun _ h9 => h9) rfl dX3_readNote_104 ?_
      refine lv_iload_n hx hb dX3_readNote_107 rfl (lv_at hl 1 rfl) ?_
      refine lv_iload_n hx hb dX3_readNote_108 rfl (lv_at hl 2 rfl) ?_
      refine lv_iload_n hx hb dX3_readNote_109 rfl (lv_at hl 3 rfl) ?_
      refine lv_iload hx hb dX3_readNote_110 (lv_at hl 4 rfl) ?_
      refine fn_gov (wc := [((t_q 1), .inr (7, oX7 t_1_q t_1_x0 t_1_x1 t_1_x2 t_1_x3 t_1_x4 t_1_x5 t_1_x6 t_1_x7 t_1_x8)), ((t_1_q 12), .inl (K 0, 24, .inl (fun j => iI (t_1_12_c j)))), ((t_1_q 13), .inl (K 0, 24, .inl (fun j => iI (t_1_13_c j)))), ((t_1_q 14), .inl (K 0, 24, .inl (fun j => iI (t_1_14_c j))))]) (wr := [(t, .inr (3, oX3 t_q f96_t_2 f96_t_3)), ((t_q 0), .inr (6, oX6 t_0_q t_0_x0 f96_t_0_2 f96_t_0_3 f96_t_0_4)), ((t_0_q 1), .inl (K 1, 1400, .inl (fun j => iI (t_0_1_c j))))]) hK hP hD hS hA [1, 4, 5, 6] [0, 2, 3] rfl rfl (by decide) (fun hp => va_runVN (C := RX7) (As := [.int (iI x96_1), .int (iI x96_2), .int (iI x96_3), .int (iI x96_4)]) (rest := []) ⟨hx, hb, hml, hown, hts⟩ (k_X7_addNote (l := l) (D := D) (K := K) (t := (t_q 1)) (p1 := x96_1) (p2 := x96_2) (p3 := x96_3) (p4 := x96_4) (t_q := t_1_q) (t_x0 := t_1_x0) (t_x1 := t_1_x1) (t_x2 := t_1_x2) (t_x3 := t_1_x3) (t_x4 := t_1_x4) (t_x5 := t_1_x5) (t_x6 := t_1_x6) (t_x7 := t_1_x7) (t_x8 := t_1_x8) (t_12_c := t_1_12_c) (t_13_c := t_1_13_c) (t_14_c := t_1_14_c) (hp1 := (by omega)) (hp2 := (by omega)) (hp3 := (by omega)) (hp4 := (by omega)) (hi_t := hi_t_1) (hc_t_12 := hc_t_1_12) (hc_t_13 := hc_t_1_13) (hc_t_14 := hc_t_1_14) _) ⟨va_cnB (own := RX3) 4 hts (fn_gin wd_602) rfl rfl rfl (hK.nw 101 rfl) (hts _ wd_4) (by decide +kernel) ⟨Nat.le_of_ble_eq_true rfl, Nat.le_of_ble_eq_true rfl⟩, hts _ wd_601, hts _ wp_15⟩ ⟨fn_blind, va_recv hK.1 hP (ci := 7) (q0 := 1) rfl rfl, hp⟩ rfl rfl hl.1 rfl (lv_room (Nat.le_of_ble_eq_true rfl)) dX3_readNote_112 ⟨Nat.le_of_ble_eq_true rfl, Nat.le_of_ble_eq_true rfl⟩) (fun u112 H locs hwu112 hP hD hS => ?_)
      obtain ⟨u112a, u112b⟩ := u112
      obtain ⟨hqu1120, hu112_00, hu112_10, hu112_20, -⟩ := hwu112
      have hqu112 : 0 ≤ (u112a 0) ∧ (u112a 0) ≤ 24 ∧ (-2147483648) ≤ (u112a 1) ∧ (u112a 1) ≤ 2147483647 := hqu1120
      have hu112_0 : ∀ j : Nat, 0 ≤ (u112b 0) j ∧ (u112b 0) j ≤ 11 := hu112_00
      have hu112_1 : ∀ j : Nat, 0 ≤ (u112b 1) j ∧ (u112b 1) j ≤ 4 := hu112_10
      have hu112_2 : ∀ j : Nat, 0 ≤ (u112b 2) j ∧ (u112b 2) j ≤ 29 := hu112_20
      clear hqu1120 hu112_00 hu112_10 hu112_20
      have hP : va_P D vwCl [(t, .inr (3, oX3 t_q f96_t_2 f96_t_3)), ((t_q 0), .inr (6, oX6 t_0_q t_0_x0 f96_t_0_2 f96_t_0_3 f96_t_0_4)), ((t_0_q 1), .inl (K 1, 1400, .inl (fun j => iI (t_0_1_c j)))), ((t_q 1), .inr (7, oX7 t_1_q t_1_x0 t_1_x1 t_1_x2 t_1_x3 t_1_x4 (u112a 0) t_1_x6 t_1_x7 (u112a 1))), ((t_1_q 12), .inl (K 0, 24, .inl (fun j => iI ((u112b 0) j)))), ((t_1_q 13), .inl (K 0, 24, .inl (fun j => iI ((u112b 1) j)))), ((t_1_q 14), .inl (K 0, 24, .inl (fun j => iI ((u112b 2) j))))] H := hP
      have hD : va_D A [(t, .inr (3, oX3 t_q f96_t_2 f96_t_3)), ((t_q 0), .inr (6, oX6 t_0_q t_0_x0 f96_t_0_2 f96_t_0_3 f96_t_0_4)), ((t_0_q 1), .inl (K 1, 1400, .inl (fun j => iI (t_0_1_c j)))), ((t_q 1), .inr (7, oX7 t_1_q t_1_x0 t_1_x1 t_1_x2 t_1_x3 t_1_x4 (u112a 0) t_1_x6 t_1_x7 (u112a 1))), ((t_1_q 12), .inl (K 0, 24, .inl (fun j => iI ((u112b 0) j)))), ((t_1_q 13), .inl (K 0, 24, .inl (fun j => iI ((u112b 1) j)))), ((t_1_q 14), .inl (K 0, 24, .inl (fun j => iI ((u112b 2) j))))] := hD
      rw [hQ]; exact fn_vret hx hb hr hlocks hP hD hS ((fun k => ([f96_t_2, f96_t_3, f96_t_0_2, f96_t_0_3, f96_t_0_4, (u112a 0), (u112a 1)] : List Int).getD k 0), (fun k => ([(u112b 0), (u112b 1), (u112b 2)] : List (Nat → Int)).getD k (fun _ => 0))) ⟨(by show 0 ≤ f96_t_2 ∧ f96_t_2 ≤ 3 ∧ (-2147483648) ≤ f96_t_3 ∧ f96_t_3 ≤ 2147483647 ∧ 0 ≤ f96_t_0_2 ∧ f96_t_0_2 ≤ 4 ∧ 0 ≤ f96_t_0_3 ∧ f96_t_0_3 ≤ 1400 ∧ 0 ≤ f96_t_0_4 ∧ f96_t_0_4 ≤ 1400 ∧ 0 ≤ (u112a 0) ∧ (u112a 0) ≤ 24 ∧ (-2147483648) ≤ (u112a 1) ∧ (u112a 1) ≤ 2147483647; omega), (hu112_0), (hu112_1), (hu112_2), trivial⟩ [0, 3, 1, 2, 4, 5, 6] (by decide) rfl dX3_readNote_115
  have J24 : ∀ (f24_t_2 : Int) (f24_t_3 : Int) (H : Heap) (locs : List Loc) (ls : Array Slot), (0 ≤ f24_t_2 ∧ f24_t_2 ≤ 3 ∧ (-2147483648) ≤ f24_t_3 ∧ f24_t_3 ≤ 2147483647) → va_P D vwCl [(t, .inr (3, oX3 t_q f24_t_2 f24_t_3)), ((t_q 1), .inr (7, oX7 t_1_q t_1_x0 t_1_x1 t_1_x2 t_1_x3 t_1_x4 t_1_x5 t_1_x6 t_1_x7 t_1_x8)), ((t_q 0), .inr (6, oX6 t_0_q t_0_x0 t_0_x2 t_0_x3 t_0_x4)), ((t_0_q 1), .inl (K 1, 1400, .inl (fun j => iI (t_0_1_c j)))), ((t_1_q 12), .inl (K 0, 24, .inl (fun j => iI (t_1_12_c j)))), ((t_1_q 13), .inl (K 0, 24, .inl (fun j => iI (t_1_13_c j)))), ((t_1_q 14), .inl (K 0, 24, .inl (fun j => iI (t_1_14_c j))))] H → va_D A [(t, .inr (3, oX3 t_q f24_t_2 f24_t_3)), ((t_q 1), .inr (7, oX7 t_1_q t_1_x0 t_1_x1 t_1_x2 t_1_x3 t_1_x4 t_1_x5 t_1_x6 t_1_x7 t_1_x8)), ((t_q 0), .inr (6, oX6 t_0_q t_0_x0 t_0_x2 t_0_x3 t_0_x4)), ((t_0_q 1), .inl (K 1, 1400, .inl (fun j => iI (t_0_1_c j)))), ((t_1_q 12), .inl (K 0, 24, .inl (fun j => iI (t_1_12_c j)))), ((t_1_q 13), .inl (K 0, 24, .inl (fun j => iI (t_1_13_c j)))), ((t_1_q 14), .inl (K 0, 24, .inl (fun j => iI (t_1_14_c j))))] → va_S A s.heap H locs → lv_has ls 5 [(0, .ref t)] → W p l e ({ frames := 32, cells := 0, slots := 0, locals := 800 } : Room) s m ag below meth c H locs 0 0 Q (F0 m 24 ls []) := by
    intro f24_t_2 f24_t_3 H locs ls hf24 hP hD hS hl
    refine lv_aload_n hx hb dX3_readNote_24 rfl (lv_at hl 0 rfl) ?_
    refine va_ldcS (own := RX3) (tx := "note") (q := adK 6) hx hb hown (hO.2.2.2 6 (62, "note") rfl) dX3_readNote_25 ?_
    refine fn_govO (wc := [(t, .inr (3, oX3 t_q f24_t_2 f24_t_3)), ((t_q 0), .inr (6, oX6 t_0_q t_0_x0 t_0_x2 t_0_x3 t_0_x4)), ((t_0_q 1), .inl (K 1, 1400, .inl (fun j => iI (t_0_1_c j))))]) (wr := [((t_q 1), .inr (7, oX7 t_1_q t_1_x0 t_1_x1 t_1_x2 t_1_x3 t_1_x4 t_1_x5 t_1_x6 t_1_x7 t_1_x8)), ((t_1_q 12), .inl (K 0, 24, .inl (fun j => iI (t_1_12_c j)))), ((t_1_q 13), .inl (K 0, 24, .inl (fun j => iI (t_1_13_c j)))), ((t_1_q 14), .inl (K 0, 24, .inl (fun j => iI (t_1_14_c j))))]) hO hK hP hD hS hA [0, 2, 3] [1, 4, 5, 6] rfl rfl (by decide) (fun hp => va_runV (C := RX3) (As := [.ref (adK 6)]) (rest := []) ⟨hx, hb, hml, hown, hts⟩ (k_X3_takeWord (l := l) (D := D) (K := K) (adK := adK) (adV := adV) (t := t) (s1 := 6) (t_q := t_q) (t_x2 := f24_t_2) (t_x3 := f24_t_3) (t_0_q := t_0_q) (t_0_x0 := t_0_x0) (t_0_x2 := t_0_x2) (t_0_x3 := t_0_x3) (t_0_x4 := t_0_x4) (t_0_1_c := t_0_1_c) (hs1 := (by decide)) (hi_t := ⟨(by omega), (by omega)⟩) (hi_t_0 := hi_t_0) (hc_t_0_1 := hc_t_0_1) _) (cwV 1 hts (fn_ginV (fn_gin wd_509) wd_506 wd_508 wp_7 wd_2) rfl rfl rfl (by decide +kernel) ⟨Nat.le_of_ble_eq_true rfl, Nat.le_of_ble_eq_true rfl⟩) ⟨fn_blindO, va_recv hK.1 hP (ci := 3) (q0 := 0) rfl rfl, hp⟩ rfl rfl hl.1 rfl (lv_room (Nat.le_of_ble_eq_true rfl)) dX3_readNote_27 ⟨Nat.le_of_ble_eq_true rfl, Nat.le_of_ble_eq_true rfl⟩) (fun u27 H locs hwu27 hP hD hS => ?_)
    obtain ⟨u27a, u27b⟩ := u27
    obtain ⟨hqu270, -⟩ := hwu27
    have hqu27 : 0 ≤ (u27a 0) ∧ (u27a 0) ≤ 3 ∧ (-2147483648) ≤ (u27a 1) ∧ (u27a 1) ≤ 2147483647 ∧ 0 ≤ (u27a 2) ∧ (u27a 2) ≤ 4 ∧ 0 ≤ (u27a 3) ∧ (u27a 3) ≤ 1400 ∧ 0 ≤ (u27a 4) ∧ (u27a 4) ≤ 1400 := hqu270
    clear hqu270
    have hP : va_P D vwCl [((t_q 1), .inr (7, oX7 t_1_q t_1_x0 t_1_x1 t_1_x2 t_1_x3 t_1_x4 t_1_x5 t_1_x6 t_1_x7 t_1_x8)), ((t_1_q 12), .inl (K 0, 24, .inl (fun j => iI (t_1_12_c j)))), ((t_1_q 13), .inl (K 0, 24, .inl (fun j => iI (t_1_13_c j)))), ((t_1_q 14), .inl (K 0, 24, .inl (fun j => iI (t_1_14_c j)))), (t, .inr (3, oX3 t_q (u27a 0) (u27a 1))), ((t_q 0), .inr (6, oX6 t_0_q t_0_x0 (u27a 2) (u27a 3) (u27a 4))), ((t_0_q 1), .inl (K 1, 1400, .inl (fun j => iI (t_0_1_c j))))] H := hP
    have hD : va_D A [((t_q 1), .inr (7, oX7 t_1_q t_1_x0 t_1_x1 t_1_x2 t_1_x3 t_1_x4 t_1_x5 t_1_x6 t_1_x7 t_1_x8)), ((t_1_q 12), .inl (K 0, 24, .inl (fun j => iI (t_1_12_c j)))), ((t_1_q 13), .inl (K 0, 24, .inl (fun j => iI (t_1_13_c j)))), ((t_1_q 14), .inl (K 0, 24, .inl (fun j => iI (t_1_14_c j)))), (t, .inr (3, oX3 t_q (u27a 0) (u27a 1))), ((t_q 0), .inr (6, oX6 t_0_q t_0_x0 (u27a 2) (u27a 3) (u27a 4))), ((t_0_q 1), .inl (K 1, 1400, .inl (fun j => iI (t_0_1_c j))))] := hD
    refine lv_aload_n hx hb dX3_readNote_30 rfl (lv_at hl 0 rfl) ?_
    refine lv_iconst (v := iI 0) hx hb dX3_readNote_31 rfl ?_
    refine lv_aload_n hx hb dX3_readNote_32 rfl (lv_at hl 0 rfl) ?_
    refine va_get (D := D) (own := RX3) (ci := 3) (v := .ref (t_q 1)) (C := RX3) (T := TX3) (N := 4) hx hb hts inb_X3 hown hK.1 hP 4 rfl rfl 1 (by decide) (hts _ wd_161) (fun _ h9 => h9) rfl dX3_readNote_33 ?_
    refine va_getN (D := D) (own := RX3) (ci := 7) (v := .int (iI t_1_x4)) (C := RX7) (T := TX7) (N := 15) hx hb hts inb_X7 hown hK.1 hP 0 rfl rfl 4 (by decide) (hK.nf 21 rfl) (fun _ h9 => h9) rfl dX3_readNote_36 ?_
    have y36_1 : 0 ≤ t_1_x4 ∧ t_1_x4 ≤ 12 := hi_t_1.2.2.2.2.1
    refine lv_iconst (v := iI 1) hx hb dX3_readNote_39 rfl ?_
    refine g_isub hx hb dX3_readNote_40 ?_
    refine fn_goi (wc := [(t, .inr (3, oX3 t_q (u27a 0) (u27a 1))), ((t_q 0), .inr (6, oX6 t_0_q t_0_x0 (u27a 2) (u27a 3) (u27a 4))), ((t_0_q 1), .inl (K 1, 1400, .inl (fun j => iI (t_0_1_c j))))]) (wr := [((t_q 1), .inr (7, oX7 t_1_q t_1_x0 t_1_x1 t_1_x2 t_1_x3 t_1_x4 t_1_x5 t_1_x6 t_1_x7 t_1_x8)), ((t_1_q 12), .inl (K 0, 24, .inl (fun j => iI (t_1_12_c j)))), ((t_1_q 13), .inl (K 0, 24, .inl (fun j => iI (t_1_13_c j)))), ((t_1_q 14), .inl (K 0, 24, .inl (fun j => iI (t_1_14_c j))))]) hK hP hD hS hA [4, 5, 6] [0, 1, 2, 3] rfl rfl (by decide) (fun hp => va_runV (C := RX3) (As := [.int (iI 0), .int (iI (t_1_x4 - 1))]) (rest := []) ⟨hx, hb, hml, hown, hts⟩ (k_X3_takeNumber (l := l) (D := D) (K := K) (t := t) (p1 := 0) (p2 := (t_1_x4 - 1)) (t_q := t_q) (t_x2 := (u27a 0)) (t_x3 := (u27a 1)) (t_0_q := t_0_q) (t_0_x0 := t_0_x0) (t_0_x2 := (u27a 2)) (t_0_x3 := (u27a 3)) (t_0_x4 := (u27a 4)) (t_0_1_c := t_0_1_c) (hp1 := (by omega)) (hp2 := (by omega)) (hi_t := ⟨(by omega), (by omega)⟩) (hi_t_0 := ⟨hi_t_0.1, (by omega), (by omega), (by omega)⟩) (hc_t_0_1 := hc_t_0_1) _) (cwV 2 hts (fn_ginV (fn_gin wd_571) wd_568 wd_570 wp_10 wd_2) rfl rfl rfl (by decide +kernel) ⟨Nat.le_of_ble_eq_true rfl, Nat.le_of_ble_eq_true rfl⟩) ⟨fn_blind, va_recv hK.1 hP (ci := 3) (q0 := 4) rfl rfl, hp⟩ rfl rfl hl.1 rfl (lv_room (Nat.le_of_ble_eq_true rfl)) dX3_readNote_41 ⟨Nat.le_of_ble_eq_true rfl, Nat.le_of_ble_eq_true rfl⟩) (fun r41 u41 H locs hwu41 hP hD hS => ?_)
    obtain ⟨u41a, u41b⟩ := u41
    obtain ⟨kr41, rfl, hkr41, hqu410, -⟩ := hwu41
    have hqu41 : 0 ≤ (u41a 0) ∧ (u41a 0) ≤ 3 ∧ (-2147483648) ≤ (u41a 1) ∧ (u41a 1) ≤ 2147483647 ∧ 0 ≤ (u41a 2) ∧ (u41a 2) ≤ 4 ∧ 0 ≤ (u41a 3) ∧ (u41a 3) ≤ 1400 ∧ 0 ≤ (u41a 4) ∧ (u41a 4) ≤ 1400 ∧ (kr41 = (0 : Int) ∨ ((0 : Int) ≤ kr41 ∧ kr41 ≤ (t_1_x4 - 1))) := hqu410
    clear hqu410
    have hP : va_P D vwCl [((t_q 1), .inr (7, oX7 t_1_q t_1_x0 t_1_x1 t_1_x2 t_1_x3 t_1_x4 t_1_x5 t_1_x6 t_1_x7 t_1_x8)), ((t_1_q 12), .inl (K 0, 24, .inl (fun j => iI (t_1_12_c j)))), ((t_1_q 13), .inl (K 0, 24, .inl (fun j => iI (t_1_13_c j)))), ((t_1_q 14), .inl (K 0, 24, .inl (fun j => iI (t_1_14_c j)))), (t, .inr (3, oX3 t_q (u41a 0) (u41a 1))), ((t_q 0), .inr (6, oX6 t_0_q t_0_x0 (u41a 2) (u41a 3) (u41a 4))), ((t_0_q 1), .inl (K 1, 1400, .inl (fun j => iI (t_0_1_c j))))] H := hP
    have hD : va_D A [((t_q 1), .inr (7, oX7 t_1_q t_1_x0 t_1_x1 t_1_x2 t_1_x3 t_1_x4 t_1_x5 t_1_x6 t_1_x7 t_1_x8)), ((t_1_q 12), .inl (K 0, 24, .inl (fun j => iI (t_1_12_c j)))), ((t_1_q 13), .inl (K 0, 24, .inl (fun j => iI (t_1_13_c j)))), ((t_1_q 14), .inl (K 0, 24, .inl (fun j => iI (t_1_14_c j)))), (t, .inr (3, oX3 t_q (u41a 0) (u41a 1))), ((t_q 0), .inr (6, oX6 t_0_q t_0_x0 (u41a 2) (u41a 3) (u41a 4))), ((t_0_q 1), .inl (K 1, 1400, .inl (fun j => iI (t_0_1_c j))))] := hD
    refine lv_istore_n (lv' := [(1, .int (iI kr41)), (0, .ref t)]) hx hb dX3_readNote_44 rfl hl (by decide) rfl (fun ls hl => ?_)
    refine lv_aload_n hx hb dX3_readNote_45 rfl (lv_at hl 1 rfl) ?_
    refine va_ldcS (own := RX3) (tx := "to") (q := adK 7) hx hb hown (hO.2.2.2 7 (119, "to") rfl) dX3_readNote_46 ?_
    refine fn_govO (wc := [(t, .inr (3, oX3 t_q (u41a 0) (u41a 1))), ((t_q 0), .inr (6, oX6 t_0_q t_0_x0 (u41a 2) (u41a 3) (u41a 4))), ((t_0_q 1), .inl (K 1, 1400, .inl (fun j => iI (t_0_1_c j))))]) (wr := [((t_q 1), .inr (7, oX7 t_1_q t_1_x0 t_1_x1 t_1_x2 t_1_x3 t_1_x4 t_1_x5 t_1_x6 t_1_x7 t_1_x8)), ((t_1_q 12), .inl (K 0, 24, .inl (fun j => iI (t_1_12_c j)))), ((t_1_q 13), .inl (K 0, 24, .inl (fun j => iI (t_1_13_c j)))), ((t_1_q 14), .inl (K 0, 24, .inl (fun j => iI (t_1_14_c j))))]) hO hK hP hD hS hA [4, 5, 6] [0, 1, 2, 3] rfl rfl (by decide) (fun hp => va_runV (C := RX3) (As := [.ref (adK 7)]) (rest := []) ⟨hx, hb, hml, hown, hts⟩ (k_X3_takeWord (l := l) (D := D) (K := K) (adK := adK) (adV := adV) (t := t) (s1 := 7) (t_q := t_q) (t_x2 := (u41a 0)) (t_x3 := (u41a 1)) (t_0_q := t_0_q) (t_0_x0 := t_0_x0) (t_0_x2 := (u41a 2)) (t_0_x3 := (u41a 3)) (t_0_x4 := (u41a 4)) (t_0_1_c := t_0_1_c) (hs1 := (by decide)) (hi_t := ⟨(by omega), (by omega)⟩) (hi_t_0 := ⟨hi_t_0.1, (by omega), (by omega), (by omega)⟩) (hc_t_0_1 := hc_t_0_1) _) (cwV 1 hts (fn_ginV (fn_gin wd_509) wd_506 wd_508 wp_7 wd_2) rfl rfl rfl (by decide +kernel) ⟨Nat.le_of_ble_eq_true rfl, Nat.le_of_ble_eq_true rfl⟩) ⟨fn_blindO, va_recv hK.1 hP (ci := 3) (q0 := 4) rfl rfl, hp⟩ rfl rfl hl.1 rfl (lv_room (Nat.le_of_ble_eq_true rfl)) dX3_readNote_48 ⟨Nat.le_of_ble_eq_true rfl, Nat.le_of_ble_eq_true rfl⟩) (fun u48 H locs hwu48 hP hD hS => ?_)
    obtain ⟨u48a, u48b⟩ := u48
    obtain ⟨hqu480, -⟩ := hwu48
    have hqu48 : 0 ≤ (u48a 0) ∧ (u48a 0) ≤ 3 ∧ (-2147483648) ≤ (u48a 1) ∧ (u48a 1) ≤ 2147483647 ∧ 0 ≤ (u48a 2) ∧ (u48a 2) ≤ 4 ∧ 0 ≤ (u48a 3) ∧ (u48a 3) ≤ 1400 ∧ 0 ≤ (u48a 4) ∧ (u48a 4) ≤ 1400 := hqu480
    clear hqu480
    have hP : va_P D vwCl [((t_q 1), .inr (7, oX7 t_1_q t_1_x0 t_1_x1 t_1_x2 t_1_x3 t_1_x4 t_1_x5 t_1_x6 t_1_x7 t_1_x8)), ((t_1_q 12), .inl (K 0, 24, .inl (fun j => iI (t_1_12_c j)))), ((t_1_q 13), .inl (K 0, 24, .inl (fun j => iI (t_1_13_c j)))), ((t_1_q 14), .inl (K 0, 24, .inl (fun j => iI (t_1_14_c j)))), (t, .inr (3, oX3 t_q (u48a 0) (u48a 1))), ((t_q 0), .inr (6, oX6 t_0_q t_0_x0 (u48a 2) (u48a 3) (u48a 4))), ((t_0_q 1), .inl (K 1, 1400, .inl (fun j => iI (t_0_1_c j))))] H := hP
    have hD : va_D A [((t_q 1), .inr (7, oX7 t_1_q t_1_x0 t_1_x1 t_1_x2 t_1_x3 t_1_x4 t_1_x5 t_1_x6 t_1_x7 t_1_x8)), ((t_1_q 12), .inl (K 0, 24, .inl (fun j => iI (t_1_12_c j)))), ((t_1_q 13), .inl (K 0, 24, .inl (fun j => iI (t_1_13_c j)))), ((t_1_q 14), .inl (K 0, 24, .inl (fun j => iI (t_1_14_c j)))), (t, .inr (3, oX3 t_q (u48a 0) (u48a 1))), ((t_q 0), .inr (6, oX6 t_0_q t_0_x0 (u48a 2) (u48a 3) (u48a 4))), ((t_0_q 1), .inl (K 1, 1400, .inl (fun j => iI (t_0_1_c j))))] := hD
    refine lv_aload_n hx hb dX3_readNote_51 rfl (lv_at hl 1 rfl) ?_
    refine lv_iconst (v := iI 0) hx hb dX3_readNote_52 rfl ?_
    refine lv_aload_n hx hb dX3_readNote_53 rfl (lv_at hl 1 rfl) ?_
    refine va_get (D := D) (own := RX3) (ci := 3) (v := .ref (t_q 1)) (C := RX3) (T := TX3) (N := 4) hx hb hts inb_X3 hown hK.1 hP 4 rfl rfl 1 (by decide) (hts _ wd_161) (fun _ h9 => h9) rfl dX3_readNote_54 ?_
    refine fn_at 57 rfl ?_
    refine va_getN (D := D) (own := RX3) (ci := 7) (v := .int (iI t_1_x3)) (C := RX7) (T := TX7) (N := 15) hx hb hts inb_X7 hown hK.1 hP 0 rfl rfl 3 (by decide) (hK.nf 17 rfl) (fun _ h9 => h9) rfl dX3_readNote_57 ?_
    have y57_2 : 0 ≤ t_1_x3 ∧ t_1_x3 ≤ 5 := hi_t_1.2.2.2.1
    refine lv_iconst (v := iI 1) hx hb dX3_readNote_60 rfl ?_
    refine g_isub hx hb dX3_readNote_61 ?_
    refine fn_goi (wc := [(t, .inr (3, oX3 t_q (u48a 0) (u48a 1))), ((t_q 0), .inr (6, oX6 t_0_q t_0_x0 (u48a 2) (u48a 3) (u48a 4))), ((t_0_q 1), .inl (K 1, 1400, .inl (fun j => iI (t_0_1_c j))))]) (wr := [((t_q 1), .inr (7, oX7 t_1_q t_1_x0 t_1_x1 t_1_x2 t_1_x3 t_1_x4 t_1_x5 t_1_x6 t_1_x7 t_1_x8)), ((t_1_q 12), .inl (K 0, 24, .inl (fun j => iI (t_1_12_c j)))), ((t_1_q 13), .inl (K 0, 24, .inl (fun j => iI (t_1_13_c j)))), ((t_1_q 14), .inl (K 0, 24, .inl (fun j => iI (t_1_14_c j))))]) hK hP hD hS hA [4, 5, 6] [0, 1, 2, 3] rfl rfl (by decide) (fun hp => va_runV (C := RX3) (As := [.int (iI 0), .int (iI (t_1_x3 - 1))]) (rest := []) ⟨hx, hb, hml, hown, hts⟩ (k_X3_takeNumber (l := l) (D := D) (K := K) (t := t) (p1 := 0) (p2 := (t_1_x3 - 1)) (t_q := t_q) (t_x2 := (u48a 0)) (t_x3 := (u48a 1)) (t_0_q := t_0_q) (t_0_x0 := t_0_x0) (t_0_x2 := (u48a 2)) (t_0_x3 := (u48a 3)) (t_0_x4 := (u48a 4)) (t_0_1_c := t_0_1_c) (hp1 := (by omega)) (hp2 := (by omega)) (hi_t := ⟨(by omega), (by omega)⟩) (hi_t_0 := ⟨hi_t_0.1, (by omega), (by omega), (by omega)⟩) (hc_t_0_1 := hc_t_0_1) _) (cwV 2 hts (fn_ginV (fn_gin wd_571) wd_568 wd_570 wp_10 wd_2) rfl rfl rfl (by decide +kernel) ⟨Nat.le_of_ble_eq_true rfl, Nat.le_of_ble_eq_true rfl⟩) ⟨fn_blind, va_recv hK.1 hP (ci := 3) (q0 := 4) rfl rfl, hp⟩ rfl rfl hl.1 rfl (lv_room (Nat.le_of_ble_eq_true rfl)) dX3_readNote_62 ⟨Nat.le_of_ble_eq_true rfl, Nat.le_of_ble_eq_true rfl⟩) (fun r62 u62 H locs hwu62 hP hD hS => ?_)
    obtain ⟨u62a, u62b⟩ := u62
    obtain ⟨kr62, rfl, hkr62, hqu620, -⟩ := hwu62
    have hqu62 : 0 ≤ (u62a 0) ∧ (u62a 0) ≤ 3 ∧ (-2147483648) ≤ (u62a 1) ∧ (u62a 1) ≤ 2147483647 ∧ 0 ≤ (u62a 2) ∧ (u62a 2) ≤ 4 ∧ 0 ≤ (u62a 3) ∧ (u62a 3) ≤ 1400 ∧ 0 ≤ (u62a 4) ∧ (u62a 4) ≤ 1400 ∧ (kr62 = (0 : Int) ∨ ((0 : Int) ≤ kr62 ∧ kr62 ≤ (t_1_x3 - 1))) := hqu620
    clear hqu620
    have hP : va_P D vwCl [((t_q 1), .inr (7, oX7 t_1_q t_1_x0 t_1_x1 t_1_x2 t_1_x3 t_1_x4 t_1_x5 t_1_x6 t_1_x7 t_1_x8)), ((t_1_q 12), .inl (K 0, 24, .inl (fun j => iI (t_1_12_c j)))), ((t_1_q 13), .inl (K 0, 24, .inl (fun j => iI (t_1_13_c j)))), ((t_1_q 14), .inl (K 0, 24, .inl (fun j => iI (t_1_14_c j)))), (t, .inr (3, oX3 t_q (u62a 0) (u62a 1))), ((t_q 0), .inr (6, oX6 t_0_q t_0_x0 (u62a 2) (u62a 3) (u62a 4))), ((t_0_q 1), .inl (K 1, 1400, .inl (fun j => iI (t_0_1_c j))))] H := hP
    have hD : va_D A [((t_q 1), .inr (7, oX7 t_1_q t_1_x0 t_1_x1 t_1_x2 t_1_x3 t_1_x4 t_1_x5 t_1_x6 t_1_x7 t_1_x8)), ((t_1_q 12), .inl (K 0, 24, .inl (fun j => iI (t_1_12_c j)))), ((t_1_q 13), .inl (K 0, 24, .inl (fun j => iI (t_1_13_c j)))), ((t_1_q 14), .inl (K 0, 24, .inl (fun j => iI (t_1_14_c j)))), (t, .inr (3, oX3 t_q (u62a 0) (u62a 1))), ((t_q 0), .inr (6, oX6 t_0_q t_0_x0 (u62a 2) (u62a 3) (u62a 4))), ((t_0_q 1), .inl (K 1, 1400, .inl (fun j => iI (t_0_1_c j))))] := hD
    refine lv_istore_n (lv' := [(2, .int (iI kr62)), (1, .int (iI kr41)), (0, .ref t)]) hx hb dX3_readNote_65 rfl hl (by decide) rfl (fun ls hl => ?_)
    refine lv_aload_n hx hb dX3_readNote_66 rfl (lv_at hl 2 rfl) ?_
    refine lv_iconst (v := iI 0) hx hb dX3_readNote_67 rfl ?_
    refine lv_bipush (v := iI 29) hx hb dX3_readNote_68 (by decide) ?_
    refine fn_goi (wc := [(t, .inr (3, oX3 t_q (u62a 0) (u62a 1))), ((t_q 0), .inr (6, oX6 t_0_q t_0_x0 (u62a 2) (u62a 3) (u62a 4))), ((t_0_q 1), .inl (K 1, 1400, .inl (fun j => iI (t_0_1_c j))))]) (wr := [((t_q 1), .inr (7, oX7 t_1_q t_1_x0 t_1_x1 t_1_x2 t_1_x3 t_1_x4 t_1_x5 t_1_x6 t_1_x7 t_1_x8)), ((t_1_q 12), .inl (K 0, 24, .inl (fun j => iI (t_1_12_c j)))), ((t_1_q 13), .inl (K 0, 24, .inl (fun j => iI (t_1_13_c j)))), ((t_1_q 14), .inl (K 0, 24, .inl (fun j => iI (t_1_14_c j))))]) hK hP hD hS hA [4, 5, 6] [0, 1, 2, 3] rfl rfl (by decide) (fun hp => va_runV (C := RX3) (As := [.int (iI 0), .int (iI 29)]) (rest := []) ⟨hx, hb, hml, hown, hts⟩ (k_X3_takeNumber (l := l) (D := D) (K := K) (t := t) (p1 := 0) (p2 := 29) (t_q := t_q) (t_x2 := (u62a 0)) (t_x3 := (u62a 1)) (t_0_q := t_0_q) (t_0_x0 := t_0_x0) (t_0_x2 := (u62a 2)) (t_0_x3 := (u62a 3)) (t_0_x4 := (u62a 4)) (t_0_1_c := t_0_1_c) (hp1 := (by omega)) (hp2 := (by omega)) (hi_t := ⟨(by omega), (by omega)⟩) (hi_t_0 := ⟨hi_t_0.1, (by omega), (by omega), (by omega)⟩) (hc_t_0_1 := hc_t_0_1) _) (cwV 2 hts (fn_ginV (fn_gin wd_571) wd_568 wd_570 wp_10 wd_2) rfl rfl rfl (by decide +kernel) ⟨Nat.le_of_ble_eq_true rfl, Nat.le_of_ble_eq_true rfl⟩) ⟨fn_blind, va_recv hK.1 hP (ci := 3) (q0 := 4) rfl rfl, hp⟩ rfl rfl hl.1 rfl (lv_room (Nat.le_of_ble_eq_true rfl)) dX3_readNote_70 ⟨Nat.le_of_ble_eq_true rfl, Nat.le_of_ble_eq_true rfl⟩) (fun r70 u70 H locs hwu70 hP hD hS => ?_)
    obtain ⟨u70a, u70b⟩ := u70
    obtain ⟨kr70, rfl, hkr70, hqu700, -⟩ := hwu70
    have hqu70 : 0 ≤ (u70a 0) ∧ (u70a 0) ≤ 3 ∧ (-2147483648) ≤ (u70a 1) ∧ (u70a 1) ≤ 2147483647 ∧ 0 ≤ (u70a 2) ∧ (u70a 2) ≤ 4 ∧ 0 ≤ (u70a 3) ∧ (u70a 3) ≤ 1400 ∧ 0 ≤ (u70a 4) ∧ (u70a 4) ≤ 1400 ∧ (kr70 = (0 : Int) ∨ ((0 : Int) ≤ kr70 ∧ kr70 ≤ (29 : Int))) := hqu700
    clear hqu700
    have hP : va_P D vwCl [((t_q 1), .inr (7, oX7 t_1_q t_1_x0 t_1_x1 t_1_x2 t_1_x3 t_1_x4 t_1_x5 t_1_x6 t_1_x7 t_1_x8)), ((t_1_q 12), .inl (K 0, 24, .inl (fun j => iI (t_1_12_c j)))), ((t_1_q 13), .inl (K 0, 24, .inl (fun j => iI (t_1_13_c j)))), ((t_1_q 14), .inl (K 0, 24, .inl (fun j => iI (t_1_14_c j)))), (t, .inr (3, oX3 t_q (u70a 0) (u70a 1))), ((t_q 0), .inr (6, oX6 t_0_q t_0_x0 (u70a 2) (u70a 3) (u70a 4))), ((t_0_q 1), .inl (K 1, 1400, .inl (fun j => iI (t_0_1_c j))))] H := hP
    have hD : va_D A [((t_q 1), .inr (7, oX7 t_1_q t_1_x0 t_1_x1 t_1_x2 t_1_x3 t_1_x4 t_1_x5 t_1_x6 t_1_x7 t_1_x8)), ((t_1_q 12), .inl (K 0, 24, .inl (fun j => iI (t_1_12_c j)))), ((t_1_q 13), .inl (K 0, 24, .inl (fun j => iI (t_1_13_c j)))), ((t_1_q 14), .inl (K 0, 24, .inl (fun j => iI (t_1_14_c j)))), (t, .inr (3, oX3 t_q (u70a 0) (u70a 1))), ((t_q 0), .inr (6, oX6 t_0_q t_0_x0 (u70a 2) (u70a 3) (u70a 4))), ((t_0_q 1), .inl (K 1, 1400, .inl (fun j => iI (t_0_1_c j))))] := hD
    refine lv_istore_n (lv' := [(3, .int (iI kr70)), (2, .int (iI kr62)), (1, .int (iI kr41)), (0, .ref t)]) hx hb dX3_readNote_73 rfl hl (by decide) rfl (fun ls hl => ?_)
    refine lv_aload_n hx hb dX3_readNote_74 rfl (lv_at hl 3 rfl) ?_
    refine va_get (D := D) (own := RX3) (ci := 3) (v := .ref (t_q 0)) (C := RX3) (T := TX3) (N := 4) hx hb hts inb_X3 hown hK.1 hP 4 rfl rfl 0 (by decide) (hts _ wd_159) (fun _ h9 => h9) rfl dX3_readNote_75 ?_
    refine va_ldcS (own := RX3) (tx := "denies") (q := adK 8) hx hb hown (hO.2.2.2 8 (121, "denies") rfl) dX3_readNote_78 ?_
    refine fn_goiO (wc := [((t_q 0), .inr (6, oX6 t_0_q t_0_x0 (u70a 2) (u70a 3) (u70a 4))), ((t_0_q 1), .inl (K 1, 1400, .inl (fun j => iI (t_0_1_c j))))]) (wr := [((t_q 1), .inr (7, oX7 t_1_q t_1_x0 t_1_x1 t_1_x2 t_1_x3 t_1_x4 t_1_x5 t_1_x6 t_1_x7 t_1_x8)), ((t_1_q 12), .inl (K 0, 24, .inl (fun j => iI (t_1_12_c j)))), ((t_1_q 13), .inl (K 0, 24, .inl (fun j => iI (t_1_13_c j)))), ((t_1_q 14), .inl (K 0, 24, .inl (fun j => iI (t_1_14_c j)))), (t, .inr (3, oX3 t_q (u70a 0) (u70a 1)))]) hO hK hP hD hS hA [5, 6] [0, 1, 2, 3, 4] rfl rfl (by decide) (fun hp => va_runVN (C := RX6) (As := [.ref (adK 8)]) (rest := []) ⟨hx, hb, hml, hown, hts⟩ (k_X6_isWord (l := l) (D := D) (K := K) (adK := adK) (adV := adV) (t := (t_q 0)) (s1 := 8) (t_q := t_0_q) (t_x0 := t_0_x0) (t_x2 := (u70a 2)) (t_x3 := (u70a 3)) (t_x4 := (u70a 4)) (t_1_c := t_0_1_c) (hs1 := (by decide)) (hi_t := ⟨hi_t_0.1, (by omega), (by omega), (by omega)⟩) (hc_t_1 := hc_t_0_1) _) ⟨va_cnB (own := RX3) 1 hts (fn_gin wd_513) rfl rfl rfl (hK.nw 97 rfl) (hts _ wd_3) (by decide +kernel) ⟨Nat.le_of_ble_eq_true rfl, Nat.le_of_ble_eq_true rfl⟩, hts _ wd_512, hts _ wp_8⟩ ⟨fn_blindO, va_recv hK.1 hP (ci := 6) (q0 := 5) rfl rfl, hp⟩ rfl rfl hl.1 rfl (lv_room (Nat.le_of_ble_eq_true rfl)) dX3_readNote_80 ⟨Nat.le_of_ble_eq_true rfl, Nat.le_of_ble_eq_true rfl⟩) (fun r80 u80 H locs hwu80 hP hD hS => ?_)
    obtain ⟨u80a, u80b⟩ := u80
    obtain ⟨kr80, rfl, hkr80, -⟩ := hwu80
    have hP : va_P D vwCl [((t_q 1), .inr (7, oX7 t_1_q t_1_x0 t_1_x1 t_1_x2 t_1_x3 t_1_x4 t_1_x5 t_1_x6 t_1_x7 t_1_x8)), ((t_1_q 12), .inl (K 0, 24, .inl (fun j => iI (t_1_12_c j)))), ((t_1_q 13), .inl (K 0, 24, .inl (fun j => iI (t_1_13_c j)))), ((t_1_q 14), .inl (K 0, 24, .inl (fun j => iI (t_1_14_c j)))), (t, .inr (3, oX3 t_q (u70a 0) (u70a 1))), ((t_q 0), .inr (6, oX6 t_0_q t_0_x0 (u70a 2) (u70a 3) (u70a 4))), ((t_0_q 1), .inl (K 1, 1400, .inl (fun j => iI (t_0_1_c j))))] H := hP
    have hD : va_D A [((t_q 1), .inr (7, oX7 t_1_q t_1_x0 t_1_x1 t_1_x2 t_1_x3 t_1_x4 t_1_x5 t_1_x6 t_1_x7 t_1_x8)), ((t_1_q 12), .inl (K 0, 24, .inl (fun j => iI (t_1_12_c j)))), ((t_1_q 13), .inl (K 0, 24, .inl (fun j => iI (t_1_13_c j)))), ((t_1_q 14), .inl (K 0, 24, .inl (fun j => iI (t_1_14_c j)))), (t, .inr (3, oX3 t_q (u70a 0) (u70a 1))), ((t_q 0), .inr (6, oX6 t_0_q t_0_x0 (u70a 2) (u70a 3) (u70a 4))), ((t_0_q 1), .inl (K 1, 1400, .inl (fun j => iI (t_0_1_c j))))] := hD
    refine lv_istore (lv' := [(4, .int (iI kr80)), (3, .int (iI kr70)), (2, .int (iI kr62)), (1, .int (iI kr41)), (0, .ref t)]) hx hb dX3_readNote_83 hl (by decide) rfl (fun ls hl => ?_)
    refine lv_iload hx hb dX3_readNote_85 (lv_at hl 0 rfl) ?_
    refine g_if_eq (tgt := 96) hx hb (by omega) dX3_readNote_87 (by decide) (fun c87 => ?_) (fun c87 => ?_)
    · exact J96 kr41 kr62 kr70 kr80 (u70a 0) (u70a 1) (u70a 2) (u70a 3) (u70a 4) _ _ ls (by omega) (hP.sub [4, 0, 5, 6, 1, 2, 3] rfl) (hD.sub [4, 0, 5, 6, 1, 2, 3] (by decide) rfl) hS (lv_sub hl [4, 3, 2, 1, 0] rfl)
    · refine lv_aload_n hx hb dX3_readNote_90 rfl (lv_at hl 4 rfl) ?_
      refine va_ldcS (own := RX3) (tx := "denies") (q := adK 8) hx hb hown (hO.2.2.2 8 (121, "denies") rfl) dX3_readNote_91 ?_
      refine fn_govO (wc := [(t, .inr (3, oX3 t_q (u70a 0) (u70a 1))), ((t_q 0), .inr (6, oX6 t_0_q t_0_x0 (u70a 2) (u70a 3) (u70a 4))), ((t_0_q 1), .inl (K 1, 1400, .inl (fun j => iI (t_0_1_c j))))]) (wr := [((t_q 1), .inr (7, oX7 t_1_q t_1_x0 t_1_x1 t_1_x2 t_1_x3 t_1_x4 t_1_x5 t_1_x6 t_1_x7 t_1_x8)), ((t_1_q 12), .inl (K 0, 24, .inl (fun j => iI (t_1_12_c j)))), ((t_1_q 13), .inl (K 0, 24, .inl (fun j => iI (t_1_13_c j)))), ((t_1_q 14), .inl (K 0, 24, .inl (fun j => iI (t_1_14_c j))))]) hO hK hP hD hS hA [4, 5, 6] [0, 1, 2, 3] rfl rfl (by decide) (fun hp => va_runV (C := RX3) (As := [.ref (adK 8)]) (rest := []) ⟨hx, hb, hml, hown, hts⟩ (k_X3_takeWord (l := l) (D := D) (K := K) (adK := adK) (adV := adV) (t := t) (s1 := 8) (t_q := t_q) (t_x2 := (u70a 0)) (t_x3 := (u70a 1)) (t_0_q := t_0_q) (t_0_x0 := t_0_x0) (t_0_x2 := (u70a 2)) (t_0_x3 := (u70a 3)) (t_0_x4 := (u70a 4)) (t_0_1_c := t_0_1_c) (hs1 := (by decide)) (hi_t := ⟨(by omega), (by omega)⟩) (hi_t_0 := ⟨hi_t_0.1, (by omega), (by omega), (by omega)⟩) (hc_t_0_1 := hc_t_0_1) _) (cwV 1 hts (fn_ginV (fn_gin wd_509) wd_506 wd_508 wp_7 wd_2) rfl rfl rfl (by decide +kernel) ⟨Nat.le_of_ble_eq_true rfl, Nat.le_of_ble_eq_true rfl⟩) ⟨fn_blindO, va_recv hK.1 hP (ci := 3) (q0 := 4) rfl rfl, hp⟩ rfl rfl hl.1 rfl (lv_room (Nat.le_of_ble_eq_true rfl)) dX3_readNote_93 ⟨Nat.le_of_ble_eq_true rfl, Nat.le_of_ble_eq_true rfl⟩) (fun u93 H locs hwu93 hP hD hS => ?_)
      obtain ⟨u93a, u93b⟩ := u93
      obtain ⟨hqu930, -⟩ := hwu93
      have hqu93 : 0 ≤ (u93a 0) ∧ (u93a 0) ≤ 3 ∧ (-2147483648) ≤ (u93a 1) ∧ (u93a 1) ≤ 2147483647 ∧ 0 ≤ (u93a 2) ∧ (u93a 2) ≤ 4 ∧ 0 ≤ (u93a 3) ∧ (u93a 3) ≤ 1400 ∧ 0 ≤ (u93a 4) ∧ (u93a 4) ≤ 1400 := hqu930
      clear hqu930
      have hP : va_P D vwCl [((t_q 1), .inr (7, oX7 t_1_q t_1_x0 t_1_x1 t_1_x2 t_1_x3 t_1_x4 t_1_x5 t_1_x6 t_1_x7 t_1_x8)), ((t_1_q 12), .inl (K 0, 24, .inl (fun j => iI (t_1_12_c j)))), ((t_1_q 13), .inl (K 0, 24, .inl (fun j => iI (t_1_13_c j)))), ((t_1_q 14), .inl (K 0, 24, .inl (fun j => iI (t_1_14_c j)))), (t, .inr (3, oX3 t_q (u93a 0) (u93a 1))), ((t_q 0), .inr (6, oX6 t_0_q t_0_x0 (u93a 2) (u93a 3) (u93a 4))), ((t_0_q 1), .inl (K 1, 1400, .inl (fun j => iI (t_0_1_c j))))] H := hP
      have hD : va_D A [((t_q 1), .inr (7, oX7 t_1_q t_1_x0 t_1_x1 t_1_x2 t_1_x3 t_1_x4 t_1_x5 t_1_x6 t_1_x7 t_1_x8)), ((t_1_q 12), .inl (K 0, 24, .inl (fun j => iI (t_1_12_c j)))), ((t_1_q 13), .inl (K 0, 24, .inl (fun j => iI (t_1_13_c j)))), ((t_1_q 14), .inl (K 0, 24, .inl (fun j => iI (t_1_14_c j)))), (t, .inr (3, oX3 t_q (u93a 0) (u93a 1))), ((t_q 0), .inr (6, oX6 t_0_q t_0_x0 (u93a 2) (u93a 3) (u93a 4))), ((t_0_q 1), .inl (K 1, 1400, .inl (fun j => iI (t_0_1_c j))))] := hD
      exact J96 kr41 kr62 kr70 kr80 (u93a 0) (u93a 1) (u93a 2) (u93a 3) (u93a 4) _ _ ls (by omega) (hP.sub [4, 0, 5, 6, 1, 2, 3] rfl) (hD.sub [4, 0, 5, 6, 1, 2, 3] (by decide) rfl) hS (lv_sub hl [4, 3, 2, 1, 0] rfl)
  have hl : lv_has ls 5 [(0, .ref t)] := hl
  refine lv_aload_n hx hb dX3_readNote_0 rfl (lv_at hl 0 rfl) ?_
  refine va_get (D := D) (own := RX3) (ci := 3) (v := .ref (t_q 1)) (C := RX3) (T := TX3) (N := 4) hx hb hts inb_X3 hown hK.1 hP 0 rfl rfl 1 (by decide) (hts _ wd_161) (fun _ h9 => h9) rfl dX3_readNote_1 ?_
  refine va_getN (D := D) (own := RX3) (ci := 7) (v := .int (iI t_1_x5)) (C := RX7) (T := TX7) (N := 15) hx hb hts inb_X7 hown hK.1 hP 1 rfl rfl 5 (by decide) (hK.nf 28 rfl) (fun _ h9 => h9) rfl dX3_readNote_4 ?_
  have y4_1 : 0 ≤ t_1_x5 ∧ t_1_x5 ≤ 24 := hi_t_1.2.2.2.2.2.1
  refine lv_bipush (v := iI 24) hx hb dX3_readNote_7 (by decide) ?_
  refine g_icmp_lt (tgt := 24) hx hb (by omega) (by omega) dX3_readNote_9 (by decide) (fun c9 => ?_) (fun c9 => ?_)
  · have y24_2 : 0 ≤ t_x2 ∧ t_x2 ≤ 3 := hi_t.1
    have y24_3 : (-2147483648) ≤ t_x3 ∧ t_x3 ≤ 2147483647 := hi_t.2
    exact J24 t_x2 t_x3 _ _ ls (by omega) (hP.sub [0, 1, 2, 3, 4, 5, 6] rfl) (hD.sub [0, 1, 2, 3, 4, 5, 6] (by decide) rfl) hS (lv_sub hl [0] rfl)
  · refine lv_aload_n hx hb dX3_readNote_12 rfl (lv_at hl 0 rfl) ?_
    refine lv_iconst (v := iI 3) hx hb dX3_readNote_13 rfl ?_
    refine lv_aload_n hx hb dX3_readNote_14 rfl (lv_at hl 0 rfl) ?_
    refine va_get (D := D) (own := RX3) (ci := 3) (v := .ref (t_q 0)) (C := RX3) (T := TX3) (N := 4) hx hb hts inb_X3 hown hK.1 hP 0 rfl rfl 0 (by decide) (hts _ wd_159) (fun _ h9 => h9) rfl dX3_readNote_15 ?_
    refine va_getN (D := D) (own := RX3) (ci := 6) (v := .int (iI t_0_x3)) (C := RX6) (T := TX6) (N := 5) hx hb hts inb_X6 hown hK.1 hP 2 rfl rfl 3 (by decide) (hK.nf 4 rfl) (fun _ h9 => h9) rfl dX3_readNote_18 ?_
    have y18_2 : 0 ≤ t_0_x3 ∧ t_0_x3 ≤ 1400 := hi_t_0.2.2.1
    refine fn_gov (wc := [(t, .inr (3, oX3 t_q t_x2 t_x3))]) (wr := [((t_q 1), .inr (7, oX7 t_1_q t_1_x0 t_1_x1 t_1_x2 t_1_x3 t_1_x4 t_1_x5 t_1_x6 t_1_x7 t_1_x8)), ((t_q 0), .inr (6, oX6 t_0_q t_0_x0 t_0_x2 t_0_x3 t_0_x4)), ((t_0_q 1), .inl (K 1, 1400, .inl (fun j => iI (t_0_1_c j)))), ((t_1_q 12), .inl (K 0, 24, .inl (fun j => iI (t_1_12_c j)))), ((t_1_q 13), .inl (K 0, 24, .inl (fun j => iI (t_1_13_c j)))), ((t_1_q 14), .inl (K 0, 24, .inl (fun j => iI (t_1_14_c j))))]) hK hP hD hS hA [0] [1, 2, 3, 4, 5, 6] rfl rfl (by decide) (fun hp => va_runV (C := RX3) (As := [.int (iI 3), .int (iI t_0_x3)]) (rest := []) ⟨hx, hb, hml, hown, hts⟩ (k_X3_blame (l := l) (D := D) (K := K) (t := t) (p1 := 3) (p2 := t_0_x3) (t_q := t_q) (t_x2 := t_x2) (t_x3 := t_x3) (hp1 := (by omega)) (hp2 := (by omega)) (hi_t := hi_t) _) (cwV 2 hts (fn_ginV (fn_gin wd_566) wd_563 wd_565 wp_9 wd_2) rfl rfl rfl (by decide +kernel) ⟨Nat.le_of_ble_eq_true rfl, Nat.le_of_ble_eq_true rfl⟩) ⟨fn_blind, va_recv hK.1 hP (ci := 3) (q0 := 0) rfl rfl, hp⟩ rfl rfl hl.1 rfl (lv_room (Nat.le_of_ble_eq_true rfl)) dX3_readNote_21 ⟨Nat.le_of_ble_eq_true rfl, Nat.le_of_ble_eq_true rfl⟩) (fun u21 H locs hwu21 hP hD hS => ?_)
    obtain ⟨u21a, u21b⟩ := u21
    obtain ⟨hqu210, -⟩ := hwu21
    have hqu21 : 0 ≤ (u21a 0) ∧ (u21a 0) ≤ 3 ∧ (-2147483648) ≤ (u21a 1) ∧ (u21a 1) ≤ 2147483647 := hqu210
    clear hqu210
    have hP : va_P D vwCl [((t_q 1), .inr (7, oX7 t_1_q t_1_x0 t_1_x1 t_1_x2 t_1_x3 t_1_x4 t_1_x5 t_1_x6 t_1_x7 t_1_x8)), ((t_q 0), .inr (6, oX6 t_0_q t_0_x0 t_0_x2 t_0_x3 t_0_x4)), ((t_0_q 1), .inl (K 1, 1400, .inl (fun j => iI (t_0_1_c j)))), ((t_1_q 12), .inl (K 0, 24, .inl (fun j => iI (t_1_12_c j)))), ((t_1_q 13), .inl (K 0, 24, .inl (fun j => iI (t_1_13_c j)))), ((t_1_q 14), .inl (K 0, 24, .inl (fun j => iI (t_1_14_c j)))), (t, .inr (3, oX3 t_q (u21a 0) (u21a 1)))] H := hP
    have hD : va_D A [((t_q 1), .inr (7, oX7 t_1_q t_1_x0 t_1_x1 t_1_x2 t_1_x3 t_1_x4 t_1_x5 t_1_x6 t_1_x7 t_1_x8)), ((t_q 0), .inr (6, oX6 t_0_q t_0_x0 t_0_x2 t_0_x3 t_0_x4)), ((t_0_q 1), .inl (K 1, 1400, .inl (fun j => iI (t_0_1_c j)))), ((t_1_q 12), .inl (K 0, 24, .inl (fun j => iI (t_1_12_c j)))), ((t_1_q 13), .inl (K 0, 24, .inl (fun j => iI (t_1_13_c j)))), ((t_1_q 14), .inl (K 0, 24, .inl (fun j => iI (t_1_14_c j)))), (t, .inr (3, oX3 t_q (u21a 0) (u21a 1)))] := hD
    exact J24 (u21a 0) (u21a 1) _ _ ls (by omega) (hP.sub [6, 0, 1, 2, 3, 4, 5] rfl) (hD.sub [6, 0, 1, 2, 3, 4, 5] (by decide) rfl) hS (lv_sub hl [0] rfl)
theorem dX3_readTown_0 : decode cX3_readTown 0 = .ok (.aload_n 0, 1) := by decide +kernel
theorem dX3_readTown_1 : decode cX3_readTown 1 = .ok (.ldc 94, 2) := by decide +kernel
theorem dX3_readTown_3 : decode cX3_readTown 3 = .ok (.invokevirtual 69, 3) := by decide +kernel
theorem dX3_readTown_6 : decode cX3_readTown 6 = .ok (.aload_n 0, 1) := by decide +kernel
theorem dX3_readTown_7 : decode cX3_readTown 7 = .ok (.ldc 96, 2) := by decide +kernel
theorem dX3_readTown_9 : decode cX3_readTown 9 = .ok (.invokevirtual 69, 3) := by decide +kernel
theorem dX3_readTown_12 : decode cX3_readTown 12 = .ok (.aload_n 0, 1) := by decide +kernel
theorem dX3_readTown_13 : decode cX3_readTown 13 = .ok (.getfield 21, 3) := by decide +kernel
theorem dX3_readTown_16 : decode cX3_readTown 16 = .ok (.aload_n 0, 1) := by decide +kernel
theorem dX3_readTown_17 : decode cX3_readTown 17 = .ok (.iconst 1, 1) := by decide +kernel
theorem dX3_readTown_18 : decode cX3_readTown 18 = .ok (.bipush 20, 2) := by decide +kernel
theorem dX3_readTown_20 : decode cX3_readTown 20 = .ok (.invokevirtual 98, 3) := by decide +kernel
theorem dX3_readTown_23 : decode cX3_readTown 23 = .ok (.putfield 101, 3) := by decide +kernel
theorem dX3_readTown_26 : decode cX3_readTown 26 = .ok (.aload_n 0, 1) := by decide +kernel
theorem dX3_readTown_27 : decode cX3_readTown 27 = .ok (.ldc 103, 2) := by decide +kernel
theorem dX3_readTown_29 : decode cX3_readTown 29 = .ok (.invokevirtual 69, 3) := by decide +kernel
theorem dX3_readTown_32 : decode cX3_readTown 32 = .ok (.aload_n 0, 1) := by decide +kernel
theorem dX3_readTown_33 : decode cX3_readTown 33 = .ok (.getfield 21, 3) := by decide +kernel
theorem dX3_readTown_36 : decode cX3_readTown 36 = .ok (.aload_n 0, 1) := by decide +kernel
theorem dX3_readTown_37 : decode cX3_readTown 37 = .ok (.iconst 0, 1) := by decide +kernel
theorem dX3_readTown_38 : decode cX3_readTown 38 = .ok (.bipush 100, 2) := by decide +kernel
theorem dX3_readTown_40 : decode cX3_readTown 40 = .ok (.invokevirtual 98, 3) := by decide +kernel
theorem dX3_readTown_43 : decode cX3_readTown 43 = .ok (.putfield 105, 3) := by decide +kernel
theorem dX3_readTown_46 : decode cX3_readTown 46 = .ok (.return_, 1) := by decide +kernel
set_option maxHeartbeats 4000000 in
set_option maxRecDepth 100000 in
theorem k_X3_readTown (l : Launch) (D : va_G) (K : Nat → ClassId) (adK adV : Nat → Nat) (t : Nat) (t_q t_0_q t_1_q : Nat → Nat) (t_x2 t_x3 t_0_x0 t_0_x2 t_0_x3 t_0_x4 t_1_x0 t_1_x1 t_1_x2 t_1_x3 t_1_x4 t_1_x5 t_1_x6 t_1_x7 t_1_x8 : Int) (t_0_1_c : Nat → Int) (hi_t : bX3 t_x2 t_x3) (hi_t_0 : bX6 t_0_x0 t_0_x2 t_0_x3 t_0_x4) (hc_t_0_1 : ∀ j : Nat, (-128) ≤ t_0_1_c j ∧ t_0_1_c j ≤ 127) (hi_t_1 : bX7 t_1_x0 t_1_x1 t_1_x2 t_1_x3 t_1_x4 t_1_x5 t_1_x6 t_1_x7 t_1_x8) : fn_CVO adK adV (S := (Nat → Int) × (Nat → Nat → Int)) l D K yX3_readTown (fn_ws yX3_readTown cX3_readTown 1 none) ({ frames := 32, cells := 0, slots := 0, locals := 800 } : Room) [.ref t] [(t, .inr (3, oX3 t_q t_x2 t_x3)), ((t_q 0), .inr (6, oX6 t_0_q t_0_x0 t_0_x2 t_0_x3 t_0_x4)), ((t_0_q 1), .inl (K 1, 1400, .inl (fun j => iI (t_0_1_c j)))), ((t_q 1), .inr (7, oX7 t_1_q t_1_x0 t_1_x1 t_1_x2 t_1_x3 t_1_x4 t_1_x5 t_1_x6 t_1_x7 t_1_x8))] (fun u => (0 ≤ (u.1 0) ∧ (u.1 0) ≤ 3 ∧ (-2147483648) ≤ (u.1 1) ∧ (u.1 1) ≤ 2147483647 ∧ 0 ≤ (u.1 2) ∧ (u.1 2) ≤ 4 ∧ 0 ≤ (u.1 3) ∧ (u.1 3) ≤ 1400 ∧ 0 ≤ (u.1 4) ∧ (u.1 4) ≤ 1400 ∧ 0 ≤ (u.1 5) ∧ (u.1 5) ≤ 20 ∧ 0 ≤ (u.1 6) ∧ (u.1 6) ≤ 100) ∧ True) (fun u => [(t, .inr (3, oX3 t_q (u.1 0) (u.1 1))), ((t_q 0), .inr (6, oX6 t_0_q t_0_x0 (u.1 2) (u.1 3) (u.1 4))), ((t_0_q 1), .inl (K 1, 1400, .inl (fun j => iI (t_0_1_c j)))), ((t_q 1), .inr (7, oX7 t_1_q t_1_x0 (u.1 5) (u.1 6) t_1_x3 t_1_x4 t_1_x5 t_1_x6 t_1_x7 t_1_x8))]) 0 0 := by
  refine g_inVO (cc := cX3_readTown) (maxL := 1) (ret := none) (by decide) rfl (Nat.le_of_ble_eq_true rfl) ?_
  intro p e s m below meth c A ls ag Q B hO hA hP hD hS hl hQ
  obtain ⟨hx, hb, hr, hml, hts, hown, hlocks, hin, hK⟩ := B
  have hown : s.vm.findClass RX3 = some m.cls := hown
  have hts := fun w h => hts w (List.mem_cons_of_mem _ h)
  have hl : lv_has ls 1 [(0, .ref t)] := hl
  refine lv_aload_n hx hb dX3_readTown_0 rfl (lv_at hl 0 rfl) ?_
  refine va_ldcS (own := RX3) (tx := "town") (q := adK 0) hx hb hown (hO.2.2.2 0 (94, "town") rfl) dX3_readTown_1 ?_
  refine fn_govO (wc := [(t, .inr (3, oX3 t_q t_x2 t_x3)), ((t_q 0), .inr (6, oX6 t_0_q t_0_x0 t_0_x2 t_0_x3 t_0_x4)), ((t_0_q 1), .inl (K 1, 1400, .inl (fun j => iI (t_0_1_c j))))]) (wr := [((t_q 1), .inr (7, oX7 t_1_q t_1_x0 t_1_x1 t_1_x2 t_1_x3 t_1_x4 t_1_x5 t_1_x6 t_1_x7 t_1_x8))]) hO hK hP hD hS hA [0, 1, 2] [3] rfl rfl (by decide) (fun hp => va_runV (C := RX3) (As := [.ref (adK 0)]) (rest := []) ⟨hx, hb, hml, hown, hts⟩ (k_X3_takeWord (l := l) (D := D) (K := K) (adK := adK) (adV := adV) (t := t) (s1 := 0) (t_q := t_q) (t_x2 := t_x2) (t_x3 := t_x3) (t_0_q := t_0_q) (t_0_x0 := t_0_x0) (t_0_x2 := t_0_x2) (t_0_x3 := t_0_x3) (t_0_x4 := t_0_x4) (t_0_1_c := t_0_1_c) (hs1 := (by decide)) (hi_t := hi_t) (hi_t_0 := hi_t_0) (hc_t_0_1 := hc_t_0_1) _) (cwV 1 hts (fn_ginV (fn_gin wd_509) wd_506 wd_508 wp_7 wd_2) rfl rfl rfl (by decide +kernel) ⟨Nat.le_of_ble_eq_true rfl, Nat.le_of_ble_eq_true rfl⟩) ⟨fn_blindO, va_recv hK.1 hP (ci := 3) (q0 := 0) rfl rfl, hp⟩ rfl rfl hl.1 rfl (lv_room (Nat.le_of_ble_eq_true rfl)) dX3_readTown_3 ⟨Nat.le_of_ble_eq_true rfl, Nat.le_of_ble_eq_true rfl⟩) (fun u3 H locs hwu3 hP hD hS => ?_)
  obtain ⟨u3a, u3b⟩ := u3
  obtain ⟨hqu30, -⟩ := hwu3
  have hqu3 : 0 ≤ (u3a 0) ∧ (u3a 0) ≤ 3 ∧ (-2147483648) ≤ (u3a 1) ∧ (u3a 1) ≤ 2147483647 ∧ 0 ≤ (u3a 2) ∧ (u3a 2) ≤ 4 ∧ 0 ≤ (u3a 3) ∧ (u3a 3) ≤ 1400 ∧ 0 ≤ (u3a 4) ∧ (u3a 4) ≤ 1400 := hqu30
  clear hqu30
  have hP : va_P D vwCl [((t_q 1), .inr (7, oX7 t_1_q t_1_x0 t_1_x1 t_1_x2 t_1_x3 t_1_x4 t_1_x5 t_1_x6 t_1_x7 t_1_x8)), (t, .inr (3, oX3 t_q (u3a 0) (u3a 1))), ((t_q 0), .inr (6, oX6 t_0_q t_0_x0 (u3a 2) (u3a 3) (u3a 4))), ((t_0_q 1), .inl (K 1, 1400, .inl (fun j => iI (t_0_1_c j))))] H := hP
  have hD : va_D A [((t_q 1), .inr (7, oX7 t_1_q t_1_x0 t_1_x1 t_1_x2 t_1_x3 t_1_x4 t_1_x5 t_1_x6 t_1_x7 t_1_x8)), (t, .inr (3, oX3 t_q (u3a 0) (u3a 1))), ((t_q 0), .inr (6, oX6 t_0_q t_0_x0 (u3a 2) (u3a 3) (u3a 4))), ((t_0_q 1), .inl (K 1, 1400, .inl (fun j => iI (t_0_1_c j))))] := hD
  refine lv_aload_n hx hb dX3_readTown_6 rfl (lv_at hl 0 rfl) ?_
  refine va_ldcS (own := RX3) (tx := "opens") (q := adK 1) hx hb hown (hO.2.2.2 1 (96, "opens") rfl) dX3_readTown_7 ?_
  refine fn_govO (wc := [(t, .inr (3, oX3 t_q (u3a 0) (u3a 1))), ((t_q 0), .inr (6, oX6 t_0_q t_0_x0 (u3a 2) (u3a 3) (u3a 4))), ((t_0_q 1), .inl (K 1, 1400, .inl (fun j => iI (t_0_1_c j))))]) (wr := [((t_q 1), .inr (7, oX7 t_1_q t_1_x0 t_1_x1 t_1_x2 t_1_x3 t_1_x4 t_1_x5 t_1_x6 t_1_x7 t_1_x8))]) hO hK hP hD hS hA [1, 2, 3] [0] rfl rfl (by decide) (fun hp => va_runV (C := RX3) (As := [.ref (adK 1)]) (rest := []) ⟨hx, hb, hml, hown, hts⟩ (k_X3_takeWord (l := l) (D := D) (K := K) (adK := adK) (adV := adV) (t := t) (s1 := 1) (t_q := t_q) (t_x2 := (u3a 0)) (t_x3 := (u3a 1)) (t_0_q := t_0_q) (t_0_x0 := t_0_x0) (t_0_x2 := (u3a 2)) (t_0_x3 := (u3a 3)) (t_0_x4 := (u3a 4)) (t_0_1_c := t_0_1_c) (hs1 := (by decide)) (hi_t := ⟨(by omega), (by omega)⟩) (hi_t_0 := ⟨hi_t_0.1, (by omega), (by omega), (by omega)⟩) (hc_t_0_1 := hc_t_0_1) _) (cwV 1 hts (fn_ginV (fn_gin wd_509) wd_506 wd_508 wp_7 wd_2) rfl rfl rfl (by decide +kernel) ⟨Nat.le_of_ble_eq_true rfl, Nat.le_of_ble_eq_true rfl⟩) ⟨fn_blindO, va_recv hK.1 hP (ci := 3) (q0 := 1) rfl rfl, hp⟩ rfl rfl hl.1 rfl (lv_room (Nat.le_of_ble_eq_true rfl)) dX3_readTown_9 ⟨Nat.le_of_ble_eq_true rfl, Nat.le_of_ble_eq_true rfl⟩) (fun u9 H locs hwu9 hP hD hS => ?_)
  obtain ⟨u9a, u9b⟩ := u9
  obtain ⟨hqu90, -⟩ := hwu9
  have hqu9 : 0 ≤ (u9a 0) ∧ (u9a 0) ≤ 3 ∧ (-2147483648) ≤ (u9a 1) ∧ (u9a 1) ≤ 2147483647 ∧ 0 ≤ (u9a 2) ∧ (u9a 2) ≤ 4 ∧ 0 ≤ (u9a 3) ∧ (u9a 3) ≤ 1400 ∧ 0 ≤ (u9a 4) ∧ (u9a 4) ≤ 1400 := hqu90
  clear hqu90
  have hP : va_P D vwCl [((t_q 1), .inr (7, oX7 t_1_q t_1_x0 t_1_x1 t_1_x2 t_1_x3 t_1_x4 t_1_x5 t_1_x6 t_1_x7 t_1_x8)), (t, .inr (3, oX3 t_q (u9a 0) (u9a 1))), ((t_q 0), .inr (6, oX6 t_0_q t_0_x0 (u9a 2) (u9a 3) (u9a 4))), ((t_0_q 1), .inl (K 1, 1400, .inl (fun j => iI (t_0_1_c j))))] H := hP
  have hD : va_D A [((t_q 1), .inr (7, oX7 t_1_q t_1_x0 t_1_x1 t_1_x2 t_1_x3 t_1_x4 t_1_x5 t_1_x6 t_1_x7 t_1_x8)), (t, .inr (3, oX3 t_q (u9a 0) (u9a 1))), ((t_q 0), .inr (6, oX6 t_0_q t_0_x0 (u9a 2) (u9a 3) (u9a 4))), ((t_0_q 1), .inl (K 1, 1400, .inl (fun j => iI (t_0_1_c j))))] := hD
  refine lv_aload_n hx hb dX3_readTown_12 rfl (lv_at hl 0 rfl) ?_
  refine va_get (D := D) (own := RX3) (ci := 3) (v := .ref (t_q 1)) (C := RX3) (T := TX3) (N := 4) hx hb hts inb_X3 hown hK.1 hP 1 rfl rfl 1 (by decide) (hts _ wd_161) (fun _ h9 => h9) rfl dX3_readTown_13 ?_
  refine lv_aload_n hx hb dX3_readTown_16 rfl (lv_at hl 0 rfl) ?_
  refine lv_iconst (v := iI 1) hx hb dX3_readTown_17 rfl ?_
  refine lv_bipush (v := iI 20) hx hb dX3_readTown_18 (by decide) ?_
  refine fn_goi (wc := [(t, .inr (3, oX3 t_q (u9a 0) (u9a 1))), ((t_q 0), .inr (6, oX6 t_0_q t_0_x0 (u9a 2) (u9a 3) (u9a 4))), ((t_0_q 1), .inl (K 1, 1400, .inl (fun j => iI (t_0_1_c j))))]) (wr := [((t_q 1), .inr (7, oX7 t_1_q t_1_x0 t_1_x1 t_1_x2 t_1_x3 t_1_x4 t_1_x5 t_1_x6 t_1_x7 t_1_x8))]) hK hP hD hS hA [1, 2, 3] [0] rfl rfl (by decide) (fun hp => va_runV (C := RX3) (As := [.int (iI 1), .int (iI 20)]) (rest := [.ref (t_q 1)]) ⟨hx, hb, hml, hown, hts⟩ (k_X3_takeNumber (l := l) (D := D) (K := K) (t := t) (p1 := 1) (p2 := 20) (t_q := t_q) (t_x2 := (u9a 0)) (t_x3 := (u9a 1)) (t_0_q := t_0_q) (t_0_x0 := t_0_x0) (t_0_x2 := (u9a 2)) (t_0_x3 := (u9a 3)) (t_0_x4 := (u9a 4)) (t_0_1_c := t_0_1_c) (hp1 := (by omega)) (hp2 := (by omega)) (hi_t := ⟨(by omega), (by omega)⟩) (hi_t_0 := ⟨hi_t_0.1, (by omega), (by omega), (by omega)⟩) (hc_t_0_1 := hc_t_0_1) _) (cwV 2 hts (fn_ginV (fn_gin wd_571) wd_568 wd_570 wp_10 wd_2) rfl rfl rfl (by decide +kernel) ⟨Nat.le_of_ble_eq_true rfl, Nat.le_of_ble_eq_true rfl⟩) ⟨fn_blind, va_recv hK.1 hP (ci := 3) (q0 := 1) rfl rfl, hp⟩ rfl rfl hl.1 rfl (lv_room (Nat.le_of_ble_eq_true rfl)) dX3_readTown_20 ⟨Nat.le_of_ble_eq_true rfl, Nat.le_of_ble_eq_true rfl⟩) (fun r20 u20 H locs hwu20 hP hD hS => ?_)
  obtain ⟨u20a, u20b⟩ := u20
  obtain ⟨kr20, rfl, hkr20, hqu200, -⟩ := hwu20
  have hqu20 : 0 ≤ (u20a 0) ∧ (u20a 0) ≤ 3 ∧ (-2147483648) ≤ (u20a 1) ∧ (u20a 1) ≤ 2147483647 ∧ 0 ≤ (u20a 2) ∧ (u20a 2) ≤ 4 ∧ 0 ≤ (u20a 3) ∧ (u20a 3) ≤ 1400 ∧ 0 ≤ (u20a 4) ∧ (u20a 4) ≤ 1400 ∧ (kr20 = (1 : Int) ∨ ((1 : Int) ≤ kr20 ∧ kr20 ≤ (20 : Int))) := hqu200
  clear hqu200
  have hP : va_P D vwCl [((t_q 1), .inr (7, oX7 t_1_q t_1_x0 t_1_x1 t_1_x2 t_1_x3 t_1_x4 t_1_x5 t_1_x6 t_1_x7 t_1_x8)), (t, .inr (3, oX3 t_q (u20a 0) (u20a 1))), ((t_q 0), .inr (6, oX6 t_0_q t_0_x0 (u20a 2) (u20a 3) (u20a 4))), ((t_0_q 1), .inl (K 1, 1400, .inl (fun j => iI (t_0_1_c j))))] H := hP
  have hD : va_D A [((t_q 1), .inr (7, oX7 t_1_q t_1_x0 t_1_x1 t_1_x2 t_1_x3 t_1_x4 t_1_x5 t_1_x6 t_1_x7 t_1_x8)), (t, .inr (3, oX3 t_q (u20a 0) (u20a 1))), ((t_q 0), .inr (6, oX6 t_0_q t_0_x0 (u20a 2) (u20a 3) (u20a 4))), ((t_0_q 1), .inl (K 1, 1400, .inl (fun j => iI (t_0_1_c j))))] := hD
  refine va_putN (D := D) (own := RX3) (ci := 7) (v := .int (iI kr20)) (ty := .int) (C := RX7) (T := TX7) (N := 15) hx hb hts inb_X7 tyX7 tyX7_ok nmX7 hown hK.1 hP hD hS 0 rfl rfl 1 (by decide) (hK.nf 9 rfl) (fun _ h9 => h9) rfl (by decide +kernel) rfl rfl (Nat.le_of_ble_eq_true rfl) dX3_readTown_23 (fun H locs hP hD hS => ?_)
  have hP : va_P D vwCl [((t_q 1), .inr (7, oX7 t_1_q t_1_x0 kr20 t_1_x2 t_1_x3 t_1_x4 t_1_x5 t_1_x6 t_1_x7 t_1_x8)), (t, .inr (3, oX3 t_q (u20a 0) (u20a 1))), ((t_q 0), .inr (6, oX6 t_0_q t_0_x0 (u20a 2) (u20a 3) (u20a 4))), ((t_0_q 1), .inl (K 1, 1400, .inl (fun j => iI (t_0_1_c j))))] H := hP
  have hD : va_D A [((t_q 1), .inr (7, oX7 t_1_q t_1_x0 kr20 t_1_x2 t_1_x3 t_1_x4 t_1_x5 t_1_x6 t_1_x7 t_1_x8)), (t, .inr (3, oX3 t_q (u20a 0) (u20a 1))), ((t_q 0), .inr (6, oX6 t_0_q t_0_x0 (u20a 2) (u20a 3) (u20a 4))), ((t_0_q 1), .inl (K 1, 1400, .inl (fun j => iI (t_0_1_c j))))] := hD
  refine lv_aload_n hx hb dX3_readTown_26 rfl (lv_at hl 0 rfl) ?_
  refine va_ldcS (own := RX3) (tx := "odds") (q := adK 2) hx hb hown (hO.2.2.2 2 (103, "odds") rfl) dX3_readTown_27 ?_
  refine fn_govO (wc := [(t, .inr (3, oX3 t_q (u20a 0) (u20a 1))), ((t_q 0), .inr (6, oX6 t_0_q t_0_x0 (u20a 2) (u20a 3) (u20a 4))), ((t_0_q 1), .inl (K 1, 1400, .inl (fun j => iI (t_0_1_c j))))]) (wr := [((t_q 1), .inr (7, oX7 t_1_q t_1_x0 kr20 t_1_x2 t_1_x3 t_1_x4 t_1_x5 t_1_x6 t_1_x7 t_1_x8))]) hO hK hP hD hS hA [1, 2, 3] [0] rfl rfl (by decide) (fun hp => va_runV (C := RX3) (As := [.ref (adK 2)]) (rest := []) ⟨hx, hb, hml, hown, hts⟩ (k_X3_takeWord (l := l) (D := D) (K := K) (adK := adK) (adV := adV) (t := t) (s1 := 2) (t_q := t_q) (t_x2 := (u20a 0)) (t_x3 := (u20a 1)) (t_0_q := t_0_q) (t_0_x0 := t_0_x0) (t_0_x2 := (u20a 2)) (t_0_x3 := (u20a 3)) (t_0_x4 := (u20a 4)) (t_0_1_c := t_0_1_c) (hs1 := (by decide)) (hi_t := ⟨(by omega), (by omega)⟩) (hi_t_0 := ⟨hi_t_0.1, (by omega), (by omega), (by omega)⟩) (hc_t_0_1 := hc_t_0_1) _) (cwV 1 hts (fn_ginV (fn_gin wd_509) wd_506 wd_508 wp_7 wd_2) rfl rfl rfl (by decide +kernel) ⟨Nat.le_of_ble_eq_true rfl, Nat.le_of_ble_eq_true rfl⟩) ⟨fn_blindO, va_recv hK.1 hP (ci := 3) (q0 := 1) rfl rfl, hp⟩ rfl rfl hl.1 rfl (lv_room (Nat.le_of_ble_eq_true rfl)) dX3_readTown_29 ⟨Nat.le_of_ble_eq_true rfl, Nat.le_of_ble_eq_true rfl⟩) (fun u29 H locs hwu29 hP hD hS => ?_)
  obtain ⟨u29a, u29b⟩ := u29
  obtain ⟨hqu290, -⟩ := hwu29
  have hqu29 : 0 ≤ (u29a 0) ∧ (u29a 0) ≤ 3 ∧ (-2147483648) ≤ (u29a 1) ∧ (u29a 1) ≤ 2147483647 ∧ 0 ≤ (u29a 2) ∧ (u29a 2) ≤ 4 ∧ 0 ≤ (u29a 3) ∧ (u29a 3) ≤ 1400 ∧ 0 ≤ (u29a 4) ∧ (u29a 4) ≤ 1400 := hqu290
  clear hqu290
  have hP : va_P D vwCl [((t_q 1), .inr (7, oX7 t_1_q t_1_x0 kr20 t_1_x2 t_1_x3 t_1_x4 t_1_x5 t_1_x6 t_1_x7 t_1_x8)), (t, .inr (3, oX3 t_q (u29a 0) (u29a 1))), ((t_q 0), .inr (6, oX6 t_0_q t_0_x0 (u29a 2) (u29a 3) (u29a 4))), ((t_0_q 1), .inl (K 1, 1400, .inl (fun j => iI (t_0_1_c j))))] H := hP
  have hD : va_D A [((t_q 1), .inr (7, oX7 t_1_q t_1_x0 kr20 t_1_x2 t_1_x3 t_1_x4 t_1_x5 t_1_x6 t_1_x7 t_1_x8)), (t, .inr (3, oX3 t_q (u29a 0) (u29a 1))), ((t_q 0), .inr (6, oX6 t_0_q t_0_x0 (u29a 2) (u29a 3) (u29a 4))), ((t_0_q 1), .inl (K 1, 1400, .inl (fun j => iI (t_0_1_c j))))] := hD
  refine lv_aload_n hx hb dX3_readTown_32 rfl (lv_at hl 0 rfl) ?_
  refine va_get (D := D) (own := RX3) (ci := 3) (v := .ref (t_q 1)) (C := RX3) (T := TX3) (N := 4) hx hb hts inb_X3 hown hK.1 hP 1 rfl rfl 1 (by decide) (hts _ wd_161) (fun _ h9 => h9) rfl dX3_readTown_33 ?_
  refine lv_aload_n hx hb dX3_readTown_36 rfl (lv_at hl 0 rfl) ?_
  refine fn_at 37 rfl ?_
  refine lv_iconst (v := iI 0) hx hb dX3_readTown_37 rfl ?_
  refine lv_bipush (v := iI 100) hx hb dX3_readTown_38 (by decide) ?_
  refine fn_goi (wc := [(t, .inr (3, oX3 t_q (u29a 0) (u29a 1))), ((t_q 0), .inr (6, oX6 t_0_q t_0_x0 (u29a 2) (u29a 3) (u29a 4))), ((t_0_q 1), .inl (K 1, 1400, .inl (fun j => iI (t_0_1_c j))))]) (wr := [((t_q 1), .inr (7, oX7 t_1_q t_1_x0 kr20 t_1_x2 t_1_x3 t_1_x4 t_1_x5 t_1_x6 t_1_x7 t_1_x8))]) hK hP hD hS hA [1, 2, 3] [0] rfl rfl (by decide) (fun hp => va_runV (C := RX3) (As := [.int (iI 0), .int (iI 100)]) (rest := [.ref (t_q 1)]) ⟨hx, hb, hml, hown, hts⟩ (k_X3_takeNumber (l := l) (D := D) (K := K) (t := t) (p1 := 0) (p2 := 100) (t_q := t_q) (t_x2 := (u29a 0)) (t_x3 := (u29a 1)) (t_0_q := t_0_q) (t_0_x0 := t_0_x0) (t_0_x2 := (u29a 2)) (t_0_x3 := (u29a 3)) (t_0_x4 := (u29a 4)) (t_0_1_c := t_0_1_c) (hp1 := (by omega)) (hp2 := (by omega)) (hi_t := ⟨(by omega), (by omega)⟩) (hi_t_0 := ⟨hi_t_0.1, (by omega), (by omega), (by omega)⟩) (hc_t_0_1 := hc_t_0_1) _) (cwV 2 hts (fn_ginV (fn_gin wd_571) wd_568 wd_570 wp_10 wd_2) rfl rfl rfl (by decide +kernel) ⟨Nat.le_of_ble_eq_true rfl, Nat.le_of_ble_eq_true rfl⟩) ⟨fn_blind, va_recv hK.1 hP (ci := 3) (q0 := 1) rfl rfl, hp⟩ rfl rfl hl.1 rfl (lv_room (Nat.le_of_ble_eq_true rfl)) dX3_readTown_40 ⟨Nat.le_of_ble_eq_true rfl, Nat.le_of_ble_eq_true rfl⟩) (fun r40 u40 H locs hwu40 hP hD hS => ?_)
  obtain ⟨u40a, u40b⟩ := u40
  obtain ⟨kr40, rfl, hkr40, hqu400, -⟩ := hwu40
  have hqu40 : 0 ≤ (u40a 0) ∧ (u40a 0) ≤ 3 ∧ (-2147483648) ≤ (u40a 1) ∧ (u40a 1) ≤ 2147483647 ∧ 0 ≤ (u40a 2) ∧ (u40a 2) ≤ 4 ∧ 0 ≤ (u40a 3) ∧ (u40a 3) ≤ 1400 ∧ 0 ≤ (u40a 4) ∧ (u40a 4) ≤ 1400 ∧ (kr40 = (0 : Int) ∨ ((0 : Int) ≤ kr40 ∧ kr40 ≤ (100 : Int))) := hqu400
  clear hqu400
  have hP : va_P D vwCl [((t_q 1), .inr (7, oX7 t_1_q t_1_x0 kr20 t_1_x2 t_1_x3 t_1_x4 t_1_x5 t_1_x6 t_1_x7 t_1_x8)), (t, .inr (3, oX3 t_q (u40a 0) (u40a 1))), ((t_q 0), .inr (6, oX6 t_0_q t_0_x0 (u40a 2) (u40a 3) (u40a 4))), ((t_0_q 1), .inl (K 1, 1400, .inl (fun j => iI (t_0_1_c j))))] H := hP
  have hD : va_D A [((t_q 1), .inr (7, oX7 t_1_q t_1_x0 kr20 t_1_x2 t_1_x3 t_1_x4 t_1_x5 t_1_x6 t_1_x7 t_1_x8)), (t, .inr (3, oX3 t_q (u40a 0) (u40a 1))), ((t_q 0), .inr (6, oX6 t_0_q t_0_x0 (u40a 2) (u40a 3) (u40a 4))), ((t_0_q 1), .inl (K 1, 1400, .inl (fun j => iI (t_0_1_c j))))] := hD
  refine va_putN (D := D) (own := RX3) (ci := 7) (v := .int (iI kr40)) (ty := .int) (C := RX7) (T := TX7) (N := 15) hx hb hts inb_X7 tyX7 tyX7_ok nmX7 hown hK.1 hP hD hS 0 rfl rfl 2 (by decide) (hK.nf 11 rfl) (fun _ h9 => h9) rfl (by decide +kernel) rfl rfl (Nat.le_of_ble_eq_true rfl) dX3_readTown_43 (fun H locs hP hD hS => ?_)
  have hP : va_P D vwCl [((t_q 1), .inr (7, oX7 t_1_q t_1_x0 kr20 kr40 t_1_x3 t_1_x4 t_1_x5 t_1_x6 t_1_x7 t_1_x8)), (t, .inr (3, oX3 t_q (u40a 0) (u40a 1))), ((t_q 0), .inr (6, oX6 t_0_q t_0_x0 (u40a 2) (u40a 3) (u40a 4))), ((t_0_q 1), .inl (K 1, 1400, .inl (fun j => iI (t_0_1_c j))))] H := hP
  have hD : va_D A [((t_q 1), .inr (7, oX7 t_1_q t_1_x0 kr20 kr40 t_1_x3 t_1_x4 t_1_x5 t_1_x6 t_1_x7 t_1_x8)), (t, .inr (3, oX3 t_q (u40a 0) (u40a 1))), ((t_q 0), .inr (6, oX6 t_0_q t_0_x0 (u40a 2) (u40a 3) (u40a 4))), ((t_0_q 1), .inl (K 1, 1400, .inl (fun j => iI (t_0_1_c j))))] := hD
  rw [hQ]; exact fn_vret hx hb hr hlocks hP hD hS ((fun k => ([(u40a 0), (u40a 1), (u40a 2), (u40a 3), (u40a 4), kr20, kr40] : List Int).getD k 0), (fun _ _ => 0)) ⟨(by show 0 ≤ (u40a 0) ∧ (u40a 0) ≤ 3 ∧ (-2147483648) ≤ (u40a 1) ∧ (u40a 1) ≤ 2147483647 ∧ 0 ≤ (u40a 2) ∧ (u40a 2) ≤ 4 ∧ 0 ≤ (u40a 3) ∧ (u40a 3) ≤ 1400 ∧ 0 ≤ (u40a 4) ∧ (u40a 4) ≤ 1400 ∧ 0 ≤ kr20 ∧ kr20 ≤ 20 ∧ 0 ≤ kr40 ∧ kr40 ≤ 100; omega), trivial⟩ [1, 2, 3, 0] (by decide) rfl dX3_readTown_46
theorem dX3_takeNewMember_0 : decode cX3_takeNewMember 0 = .ok (.aload_n 0, 1) := by decide +kernel
theorem dX3_takeNewMember_1 : decode cX3_takeNewMember 1 = .ok (.getfield 12, 3) := by decide +kernel
theorem dX3_takeNewMember_4 : decode cX3_takeNewMember 4 = .ok (.getfield 87, 3) := by decide +kernel
theorem dX3_takeNewMember_7 : decode cX3_takeNewMember 7 = .ok (.istore_n 3, 1) := by decide +kernel
theorem dX3_takeNewMember_8 : decode cX3_takeNewMember 8 = .ok (.aload_n 0, 1) := by decide +kernel
theorem dX3_takeNewMember_9 : decode cX3_takeNewMember 9 = .ok (.iconst 0, 1) := by decide +kernel
theorem dX3_takeNewMember_10 : decode cX3_takeNewMember 10 = .ok (.iload_n 2, 1) := by decide +kernel
theorem dX3_takeNewMember_11 : decode cX3_takeNewMember 11 = .ok (.invokevirtual 98, 3) := by decide +kernel
theorem dX3_takeNewMember_14 : decode cX3_takeNewMember 14 = .ok (.istore 4, 2) := by decide +kernel
theorem dX3_takeNewMember_16 : decode cX3_takeNewMember 16 = .ok (.iload_n 1, 1) := by decide +kernel
theorem dX3_takeNewMember_17 : decode cX3_takeNewMember 17 = .ok (.iload 4, 2) := by decide +kernel
theorem dX3_takeNewMember_19 : decode cX3_takeNewMember 19 = .ok (.ishr, 1) := by decide +kernel
theorem dX3_takeNewMember_20 : decode cX3_takeNewMember 20 = .ok (.iconst 1, 1) := by decide +kernel
theorem dX3_takeNewMember_21 : decode cX3_takeNewMember 21 = .ok (.iand, 1) := by decide +kernel
theorem dX3_takeNewMember_22 : decode cX3_takeNewMember 22 = .ok (.iconst 1, 1) := by decide +kernel
theorem dX3_takeNewMember_23 : decode cX3_takeNewMember 23 = .ok (.if_icmp .ne 9, 3) := by decide +kernel
theorem dX3_takeNewMember_32 : decode cX3_takeNewMember 32 = .ok (.iload_n 1, 1) := by decide +kernel
theorem dX3_takeNewMember_33 : decode cX3_takeNewMember 33 = .ok (.iconst 1, 1) := by decide +kernel
theorem dX3_takeNewMember_34 : decode cX3_takeNewMember 34 = .ok (.iload 4, 2) := by decide +kernel
theorem dX3_takeNewMember_36 : decode cX3_takeNewMember 36 = .ok (.ishl, 1) := by decide +kernel
theorem dX3_takeNewMember_37 : decode cX3_takeNewMember 37 = .ok (.ior, 1) := by decide +kernel
theorem dX3_takeNewMember_38 : decode cX3_takeNewMember 38 = .ok (.ireturn, 1) := by decide +kernel
theorem dX3_takeNewMember_26 : decode cX3_takeNewMember 26 = .ok (.aload_n 0, 1) := by decide +kernel
theorem dX3_takeNewMember_27 : decode cX3_takeNewMember 27 = .ok (.iconst 2, 1) := by decide +kernel
theorem dX3_takeNewMember_28 : decode cX3_takeNewMember 28 = .ok (.iload_n 3, 1) := by decide +kernel
theorem dX3_takeNewMember_29 : decode cX3_takeNewMember 29 = .ok (.invokevirtual 90, 3) := by decide +kernel
set_option maxHeartbeats 4000000 in
set_option maxRecDepth 100000 in
theorem k_X3_takeNewMember_s (l : Launch) (D : va_G) (K : Nat → ClassId) (t : Nat) (t_q t_0_q : Nat → Nat) (p1 t_x2 t_x3 t_0_x0 t_0_x2 t_0_x3 t_0_x4 : Int) (t_0_1_c : Nat → Int) (hp1 : 0 ≤ p1 ∧ p1 ≤ 31) (hi_t : bX3 t_x2 t_x3) (hi_t_0 : bX6 t_0_x0 t_0_x2 t_0_x3 t_0_x4) (hc_t_0_1 : ∀ j : Nat, (-128) ≤ t_0_1_c j ∧ t_0_1_c j ≤ 127) : fn_CI (S := (Nat → Int) × (Nat → Nat → Int)) l D K yX3_takeNewMember (fn_ws yX3_takeNewMember cX3_takeNewMember 5 (some .int)) ({ frames := 16, cells := 0, slots := 0, locals := 400 } : Room) [.ref t, .int (iI p1), .int (iI 4)] [(t, .inr (3, oX3 t_q t_x2 t_x3)), ((t_q 0), .inr (6, oX6 t_0_q t_0_x0 t_0_x2 t_0_x3 t_0_x4)), ((t_0_q 1), .inl (K 1, 1400, .inl (fun j => iI (t_0_1_c j))))] (fun r u => ∃ k : Int, r = iI k ∧ (1 ≤ k ∧ k ≤ 31) ∧ (0 ≤ (u.1 0) ∧ (u.1 0) ≤ 3 ∧ (-2147483648) ≤ (u.1 1) ∧ (u.1 1) ≤ 2147483647 ∧ 0 ≤ (u.1 2) ∧ (u.1 2) ≤ 4 ∧ 0 ≤ (u.1 3) ∧ (u.1 3) ≤ 1400 ∧ 0 ≤ (u.1 4) ∧ (u.1 4) ≤ 1400) ∧ True) (fun u => [(t, .inr (3, oX3 t_q (u.1 0) (u.1 1))), ((t_q 0), .inr (6, oX6 t_0_q t_0_x0 (u.1 2) (u.1 3) (u.1 4))), ((t_0_q 1), .inl (K 1, 1400, .inl (fun j => iI (t_0_1_c j))))]) 0 0 := by
  refine g_inI (cc := cX3_takeNewMember) (maxL := 5) (ret := (some .int)) (by decide) rfl (Nat.le_of_ble_eq_true rfl) ?_
  intro p e s m below meth c A ls ag Q B hA hP hD hS hl hQ
  obtain ⟨hx, hb, hr, hml, hts, hown, hlocks, hin, hK⟩ := B
  have hown : s.vm.findClass RX3 = some m.cls := hown
  have hts := fun w h => hts w (List.mem_cons_of_mem _ h)
  have hl : lv_has ls 5 [(0, .ref t), (1, .int (iI p1)), (2, .int (iI 4))] := hl
  refine lv_aload_n hx hb dX3_takeNewMember_0 rfl (lv_at hl 0 rfl) ?_
  refine va_get (D := D) (own := RX3) (ci := 3) (v := .ref (t_q 0)) (C := RX3) (T := TX3) (N := 4) hx hb hts inb_X3 hown hK.1 hP 0 rfl rfl 0 (by decide) (hts _ wd_159) (fun _ h9 => h9) rfl dX3_takeNewMember_1 ?_
  refine va_getN (D := D) (own := RX3) (ci := 6) (v := .int (iI t_0_x3)) (C := RX6) (T := TX6) (N := 5) hx hb hts inb_X6 hown hK.1 hP 1 rfl rfl 3 (by decide) (hK.nf 4 rfl) (fun _ h9 => h9) rfl dX3_takeNewMember_4 ?_
  have y4_1 : 0 ≤ t_0_x3 ∧ t_0_x3 ≤ 1400 := hi_t_0.2.2.1
  refine lv_istore_n (lv' := [(3, .int (iI t_0_x3)), (0, .ref t), (1, .int (iI p1)), (2, .int (iI 4))]) hx hb dX3_takeNewMember_7 rfl hl (by decide) rfl (fun ls hl => ?_)
  refine lv_aload_n hx hb dX3_takeNewMember_8 rfl (lv_at hl 1 rfl) ?_
  refine lv_iconst (v := iI 0) hx hb dX3_takeNewMember_9 rfl ?_
  refine lv_iload_n hx hb dX3_takeNewMember_10 rfl (lv_at hl 3 rfl) ?_
  refine fn_goi (wc := [(t, .inr (3, oX3 t_q t_x2 t_x3)), ((t_q 0), .inr (6, oX6 t_0_q t_0_x0 t_0_x2 t_0_x3 t_0_x4)), ((t_0_q 1), .inl (K 1, 1400, .inl (fun j => iI (t_0_1_c j))))]) (wr := []) hK hP hD hS hA [0, 1, 2] [] rfl rfl (by decide) (fun hp => va_runV (C := RX3) (As := [.int (iI 0), .int (iI 4)]) (rest := []) ⟨hx, hb, hml, hown, hts⟩ (k_X3_takeNumber (l := l) (D := D) (K := K) (t := t) (p1 := 0) (p2 := 4) (t_q := t_q) (t_x2 := t_x2) (t_x3 := t_x3) (t_0_q := t_0_q) (t_0_x0 := t_0_x0) (t_0_x2 := t_0_x2) (t_0_x3 := t_0_x3) (t_0_x4 := t_0_x4) (t_0_1_c := t_0_1_c) (hp1 := (by omega)) (hp2 := (by omega)) (hi_t := hi_t) (hi_t_0 := hi_t_0) (hc_t_0_1 := hc_t_0_1) _) (cwV 2 hts (fn_ginV (fn_gin wd_571) wd_568 wd_570 wp_10 wd_2) rfl rfl rfl (by decide +kernel) ⟨Nat.le_of_ble_eq_true rfl, Nat.le_of_ble_eq_true rfl⟩) ⟨fn_blind, va_recv hK.1 hP (ci := 3) (q0 := 0) rfl rfl, hp⟩ rfl rfl hl.1 rfl (lv_room (Nat.le_of_ble_eq_true rfl)) dX3_takeNewMember_11 ⟨Nat.le_of_ble_eq_true rfl, Nat.le_of_ble_eq_true rfl⟩) (fun r11 u11 H locs hwu11 hP hD hS => ?_)
  obtain ⟨u11a, u11b⟩ := u11
  obtain ⟨kr11, rfl, hkr11, hqu110, -⟩ := hwu11
  have hqu11 : 0 ≤ (u11a 0) ∧ (u11a 0) ≤ 3 ∧ (-2147483648) ≤ (u11a 1) ∧ (u11a 1) ≤ 2147483647 ∧ 0 ≤ (u11a 2) ∧ (u11a 2) ≤ 4 ∧ 0 ≤ (u11a 3) ∧ (u11a 3) ≤ 1400 ∧ 0 ≤ (u11a 4) ∧ (u11a 4) ≤ 1400 ∧ (kr11 = (0 : Int) ∨ ((0 : Int) ≤ kr11 ∧ kr11 ≤ (4 : Int))) := hqu110
  clear hqu110
  have hP : va_P D vwCl [(t, .inr (3, oX3 t_q (u11a 0) (u11a 1))), ((t_q 0), .inr (6, oX6 t_0_q t_0_x0 (u11a 2) (u11a 3) (u11a 4))), ((t_0_q 1), .inl (K 1, 1400, .inl (fun j => iI (t_0_1_c j))))] H := hP
  have hD : va_D A [(t, .inr (3, oX3 t_q (u11a 0) (u11a 1))), ((t_q 0), .inr (6, oX6 t_0_q t_0_x0 (u11a 2) (u11a 3) (u11a 4))), ((t_0_q 1), .inl (K 1, 1400, .inl (fun j => iI (t_0_1_c j))))] := hD
  refine lv_istore (lv' := [(4, .int (iI kr11)), (3, .int (iI t_0_x3)), (0, .ref t), (1, .int (iI p1)), (2, .int (iI 4))]) hx hb dX3_takeNewMember_14 hl (by decide) rfl (fun ls hl => ?_)
  refine lv_iload_n hx hb dX3_takeNewMember_16 rfl (lv_at hl 3 rfl) ?_
  refine lv_iload hx hb dX3_takeNewMember_17 (lv_at hl 0 rfl) ?_
  refine lv_ishr hx hb dX3_takeNewMember_19 ?_
  obtain ⟨w19, ew19, hw19⟩ := iI_shr p1 kr11 (by omega) (by omega)
  refine fn_top (iI w19) ew19 ?_
  refine lv_iconst (v := iI 1) hx hb dX3_takeNewMember_20 rfl ?_
  refine lv_iand hx hb dX3_takeNewMember_21 ?_
  obtain ⟨w21, ew21, hw21⟩ := iI_and1 w19 (by omega)
  refine fn_top (iI w21) ew21 ?_
  refine lv_iconst (v := iI 1) hx hb dX3_takeNewMember_22 rfl ?_
  refine g_icmp_ne (tgt := 32) hx hb (by omega) (by omega) dX3_takeNewMember_23 (by decide) (fun c23 => ?_) (fun c23 => ?_)
  · refine lv_iload_n hx hb dX3_takeNewMember_32 rfl (lv_at hl 3 rfl) ?_
    refine lv_iconst (v := iI 1) hx hb dX3_takeNewMember_33 rfl ?_
    refine lv_iload hx hb dX3_takeNewMember_34 (lv_at hl 0 rfl) ?_
    refine fn_at 36 rfl ?_
    refine lv_ishl hx hb dX3_takeNewMember_36 ?_
    obtain ⟨w36, ew36, hw36⟩ := iI_shl1 4 kr11 (by omega) (by omega) (by decide)
    refine fn_top (iI w36) ew36 ?_
    refine lv_ior hx hb dX3_takeNewMember_37 ?_
    obtain ⟨w37, ew37, hw37⟩ := iI_or 5 p1 w36 (by omega) (by omega) (by decide)
    refine fn_top (iI w37) ew37 ?_
    rw [hQ]; exact fn_iret hx hb hr hlocks rfl hP hD hS ((fun k => ([(u11a 0), (u11a 1), (u11a 2), (u11a 3), (u11a 4)] : List Int).getD k 0), (fun _ _ => 0)) ⟨w37, rfl, by omega, (by show 0 ≤ (u11a 0) ∧ (u11a 0) ≤ 3 ∧ (-2147483648) ≤ (u11a 1) ∧ (u11a 1) ≤ 2147483647 ∧ 0 ≤ (u11a 2) ∧ (u11a 2) ≤ 4 ∧ 0 ≤ (u11a 3) ∧ (u11a 3) ≤ 1400 ∧ 0 ≤ (u11a 4) ∧ (u11a 4) ≤ 1400; omega), trivial⟩ [0, 1, 2] (by decide) rfl dX3_takeNewMember_38
  · refine lv_aload_n hx hb dX3_takeNewMember_26 rfl (lv_at hl 2 rfl) ?_
    refine lv_iconst (v := iI 2) hx hb dX3_takeNewMember_27 rfl ?_
    refine lv_iload_n hx hb dX3_takeNewMember_28 rfl (lv_at hl 1 rfl) ?_
    refine fn_at 29 rfl ?_
    refine fn_gov (wc := [(t, .inr (3, oX3 t_q (u11a 0) (u11a 1)))]) (wr := [((t_q 0), .inr (6, oX6 t_0_q t_0_x0 (u11a 2) (u11a 3) (u11a 4))), ((t_0_q 1), .inl (K 1, 1400, .inl (fun j => iI (t_0_1_c j))))]) hK hP hD hS hA [0] [1, 2] rfl rfl (by decide) (fun hp => va_runV (C := RX3) (As := [.int (iI 2), .int (iI t_0_x3)]) (rest := []) ⟨hx, hb, hml, hown, hts⟩ (k_X3_blame (l := l) (D := D) (K := K) (t := t) (p1 := 2) (p2 := t_0_x3) (t_q := t_q) (t_x2 := (u11a 0)) (t_x3 := (u11a 1)) (hp1 := (by omega)) (hp2 := (by omega)) (hi_t := ⟨(by omega), (by omega)⟩) _) (cwV 2 hts (fn_ginV (fn_gin wd_566) wd_563 wd_565 wp_9 wd_2) rfl rfl rfl (by decide +kernel) ⟨Nat.le_of_ble_eq_true rfl, Nat.le_of_ble_eq_true rfl⟩) ⟨fn_blind, va_recv hK.1 hP (ci := 3) (q0 := 0) rfl rfl, hp⟩ rfl rfl hl.1 rfl (lv_room (Nat.le_of_ble_eq_true rfl)) dX3_takeNewMember_29 ⟨Nat.le_of_ble_eq_true rfl, Nat.le_of_ble_eq_true rfl⟩) (fun u29 H locs hwu29 hP hD hS => ?_)
    obtain ⟨u29a, u29b⟩ := u29
    obtain ⟨hqu290, -⟩ := hwu29
    have hqu29 : 0 ≤ (u29a 0) ∧ (u29a 0) ≤ 3 ∧ (-2147483648) ≤ (u29a 1) ∧ (u29a 1) ≤ 2147483647 := hqu290
    clear hqu290
    have hP : va_P D vwCl [((t_q 0), .inr (6, oX6 t_0_q t_0_x0 (u11a 2) (u11a 3) (u11a 4))), ((t_0_q 1), .inl (K 1, 1400, .inl (fun j => iI (t_0_1_c j)))), (t, .inr (3, oX3 t_q (u29a 0) (u29a 1)))] H := hP
    have hD : va_D A [((t_q 0), .inr (6, oX6 t_0_q t_0_x0 (u11a 2) (u11a 3) (u11a 4))), ((t_0_q 1), .inl (K 1, 1400, .inl (fun j => iI (t_0_1_c j)))), (t, .inr (3, oX3 t_q (u29a 0) (u29a 1)))] := hD
    refine lv_iload_n hx hb dX3_takeNewMember_32 rfl (lv_at hl 3 rfl) ?_
    refine lv_iconst (v := iI 1) hx hb dX3_takeNewMember_33 rfl ?_
    refine lv_iload hx hb dX3_takeNewMember_34 (lv_at hl 0 rfl) ?_
    refine lv_ishl hx hb dX3_takeNewMember_36 ?_
    obtain ⟨w36, ew36, hw36⟩ := iI_shl1 4 kr11 (by omega) (by omega) (by decide)
    refine fn_top (iI w36) ew36 ?_
    refine lv_ior hx hb dX3_takeNewMember_37 ?_
    obtain ⟨w37, ew37, hw37⟩ := iI_or 5 p1 w36 (by omega) (by omega) (by decide)
    refine fn_top (iI w37) ew37 ?_
    rw [hQ]; exact fn_iret hx hb hr hlocks rfl hP hD hS ((fun k => ([(u29a 0), (u29a 1), (u11a 2), (u11a 3), (u11a 4)] : List Int).getD k 0), (fun _ _ => 0)) ⟨w37, rfl, by omega, (by show 0 ≤ (u29a 0) ∧ (u29a 0) ≤ 3 ∧ (-2147483648) ≤ (u29a 1) ∧ (u29a 1) ≤ 2147483647 ∧ 0 ≤ (u11a 2) ∧ (u11a 2) ≤ 4 ∧ 0 ≤ (u11a 3) ∧ (u11a 3) ≤ 1400 ∧ 0 ≤ (u11a 4) ∧ (u11a 4) ≤ 1400; omega), trivial⟩ [2, 0, 1] (by decide) rfl dX3_takeNewMember_38
set_option maxHeartbeats 4000000 in
set_option maxRecDepth 100000 in
theorem k_X3_takeNewMember_p (l : Launch) (D : va_G) (K : Nat → ClassId) (t : Nat) (t_q t_0_q : Nat → Nat) (p1 p2 t_x2 t_x3 t_0_x0 t_0_x2 t_0_x3 t_0_x4 : Int) (t_0_1_c : Nat → Int) (hp1 : 0 ≤ p1 ∧ p1 ≤ 4095) (hp2 : (-1) ≤ p2 ∧ p2 ≤ 11) (hi_t : bX3 t_x2 t_x3) (hi_t_0 : bX6 t_0_x0 t_0_x2 t_0_x3 t_0_x4) (hc_t_0_1 : ∀ j : Nat, (-128) ≤ t_0_1_c j ∧ t_0_1_c j ≤ 127) : fn_CI (S := (Nat → Int) × (Nat → Nat → Int)) l D K yX3_takeNewMember (fn_ws yX3_takeNewMember cX3_takeNewMember 5 (some .int)) ({ frames := 16, cells := 0, slots := 0, locals := 400 } : Room) [.ref t, .int (iI p1), .int (iI p2)] [(t, .inr (3, oX3 t_q t_x2 t_x3)), ((t_q 0), .inr (6, oX6 t_0_q t_0_x0 t_0_x2 t_0_x3 t_0_x4)), ((t_0_q 1), .inl (K 1, 1400, .inl (fun j => iI (t_0_1_c j))))] (fun r u => ∃ k : Int, r = iI k ∧ (1 ≤ k ∧ k ≤ 4095) ∧ (0 ≤ (u.1 0) ∧ (u.1 0) ≤ 3 ∧ (-2147483648) ≤ (u.1 1) ∧ (u.1 1) ≤ 2147483647 ∧ 0 ≤ (u.1 2) ∧ (u.1 2) ≤ 4 ∧ 0 ≤ (u.1 3) ∧ (u.1 3) ≤ 1400 ∧ 0 ≤ (u.1 4) ∧ (u.1 4) ≤ 1400) ∧ True) (fun u => [(t, .inr (3, oX3 t_q (u.1 0) (u.1 1))), ((t_q 0), .inr (6, oX6 t_0_q t_0_x0 (u.1 2) (u.1 3) (u.1 4))), ((t_0_q 1), .inl (K 1, 1400, .inl (fun j => iI (t_0_1_c j))))]) 0 0 := by
  refine g_inI (cc := cX3_takeNewMember) (maxL := 5) (ret := (some .int)) (by decide) rfl (Nat.le_of_ble_eq_true rfl) ?_
  intro p e s m below meth c A ls ag Q B hA hP hD hS hl hQ
  obtain ⟨hx, hb, hr, hml, hts, hown, hlocks, hin, hK⟩ := B
  have hown : s.vm.findClass RX3 = some m.cls := hown
  have hts := fun w h => hts w (List.mem_cons_of_mem _ h)
  have hl : lv_has ls 5 [(0, .ref t), (1, .int (iI p1)), (2, .int (iI p2))] := hl
  refine lv_aload_n hx hb dX3_takeNewMember_0 rfl (lv_at hl 0 rfl) ?_
  refine va_get (D := D) (own := RX3) (ci := 3) (v := .ref (t_q 0)) (C := RX3) (T := TX3) (N := 4) hx hb hts inb_X3 hown hK.1 hP 0 rfl rfl 0 (by decide) (hts _ wd_159) (fun _ h9 => h9) rfl dX3_takeNewMember_1 ?_
  refine va_getN (D := D) (own := RX3) (ci := 6) (v := .int (iI t_0_x3)) (C := RX6) (T := TX6) (N := 5) hx hb hts inb_X6 hown hK.1 hP 1 rfl rfl 3 (by decide) (hK.nf 4 rfl) (fun _ h9 => h9) rfl dX3_takeNewMember_4 ?_
  have y4_1 : 0 ≤ t_0_x3 ∧ t_0_x3 ≤ 1400 := hi_t_0.2.2.1
  refine lv_istore_n (lv' := [(3, .int (iI t_0_x3)), (0, .ref t), (1, .int (iI p1)), (2, .int (iI p2))]) hx hb dX3_takeNewMember_7 rfl hl (by decide) rfl (fun ls hl => ?_)
  refine lv_aload_n hx hb dX3_takeNewMember_8 rfl (lv_at hl 1 rfl) ?_
  refine lv_iconst (v := iI 0) hx hb dX3_takeNewMember_9 rfl ?_
  refine lv_iload_n hx hb dX3_takeNewMember_10 rfl (lv_at hl 3 rfl) ?_
  refine fn_goi (wc := [(t, .inr (3, oX3 t_q t_x2 t_x3)), ((t_q 0), .inr (6, oX6 t_0_q t_0_x0 t_0_x2 t_0_x3 t_0_x4)), ((t_0_q 1), .inl (K 1, 1400, .inl (fun j => iI (t_0_1_c j))))]) (wr := []) hK hP hD hS hA [0, 1, 2] [] rfl rfl (by decide) (fun hp => va_runV (C := RX3) (As := [.int (iI 0), .int (iI p2)]) (rest := []) ⟨hx, hb, hml, hown, hts⟩ (k_X3_takeNumber (l := l) (D := D) (K := K) (t := t) (p1 := 0) (p2 := p2) (t_q := t_q) (t_x2 := t_x2) (t_x3 := t_x3) (t_0_q := t_0_q) (t_0_x0 := t_0_x0) (t_0_x2 := t_0_x2) (t_0_x3 := t_0_x3) (t_0_x4 := t_0_x4) (t_0_1_c := t_0_1_c) (hp1 := (by omega)) (hp2 := (by omega)) (hi_t := hi_t) (hi_t_0 := hi_t_0) (hc_t_0_1 := hc_t_0_1) _) (cwV 2 hts (fn_ginV (fn_gin wd_571) wd_568 wd_570 wp_10 wd_2) rfl rfl rfl (by decide +kernel) ⟨Nat.le_of_ble_eq_true rfl, Nat.le_of_ble_eq_true rfl⟩) ⟨fn_blind, va_recv hK.1 hP (ci := 3) (q0 := 0) rfl rfl, hp⟩ rfl rfl hl.1 rfl (lv_room (Nat.le_of_ble_eq_true rfl)) dX3_takeNewMember_11 ⟨Nat.le_of_ble_eq_true rfl, Nat.le_of_ble_eq_true rfl⟩) (fun r11 u11 H locs hwu11 hP hD hS => ?_)
  obtain ⟨u11a, u11b⟩ := u11
  obtain ⟨kr11, rfl, hkr11, hqu110, -⟩ := hwu11
  have hqu11 : 0 ≤ (u11a 0) ∧ (u11a 0) ≤ 3 ∧ (-2147483648) ≤ (u11a 1) ∧ (u11a 1) ≤ 2147483647 ∧ 0 ≤ (u11a 2) ∧ (u11a 2) ≤ 4 ∧ 0 ≤ (u11a 3) ∧ (u11a 3) ≤ 1400 ∧ 0 ≤ (u11a 4) ∧ (u11a 4) ≤ 1400 ∧ (kr11 = (0 : Int) ∨ ((0 : Int) ≤ kr11 ∧ kr11 ≤ p2)) := hqu110
  clear hqu110
  have hP : va_P D vwCl [(t, .inr (3, oX3 t_q (u11a 0) (u11a 1))), ((t_q 0), .inr (6, oX6 t_0_q t_0_x0 (u11a 2) (u11a 3) (u11a 4))), ((t_0_q 1), .inl (K 1, 1400, .inl (fun j => iI (t_0_1_c j))))] H := hP
  have hD : va_D A [(t, .inr (3, oX3 t_q (u11a 0) (u11a 1))), ((t_q 0), .inr (6, oX6 t_0_q t_0_x0 (u11a 2) (u11a 3) (u11a 4))), ((t_0_q 1), .inl (K 1, 1400, .inl (fun j => iI (t_0_1_c j))))] := hD
  refine lv_istore (lv' := [(4, .int (iI kr11)), (3, .int (iI t_0_x3)), (0, .ref t), (1, .int (iI p1)), (2, .int (iI p2))]) hx hb dX3_takeNewMember_14 hl (by decide) rfl (fun ls hl => ?_)
  refine lv_iload_n hx hb dX3_takeNewMember_16 rfl (lv_at hl 3 rfl) ?_
  refine lv_iload hx hb dX3_takeNewMember_17 (lv_at hl 0 rfl) ?_
  refine lv_ishr hx hb dX3_takeNewMember_19 ?_
  obtain ⟨w19, ew19, hw19⟩ := iI_shr p1 kr11 (by omega) (by omega)
  refine fn_top (iI w19) ew19 ?_
  refine lv_iconst (v := iI 1) hx hb dX3_takeNewMember_20 rfl ?_
  refine lv_iand hx hb dX3_takeNewMember_21 ?_
  obtain ⟨w21, ew21, hw21⟩ := iI_and1 w19 (by omega)
  refine fn_top (iI w21) ew21 ?_
  refine lv_iconst (v := iI 1) hx hb dX3_takeNewMember_22 rfl ?_
  refine g_icmp_ne (tgt := 32) hx hb (by omega) (by omega) dX3_takeNewMember_23 (by decide) (fun c23 => ?_) (fun c23 => ?_)
  · refine lv_iload_n hx hb dX3_takeNewMember_32 rfl (lv_at hl 3 rfl) ?_
    refine lv_iconst (v := iI 1) hx hb dX3_takeNewMember_33 rfl ?_
    refine lv_iload hx hb dX3_takeNewMember_34 (lv_at hl 0 rfl) ?_
    refine fn_at 36 rfl ?_
    refine lv_ishl hx hb dX3_takeNewMember_36 ?_
    obtain ⟨w36, ew36, hw36⟩ := iI_shl1 11 kr11 (by omega) (by omega) (by decide)
    refine fn_top (iI w36) ew36 ?_
    refine lv_ior hx hb dX3_takeNewMember_37 ?_
    obtain ⟨w37, ew37, hw37⟩ := iI_or 12 p1 w36 (by omega) (by omega) (by decide)
    refine fn_top (iI w37) ew37 ?_
    rw [hQ]; exact fn_iret hx hb hr hlocks rfl hP hD hS ((fun k => ([(u11a 0), (u11a 1), (u11a 2), (u11a 3), (u11a 4)] : List Int).getD k 0), (fun _ _ => 0)) ⟨w37, rfl, by omega, (by show 0 ≤ (u11a 0) ∧ (u11a 0) ≤ 3 ∧ (-2147483648) ≤ (u11a 1) ∧ (u11a 1) ≤ 2147483647 ∧ 0 ≤ (u11a 2) ∧ (u11a 2) ≤ 4 ∧ 0 ≤ (u11a 3) ∧ (u11a 3) ≤ 1400 ∧ 0 ≤ (u11a 4) ∧ (u11a 4) ≤ 1400; omega), trivial⟩ [0, 1, 2] (by decide) rfl dX3_takeNewMember_38
  · refine lv_aload_n hx hb dX3_takeNewMember_26 rfl (lv_at hl 2 rfl) ?_
    refine lv_iconst (v := iI 2) hx hb dX3_takeNewMember_27 rfl ?_
    refine lv_iload_n hx hb dX3_takeNewMember_28 rfl (lv_at hl 1 rfl) ?_
    refine fn_at 29 rfl ?_
    refine fn_gov (wc := [(t, .inr (3, oX3 t_q (u11a 0) (u11a 1)))]) (wr := [((t_q 0), .inr (6, oX6 t_0_q t_0_x0 (u11a 2) (u11a 3) (u11a 4))), ((t_0_q 1), .inl (K 1, 1400, .inl (fun j => iI (t_0_1_c j))))]) hK hP hD hS hA [0] [1, 2] rfl rfl (by decide) (fun hp => va_runV (C := RX3) (As := [.int (iI 2), .int (iI t_0_x3)]) (rest := []) ⟨hx, hb, hml, hown, hts⟩ (k_X3_blame (l := l) (D := D) (K := K) (t := t) (p1 := 2) (p2 := t_0_x3) (t_q := t_q) (t_x2 := (u11a 0)) (t_x3 := (u11a 1)) (hp1 := (by omega)) (hp2 := (by omega)) (hi_t := ⟨(by omega), (by omega)⟩) _) (cwV 2 hts (fn_ginV (fn_gin wd_566) wd_563 wd_565 wp_9 wd_2) rfl rfl rfl (by decide +kernel) ⟨Nat.le_of_ble_eq_true rfl, Nat.le_of_ble_eq_true rfl⟩) ⟨fn_blind, va_recv hK.1 hP (ci := 3) (q0 := 0) rfl rfl, hp⟩ rfl rfl hl.1 rfl (lv_room (Nat.le_of_ble_eq_true rfl)) dX3_takeNewMember_29 ⟨Nat.le_of_ble_eq_true rfl, Nat.le_of_ble_eq_true rfl⟩) (fun u29 H locs hwu29 hP hD hS => ?_)
    obtain ⟨u29a, u29b⟩ := u29
    obtain ⟨hqu290, -⟩ := hwu29
    have hqu29 : 0 ≤ (u29a 0) ∧ (u29a 0) ≤ 3 ∧ (-2147483648) ≤ (u29a 1) ∧ (u29a 1) ≤ 2147483647 := hqu290
    clear hqu290
    have hP : va_P D vwCl [((t_q 0), .inr (6, oX6 t_0_q t_0_x0 (u11a 2) (u11a 3) (u11a 4))), ((t_0_q 1), .inl (K 1, 1400, .inl (fun j => iI (t_0_1_c j)))), (t, .inr (3, oX3 t_q (u29a 0) (u29a 1)))] H := hP
    have hD : va_D A [((t_q 0), .inr (6, oX6 t_0_q t_0_x0 (u11a 2) (u11a 3) (u11a 4))), ((t_0_q 1), .inl (K 1, 1400, .inl (fun j => iI (t_0_1_c j)))), (t, .inr (3, oX3 t_q (u29a 0) (u29a 1)))] := hD
    refine lv_iload_n hx hb dX3_takeNewMember_32 rfl (lv_at hl 3 rfl) ?_
    refine lv_iconst (v := iI 1) hx hb dX3_takeNewMember_33 rfl ?_
    refine lv_iload hx hb dX3_takeNewMember_34 (lv_at hl 0 rfl) ?_
    refine lv_ishl hx hb dX3_takeNewMember_36 ?_
    obtain ⟨w36, ew36, hw36⟩ := iI_shl1 11 kr11 (by omega) (by omega) (by decide)
    refine fn_top (iI w36) ew36 ?_
    refine lv_ior hx hb dX3_takeNewMember_37 ?_
    obtain ⟨w37, ew37, hw37⟩ := iI_or 12 p1 w36 (by omega) (by omega) (by decide)
    refine fn_top (iI w37) ew37 ?_
    rw [hQ]; exact fn_iret hx hb hr hlocks rfl hP hD hS ((fun k => ([(u29a 0), (u29a 1), (u11a 2), (u11a 3), (u11a 4)] : List Int).getD k 0), (fun _ _ => 0)) ⟨w37, rfl, by omega, (by show 0 ≤ (u29a 0) ∧ (u29a 0) ≤ 3 ∧ (-2147483648) ≤ (u29a 1) ∧ (u29a 1) ≤ 2147483647 ∧ 0 ≤ (u11a 2) ∧ (u11a 2) ≤ 4 ∧ 0 ≤ (u11a 3) ∧ (u11a 3) ≤ 1400 ∧ 0 ≤ (u11a 4) ∧ (u11a 4) ≤ 1400; omega), trivial⟩ [2, 0, 1] (by decide) rfl dX3_takeNewMember_38
theorem wd_610 : Cond.code ⟨"FootNotes$Reader", "takeNewMember", "(II)I"⟩ prog_5_method_7_code 5 (Option.some Jvm.ClassFile.FieldType.int) ∈ fn_big := fn_tb (fn_l3 (List.mem_of_getElem? (i := 130) (by decide +kernel))) (by decide +kernel)
theorem wd_607 : Cond.methodLink "FootNotes$Reader" 79 ⟨"FootNotes$Reader", "takeNewMember", "(II)I"⟩ ∈ fn_big := fn_tb (fn_l3 (List.mem_of_getElem? (i := 127) (by decide +kernel))) (by decide +kernel)
theorem wd_609 : Cond.instanceMethod ⟨"FootNotes$Reader", "takeNewMember", "(II)I"⟩ ∈ fn_big := fn_tb (fn_l3 (List.mem_of_getElem? (i := 129) (by decide +kernel))) (by decide +kernel)
theorem wp_16 : Cond.selects "FootNotes$Reader" ⟨"FootNotes$Reader", "takeNewMember", "(II)I"⟩ ⟨"FootNotes$Reader", "takeNewMember", "(II)I"⟩ ∈ fn_big := fn_sel (q := (⟨"FootNotes$Reader", "takeNewMember", "(II)I"⟩, 4)) 16 (by decide +kernel) (by decide +kernel)
theorem wd_596 : Cond.code ⟨"FootNotes$Reader", "readNote", "()V"⟩ prog_5_method_6_code 5 (Option.none : Option Jvm.ClassFile.FieldType) ∈ fn_big := fn_tb (fn_l3 (List.mem_of_getElem? (i := 116) (by decide +kernel))) (by decide +kernel)
theorem wd_593 : Cond.methodLink "FootNotes$Reader" 64 ⟨"FootNotes$Reader", "readNote", "()V"⟩ ∈ fn_big := fn_tb (fn_l3 (List.mem_of_getElem? (i := 113) (by decide +kernel))) (by decide +kernel)
theorem wd_595 : Cond.instanceMethod ⟨"FootNotes$Reader", "readNote", "()V"⟩ ∈ fn_big := fn_tb (fn_l3 (List.mem_of_getElem? (i := 115) (by decide +kernel))) (by decide +kernel)
theorem wp_14 : Cond.selects "FootNotes$Reader" ⟨"FootNotes$Reader", "readNote", "()V"⟩ ⟨"FootNotes$Reader", "readNote", "()V"⟩ ∈ fn_big := fn_sel (q := (⟨"FootNotes$Reader", "readNote", "()V"⟩, 4)) 14 (by decide +kernel) (by decide +kernel)
theorem wd_585 : Cond.code ⟨"FootNotes$Reader", "readBook", "()V"⟩ prog_5_method_5_code 4 (Option.none : Option Jvm.ClassFile.FieldType) ∈ fn_big := fn_tb (fn_l3 (List.mem_of_getElem? (i := 105) (by decide +kernel))) (by decide +kernel)
theorem wd_582 : Cond.methodLink "FootNotes$Reader" 59 ⟨"FootNotes$Reader", "readBook", "()V"⟩ ∈ fn_big := fn_tb (fn_l3 (List.mem_of_getElem? (i := 102) (by decide +kernel))) (by decide +kernel)
theorem wd_584 : Cond.instanceMethod ⟨"FootNotes$Reader", "readBook", "()V"⟩ ∈ fn_big := fn_tb (fn_l3 (List.mem_of_getElem? (i := 104) (by decide +kernel))) (by decide +kernel)
theorem wp_12 : Cond.selects "FootNotes$Reader" ⟨"FootNotes$Reader", "readBook", "()V"⟩ ⟨"FootNotes$Reader", "readBook", "()V"⟩ ∈ fn_big := fn_sel (q := (⟨"FootNotes$Reader", "readBook", "()V"⟩, 4)) 12 (by decide +kernel) (by decide +kernel)
theorem wd_504 : Cond.code ⟨"FootNotes$Reader", "readTown", "()V"⟩ prog_5_method_4_code 1 (Option.none : Option Jvm.ClassFile.FieldType) ∈ fn_big := fn_tb (fn_l3 (List.mem_of_getElem? (i := 24) (by decide +kernel))) (by decide +kernel)
theorem wd_501 : Cond.methodLink "FootNotes$Reader" 50 ⟨"FootNotes$Reader", "readTown", "()V"⟩ ∈ fn_big := fn_tb (fn_l3 (List.mem_of_getElem? (i := 21) (by decide +kernel))) (by decide +kernel)
theorem wd_503 : Cond.instanceMethod ⟨"FootNotes$Reader", "readTown", "()V"⟩ ∈ fn_big := fn_tb (fn_l3 (List.mem_of_getElem? (i := 23) (by decide +kernel))) (by decide +kernel)
theorem wp_6 : Cond.selects "FootNotes$Reader" ⟨"FootNotes$Reader", "readTown", "()V"⟩ ⟨"FootNotes$Reader", "readTown", "()V"⟩ ∈ fn_big := fn_sel (q := (⟨"FootNotes$Reader", "readTown", "()V"⟩, 4)) 6 (by decide +kernel) (by decide +kernel)
theorem dX3_readLine_0 : decode cX3_readLine 0 = .ok (.aload_n 0, 1) := by decide +kernel
theorem dX3_readLine_1 : decode cX3_readLine 1 = .ok (.getfield 21, 3) := by decide +kernel
theorem dX3_readLine_4 : decode cX3_readLine 4 = .ok (.getfield 47, 3) := by decide +kernel
theorem dX3_readLine_7 : decode cX3_readLine 7 = .ok (.ifCond .ne 10, 3) := by decide +kernel
theorem dX3_readLine_17 : decode cX3_readLine 17 = .ok (.aload_n 0, 1) := by decide +kernel
theorem dX3_readLine_18 : decode cX3_readLine 18 = .ok (.getfield 12, 3) := by decide +kernel
theorem dX3_readLine_21 : decode cX3_readLine 21 = .ok (.ldc 53, 2) := by decide +kernel
theorem dX3_readLine_23 : decode cX3_readLine 23 = .ok (.invokevirtual 55, 3) := by decide +kernel
theorem dX3_readLine_26 : decode cX3_readLine 26 = .ok (.ifCond .eq 10, 3) := by decide +kernel
theorem dX3_readLine_36 : decode cX3_readLine 36 = .ok (.aload_n 0, 1) := by decide +kernel
theorem dX3_readLine_37 : decode cX3_readLine 37 = .ok (.getfield 12, 3) := by decide +kernel
theorem dX3_readLine_40 : decode cX3_readLine 40 = .ok (.ldc 62, 2) := by decide +kernel
theorem dX3_readLine_42 : decode cX3_readLine 42 = .ok (.invokevirtual 55, 3) := by decide +kernel
theorem dX3_readLine_45 : decode cX3_readLine 45 = .ok (.ifCond .eq 10, 3) := by decide +kernel
theorem dX3_readLine_55 : decode cX3_readLine 55 = .ok (.aload_n 0, 1) := by decide +kernel
theorem dX3_readLine_56 : decode cX3_readLine 56 = .ok (.getfield 12, 3) := by decide +kernel
theorem dX3_readLine_59 : decode cX3_readLine 59 = .ok (.ldc 67, 2) := by decide +kernel
theorem dX3_readLine_61 : decode cX3_readLine 61 = .ok (.invokevirtual 55, 3) := by decide +kernel
theorem dX3_readLine_64 : decode cX3_readLine 64 = .ok (.ifCond .eq 39, 3) := by decide +kernel
theorem dX3_readLine_103 : decode cX3_readLine 103 = .ok (.aload_n 0, 1) := by decide +kernel
theorem dX3_readLine_104 : decode cX3_readLine 104 = .ok (.getfield 12, 3) := by decide +kernel
theorem dX3_readLine_107 : decode cX3_readLine 107 = .ok (.ldc 83, 2) := by decide +kernel
theorem dX3_readLine_109 : decode cX3_readLine 109 = .ok (.invokevirtual 55, 3) := by decide +kernel
theorem dX3_readLine_112 : decode cX3_readLine 112 = .ok (.ifCond .eq 31, 3) := by decide +kernel
theorem dX3_readLine_143 : decode cX3_readLine 143 = .ok (.aload_n 0, 1) := by decide +kernel
theorem dX3_readLine_144 : decode cX3_readLine 144 = .ok (.iconst 1, 1) := by decide +kernel
theorem dX3_readLine_145 : decode cX3_readLine 145 = .ok (.aload_n 0, 1) := by decide +kernel
theorem dX3_readLine_146 : decode cX3_readLine 146 = .ok (.getfield 12, 3) := by decide +kernel
theorem dX3_readLine_149 : decode cX3_readLine 149 = .ok (.getfield 87, 3) := by decide +kernel
theorem dX3_readLine_152 : decode cX3_readLine 152 = .ok (.invokevirtual 90, 3) := by decide +kernel
theorem dX3_readLine_155 : decode cX3_readLine 155 = .ok (.return_, 1) := by decide +kernel
theorem dX3_readLine_115 : decode cX3_readLine 115 = .ok (.aload_n 0, 1) := by decide +kernel
theorem dX3_readLine_116 : decode cX3_readLine 116 = .ok (.ldc 83, 2) := by decide +kernel
theorem dX3_readLine_118 : decode cX3_readLine 118 = .ok (.invokevirtual 69, 3) := by decide +kernel
theorem dX3_readLine_121 : decode cX3_readLine 121 = .ok (.aload_n 0, 1) := by decide +kernel
theorem dX3_readLine_122 : decode cX3_readLine 122 = .ok (.getfield 21, 3) := by decide +kernel
theorem dX3_readLine_125 : decode cX3_readLine 125 = .ok (.aload_n 0, 1) := by decide +kernel
theorem dX3_readLine_126 : decode cX3_readLine 126 = .ok (.aload_n 0, 1) := by decide +kernel
theorem dX3_readLine_127 : decode cX3_readLine 127 = .ok (.getfield 21, 3) := by decide +kernel
theorem dX3_readLine_130 : decode cX3_readLine 130 = .ok (.getfield 85, 3) := by decide +kernel
theorem dX3_readLine_133 : decode cX3_readLine 133 = .ok (.iconst 4, 1) := by decide +kernel
theorem dX3_readLine_134 : decode cX3_readLine 134 = .ok (.invokevirtual 79, 3) := by decide +kernel
theorem dX3_readLine_137 : decode cX3_readLine 137 = .ok (.putfield 85, 3) := by decide +kernel
theorem dX3_readLine_140 : decode cX3_readLine 140 = .ok (.goto 15, 3) := by decide +kernel
theorem dX3_readLine_67 : decode cX3_readLine 67 = .ok (.aload_n 0, 1) := by decide +kernel
theorem dX3_readLine_68 : decode cX3_readLine 68 = .ok (.ldc 67, 2) := by decide +kernel
theorem dX3_readLine_70 : decode cX3_readLine 70 = .ok (.invokevirtual 69, 3) := by decide +kernel
theorem dX3_readLine_73 : decode cX3_readLine 73 = .ok (.aload_n 0, 1) := by decide +kernel
theorem dX3_readLine_74 : decode cX3_readLine 74 = .ok (.getfield 21, 3) := by decide +kernel
theorem dX3_readLine_77 : decode cX3_readLine 77 = .ok (.aload_n 0, 1) := by decide +kernel
theorem dX3_readLine_78 : decode cX3_readLine 78 = .ok (.aload_n 0, 1) := by decide +kernel
theorem dX3_readLine_79 : decode cX3_readLine 79 = .ok (.getfield 21, 3) := by decide +kernel
theorem dX3_readLine_82 : decode cX3_readLine 82 = .ok (.getfield 73, 3) := by decide +kernel
theorem dX3_readLine_85 : decode cX3_readLine 85 = .ok (.aload_n 0, 1) := by decide +kernel
theorem dX3_readLine_86 : decode cX3_readLine 86 = .ok (.getfield 21, 3) := by decide +kernel
theorem dX3_readLine_89 : decode cX3_readLine 89 = .ok (.getfield 76, 3) := by decide +kernel
theorem dX3_readLine_92 : decode cX3_readLine 92 = .ok (.iconst 1, 1) := by decide +kernel
theorem dX3_readLine_93 : decode cX3_readLine 93 = .ok (.isub, 1) := by decide +kernel
theorem dX3_readLine_94 : decode cX3_readLine 94 = .ok (.invokevirtual 79, 3) := by decide +kernel
theorem dX3_readLine_97 : decode cX3_readLine 97 = .ok (.putfield 73, 3) := by decide +kernel
theorem dX3_readLine_100 : decode cX3_readLine 100 = .ok (.goto 55, 3) := by decide +kernel
theorem dX3_readLine_48 : decode cX3_readLine 48 = .ok (.aload_n 0, 1) := by decide +kernel
theorem dX3_readLine_49 : decode cX3_readLine 49 = .ok (.invokevirtual 64, 3) := by decide +kernel
theorem dX3_readLine_52 : decode cX3_readLine 52 = .ok (.goto 103, 3) := by decide +kernel
theorem dX3_readLine_29 : decode cX3_readLine 29 = .ok (.aload_n 0, 1) := by decide +kernel
theorem dX3_readLine_30 : decode cX3_readLine 30 = .ok (.invokevirtual 59, 3) := by decide +kernel
theorem dX3_readLine_33 : decode cX3_readLine 33 = .ok (.goto 122, 3) := by decide +kernel
theorem dX3_readLine_10 : decode cX3_readLine 10 = .ok (.aload_n 0, 1) := by decide +kernel
theorem dX3_readLine_11 : decode cX3_readLine 11 = .ok (.invokevirtual 50, 3) := by decide +kernel
theorem dX3_readLine_14 : decode cX3_readLine 14 = .ok (.goto 141, 3) := by decide +kernel
set_option maxHeartbeats 4000000 in
set_option maxRecDepth 100000 in
theorem k_X3_readLine (l : Launch) (D : va_G) (K : Nat → ClassId) (adK adV : Nat → Nat) (t : Nat) (t_q t_1_q t_0_q : Nat → Nat) (t_x2 t_x3 t_1_x0 t_1_x1 t_1_x2 t_1_x3 t_1_x4 t_1_x5 t_1_x6 t_1_x7 t_1_x8 t_0_x0 t_0_x2 t_0_x3 t_0_x4 : Int) (t_0_1_c : Nat → Int) (t_1_12_c : Nat → Int) (t_1_13_c : Nat → Int) (t_1_14_c : Nat → Int) (t_1_9_c : Nat → Int) (t_1_10_c : Nat → Int) (t_1_11_c : Nat → Int) (hi_t : bX3 t_x2 t_x3) (hi_t_1 : bX7 t_1_x0 t_1_x1 t_1_x2 t_1_x3 t_1_x4 t_1_x5 t_1_x6 t_1_x7 t_1_x8) (hi_t_0 : bX6 t_0_x0 t_0_x2 t_0_x3 t_0_x4) (hc_t_0_1 : ∀ j : Nat, (-128) ≤ t_0_1_c j ∧ t_0_1_c j ≤ 127) (hc_t_1_12 : ∀ j : Nat, 0 ≤ t_1_12_c j ∧ t_1_12_c j ≤ 11) (hc_t_1_13 : ∀ j : Nat, 0 ≤ t_1_13_c j ∧ t_1_13_c j ≤ 4) (hc_t_1_14 : ∀ j : Nat, 0 ≤ t_1_14_c j ∧ t_1_14_c j ≤ 29) (hc_t_1_9 : ∀ j : Nat, 0 ≤ t_1_9_c j ∧ t_1_9_c j ≤ 4) (hc_t_1_10 : ∀ j : Nat, 0 ≤ t_1_10_c j ∧ t_1_10_c j ≤ 12) (hc_t_1_11 : ∀ j : Nat, 0 ≤ t_1_11_c j ∧ t_1_11_c j ≤ 4) : fn_CVO adK adV (S := (Nat → Int) × (Nat → Nat → Int)) l D K yX3_readLine (fn_ws yX3_readLine cX3_readLine 1 none) ({ frames := 36, cells := 0, slots := 0, locals := 900 } : Room) [.ref t] [(t, .inr (3, oX3 t_q t_x2 t_x3)), ((t_q 1), .inr (7, oX7 t_1_q t_1_x0 t_1_x1 t_1_x2 t_1_x3 t_1_x4 t_1_x5 t_1_x6 t_1_x7 t_1_x8)), ((t_q 0), .inr (6, oX6 t_0_q t_0_x0 t_0_x2 t_0_x3 t_0_x4)), ((t_0_q 1), .inl (K 1, 1400, .inl (fun j => iI (t_0_1_c j)))), ((t_1_q 12), .inl (K 0, 24, .inl (fun j => iI (t_1_12_c j)))), ((t_1_q 13), .inl (K 0, 24, .inl (fun j => iI (t_1_13_c j)))), ((t_1_q 14), .inl (K 0, 24, .inl (fun j => iI (t_1_14_c j)))), ((t_1_q 9), .inl (K 0, 5, .inl (fun j => iI (t_1_9_c j)))), ((t_1_q 10), .inl (K 0, 6, .inl (fun j => iI (t_1_10_c j)))), ((t_1_q 11), .inl (K 0, 12, .inl (fun j => iI (t_1_11_c j))))] (fun u => (0 ≤ (u.1 0) ∧ (u.1 0) ≤ 3 ∧ (-2147483648) ≤ (u.1 1) ∧ (u.1 1) ≤ 2147483647 ∧ 0 ≤ (u.1 2) ∧ (u.1 2) ≤ 4 ∧ 0 ≤ (u.1 3) ∧ (u.1 3) ≤ 1400 ∧ 0 ≤ (u.1 4) ∧ (u.1 4) ≤ 1400 ∧ 0 ≤ (u.1 5) ∧ (u.1 5) ≤ 20 ∧ 0 ≤ (u.1 6) ∧ (u.1 6) ≤ 100 ∧ 0 ≤ (u.1 7) ∧ (u.1 7) ≤ 5 ∧ 0 ≤ (u.1 8) ∧ (u.1 8) ≤ 12 ∧ 0 ≤ (u.1 9) ∧ (u.1 9) ≤ 24 ∧ 0 ≤ (u.1 10) ∧ (u.1 10) ≤ 4095 ∧ 0 ≤ (u.1 11) ∧ (u.1 11) ≤ 31 ∧ (-2147483648) ≤ (u.1 12) ∧ (u.1 12) ≤ 2147483647) ∧ (∀ j : Nat, 0 ≤ (u.2 0) j ∧ (u.2 0) j ≤ 12) ∧ (∀ j : Nat, 0 ≤ (u.2 1) j ∧ (u.2 1) j ≤ 4) ∧ (∀ j : Nat, 0 ≤ (u.2 2) j ∧ (u.2 2) j ≤ 11) ∧ (∀ j : Nat, 0 ≤ (u.2 3) j ∧ (u.2 3) j ≤ 4) ∧ (∀ j : Nat, 0 ≤ (u.2 4) j ∧ (u.2 4) j ≤ 29) ∧ (∀ j : Nat, 0 ≤ (u.2 5) j ∧ (u.2 5) j ≤ 4) ∧ True) (fun u => [(t, .inr (3, oX3 t_q (u.1 0) (u.1 1))), ((t_q 1), .inr (7, oX7 t_1_q t_1_x0 (u.1 5) (u.1 6) (u.1 7) (u.1 8) (u.1 9) (u.1 10) (u.1 11) (u.1 12))), ((t_q 0), .inr (6, oX6 t_0_q t_0_x0 (u.1 2) (u.1 3) (u.1 4))), ((t_0_q 1), .inl (K 1, 1400, .inl (fun j => iI (t_0_1_c j)))), ((t_1_q 12), .inl (K 0, 24, .inl (fun j => iI ((u.2 2) j)))), ((t_1_q 13), .inl (K 0, 24, .inl (fun j => iI ((u.2 3) j)))), ((t_1_q 14), .inl (K 0, 24, .inl (fun j => iI ((u.2 4) j)))), ((t_1_q 9), .inl (K 0, 5, .inl (fun j => iI ((u.2 5) j)))), ((t_1_q 10), .inl (K 0, 6, .inl (fun j => iI ((u.2 0) j)))), ((t_1_q 11), .inl (K 0, 12, .inl (fun j => iI ((u.2 1) j))))]) 0 0 := by
  refine g_inVO (cc := cX3_readLine) (maxL := 1) (ret := none) (by decide) rfl (Nat.le_of_ble_eq_true rfl) ?_
  intro p e s m below meth c A ls ag Q B hO hA hP hD hS hl hQ
  obtain ⟨hx, hb, hr, hml, hts, hown, hlocks, hin, hK⟩ := B
  have hown : s.vm.findClass RX3 = some m.cls := hown
  have hts := fun w h => hts w (List.mem_cons_of_mem _ h)
  have hl : lv_has ls 1 [(0, .ref t)] := hl
  refine lv_aload_n hx hb dX3_readLine_0 rfl (lv_at hl 0 rfl) ?_
  refine va_get (D := D) (own := RX3) (ci := 3) (v := .ref (t_q 1)) (C := RX3) (T := TX3) (N := 4) hx hb hts inb_X3 hown hK.1 hP 0 rfl rfl 1 (by decide) (hts _ wd_161) (fun _ h9 => h9) rfl dX3_readLine_1 ?_
  refine va_getN (D := D) (own := RX3) (ci := 7) (v := .int (iI t_1_x0)) (C := RX7) (T := TX7) (N := 15) hx hb hts inb_X7 hown hK.1 hP 1 rfl rfl 0 (by decide) (hK.nf 6 rfl) (fun _ h9 => h9) rfl dX3_readLine_4 ?_
  have y4_1 : 0 ≤ t_1_x0 ∧ t_1_x0 ≤ 1400 := hi_t_1.1
  refine g_if_ne (tgt := 17) hx hb (by omega) dX3_readLine_7 (by decide) (fun c7 => ?_) (fun c7 => ?_)
  · refine lv_aload_n hx hb dX3_readLine_17 rfl (lv_at hl 0 rfl) ?_
    refine va_get (D := D) (own := RX3) (ci := 3) (v := .ref (t_q 0)) (C := RX3) (T := TX3) (N := 4) hx hb hts inb_X3 hown hK.1 hP 0 rfl rfl 0 (by decide) (hts _ wd_159) (fun _ h9 => h9) rfl dX3_readLine_18 ?_
    refine va_ldcS (own := RX3) (tx := "book") (q := adK 3) hx hb hown (hO.2.2.2 3 (53, "book") rfl) dX3_readLine_21 ?_
    refine fn_goiO (wc := [((t_q 0), .inr (6, oX6 t_0_q t_0_x0 t_0_x2 t_0_x3 t_0_x4)), ((t_0_q 1), .inl (K 1, 1400, .inl (fun j => iI (t_0_1_c j))))]) (wr := [(t, .inr (3, oX3 t_q t_x2 t_x3)), ((t_q 1), .inr (7, oX7 t_1_q t_1_x0 t_1_x1 t_1_x2 t_1_x3 t_1_x4 t_1_x5 t_1_x6 t_1_x7 t_1_x8)), ((t_1_q 12), .inl (K 0, 24, .inl (fun j => iI (t_1_12_c j)))), ((t_1_q 13), .inl (K 0, 24, .inl (fun j => iI (t_1_13_c j)))), ((t_1_q 14), .inl (K 0, 24, .inl (fun j => iI (t_1_14_c j)))), ((t_1_q 9), .inl (K 0, 5, .inl (fun j => iI (t_1_9_c j)))), ((t_1_q 10), .inl (K 0, 6, .inl (fun j => iI (t_1_10_c j)))), ((t_1_q 11), .inl (K 0, 12, .inl (fun j => iI (t_1_11_c j))))]) hO hK hP hD hS hA [2, 3] [0, 1, 4, 5, 6, 7, 8, 9] rfl rfl (by decide) (fun hp => va_runVN (C := RX6) (As := [.ref (adK 3)]) (rest := []) ⟨hx, hb, hml, hown, hts⟩ (k_X6_isWord (l := l) (D := D) (K := K) (adK := adK) (adV := adV) (t := (t_q 0)) (s1 := 3) (t_q := t_0_q) (t_x0 := t_0_x0) (t_x2 := t_0_x2) (t_x3 := t_0_x3) (t_x4 := t_0_x4) (t_1_c := t_0_1_c) (hs1 := (by decide)) (hi_t := hi_t_0) (hc_t_1 := hc_t_0_1) _) ⟨va_cnB (own := RX3) 1 hts (fn_gin wd_513) rfl rfl rfl (hK.nw 97 rfl) (hts _ wd_3) (by decide +kernel) ⟨Nat.le_of_ble_eq_true rfl, Nat.le_of_ble_eq_true rfl⟩, hts _ wd_512, hts _ wp_8⟩ ⟨fn_blindO, va_recv hK.1 hP (ci := 6) (q0 := 2) rfl rfl, hp⟩ rfl rfl hl.1 rfl (lv_room (Nat.le_of_ble_eq_true rfl)) dX3_readLine_23 ⟨Nat.le_of_ble_eq_true rfl, Nat.le_of_ble_eq_true rfl⟩) (fun r23 u23 H locs hwu23 hP hD hS => ?_)
    obtain ⟨u23a, u23b⟩ := u23
    obtain ⟨kr23, rfl, hkr23, -⟩ := hwu23
    have hP : va_P D vwCl [(t, .inr (3, oX3 t_q t_x2 t_x3)), ((t_q 1), .inr (7, oX7 t_1_q t_1_x0 t_1_x1 t_1_x2 t_1_x3 t_1_x4 t_1_x5 t_1_x6 t_1_x7 t_1_x8)), ((t_1_q 12), .inl (K 0, 24, .inl (fun j => iI (t_1_12_c j)))), ((t_1_q 13), .inl (K 0, 24, .inl (fun j => iI (t_1_13_c j)))), ((t_1_q 14), .inl (K 0, 24, .inl (fun j => iI (t_1_14_c j)))), ((t_1_q 9), .inl (K 0, 5, .inl (fun j => iI (t_1_9_c j)))), ((t_1_q 10), .inl (K 0, 6, .inl (fun j => iI (t_1_10_c j)))), ((t_1_q 11), .inl (K 0, 12, .inl (fun j => iI (t_1_11_c j)))), ((t_q 0), .inr (6, oX6 t_0_q t_0_x0 t_0_x2 t_0_x3 t_0_x4)), ((t_0_q 1), .inl (K 1, 1400, .inl (fun j => iI (t_0_1_c j))))] H := hP
    have hD : va_D A [(t, .inr (3, oX3 t_q t_x2 t_x3)), ((t_q 1), .inr (7, oX7 t_1_q t_1_x0 t_1_x1 t_1_x2 t_1_x3 t_1_x4 t_1_x5 t_1_x6 t_1_x7 t_1_x8)), ((t_1_q 12), .inl (K 0, 24, .inl (fun j => iI (t_1_12_c j)))), ((t_1_q 13), .inl (K 0, 24, .inl (fun j => iI (t_1_13_c j)))), ((t_1_q 14), .inl (K 0, 24, .inl (fun j => iI (t_1_14_c j)))), ((t_1_q 9), .inl (K 0, 5, .inl (fun j => iI (t_1_9_c j)))), ((t_1_q 10), .inl (K 0, 6, .inl (fun j => iI (t_1_10_c j)))), ((t_1_q 11), .inl (K 0, 12, .inl (fun j => iI (t_1_11_c j)))), ((t_q 0), .inr (6, oX6 t_0_q t_0_x0 t_0_x2 t_0_x3 t_0_x4)), ((t_0_q 1), .inl (K 1, 1400, .inl (fun j => iI (t_0_1_c j))))] := hD
    refine g_if_eq (tgt := 36) hx hb (by omega) dX3_readLine_26 (by decide) (fun c26 => ?_) (fun c26 => ?_)
    · refine lv_aload_n hx hb dX3_readLine_36 rfl (lv_at hl 0 rfl) ?_
      refine va_get (D := D) (own := RX3) (ci := 3) (v := .ref (t_q 0)) (C := RX3) (T := TX3) (N := 4) hx hb hts inb_X3 hown hK.1 hP 0 rfl rfl 0 (by decide) (hts _ wd_159) (fun _ h9 => h9) rfl dX3_readLine_37 ?_
      refine va_ldcS (own := RX3) (tx := "note") (q := adK 6) hx hb hown (hO.2.2.2 6 (62, "note") rfl) dX3_readLine_40 ?_
      refine fn_goiO (wc := [((t_q 0), .inr (6, oX6 t_0_q t_0_x0 t_0_x2 t_0_x3 t_0_x4)), ((t_0_q 1), .inl (K 1, 1400, .inl (fun j => iI (t_0_1_c j))))]) (wr := [(t, .inr (3, oX3 t_q t_x2 t_x3)), ((t_q 1), .inr (7, oX7 t_1_q t_1_x0 t_1_x1 t_1_x2 t_1_x3 t_1_x4 t_1_x5 t_1_x6 t_1_x7 t_1_x8)), ((t_1_q 12), .inl (K 0, 24, .inl (fun j => iI (t_1_12_c j)))), ((t_1_q 13), .inl (K 0, 24, .inl (fun j => iI (t_1_13_c j)))), ((t_1_q 14), .inl (K 0, 24, .inl (fun j => iI (t_1_14_c j)))), ((t_1_q 9), .inl (K 0, 5, .inl (fun j => iI (t_1_9_c j)))), ((t_1_q 10), .inl (K 0, 6, .inl (fun j => iI (t_1_10_c j)))), ((t_1_q 11), .inl (K 0, 12, .inl (fun j => iI (t_1_11_c j))))]) hO hK hP hD hS hA [8, 9] [0, 1, 2, 3, 4, 5, 6, 7] rfl rfl (by decide) (fun hp => va_runVN (C := RX6) (As := [.ref (adK 6)]) (rest := []) ⟨hx, hb, hml, hown, hts⟩ (k_X6_isWord (l := l) (D := D) (K := K) (adK := adK) (adV := adV) (t := (t_q 0)) (s1 := 6) (t_q := t_0_q) (t_x0 := t_0_x0) (t_x2 := t_0_x2) (t_x3 := t_0_x3) (t_x4 := t_0_x4) (t_1_c := t_0_1_c) (hs1 := (by decide)) (hi_t := hi_t_0) (hc_t_1 := hc_t_0_1) _) ⟨va_cnB (own := RX3) 1 hts (fn_gin wd_513) rfl rfl rfl (hK.nw 97 rfl) (hts _ wd_3) (by decide +kernel) ⟨Nat.le_of_ble_eq_true rfl, Nat.le_of_ble_eq_true rfl⟩, hts _ wd_512, hts _ wp_8⟩ ⟨fn_blindO, va_recv hK.1 hP (ci := 6) (q0 := 8) rfl rfl, hp⟩ rfl rfl hl.1 rfl (lv_room (Nat.le_of_ble_eq_true rfl)) dX3_readLine_42 ⟨Nat.le_of_ble_eq_true rfl, Nat.le_of_ble_eq_true rfl⟩) (fun r42 u42 H locs hwu42 hP hD hS => ?_)
      obtain ⟨u42a, u42b⟩ := u42
      obtain ⟨kr42, rfl, hkr42, -⟩ := hwu42
      have hP : va_P D vwCl [(t, .inr (3, oX3 t_q t_x2 t_x3)), ((t_q 1), .inr (7, oX7 t_1_q t_1_x0 t_1_x1 t_1_x2 t_1_x3 t_1_x4 t_1_x5 t_1_x6 t_1_x7 t_1_x8)), ((t_1_q 12), .inl (K 0, 24, .inl (fun j => iI (t_1_12_c j)))), ((t_1_q 13), .inl (K 0, 24, .inl (fun j => iI (t_1_13_c j)))), ((t_1_q 14), .inl (K 0, 24, .inl (fun j => iI (t_1_14_c j)))), ((t_1_q 9), .inl (K 0, 5, .inl (fun j => iI (t_1_9_c j)))), ((t_1_q 10), .inl (K 0, 6, .inl (fun j => iI (t_1_10_c j)))), ((t_1_q 11), .inl (K 0, 12, .inl (fun j => iI (t_1_11_c j)))), ((t_q 0), .inr (6, oX6 t_0_q t_0_x0 t_0_x2 t_0_x3 t_0_x4)), ((t_0_q 1), .inl (K 1, 1400, .inl (fun j => iI (t_0_1_c j))))] H := hP
      have hD : va_D A [(t, .inr (3, oX3 t_q t_x2 t_x3)), ((t_q 1), .inr (7, oX7 t_1_q t_1_x0 t_1_x1 t_1_x2 t_1_x3 t_1_x4 t_1_x5 t_1_x6 t_1_x7 t_1_x8)), ((t_1_q 12), .inl (K 0, 24, .inl (fun j => iI (t_1_12_c j)))), ((t_1_q 13), .inl (K 0, 24, .inl (fun j => iI (t_1_13_c j)))), ((t_1_q 14), .inl (K 0, 24, .inl (fun j => iI (t_1_14_c j)))), ((t_1_q 9), .inl (K 0, 5, .inl (fun j => iI (t_1_9_c j)))), ((t_1_q 10), .inl (K 0, 6, .inl (fun j => iI (t_1_10_c j)))), ((t_1_q 11), .inl (K 0, 12, .inl (fun j => iI (t_1_11_c j)))), ((t_q 0), .inr (6, oX6 t_0_q t_0_x0 t_0_x2 t_0_x3 t_0_x4)), ((t_0_q 1), .inl (K 1, 1400, .inl (fun j => iI (t_0_1_c j))))] := hD
      refine g_if_eq (tgt := 55) hx hb (by omega) dX3_readLine_45 (by decide) (fun c45 => ?_) (fun c45 => ?_)
      · refine lv_aload_n hx hb dX3_readLine_55 rfl (lv_at hl 0 rfl) ?_
        refine va_get (D := D) (own := RX3) (ci := 3) (v := .ref (t_q 0)) (C := RX3) (T := TX3) (N := 4) hx hb hts inb_X3 hown hK.1 hP 0 rfl rfl 0 (by decide) (hts _ wd_159) (fun _ h9 => h9) rfl dX3_readLine_56 ?_
        refine va_ldcS (own := RX3) (tx := "fact") (q := adK 9) hx hb hown (hO.2.2.2 9 (67, "fact") rfl) dX3_readLine_59 ?_
        refine fn_goiO (wc := [((t_q 0), .inr (6, oX6 t_0_q t_0_x0 t_0_x2 t_0_x3 t_0_x4)), ((t_0_q 1), .inl (K 1, 1400, .inl (fun j => iI (t_0_1_c j))))]) (wr := [(t, .inr (3, oX3 t_q t_x2 t_x3)), ((t_q 1), .inr (7, oX7 t_1_q t_1_x0 t_1_x1 t_1_x2 t_1_x3 t_1_x4 t_1_x5 t_1_x6 t_1_x7 t_1_x8)), ((t_1_q 12), .inl (K 0, 24, .inl (fun j => iI (t_1_12_c j)))), ((t_1_q 13), .inl (K 0, 24, .inl (fun j => iI (t_1_13_c j)))), ((t_1_q 14), .inl (K 0, 24, .inl (fun j => iI (t_1_14_c j)))), ((t_1_q 9), .inl (K 0, 5, .inl (fun j => iI (t_1_9_c j)))), ((t_1_q 10), .inl (K 0, 6, .inl (fun j => iI (t_1_10_c j)))), ((t_1_q 11), .inl (K 0, 12, .inl (fun j => iI (t_1_11_c j))))]) hO hK hP hD hS hA [8, 9] [0, 1, 2, 3, 4, 5, 6, 7] rfl rfl (by decide) (fun hp => va_runVN (C := RX6) (As := [.ref (adK 9)]) (rest := []) ⟨hx, hb, hml, hown, hts⟩ (k_X6_isWord (l := l) (D := D) (K := K) (adK := adK) (adV := adV) (t := (t_q 0)) (s1 := 9) (t_q := t_0_q) (t_x0 := t_0_x0) (t_x2 := t_0_x2) (t_x3 := t_0_x3) (t_x4 := t_0_x4) (t_1_c := t_0_1_c) (hs1 := (by decide)) (hi_t := hi_t_0) (hc_t_1 := hc_t_0_1) _) ⟨va_cnB (own := RX3) 1 hts (fn_gin wd_513) rfl rfl rfl (hK.nw 97 rfl) (hts _ wd_3) (by decide +kernel) ⟨Nat.le_of_ble_eq_true rfl, Nat.le_of_ble_eq_true rfl⟩, hts _ wd_512, hts _ wp_8⟩ ⟨fn_blindO, va_recv hK.1 hP (ci := 6) (q0 := 8) rfl rfl, hp⟩ rfl rfl hl.1 rfl (lv_room (Nat.le_of_ble_eq_true rfl)) dX3_readLine_61 ⟨Nat.le_of_ble_eq_true rfl, Nat.le_of_ble_eq_true rfl⟩) (fun r61 u61 H locs hwu61 hP hD hS => ?_)
        obtain ⟨u61a, u61b⟩ := u61
        obtain ⟨kr61, rfl, hkr61, -⟩ := hwu61
        have hP : va_P D vwCl [(t, .inr (3, oX3 t_q t_x2 t_x3)), ((t_q 1), .inr (7, oX7 t_1_q t_1_x0 t_1_x1 t_1_x2 t_1_x3 t_1_x4 t_1_x5 t_1_x6 t_1_x7 t_1_x8)), ((t_1_q 12), .inl (K 0, 24, .inl (fun j => iI (t_1_12_c j)))), ((t_1_q 13), .inl (K 0, 24, .inl (fun j => iI (t_1_13_c j)))), ((t_1_q 14), .inl (K 0, 24, .inl (fun j => iI (t_1_14_c j)))), ((t_1_q 9), .inl (K 0, 5, .inl (fun j => iI (t_1_9_c j)))), ((t_1_q 10), .inl (K 0, 6, .inl (fun j => iI (t_1_10_c j)))), ((t_1_q 11), .inl (K 0, 12, .inl (fun j => iI (t_1_11_c j)))), ((t_q 0), .inr (6, oX6 t_0_q t_0_x0 t_0_x2 t_0_x3 t_0_x4)), ((t_0_q 1), .inl (K 1, 1400, .inl (fun j => iI (t_0_1_c j))))] H := hP
        have hD : va_D A [(t, .inr (3, oX3 t_q t_x2 t_x3)), ((t_q 1), .inr (7, oX7 t_1_q t_1_x0 t_1_x1 t_1_x2 t_1_x3 t_1_x4 t_1_x5 t_1_x6 t_1_x7 t_1_x8)), ((t_1_q 12), .inl (K 0, 24, .inl (fun j => iI (t_1_12_c j)))), ((t_1_q 13), .inl (K 0, 24, .inl (fun j => iI (t_1_13_c j)))), ((t_1_q 14), .inl (K 0, 24, .inl (fun j => iI (t_1_14_c j)))), ((t_1_q 9), .inl (K 0, 5, .inl (fun j => iI (t_1_9_c j)))), ((t_1_q 10), .inl (K 0, 6, .inl (fun j => iI (t_1_10_c j)))), ((t_1_q 11), .inl (K 0, 12, .inl (fun j => iI (t_1_11_c j)))), ((t_q 0), .inr (6, oX6 t_0_q t_0_x0 t_0_x2 t_0_x3 t_0_x4)), ((t_0_q 1), .inl (K 1, 1400, .inl (fun j => iI (t_0_1_c j))))] := hD
        refine g_if_eq (tgt := 103) hx hb (by omega) dX3_readLine_64 (by decide) (fun c64 => ?_) (fun c64 => ?_)
        · refine fn_at 103 rfl ?_
          refine lv_aload_n hx hb dX3_readLine_103 rfl (lv_at hl 0 rfl) ?_
          refine va_get (D := D) (own := RX3) (ci := 3) (v := .ref (t_q 0)) (C := RX3) (T := TX3) (N := 4) hx hb hts inb_X3 hown hK.1 hP 0 rfl rfl 0 (by decide) (hts _ wd_159) (fun _ h9 => h9) rfl dX3_readLine_104 ?_
          refine va_ldcS (own := RX3) (tx := "dead") (q := adK 10) hx hb hown (hO.2.2.2 10 (83, "dead") rfl) dX3_readLine_107 ?_
          refine fn_goiO (wc := [((t_q 0), .inr (6, oX6 t_0_q t_0_x0 t_0_x2 t_0_x3 t_0_x4)), ((t_0_q 1), .inl (K 1, 1400, .inl (fun j => iI (t_0_1_c j))))]) (wr := [(t, .inr (3, oX3 t_q t_x2 t_x3)), ((t_q 1), .inr (7, oX7 t_1_q t_1_x0 t_1_x1 t_1_x2 t_1_x3 t_1_x4 t_1_x5 t_1_x6 t_1_x7 t_1_x8)), ((t_1_q 12), .inl (K 0, 24, .inl (fun j => iI (t_1_12_c j)))), ((t_1_q 13), .inl (K 0, 24, .inl (fun j => iI (t_1_13_c j)))), ((t_1_q 14), .inl (K 0, 24, .inl (fun j => iI (t_1_14_c j)))), ((t_1_q 9), .inl (K 0, 5, .inl (fun j => iI (t_1_9_c j)))), ((t_1_q 10), .inl (K 0, 6, .inl (fun j => iI (t_1_10_c j)))), ((t_1_q 11), .inl (K 0, 12, .inl (fun j => iI (t_1_11_c j))))]) hO hK hP hD hS hA [8, 9] [0, 1, 2, 3, 4, 5, 6, 7] rfl rfl (by decide) (fun hp => va_runVN (C := RX6) (As := [.ref (adK 10)]) (rest := []) ⟨hx, hb, hml, hown, hts⟩ (k_X6_isWord (l := l) (D := D) (K := K) (adK := adK) (adV := adV) (t := (t_q 0)) (s1 := 10) (t_q := t_0_q) (t_x0 := t_0_x0) (t_x2 := t_0_x2) (t_x3 := t_0_x3) (t_x4 := t_0_x4) (t_1_c := t_0_1_c) (hs1 := (by decide)) (hi_t := hi_t_0) (hc_t_1 := hc_t_0_1) _) ⟨va_cnB (own := RX3) 1 hts (fn_gin wd_513) rfl rfl rfl (hK.nw 97 rfl) (hts _ wd_3) (by decide +kernel) ⟨Nat.le_of_ble_eq_true rfl, Nat.le_of_ble_eq_true rfl⟩, hts _ wd_512, hts _ wp_8⟩ ⟨fn_blindO, va_recv hK.1 hP (ci := 6) (q0 := 8) rfl rfl, hp⟩ rfl rfl hl.1 rfl (lv_room (Nat.le_of_ble_eq_true rfl)) dX3_readLine_109 ⟨Nat.le_of_ble_eq_true rfl, Nat.le_of_ble_eq_true rfl⟩) (fun r109 u109 H locs hwu109 hP hD hS => ?_)
          obtain ⟨u109a, u109b⟩ := u109
          obtain ⟨kr109, rfl, hkr109, -⟩ := hwu109
          have hP : va_P D vwCl [(t, .inr (3, oX3 t_q t_x2 t_x3)), ((t_q 1), .inr (7, oX7 t_1_q t_1_x0 t_1_x1 t_1_x2 t_1_x3 t_1_x4 t_1_x5 t_1_x6 t_1_x7 t_1_x8)), ((t_1_q 12), .inl (K 0, 24, .inl (fun j => iI (t_1_12_c j)))), ((t_1_q 13), .inl (K 0, 24, .inl (fun j => iI (t_1_13_c j)))), ((t_1_q 14), .inl (K 0, 24, .inl (fun j => iI (t_1_14_c j)))), ((t_1_q 9), .inl (K 0, 5, .inl (fun j => iI (t_1_9_c j)))), ((t_1_q 10), .inl (K 0, 6, .inl (fun j => iI (t_1_10_c j)))), ((t_1_q 11), .inl (K 0, 12, .inl (fun j => iI (t_1_11_c j)))), ((t_q 0), .inr (6, oX6 t_0_q t_0_x0 t_0_x2 t_0_x3 t_0_x4)), ((t_0_q 1), .inl (K 1, 1400, .inl (fun j => iI (t_0_1_c j))))] H := hP
          have hD : va_D A [(t, .inr (3, oX3 t_q t_x2 t_x3)), ((t_q 1), .inr (7, oX7 t_1_q t_1_x0 t_1_x1 t_1_x2 t_1_x3 t_1_x4 t_1_x5 t_1_x6 t_1_x7 t_1_x8)), ((t_1_q 12), .inl (K 0, 24, .inl (fun j => iI (t_1_12_c j)))), ((t_1_q 13), .inl (K 0, 24, .inl (fun j => iI (t_1_13_c j)))), ((t_1_q 14), .inl (K 0, 24, .inl (fun j => iI (t_1_14_c j)))), ((t_1_q 9), .inl (K 0, 5, .inl (fun j => iI (t_1_9_c j)))), ((t_1_q 10), .inl (K 0, 6, .inl (fun j => iI (t_1_10_c j)))), ((t_1_q 11), .inl (K 0, 12, .inl (fun j => iI (t_1_11_c j)))), ((t_q 0), .inr (6, oX6 t_0_q t_0_x0 t_0_x2 t_0_x3 t_0_x4)), ((t_0_q 1), .inl (K 1, 1400, .inl (fun j => iI (t_0_1_c j))))] := hD
          refine g_if_eq (tgt := 143) hx hb (by omega) dX3_readLine_112 (by decide) (fun c112 => ?_) (fun c112 => ?_)
          · refine lv_aload_n hx hb dX3_readLine_143 rfl (lv_at hl 0 rfl) ?_
            refine lv_iconst (v := iI 1) hx hb dX3_readLine_144 rfl ?_
            refine lv_aload_n hx hb dX3_readLine_145 rfl (lv_at hl 0 rfl) ?_
            refine va_get (D := D) (own := RX3) (ci := 3) (v := .ref (t_q 0)) (C := RX3) (T := TX3) (N := 4) hx hb hts inb_X3 hown hK.1 hP 0 rfl rfl 0 (by decide) (hts _ wd_159) (fun _ h9 => h9) rfl dX3_readLine_146 ?_
            refine va_getN (D := D) (own := RX3) (ci := 6) (v := .int (iI t_0_x3)) (C := RX6) (T := TX6) (N := 5) hx hb hts inb_X6 hown hK.1 hP 8 rfl rfl 3 (by decide) (hK.nf 4 rfl) (fun _ h9 => h9) rfl dX3_readLine_149 ?_
            have y149_2 : 0 ≤ t_0_x3 ∧ t_0_x3 ≤ 1400 := hi_t_0.2.2.1
            refine fn_gov (wc := [(t, .inr (3, oX3 t_q t_x2 t_x3))]) (wr := [((t_q 1), .inr (7, oX7 t_1_q t_1_x0 t_1_x1 t_1_x2 t_1_x3 t_1_x4 t_1_x5 t_1_x6 t_1_x7 t_1_x8)), ((t_1_q 12), .inl (K 0, 24, .inl (fun j => iI (t_1_12_c j)))), ((t_1_q 13), .inl (K 0, 24, .inl (fun j => iI (t_1_13_c j)))), ((t_1_q 14), .inl (K 0, 24, .inl (fun j => iI (t_1_14_c j)))), ((t_1_q 9), .inl (K 0, 5, .inl (fun j => iI (t_1_9_c j)))), ((t_1_q 10), .inl (K 0, 6, .inl (fun j => iI (t_1_10_c j)))), ((t_1_q 11), .inl (K 0, 12, .inl (fun j => iI (t_1_11_c j)))), ((t_q 0), .inr (6, oX6 t_0_q t_0_x0 t_0_x2 t_0_x3 t_0_x4)), ((t_0_q 1), .inl (K 1, 1400, .inl (fun j => iI (t_0_1_c j))))]) hK hP hD hS hA [0] [1, 2, 3, 4, 5, 6, 7, 8, 9] rfl rfl (by decide) (fun hp => va_runV (C := RX3) (As := [.int (iI 1), .int (iI t_0_x3)]) (rest := []) ⟨hx, hb, hml, hown, hts⟩ (k_X3_blame (l := l) (D := D) (K := K) (t := t) (p1 := 1) (p2 := t_0_x3) (t_q := t_q) (t_x2 := t_x2) (t_x3 := t_x3) (hp1 := (by omega)) (hp2 := (by omega)) (hi_t := hi_t) _) (cwV 2 hts (fn_ginV (fn_gin wd_566) wd_563 wd_565 wp_9 wd_2) rfl rfl rfl (by decide +kernel) ⟨Nat.le_of_ble_eq_true rfl, Nat.le_of_ble_eq_true rfl⟩) ⟨fn_blind, va_recv hK.1 hP (ci := 3) (q0 := 0) rfl rfl, hp⟩ rfl rfl hl.1 rfl (lv_room (Nat.le_of_ble_eq_true rfl)) dX3_readLine_152 ⟨Nat.le_of_ble_eq_true rfl, Nat.le_of_ble_eq_true rfl⟩) (fun u152 H locs hwu152 hP hD hS => ?_)
            obtain ⟨u152a, u152b⟩ := u152
            obtain ⟨hqu1520, -⟩ := hwu152
            have hqu152 : 0 ≤ (u152a 0) ∧ (u152a 0) ≤ 3 ∧ (-2147483648) ≤ (u152a 1) ∧ (u152a 1) ≤ 2147483647 := hqu1520
            clear hqu1520
            have hP : va_P D vwCl [((t_q 1), .inr (7, oX7 t_1_q t_1_x0 t_1_x1 t_1_x2 t_1_x3 t_1_x4 t_1_x5 t_1_x6 t_1_x7 t_1_x8)), ((t_1_q 12), .inl (K 0, 24, .inl (fun j => iI (t_1_12_c j)))), ((t_1_q 13), .inl (K 0, 24, .inl (fun j => iI (t_1_13_c j)))), ((t_1_q 14), .inl (K 0, 24, .inl (fun j => iI (t_1_14_c j)))), ((t_1_q 9), .inl (K 0, 5, .inl (fun j => iI (t_1_9_c j)))), ((t_1_q 10), .inl (K 0, 6, .inl (fun j => iI (t_1_10_c j)))), ((t_1_q 11), .inl (K 0, 12, .inl (fun j => iI (t_1_11_c j)))), ((t_q 0), .inr (6, oX6 t_0_q t_0_x0 t_0_x2 t_0_x3 t_0_x4)), ((t_0_q 1), .inl (K 1, 1400, .inl (fun j => iI (t_0_1_c j)))), (t, .inr (3, oX3 t_q (u152a 0) (u152a 1)))] H := hP
            have hD : va_D A [((t_q 1), .inr (7, oX7 t_1_q t_1_x0 t_1_x1 t_1_x2 t_1_x3 t_1_x4 t_1_x5 t_1_x6 t_1_x7 t_1_x8)), ((t_1_q 12), .inl (K 0, 24, .inl (fun j => iI (t_1_12_c j)))), ((t_1_q 13), .inl (K 0, 24, .inl (fun j => iI (t_1_13_c j)))), ((t_1_q 14), .inl (K 0, 24, .inl (fun j => iI (t_1_14_c j)))), ((t_1_q 9), .inl (K 0, 5, .inl (fun j => iI (t_1_9_c j)))), ((t_1_q 10), .inl (K 0, 6, .inl (fun j => iI (t_1_10_c j)))), ((t_1_q 11), .inl (K 0, 12, .inl (fun j => iI (t_1_11_c j)))), ((t_q 0), .inr (6, oX6 t_0_q t_0_x0 t_0_x2 t_0_x3 t_0_x4)), ((t_0_q 1), .inl (K 1, 1400, .inl (fun j => iI (t_0_1_c j)))), (t, .inr (3, oX3 t_q (u152a 0) (u152a 1)))] := hD
            have y155_3 : 0 ≤ t_0_x2 ∧ t_0_x2 ≤ 4 := hi_t_0.2.1
            have y155_4 : 0 ≤ t_0_x4 ∧ t_0_x4 ≤ 1400 := hi_t_0.2.2.2
            have y155_5 : 0 ≤ t_1_x1 ∧ t_1_x1 ≤ 20 := hi_t_1.2.1
            have y155_6 : 0 ≤ t_1_x2 ∧ t_1_x2 ≤ 100 := hi_t_1.2.2.1
            have y155_7 : 0 ≤ t_1_x3 ∧ t_1_x3 ≤ 5 := hi_t_1.2.2.2.1
            have y155_8 : 0 ≤ t_1_x4 ∧ t_1_x4 ≤ 12 := hi_t_1.2.2.2.2.1
            have y155_9 : 0 ≤ t_1_x5 ∧ t_1_x5 ≤ 24 := hi_t_1.2.2.2.2.2.1
            have y155_10 : 0 ≤ t_1_x6 ∧ t_1_x6 ≤ 4095 := hi_t_1.2.2.2.2.2.2.1
            have y155_11 : 0 ≤ t_1_x7 ∧ t_1_x7 ≤ 31 := hi_t_1.2.2.2.2.2.2.2.1
            have y155_12 : (-2147483648) ≤ t_1_x8 ∧ t_1_x8 ≤ 2147483647 := hi_t_1.2.2.2.2.2.2.2.2
            rw [hQ]; exact fn_vret hx hb hr hlocks hP hD hS ((fun k => ([(u152a 0), (u152a 1), t_0_x2, t_0_x3, t_0_x4, t_1_x1, t_1_x2, t_1_x3, t_1_x4, t_1_x5, t_1_x6, t_1_x7, t_1_x8] : List Int).getD k 0), (fun k => ([t_1_10_c, t_1_11_c, t_1_12_c, t_1_13_c, t_1_14_c, t_1_9_c] : List (Nat → Int)).getD k (fun _ => 0))) ⟨(by show 0 ≤ (u152a 0) ∧ (u152a 0) ≤ 3 ∧ (-2147483648) ≤ (u152a 1) ∧ (u152a 1) ≤ 2147483647 ∧ 0 ≤ t_0_x2 ∧ t_0_x2 ≤ 4 ∧ 0 ≤ t_0_x3 ∧ t_0_x3 ≤ 1400 ∧ 0 ≤ t_0_x4 ∧ t_0_x4 ≤ 1400 ∧ 0 ≤ t_1_x1 ∧ t_1_x1 ≤ 20 ∧ 0 ≤ t_1_x2 ∧ t_1_x2 ≤ 100 ∧ 0 ≤ t_1_x3 ∧ t_1_x3 ≤ 5 ∧ 0 ≤ t_1_x4 ∧ t_1_x4 ≤ 12 ∧ 0 ≤ t_1_x5 ∧ t_1_x5 ≤ 24 ∧ 0 ≤ t_1_x6 ∧ t_1_x6 ≤ 4095 ∧ 0 ≤ t_1_x7 ∧ t_1_x7 ≤ 31 ∧ (-2147483648) ≤ t_1_x8 ∧ t_1_x8 ≤ 2147483647; omega), (hc_t_1_10), (hc_t_1_11), (hc_t_1_12), (hc_t_1_13), (hc_t_1_14), (hc_t_1_9), trivial⟩ [9, 0, 7, 8, 1, 2, 3, 4, 5, 6] (by decide) rfl dX3_readLine_155
          · refine lv_aload_n hx hb dX3_readLine_115 rfl (lv_at hl 0 rfl) ?_
            refine va_ldcS (own := RX3) (tx := "dead") (q := adK 10) hx hb hown (hO.2.2.2 10 (83, "dead") rfl) dX3_readLine_116 ?_
            refine fn_govO (wc := [(t, .inr (3, oX3 t_q t_x2 t_x3)), ((t_q 0), .inr (6, oX6 t_0_q t_0_x0 t_0_x2 t_0_x3 t_0_x4)), ((t_0_q 1), .inl (K 1, 1400, .inl (fun j => iI (t_0_1_c j))))]) (wr := [((t_q 1), .inr (7, oX7 t_1_q t_1_x0 t_1_x1 t_1_x2 t_1_x3 t_1_x4 t_1_x5 t_1_x6 t_1_x7 t_1_x8)), ((t_1_q 12), .inl (K 0, 24, .inl (fun j => iI (t_1_12_c j)))), ((t_1_q 13), .inl (K 0, 24, .inl (fun j => iI (t_1_13_c j)))), ((t_1_q 14), .inl (K 0, 24, .inl (fun j => iI (t_1_14_c j)))), ((t_1_q 9), .inl (K 0, 5, .inl (fun j => iI (t_1_9_c j)))), ((t_1_q 10), .inl (K 0, 6, .inl (fun j => iI (t_1_10_c j)))), ((t_1_q 11), .inl (K 0, 12, .inl (fun j => iI (t_1_11_c j))))]) hO hK hP hD hS hA [0, 8, 9] [1, 2, 3, 4, 5, 6, 7] rfl rfl (by decide) (fun hp => va_runV (C := RX3) (As := [.ref (adK 10)]) (rest := []) ⟨hx, hb, hml, hown, hts⟩ (k_X3_takeWord (l := l) (D := D) (K := K) (adK := adK) (adV := adV) (t := t) (s1 := 10) (t_q := t_q) (t_x2 := t_x2) (t_x3 := t_x3) (t_0_q := t_0_q) (t_0_x0 := t_0_x0) (t_0_x2 := t_0_x2) (t_0_x3 := t_0_x3) (t_0_x4 := t_0_x4) (t_0_1_c := t_0_1_c) (hs1 := (by decide)) (hi_t := hi_t) (hi_t_0 := hi_t_0) (hc_t_0_1 := hc_t_0_1) _) (cwV 1 hts (fn_ginV (fn_gin wd_509) wd_506 wd_508 wp_7 wd_2) rfl rfl rfl (by decide +kernel) ⟨Nat.le_of_ble_eq_true rfl, Nat.le_of_ble_eq_true rfl⟩) ⟨fn_blindO, va_recv hK.1 hP (ci := 3) (q0 := 0) rfl rfl, hp⟩ rfl rfl hl.1 rfl (lv_room (Nat.le_of_ble_eq_true rfl)) dX3_readLine_118 ⟨Nat.le_of_ble_eq_true rfl, Nat.le_of_ble_eq_true rfl⟩) (fun u118 H locs hwu118 hP hD hS => ?_)
            obtain ⟨u118a, u118b⟩ := u118
            obtain ⟨hqu1180, -⟩ := hwu118
            have hqu118 : 0 ≤ (u118a 0) ∧ (u118a 0) ≤ 3 ∧ (-2147483648) ≤ (u118a 1) ∧ (u118a 1) ≤ 2147483647 ∧ 0 ≤ (u118a 2) ∧ (u118a 2) ≤ 4 ∧ 0 ≤ (u118a 3) ∧ (u118a 3) ≤ 1400 ∧ 0 ≤ (u118a 4) ∧ (u118a 4) ≤ 1400 := hqu1180
            clear hqu1180
            have hP : va_P D vwCl [((t_q 1), .inr (7, oX7 t_1_q t_1_x0 t_1_x1 t_1_x2 t_1_x3 t_1_x4 t_1_x5 t_1_x6 t_1_x7 t_1_x8)), ((t_1_q 12), .inl (K 0, 24, .inl (fun j => iI (t_1_12_c j)))), ((t_1_q 13), .inl (K 0, 24, .inl (fun j => iI (t_1_13_c j)))), ((t_1_q 14), .inl (K 0, 24, .inl (fun j => iI (t_1_14_c j)))), ((t_1_q 9), .inl (K 0, 5, .inl (fun j => iI (t_1_9_c j)))), ((t_1_q 10), .inl (K 0, 6, .inl (fun j => iI (t_1_10_c j)))), ((t_1_q 11), .inl (K 0, 12, .inl (fun j => iI (t_1_11_c j)))), (t, .inr (3, oX3 t_q (u118a 0) (u118a 1))), ((t_q 0), .inr (6, oX6 t_0_q t_0_x0 (u118a 2) (u118a 3) (u118a 4))), ((t_0_q 1), .inl (K 1, 1400, .inl (fun j => iI (t_0_1_c j))))] H := hP
            have hD : va_D A [((t_q 1), .inr (7, oX7 t_1_q t_1_x0 t_1_x1 t_1_x2 t_1_x3 t_1_x4 t_1_x5 t_1_x6 t_1_x7 t_1_x8)), ((t_1_q 12), .inl (K 0, 24, .inl (fun j => iI (t_1_12_c j)))), ((t_1_q 13), .inl (K 0, 24, .inl (fun j => iI (t_1_13_c j)))), ((t_1_q 14), .inl (K 0, 24, .inl (fun j => iI (t_1_14_c j)))), ((t_1_q 9), .inl (K 0, 5, .inl (fun j => iI (t_1_9_c j)))), ((t_1_q 10), .inl (K 0, 6, .inl (fun j => iI (t_1_10_c j)))), ((t_1_q 11), .inl (K 0, 12, .inl (fun j => iI (t_1_11_c j)))), (t, .inr (3, oX3 t_q (u118a 0) (u118a 1))), ((t_q 0), .inr (6, oX6 t_0_q t_0_x0 (u118a 2) (u118a 3) (u118a 4))), ((t_0_q 1), .inl (K 1, 1400, .inl (fun j => iI (t_0_1_c j))))] := hD
            refine lv_aload_n hx hb dX3_readLine_121 rfl (lv_at hl 0 rfl) ?_
            refine va_get (D := D) (own := RX3) (ci := 3) (v := .ref (t_q 1)) (C := RX3) (T := TX3) (N := 4) hx hb hts inb_X3 hown hK.1 hP 7 rfl rfl 1 (by decide) (hts _ wd_161) (fun _ h9 => h9) rfl dX3_readLine_122 ?_
            refine lv_aload_n hx hb dX3_readLine_125 rfl (lv_at hl 0 rfl) ?_
            refine lv_aload_n hx hb dX3_readLine_126 rfl (lv_at hl 0 rfl) ?_
            refine va_get (D := D) (own := RX3) (ci := 3) (v := .ref (t_q 1)) (C := RX3) (T := TX3) (N := 4) hx hb hts inb_X3 hown hK.1 hP 7 rfl rfl 1 (by decide) (hts _ wd_161) (fun _ h9 => h9) rfl dX3_readLine_127 ?_
            refine va_getN (D := D) (own := RX3) (ci := 7) (v := .int (iI t_1_x7)) (C := RX7) (T := TX7) (N := 15) hx hb hts inb_X7 hown hK.1 hP 0 rfl rfl 7 (by decide) (hK.nf 34 rfl) (fun _ h9 => h9) rfl dX3_readLine_130 ?_
            have y130_2 : 0 ≤ t_1_x7 ∧ t_1_x7 ≤ 31 := hi_t_1.2.2.2.2.2.2.2.1
            refine lv_iconst (v := iI 4) hx hb dX3_readLine_133 rfl ?_
            refine fn_goi (wc := [(t, .inr (3, oX3 t_q (u118a 0) (u118a 1))), ((t_q 0), .inr (6, oX6 t_0_q t_0_x0 (u118a 2) (u118a 3) (u118a 4))), ((t_0_q 1), .inl (K 1, 1400, .inl (fun j => iI (t_0_1_c j))))]) (wr := [((t_q 1), .inr (7, oX7 t_1_q t_1_x0 t_1_x1 t_1_x2 t_1_x3 t_1_x4 t_1_x5 t_1_x6 t_1_x7 t_1_x8)), ((t_1_q 12), .inl (K 0, 24, .inl (fun j => iI (t_1_12_c j)))), ((t_1_q 13), .inl (K 0, 24, .inl (fun j => iI (t_1_13_c j)))), ((t_1_q 14), .inl (K 0, 24, .inl (fun j => iI (t_1_14_c j)))), ((t_1_q 9), .inl (K 0, 5, .inl (fun j => iI (t_1_9_c j)))), ((t_1_q 10), .inl (K 0, 6, .inl (fun j => iI (t_1_10_c j)))), ((t_1_q 11), .inl (K 0, 12, .inl (fun j => iI (t_1_11_c j))))]) hK hP hD hS hA [7, 8, 9] [0, 1, 2, 3, 4, 5, 6] rfl rfl (by decide) (fun hp => va_runV (C := RX3) (As := [.int (iI t_1_x7), .int (iI 4)]) (rest := [.ref (t_q 1)]) ⟨hx, hb, hml, hown, hts⟩ (k_X3_takeNewMember_s (l := l) (D := D) (K := K) (t := t) (p1 := t_1_x7) (t_q := t_q) (t_x2 := (u118a 0)) (t_x3 := (u118a 1)) (t_0_q := t_0_q) (t_0_x0 := t_0_x0) (t_0_x2 := (u118a 2)) (t_0_x3 := (u118a 3)) (t_0_x4 := (u118a 4)) (t_0_1_c := t_0_1_c) (hp1 := (by omega)) (hi_t := ⟨(by omega), (by omega)⟩) (hi_t_0 := ⟨hi_t_0.1, (by omega), (by omega), (by omega)⟩) (hc_t_0_1 := hc_t_0_1) _) (cwV 2 hts (fn_ginV (fn_gin wd_610) wd_607 wd_609 wp_16 wd_2) rfl rfl rfl (by decide +kernel) ⟨Nat.le_of_ble_eq_true rfl, Nat.le_of_ble_eq_true rfl⟩) ⟨fn_blind, va_recv hK.1 hP (ci := 3) (q0 := 7) rfl rfl, hp⟩ rfl rfl hl.1 rfl (lv_room (Nat.le_of_ble_eq_true rfl)) dX3_readLine_134 ⟨Nat.le_of_ble_eq_true rfl, Nat.le_of_ble_eq_true rfl⟩) (fun r134 u134 H locs hwu134 hP hD hS => ?_)
            obtain ⟨u134a, u134b⟩ := u134
            obtain ⟨kr134, rfl, hkr134, hqu1340, -⟩ := hwu134
            have hqu134 : 0 ≤ (u134a 0) ∧ (u134a 0) ≤ 3 ∧ (-2147483648) ≤ (u134a 1) ∧ (u134a 1) ≤ 2147483647 ∧ 0 ≤ (u134a 2) ∧ (u134a 2) ≤ 4 ∧ 0 ≤ (u134a 3) ∧ (u134a 3) ≤ 1400 ∧ 0 ≤ (u134a 4) ∧ (u134a 4) ≤ 1400 := hqu1340
            clear hqu1340
            have hP : va_P D vwCl [((t_q 1), .inr (7, oX7 t_1_q t_1_x0 t_1_x1 t_1_x2 t_1_x3 t_1_x4 t_1_x5 t_1_x6 t_1_x7 t_1_x8)), ((t_1_q 12), .inl (K 0, 24, .inl (fun j => iI (t_1_12_c j)))), ((t_1_q 13), .inl (K 0, 24, .inl (fun j => iI (t_1_13_c j)))), ((t_1_q 14), .inl (K 0, 24, .inl (fun j => iI (t_1_14_c j)))), ((t_1_q 9), .inl (K 0, 5, .inl (fun j => iI (t_1_9_c j)))), ((t_1_q 10), .inl (K 0, 6, .inl (fun j => iI (t_1_10_c j)))), ((t_1_q 11), .inl (K 0, 12, .inl (fun j => iI (t_1_11_c j)))), (t, .inr (3, oX3 t_q (u134a 0) (u134a 1))), ((t_q 0), .inr (6, oX6 t_0_q t_0_x0 (u134a 2) (u134a 3) (u134a 4))), ((t_0_q 1), .inl (K 1, 1400, .inl (fun j => iI (t_0_1_c j))))] H := hP
            have hD : va_D A [((t_q 1), .inr (7, oX7 t_1_q t_1_x0 t_1_x1 t_1_x2 t_1_x3 t_1_x4 t_1_x5 t_1_x6 t_1_x7 t_1_x8)), ((t_1_q 12), .inl (K 0, 24, .inl (fun j => iI (t_1_12_c j)))), ((t_1_q 13), .inl (K 0, 24, .inl (fun j => iI (t_1_13_c j)))), ((t_1_q 14), .inl (K 0, 24, .inl (fun j => iI (t_1_14_c j)))), ((t_1_q 9), .inl (K 0, 5, .inl (fun j => iI (t_1_9_c j)))), ((t_1_q 10), .inl (K 0, 6, .inl (fun j => iI (t_1_10_c j)))), ((t_1_q 11), .inl (K 0, 12, .inl (fun j => iI (t_1_11_c j)))), (t, .inr (3, oX3 t_q (u134a 0) (u134a 1))), ((t_q 0), .inr (6, oX6 t_0_q t_0_x0 (u134a 2) (u134a 3) (u134a 4))), ((t_0_q 1), .inl (K 1, 1400, .inl (fun j => iI (t_0_1_c j))))] := hD
            refine va_putN (D := D) (own := RX3) (ci := 7) (v := .int (iI kr134)) (ty := .int) (C := RX7) (T := TX7) (N := 15) hx hb hts inb_X7 tyX7 tyX7_ok nmX7 hown hK.1 hP hD hS 0 rfl rfl 7 (by decide) (hK.nf 34 rfl) (fun _ h9 => h9) rfl (by decide +kernel) rfl rfl (Nat.le_of_ble_eq_true rfl) dX3_readLine_137 (fun H locs hP hD hS => ?_)
            have hP : va_P D vwCl [((t_q 1), .inr (7, oX7 t_1_q t_1_x0 t_1_x1 t_1_x2 t_1_x3 t_1_x4 t_1_x5 t_1_x6 kr134 t_1_x8)), ((t_1_q 12), .inl (K 0, 24, .inl (fun j => iI (t_1_12_c j)))), ((t_1_q 13), .inl (K 0, 24, .inl (fun j => iI (t_1_13_c j)))), ((t_1_q 14), .inl (K 0, 24, .inl (fun j => iI (t_1_14_c j)))), ((t_1_q 9), .inl (K 0, 5, .inl (fun j => iI (t_1_9_c j)))), ((t_1_q 10), .inl (K 0, 6, .inl (fun j => iI (t_1_10_c j)))), ((t_1_q 11), .inl (K 0, 12, .inl (fun j => iI (t_1_11_c j)))), (t, .inr (3, oX3 t_q (u134a 0) (u134a 1))), ((t_q 0), .inr (6, oX6 t_0_q t_0_x0 (u134a 2) (u134a 3) (u134a 4))), ((t_0_q 1), .inl (K 1, 1400, .inl (fun j => iI (t_0_1_c j))))] H := hP
            have hD : va_D A [((t_q 1), .inr (7, oX7 t_1_q t_1_x0 t_1_x1 t_1_x2 t_1_x3 t_1_x4 t_1_x5 t_1_x6 kr134 t_1_x8)), ((t_1_q 12), .inl (K 0, 24, .inl (fun j => iI (t_1_12_c j)))), ((t_1_q 13), .inl (K 0, 24, .inl (fun j => iI (t_1_13_c j)))), ((t_1_q 14), .inl (K 0, 24, .inl (fun j => iI (t_1_14_c j)))), ((t_1_q 9), .inl (K 0, 5, .inl (fun j => iI (t_1_9_c j)))), ((t_1_q 10), .inl (K 0, 6, .inl (fun j => iI (t_1_10_c j)))), ((t_1_q 11), .inl (K 0, 12, .inl (fun j => iI (t_1_11_c j)))), (t, .inr (3, oX3 t_q (u134a 0) (u134a 1))), ((t_q 0), .inr (6, oX6 t_0_q t_0_x0 (u134a 2) (u134a 3) (u134a 4))), ((t_0_q 1), .inl (K 1, 1400, .inl (fun j => iI (t_0_1_c j))))] := hD
            refine lv_goto (tgt := 155) hx hb dX3_readLine_140 (by decide) ?_
            have y155_3 : 0 ≤ t_1_x1 ∧ t_1_x1 ≤ 20 := hi_t_1.2.1
            have y155_4 : 0 ≤ t_1_x2 ∧ t_1_x2 ≤ 100 := hi_t_1.2.2.1
            have y155_5 : 0 ≤ t_1_x3 ∧ t_1_x3 ≤ 5 := hi_t_1.2.2.2.1
            have y155_6 : 0 ≤ t_1_x4 ∧ t_1_x4 ≤ 12 := hi_t_1.2.2.2.2.1
            have y155_7 : 0 ≤ t_1_x5 ∧ t_1_x5 ≤ 24 := hi_t_1.2.2.2.2.2.1
            have y155_8 : 0 ≤ t_1_x6 ∧ t_1_x6 ≤ 4095 := hi_t_1.2.2.2.2.2.2.1
            have y155_9 : (-2147483648) ≤ t_1_x8 ∧ t_1_x8 ≤ 2147483647 := hi_t_1.2.2.2.2.2.2.2.2
            rw [hQ]; exact fn_vret hx hb hr hlocks hP hD hS ((fun k => ([(u134a 0), (u134a 1), (u134a 2), (u134a 3), (u134a 4), t_1_x1, t_1_x2, t_1_x3, t_1_x4, t_1_x5, t_1_x6, kr134, t_1_x8] : List Int).getD k 0), (fun k => ([t_1_10_c, t_1_11_c, t_1_12_c, t_1_13_c, t_1_14_c, t_1_9_c] : List (Nat → Int)).getD k (fun _ => 0))) ⟨(by show 0 ≤ (u134a 0) ∧ (u134a 0) ≤ 3 ∧ (-2147483648) ≤ (u134a 1) ∧ (u134a 1) ≤ 2147483647 ∧ 0 ≤ (u134a 2) ∧ (u134a 2) ≤ 4 ∧ 0 ≤ (u134a 3) ∧ (u134a 3) ≤ 1400 ∧ 0 ≤ (u134a 4) ∧ (u134a 4) ≤ 1400 ∧ 0 ≤ t_1_x1 ∧ t_1_x1 ≤ 20 ∧ 0 ≤ t_1_x2 ∧ t_1_x2 ≤ 100 ∧ 0 ≤ t_1_x3 ∧ t_1_x3 ≤ 5 ∧ 0 ≤ t_1_x4 ∧ t_1_x4 ≤ 12 ∧ 0 ≤ t_1_x5 ∧ t_1_x5 ≤ 24 ∧ 0 ≤ t_1_x6 ∧ t_1_x6 ≤ 4095 ∧ 0 ≤ kr134 ∧ kr134 ≤ 31 ∧ (-2147483648) ≤ t_1_x8 ∧ t_1_x8 ≤ 2147483647; omega), (hc_t_1_10), (hc_t_1_11), (hc_t_1_12), (hc_t_1_13), (hc_t_1_14), (hc_t_1_9), trivial⟩ [7, 0, 8, 9, 1, 2, 3, 4, 5, 6] (by decide) rfl dX3_readLine_155
        · refine fn_at 67 rfl ?_
          refine lv_aload_n hx hb dX3_readLine_67 rfl (lv_at hl 0 rfl) ?_
          refine va_ldcS (own := RX3) (tx := "fact") (q := adK 9) hx hb hown (hO.2.2.2 9 (67, "fact") rfl) dX3_readLine_68 ?_
          refine fn_govO (wc := [(t, .inr (3, oX3 t_q t_x2 t_x3)), ((t_q 0), .inr (6, oX6 t_0_q t_0_x0 t_0_x2 t_0_x3 t_0_x4)), ((t_0_q 1), .inl (K 1, 1400, .inl (fun j => iI (t_0_1_c j))))]) (wr := [((t_q 1), .inr (7, oX7 t_1_q t_1_x0 t_1_x1 t_1_x2 t_1_x3 t_1_x4 t_1_x5 t_1_x6 t_1_x7 t_1_x8)), ((t_1_q 12), .inl (K 0, 24, .inl (fun j => iI (t_1_12_c j)))), ((t_1_q 13), .inl (K 0, 24, .inl (fun j => iI (t_1_13_c j)))), ((t_1_q 14), .inl (K 0, 24, .inl (fun j => iI (t_1_14_c j)))), ((t_1_q 9), .inl (K 0, 5, .inl (fun j => iI (t_1_9_c j)))), ((t_1_q 10), .inl (K 0, 6, .inl (fun j => iI (t_1_10_c j)))), ((t_1_q 11), .inl (K 0, 12, .inl (fun j => iI (t_1_11_c j))))]) hO hK hP hD hS hA [0, 8, 9] [1, 2, 3, 4, 5, 6, 7] rfl rfl (by decide) (fun hp => va_runV (C := RX3) (As := [.ref (adK 9)]) (rest := []) ⟨hx, hb, hml, hown, hts⟩ (k_X3_takeWord (l := l) (D := D) (K := K) (adK := adK) (adV := adV) (t := t) (s1 := 9) (t_q := t_q) (t_x2 := t_x2) (t_x3 := t_x3) (t_0_q := t_0_q) (t_0_x0 := t_0_x0) (t_0_x2 := t_0_x2) (t_0_x3 := t_0_x3) (t_0_x4 := t_0_x4) (t_0_1_c := t_0_1_c) (hs1 := (by decide)) (hi_t := hi_t) (hi_t_0 := hi_t_0) (hc_t_0_1 := hc_t_0_1) _) (cwV 1 hts (fn_ginV (fn_gin wd_509) wd_506 wd_508 wp_7 wd_2) rfl rfl rfl (by decide +kernel) ⟨Nat.le_of_ble_eq_true rfl, Nat.le_of_ble_eq_true rfl⟩) ⟨fn_blindO, va_recv hK.1 hP (ci := 3) (q0 := 0) rfl rfl, hp⟩ rfl rfl hl.1 rfl (lv_room (Nat.le_of_ble_eq_true rfl)) dX3_readLine_70 ⟨Nat.le_of_ble_eq_true rfl, Nat.le_of_ble_eq_true rfl⟩) (fun u70 H locs hwu70 hP hD hS => ?_)
          obtain ⟨u70a, u70b⟩ := u70
          obtain ⟨hqu700, -⟩ := hwu70
          have hqu70 : 0 ≤ (u70a 0) ∧ (u70a 0) ≤ 3 ∧ (-2147483648) ≤ (u70a 1) ∧ (u70a 1) ≤ 2147483647 ∧ 0 ≤ (u70a 2) ∧ (u70a 2) ≤ 4 ∧ 0 ≤ (u70a 3) ∧ (u70a 3) ≤ 1400 ∧ 0 ≤ (u70a 4) ∧ (u70a 4) ≤ 1400 := hqu700
          clear hqu700
          have hP : va_P D vwCl [((t_q 1), .inr (7, oX7 t_1_q t_1_x0 t_1_x1 t_1_x2 t_1_x3 t_1_x4 t_1_x5 t_1_x6 t_1_x7 t_1_x8)), ((t_1_q 12), .inl (K 0, 24, .inl (fun j => iI (t_1_12_c j)))), ((t_1_q 13), .inl (K 0, 24, .inl (fun j => iI (t_1_13_c j)))), ((t_1_q 14), .inl (K 0, 24, .inl (fun j => iI (t_1_14_c j)))), ((t_1_q 9), .inl (K 0, 5, .inl (fun j => iI (t_1_9_c j)))), ((t_1_q 10), .inl (K 0, 6, .inl (fun j => iI (t_1_10_c j)))), ((t_1_q 11), .inl (K 0, 12, .inl (fun j => iI (t_1_11_c j)))), (t, .inr (3, oX3 t_q (u70a 0) (u70a 1))), ((t_q 0), .inr (6, oX6 t_0_q t_0_x0 (u70a 2) (u70a 3) (u70a 4))), ((t_0_q 1), .inl (K 1, 1400, .inl (fun j => iI (t_0_1_c j))))] H := hP
          have hD : va_D A [((t_q 1), .inr (7, oX7 t_1_q t_1_x0 t_1_x1 t_1_x2 t_1_x3 t_1_x4 t_1_x5 t_1_x6 t_1_x7 t_1_x8)), ((t_1_q 12), .inl (K 0, 24, .inl (fun j => iI (t_1_12_c j)))), ((t_1_q 13), .inl (K 0, 24, .inl (fun j => iI (t_1_13_c j)))), ((t_1_q 14), .inl (K 0, 24, .inl (fun j => iI (t_1_14_c j)))), ((t_1_q 9), .inl (K 0, 5, .inl (fun j => iI (t_1_9_c j)))), ((t_1_q 10), .inl (K 0, 6, .inl (fun j => iI (t_1_10_c j)))), ((t_1_q 11), .inl (K 0, 12, .inl (fun j => iI (t_1_11_c j)))), (t, .inr (3, oX3 t_q (u70a 0) (u70a 1))), ((t_q 0), .inr (6, oX6 t_0_q t_0_x0 (u70a 2) (u70a 3) (u70a 4))), ((t_0_q 1), .inl (K 1, 1400, .inl (fun j => iI (t_0_1_c j))))] := hD
          refine lv_aload_n hx hb dX3_readLine_73 rfl (lv_at hl 0 rfl) ?_
          refine va_get (D := D) (own := RX3) (ci := 3) (v := .ref (t_q 1)) (C := RX3) (T := TX3) (N := 4) hx hb hts inb_X3 hown hK.1 hP 7 rfl rfl 1 (by decide) (hts _ wd_161) (fun _ h9 => h9) rfl dX3_readLine_74 ?_
          refine lv_aload_n hx hb dX3_readLine_77 rfl (lv_at hl 0 rfl) ?_
          refine lv_aload_n hx hb dX3_readLine_78 rfl (lv_at hl 0 rfl) ?_
          refine va_get (D := D) (own := RX3) (ci := 3) (v := .ref (t_q 1)) (C := RX3) (T := TX3) (N := 4) hx hb hts inb_X3 hown hK.1 hP 7 rfl rfl 1 (by decide) (hts _ wd_161) (fun _ h9 => h9) rfl dX3_readLine_79 ?_
          refine va_getN (D := D) (own := RX3) (ci := 7) (v := .int (iI t_1_x6)) (C := RX7) (T := TX7) (N := 15) hx hb hts inb_X7 hown hK.1 hP 0 rfl rfl 6 (by decide) (hK.nf 32 rfl) (fun _ h9 => h9) rfl dX3_readLine_82 ?_
          have y82_2 : 0 ≤ t_1_x6 ∧ t_1_x6 ≤ 4095 := hi_t_1.2.2.2.2.2.2.1
          refine lv_aload_n hx hb dX3_readLine_85 rfl (lv_at hl 0 rfl) ?_
          refine va_get (D := D) (own := RX3) (ci := 3) (v := .ref (t_q 1)) (C := RX3) (T := TX3) (N := 4) hx hb hts inb_X3 hown hK.1 hP 7 rfl rfl 1 (by decide) (hts _ wd_161) (fun _ h9 => h9) rfl dX3_readLine_86 ?_
          refine va_getN (D := D) (own := RX3) (ci := 7) (v := .int (iI t_1_x4)) (C := RX7) (T := TX7) (N := 15) hx hb hts inb_X7 hown hK.1 hP 0 rfl rfl 4 (by decide) (hK.nf 21 rfl) (fun _ h9 => h9) rfl dX3_readLine_89 ?_
          have y89_3 : 0 ≤ t_1_x4 ∧ t_1_x4 ≤ 12 := hi_t_1.2.2.2.2.1
          refine lv_iconst (v := iI 1) hx hb dX3_readLine_92 rfl ?_
          refine g_isub hx hb dX3_readLine_93 ?_
          refine fn_goi (wc := [(t, .inr (3, oX3 t_q (u70a 0) (u70a 1))), ((t_q 0), .inr (6, oX6 t_0_q t_0_x0 (u70a 2) (u70a 3) (u70a 4))), ((t_0_q 1), .inl (K 1, 1400, .inl (fun j => iI (t_0_1_c j))))]) (wr := [((t_q 1), .inr (7, oX7 t_1_q t_1_x0 t_1_x1 t_1_x2 t_1_x3 t_1_x4 t_1_x5 t_1_x6 t_1_x7 t_1_x8)), ((t_1_q 12), .inl (K 0, 24, .inl (fun j => iI (t_1_12_c j)))), ((t_1_q 13), .inl (K 0, 24, .inl (fun j => iI (t_1_13_c j)))), ((t_1_q 14), .inl (K 0, 24, .inl (fun j => iI (t_1_14_c j)))), ((t_1_q 9), .inl (K 0, 5, .inl (fun j => iI (t_1_9_c j)))), ((t_1_q 10), .inl (K 0, 6, .inl (fun j => iI (t_1_10_c j)))), ((t_1_q 11), .inl (K 0, 12, .inl (fun j => iI (t_1_11_c j))))]) hK hP hD hS hA [7, 8, 9] [0, 1, 2, 3, 4, 5, 6] rfl rfl (by decide) (fun hp => va_runV (C := RX3) (As := [.int (iI t_1_x6), .int (iI (t_1_x4 - 1))]) (rest := [.ref (t_q 1)]) ⟨hx, hb, hml, hown, hts⟩ (k_X3_takeNewMember_p (l := l) (D := D) (K := K) (t := t) (p1 := t_1_x6) (p2 := (t_1_x4 - 1)) (t_q := t_q) (t_x2 := (u70a 0)) (t_x3 := (u70a 1)) (t_0_q := t_0_q) (t_0_x0 := t_0_x0) (t_0_x2 := (u70a 2)) (t_0_x3 := (u70a 3)) (t_0_x4 := (u70a 4)) (t_0_1_c := t_0_1_c) (hp1 := (by omega)) (hp2 := (by omega)) (hi_t := ⟨(by omega), (by omega)⟩) (hi_t_0 := ⟨hi_t_0.1, (by omega), (by omega), (by omega)⟩) (hc_t_0_1 := hc_t_0_1) _) (cwV 2 hts (fn_ginV (fn_gin wd_610) wd_607 wd_609 wp_16 wd_2) rfl rfl rfl (by decide +kernel) ⟨Nat.le_of_ble_eq_true rfl, Nat.le_of_ble_eq_true rfl⟩) ⟨fn_blind, va_recv hK.1 hP (ci := 3) (q0 := 7) rfl rfl, hp⟩ rfl rfl hl.1 rfl (lv_room (Nat.le_of_ble_eq_true rfl)) dX3_readLine_94 ⟨Nat.le_of_ble_eq_true rfl, Nat.le_of_ble_eq_true rfl⟩) (fun r94 u94 H locs hwu94 hP hD hS => ?_)
          obtain ⟨u94a, u94b⟩ := u94
          obtain ⟨kr94, rfl, hkr94, hqu940, -⟩ := hwu94
          have hqu94 : 0 ≤ (u94a 0) ∧ (u94a 0) ≤ 3 ∧ (-2147483648) ≤ (u94a 1) ∧ (u94a 1) ≤ 2147483647 ∧ 0 ≤ (u94a 2) ∧ (u94a 2) ≤ 4 ∧ 0 ≤ (u94a 3) ∧ (u94a 3) ≤ 1400 ∧ 0 ≤ (u94a 4) ∧ (u94a 4) ≤ 1400 := hqu940
          clear hqu940
          have hP : va_P D vwCl [((t_q 1), .inr (7, oX7 t_1_q t_1_x0 t_1_x1 t_1_x2 t_1_x3 t_1_x4 t_1_x5 t_1_x6 t_1_x7 t_1_x8)), ((t_1_q 12), .inl (K 0, 24, .inl (fun j => iI (t_1_12_c j)))), ((t_1_q 13), .inl (K 0, 24, .inl (fun j => iI (t_1_13_c j)))), ((t_1_q 14), .inl (K 0, 24, .inl (fun j => iI (t_1_14_c j)))), ((t_1_q 9), .inl (K 0, 5, .inl (fun j => iI (t_1_9_c j)))), ((t_1_q 10), .inl (K 0, 6, .inl (fun j => iI (t_1_10_c j)))), ((t_1_q 11), .inl (K 0, 12, .inl (fun j => iI (t_1_11_c j)))), (t, .inr (3, oX3 t_q (u94a 0) (u94a 1))), ((t_q 0), .inr (6, oX6 t_0_q t_0_x0 (u94a 2) (u94a 3) (u94a 4))), ((t_0_q 1), .inl (K 1, 1400, .inl (fun j => iI (t_0_1_c j))))] H := hP
          have hD : va_D A [((t_q 1), .inr (7, oX7 t_1_q t_1_x0 t_1_x1 t_1_x2 t_1_x3 t_1_x4 t_1_x5 t_1_x6 t_1_x7 t_1_x8)), ((t_1_q 12), .inl (K 0, 24, .inl (fun j => iI (t_1_12_c j)))), ((t_1_q 13), .inl (K 0, 24, .inl (fun j => iI (t_1_13_c j)))), ((t_1_q 14), .inl (K 0, 24, .inl (fun j => iI (t_1_14_c j)))), ((t_1_q 9), .inl (K 0, 5, .inl (fun j => iI (t_1_9_c j)))), ((t_1_q 10), .inl (K 0, 6, .inl (fun j => iI (t_1_10_c j)))), ((t_1_q 11), .inl (K 0, 12, .inl (fun j => iI (t_1_11_c j)))), (t, .inr (3, oX3 t_q (u94a 0) (u94a 1))), ((t_q 0), .inr (6, oX6 t_0_q t_0_x0 (u94a 2) (u94a 3) (u94a 4))), ((t_0_q 1), .inl (K 1, 1400, .inl (fun j => iI (t_0_1_c j))))] := hD
          refine va_putN (D := D) (own := RX3) (ci := 7) (v := .int (iI kr94)) (ty := .int) (C := RX7) (T := TX7) (N := 15) hx hb hts inb_X7 tyX7 tyX7_ok nmX7 hown hK.1 hP hD hS 0 rfl rfl 6 (by decide) (hK.nf 32 rfl) (fun _ h9 => h9) rfl (by decide +kernel) rfl rfl (Nat.le_of_ble_eq_true rfl) dX3_readLine_97 (fun H locs hP hD hS => ?_)
          have hP : va_P D vwCl [((t_q 1), .inr (7, oX7 t_1_q t_1_x0 t_1_x1 t_1_x2 t_1_x3 t_1_x4 t_1_x5 kr94 t_1_x7 t_1_x8)), ((t_1_q 12), .inl (K 0, 24, .inl (fun j => iI (t_1_12_c j)))), ((t_1_q 13), .inl (K 0, 24, .inl (fun j => iI (t_1_13_c j)))), ((t_1_q 14), .inl (K 0, 24, .inl (fun j => iI (t_1_14_c j)))), ((t_1_q 9), .inl (K 0, 5, .inl (fun j => iI (t_1_9_c j)))), ((t_1_q 10), .inl (K 0, 6, .inl (fun j => iI (t_1_10_c j)))), ((t_1_q 11), .inl (K 0, 12, .inl (fun j => iI (t_1_11_c j)))), (t, .inr (3, oX3 t_q (u94a 0) (u94a 1))), ((t_q 0), .inr (6, oX6 t_0_q t_0_x0 (u94a 2) (u94a 3) (u94a 4))), ((t_0_q 1), .inl (K 1, 1400, .inl (fun j => iI (t_0_1_c j))))] H := hP
          have hD : va_D A [((t_q 1), .inr (7, oX7 t_1_q t_1_x0 t_1_x1 t_1_x2 t_1_x3 t_1_x4 t_1_x5 kr94 t_1_x7 t_1_x8)), ((t_1_q 12), .inl (K 0, 24, .inl (fun j => iI (t_1_12_c j)))), ((t_1_q 13), .inl (K 0, 24, .inl (fun j => iI (t_1_13_c j)))), ((t_1_q 14), .inl (K 0, 24, .inl (fun j => iI (t_1_14_c j)))), ((t_1_q 9), .inl (K 0, 5, .inl (fun j => iI (t_1_9_c j)))), ((t_1_q 10), .inl (K 0, 6, .inl (fun j => iI (t_1_10_c j)))), ((t_1_q 11), .inl (K 0, 12, .inl (fun j => iI (t_1_11_c j)))), (t, .inr (3, oX3 t_q (u94a 0) (u94a 1))), ((t_q 0), .inr (6, oX6 t_0_q t_0_x0 (u94a 2) (u94a 3) (u94a 4))), ((t_0_q 1), .inl (K 1, 1400, .inl (fun j => iI (t_0_1_c j))))] := hD
          refine lv_goto (tgt := 155) hx hb dX3_readLine_100 (by decide) ?_
          have y155_4 : 0 ≤ t_1_x1 ∧ t_1_x1 ≤ 20 := hi_t_1.2.1
          have y155_5 : 0 ≤ t_1_x2 ∧ t_1_x2 ≤ 100 := hi_t_1.2.2.1
          have y155_6 : 0 ≤ t_1_x3 ∧ t_1_x3 ≤ 5 := hi_t_1.2.2.2.1
          have y155_7 : 0 ≤ t_1_x5 ∧ t_1_x5 ≤ 24 := hi_t_1.2.2.2.2.2.1
          have y155_8 : 0 ≤ t_1_x7 ∧ t_1_x7 ≤ 31 := hi_t_1.2.2.2.2.2.2.2.1
          have y155_9 : (-2147483648) ≤ t_1_x8 ∧ t_1_x8 ≤ 2147483647 := hi_t_1.2.2.2.2.2.2.2.2
          rw [hQ]; exact fn_vret hx hb hr hlocks hP hD hS ((fun k => ([(u94a 0), (u94a 1), (u94a 2), (u94a 3), (u94a 4), t_1_x1, t_1_x2, t_1_x3, t_1_x4, t_1_x5, kr94, t_1_x7, t_1_x8] : List Int).getD k 0), (fun k => ([t_1_10_c, t_1_11_c, t_1_12_c, t_1_13_c, t_1_14_c, t_1_9_c] : List (Nat → Int)).getD k (fun _ => 0))) ⟨(by show 0 ≤ (u94a 0) ∧ (u94a 0) ≤ 3 ∧ (-2147483648) ≤ (u94a 1) ∧ (u94a 1) ≤ 2147483647 ∧ 0 ≤ (u94a 2) ∧ (u94a 2) ≤ 4 ∧ 0 ≤ (u94a 3) ∧ (u94a 3) ≤ 1400 ∧ 0 ≤ (u94a 4) ∧ (u94a 4) ≤ 1400 ∧ 0 ≤ t_1_x1 ∧ t_1_x1 ≤ 20 ∧ 0 ≤ t_1_x2 ∧ t_1_x2 ≤ 100 ∧ 0 ≤ t_1_x3 ∧ t_1_x3 ≤ 5 ∧ 0 ≤ t_1_x4 ∧ t_1_x4 ≤ 12 ∧ 0 ≤ t_1_x5 ∧ t_1_x5 ≤ 24 ∧ 0 ≤ kr94 ∧ kr94 ≤ 4095 ∧ 0 ≤ t_1_x7 ∧ t_1_x7 ≤ 31 ∧ (-2147483648) ≤ t_1_x8 ∧ t_1_x8 ≤ 2147483647; omega), (hc_t_1_10), (hc_t_1_11), (hc_t_1_12), (hc_t_1_13), (hc_t_1_14), (hc_t_1_9), trivial⟩ [7, 0, 8, 9, 1, 2, 3, 4, 5, 6] (by decide) rfl dX3_readLine_155
      · refine lv_aload_n hx hb dX3_readLine_48 rfl (lv_at hl 0 rfl) ?_
        refine fn_govO (wc := [(t, .inr (3, oX3 t_q t_x2 t_x3)), ((t_q 1), .inr (7, oX7 t_1_q t_1_x0 t_1_x1 t_1_x2 t_1_x3 t_1_x4 t_1_x5 t_1_x6 t_1_x7 t_1_x8)), ((t_q 0), .inr (6, oX6 t_0_q t_0_x0 t_0_x2 t_0_x3 t_0_x4)), ((t_0_q 1), .inl (K 1, 1400, .inl (fun j => iI (t_0_1_c j)))), ((t_1_q 12), .inl (K 0, 24, .inl (fun j => iI (t_1_12_c j)))), ((t_1_q 13), .inl (K 0, 24, .inl (fun j => iI (t_1_13_c j)))), ((t_1_q 14), .inl (K 0, 24, .inl (fun j => iI (t_1_14_c j))))]) (wr := [((t_1_q 9), .inl (K 0, 5, .inl (fun j => iI (t_1_9_c j)))), ((t_1_q 10), .inl (K 0, 6, .inl (fun j => iI (t_1_10_c j)))), ((t_1_q 11), .inl (K 0, 12, .inl (fun j => iI (t_1_11_c j))))]) hO hK hP hD hS hA [0, 1, 8, 9, 2, 3, 4] [5, 6, 7] rfl rfl (by decide) (fun hp => va_runV (C := RX3) (As := []) (rest := []) ⟨hx, hb, hml, hown, hts⟩ (k_X3_readNote (l := l) (D := D) (K := K) (adK := adK) (adV := adV) (t := t) (t_q := t_q) (t_x2 := t_x2) (t_x3 := t_x3) (t_1_q := t_1_q) (t_1_x0 := t_1_x0) (t_1_x1 := t_1_x1) (t_1_x2 := t_1_x2) (t_1_x3 := t_1_x3) (t_1_x4 := t_1_x4) (t_1_x5 := t_1_x5) (t_1_x6 := t_1_x6) (t_1_x7 := t_1_x7) (t_1_x8 := t_1_x8) (t_0_q := t_0_q) (t_0_x0 := t_0_x0) (t_0_x2 := t_0_x2) (t_0_x3 := t_0_x3) (t_0_x4 := t_0_x4) (t_0_1_c := t_0_1_c) (t_1_12_c := t_1_12_c) (t_1_13_c := t_1_13_c) (t_1_14_c := t_1_14_c) (hi_t := hi_t) (hi_t_1 := hi_t_1) (hi_t_0 := hi_t_0) (hc_t_0_1 := hc_t_0_1) (hc_t_1_12 := hc_t_1_12) (hc_t_1_13 := hc_t_1_13) (hc_t_1_14 := hc_t_1_14) _) (cwV 0 hts (fn_ginV (fn_gin wd_596) wd_593 wd_595 wp_14 wd_2) rfl rfl rfl (by decide +kernel) ⟨Nat.le_of_ble_eq_true rfl, Nat.le_of_ble_eq_true rfl⟩) ⟨fn_blindO, va_recv hK.1 hP (ci := 3) (q0 := 0) rfl rfl, hp⟩ rfl rfl hl.1 rfl (lv_room (Nat.le_of_ble_eq_true rfl)) dX3_readLine_49 ⟨Nat.le_of_ble_eq_true rfl, Nat.le_of_ble_eq_true rfl⟩) (fun u49 H locs hwu49 hP hD hS => ?_)
        obtain ⟨u49a, u49b⟩ := u49
        obtain ⟨hqu490, hu49_00, hu49_10, hu49_20, -⟩ := hwu49
        have hqu49 : 0 ≤ (u49a 0) ∧ (u49a 0) ≤ 3 ∧ (-2147483648) ≤ (u49a 1) ∧ (u49a 1) ≤ 2147483647 ∧ 0 ≤ (u49a 2) ∧ (u49a 2) ≤ 4 ∧ 0 ≤ (u49a 3) ∧ (u49a 3) ≤ 1400 ∧ 0 ≤ (u49a 4) ∧ (u49a 4) ≤ 1400 ∧ 0 ≤ (u49a 5) ∧ (u49a 5) ≤ 24 ∧ (-2147483648) ≤ (u49a 6) ∧ (u49a 6) ≤ 2147483647 := hqu490
        have hu49_0 : ∀ j : Nat, 0 ≤ (u49b 0) j ∧ (u49b 0) j ≤ 11 := hu49_00
        have hu49_1 : ∀ j : Nat, 0 ≤ (u49b 1) j ∧ (u49b 1) j ≤ 4 := hu49_10
        have hu49_2 : ∀ j : Nat, 0 ≤ (u49b 2) j ∧ (u49b 2) j ≤ 29 := hu49_20
        clear hqu490 hu49_00 hu49_10 hu49_20
        have hP : va_P D vwCl [((t_1_q 9), .inl (K 0, 5, .inl (fun j => iI (t_1_9_c j)))), ((t_1_q 10), .inl (K 0, 6, .inl (fun j => iI (t_1_10_c j)))), ((t_1_q 11), .inl (K 0, 12, .inl (fun j => iI (t_1_11_c j)))), (t, .inr (3, oX3 t_q (u49a 0) (u49a 1))), ((t_q 1), .inr (7, oX7 t_1_q t_1_x0 t_1_x1 t_1_x2 t_1_x3 t_1_x4 (u49a 5) t_1_x6 t_1_x7 (u49a 6))), ((t_q 0), .inr (6, oX6 t_0_q t_0_x0 (u49a 2) (u49a 3) (u49a 4))), ((t_0_q 1), .inl (K 1, 1400, .inl (fun j => iI (t_0_1_c j)))), ((t_1_q 12), .inl (K 0, 24, .inl (fun j => iI ((u49b 0) j)))), ((t_1_q 13), .inl (K 0, 24, .inl (fun j => iI ((u49b 1) j)))), ((t_1_q 14), .inl (K 0, 24, .inl (fun j => iI ((u49b 2) j))))] H := hP
        have hD : va_D A [((t_1_q 9), .inl (K 0, 5, .inl (fun j => iI (t_1_9_c j)))), ((t_1_q 10), .inl (K 0, 6, .inl (fun j => iI (t_1_10_c j)))), ((t_1_q 11), .inl (K 0, 12, .inl (fun j => iI (t_1_11_c j)))), (t, .inr (3, oX3 t_q (u49a 0) (u49a 1))), ((t_q 1), .inr (7, oX7 t_1_q t_1_x0 t_1_x1 t_1_x2 t_1_x3 t_1_x4 (u49a 5) t_1_x6 t_1_x7 (u49a 6))), ((t_q 0), .inr (6, oX6 t_0_q t_0_x0 (u49a 2) (u49a 3) (u49a 4))), ((t_0_q 1), .inl (K 1, 1400, .inl (fun j => iI (t_0_1_c j)))), ((t_1_q 12), .inl (K 0, 24, .inl (fun j => iI ((u49b 0) j)))), ((t_1_q 13), .inl (K 0, 24, .inl (fun j => iI ((u49b 1) j)))), ((t_1_q 14), .inl (K 0, 24, .inl (fun j => iI ((u49b 2) j))))] := hD
        refine lv_goto (tgt := 155) hx hb dX3_readLine_52 (by decide) ?_
        have y155_2 : 0 ≤ t_1_x1 ∧ t_1_x1 ≤ 20 := hi_t_1.2.1
        have y155_3 : 0 ≤ t_1_x2 ∧ t_1_x2 ≤ 100 := hi_t_1.2.2.1
        have y155_4 : 0 ≤ t_1_x3 ∧ t_1_x3 ≤ 5 := hi_t_1.2.2.2.1
        have y155_5 : 0 ≤ t_1_x4 ∧ t_1_x4 ≤ 12 := hi_t_1.2.2.2.2.1
        have y155_6 : 0 ≤ t_1_x6 ∧ t_1_x6 ≤ 4095 := hi_t_1.2.2.2.2.2.2.1
        have y155_7 : 0 ≤ t_1_x7 ∧ t_1_x7 ≤ 31 := hi_t_1.2.2.2.2.2.2.2.1
        rw [hQ]; exact fn_vret hx hb hr hlocks hP hD hS ((fun k => ([(u49a 0), (u49a 1), (u49a 2), (u49a 3), (u49a 4), t_1_x1, t_1_x2, t_1_x3, t_1_x4, (u49a 5), t_1_x6, t_1_x7, (u49a 6)] : List Int).getD k 0), (fun k => ([t_1_10_c, t_1_11_c, (u49b 0), (u49b 1), (u49b 2), t_1_9_c] : List (Nat → Int)).getD k (fun _ => 0))) ⟨(by show 0 ≤ (u49a 0) ∧ (u49a 0) ≤ 3 ∧ (-2147483648) ≤ (u49a 1) ∧ (u49a 1) ≤ 2147483647 ∧ 0 ≤ (u49a 2) ∧ (u49a 2) ≤ 4 ∧ 0 ≤ (u49a 3) ∧ (u49a 3) ≤ 1400 ∧ 0 ≤ (u49a 4) ∧ (u49a 4) ≤ 1400 ∧ 0 ≤ t_1_x1 ∧ t_1_x1 ≤ 20 ∧ 0 ≤ t_1_x2 ∧ t_1_x2 ≤ 100 ∧ 0 ≤ t_1_x3 ∧ t_1_x3 ≤ 5 ∧ 0 ≤ t_1_x4 ∧ t_1_x4 ≤ 12 ∧ 0 ≤ (u49a 5) ∧ (u49a 5) ≤ 24 ∧ 0 ≤ t_1_x6 ∧ t_1_x6 ≤ 4095 ∧ 0 ≤ t_1_x7 ∧ t_1_x7 ≤ 31 ∧ (-2147483648) ≤ (u49a 6) ∧ (u49a 6) ≤ 2147483647; omega), (hc_t_1_10), (hc_t_1_11), (hu49_0), (hu49_1), (hu49_2), (hc_t_1_9), trivial⟩ [3, 4, 5, 6, 7, 8, 9, 0, 1, 2] (by decide) rfl dX3_readLine_155
    · refine lv_aload_n hx hb dX3_readLine_29 rfl (lv_at hl 0 rfl) ?_
      refine fn_govO (wc := [(t, .inr (3, oX3 t_q t_x2 t_x3)), ((t_q 1), .inr (7, oX7 t_1_q t_1_x0 t_1_x1 t_1_x2 t_1_x3 t_1_x4 t_1_x5 t_1_x6 t_1_x7 t_1_x8)), ((t_q 0), .inr (6, oX6 t_0_q t_0_x0 t_0_x2 t_0_x3 t_0_x4)), ((t_0_q 1), .inl (K 1, 1400, .inl (fun j => iI (t_0_1_c j)))), ((t_1_q 9), .inl (K 0, 5, .inl (fun j => iI (t_1_9_c j)))), ((t_1_q 10), .inl (K 0, 6, .inl (fun j => iI (t_1_10_c j)))), ((t_1_q 11), .inl (K 0, 12, .inl (fun j => iI (t_1_11_c j))))]) (wr := [((t_1_q 12), .inl (K 0, 24, .inl (fun j => iI (t_1_12_c j)))), ((t_1_q 13), .inl (K 0, 24, .inl (fun j => iI (t_1_13_c j)))), ((t_1_q 14), .inl (K 0, 24, .inl (fun j => iI (t_1_14_c j))))]) hO hK hP hD hS hA [0, 1, 8, 9, 5, 6, 7] [2, 3, 4] rfl rfl (by decide) (fun hp => va_runV (C := RX3) (As := []) (rest := []) ⟨hx, hb, hml, hown, hts⟩ (k_X3_readBook (l := l) (D := D) (K := K) (adK := adK) (adV := adV) (t := t) (t_q := t_q) (t_x2 := t_x2) (t_x3 := t_x3) (t_1_q := t_1_q) (t_1_x0 := t_1_x0) (t_1_x1 := t_1_x1) (t_1_x2 := t_1_x2) (t_1_x3 := t_1_x3) (t_1_x4 := t_1_x4) (t_1_x5 := t_1_x5) (t_1_x6 := t_1_x6) (t_1_x7 := t_1_x7) (t_1_x8 := t_1_x8) (t_0_q := t_0_q) (t_0_x0 := t_0_x0) (t_0_x2 := t_0_x2) (t_0_x3 := t_0_x3) (t_0_x4 := t_0_x4) (t_0_1_c := t_0_1_c) (t_1_9_c := t_1_9_c) (t_1_10_c := t_1_10_c) (t_1_11_c := t_1_11_c) (hi_t := hi_t) (hi_t_1 := hi_t_1) (hi_t_0 := hi_t_0) (hc_t_0_1 := hc_t_0_1) (hc_t_1_9 := hc_t_1_9) (hc_t_1_10 := hc_t_1_10) (hc_t_1_11 := hc_t_1_11) _) (cwV 0 hts (fn_ginV (fn_gin wd_585) wd_582 wd_584 wp_12 wd_2) rfl rfl rfl (by decide +kernel) ⟨Nat.le_of_ble_eq_true rfl, Nat.le_of_ble_eq_true rfl⟩) ⟨fn_blindO, va_recv hK.1 hP (ci := 3) (q0 := 0) rfl rfl, hp⟩ rfl rfl hl.1 rfl (lv_room (Nat.le_of_ble_eq_true rfl)) dX3_readLine_30 ⟨Nat.le_of_ble_eq_true rfl, Nat.le_of_ble_eq_true rfl⟩) (fun u30 H locs hwu30 hP hD hS => ?_)
      obtain ⟨u30a, u30b⟩ := u30
      obtain ⟨hqu300, hu30_00, hu30_10, hu30_20, -⟩ := hwu30
      have hqu30 : 0 ≤ (u30a 0) ∧ (u30a 0) ≤ 3 ∧ (-2147483648) ≤ (u30a 1) ∧ (u30a 1) ≤ 2147483647 ∧ 0 ≤ (u30a 2) ∧ (u30a 2) ≤ 4 ∧ 0 ≤ (u30a 3) ∧ (u30a 3) ≤ 1400 ∧ 0 ≤ (u30a 4) ∧ (u30a 4) ≤ 1400 ∧ 0 ≤ (u30a 5) ∧ (u30a 5) ≤ 5 ∧ 0 ≤ (u30a 6) ∧ (u30a 6) ≤ 12 := hqu300
      have hu30_0 : ∀ j : Nat, 0 ≤ (u30b 0) j ∧ (u30b 0) j ≤ 12 := hu30_00
      have hu30_1 : ∀ j : Nat, 0 ≤ (u30b 1) j ∧ (u30b 1) j ≤ 4 := hu30_10
      have hu30_2 : ∀ j : Nat, 0 ≤ (u30b 2) j ∧ (u30b 2) j ≤ 4 := hu30_20
      clear hqu300 hu30_00 hu30_10 hu30_20
      have hP : va_P D vwCl [((t_1_q 12), .inl (K 0, 24, .inl (fun j => iI (t_1_12_c j)))), ((t_1_q 13), .inl (K 0, 24, .inl (fun j => iI (t_1_13_c j)))), ((t_1_q 14), .inl (K 0, 24, .inl (fun j => iI (t_1_14_c j)))), (t, .inr (3, oX3 t_q (u30a 0) (u30a 1))), ((t_q 1), .inr (7, oX7 t_1_q t_1_x0 t_1_x1 t_1_x2 (u30a 5) (u30a 6) t_1_x5 t_1_x6 t_1_x7 t_1_x8)), ((t_q 0), .inr (6, oX6 t_0_q t_0_x0 (u30a 2) (u30a 3) (u30a 4))), ((t_0_q 1), .inl (K 1, 1400, .inl (fun j => iI (t_0_1_c j)))), ((t_1_q 9), .inl (K 0, 5, .inl (fun j => iI ((u30b 2) j)))), ((t_1_q 10), .inl (K 0, 6, .inl (fun j => iI ((u30b 0) j)))), ((t_1_q 11), .inl (K 0, 12, .inl (fun j => iI ((u30b 1) j))))] H := hP
      have hD : va_D A [((t_1_q 12), .inl (K 0, 24, .inl (fun j => iI (t_1_12_c j)))), ((t_1_q 13), .inl (K 0, 24, .inl (fun j => iI (t_1_13_c j)))), ((t_1_q 14), .inl (K 0, 24, .inl (fun j => iI (t_1_14_c j)))), (t, .inr (3, oX3 t_q (u30a 0) (u30a 1))), ((t_q 1), .inr (7, oX7 t_1_q t_1_x0 t_1_x1 t_1_x2 (u30a 5) (u30a 6) t_1_x5 t_1_x6 t_1_x7 t_1_x8)), ((t_q 0), .inr (6, oX6 t_0_q t_0_x0 (u30a 2) (u30a 3) (u30a 4))), ((t_0_q 1), .inl (K 1, 1400, .inl (fun j => iI (t_0_1_c j)))), ((t_1_q 9), .inl (K 0, 5, .inl (fun j => iI ((u30b 2) j)))), ((t_1_q 10), .inl (K 0, 6, .inl (fun j => iI ((u30b 0) j)))), ((t_1_q 11), .inl (K 0, 12, .inl (fun j => iI ((u30b 1) j))))] := hD
      refine lv_goto (tgt := 155) hx hb dX3_readLine_33 (by decide) ?_
      have y155_2 : 0 ≤ t_1_x1 ∧ t_1_x1 ≤ 20 := hi_t_1.2.1
      have y155_3 : 0 ≤ t_1_x2 ∧ t_1_x2 ≤ 100 := hi_t_1.2.2.1
      have y155_4 : 0 ≤ t_1_x5 ∧ t_1_x5 ≤ 24 := hi_t_1.2.2.2.2.2.1
      have y155_5 : 0 ≤ t_1_x6 ∧ t_1_x6 ≤ 4095 := hi_t_1.2.2.2.2.2.2.1
      have y155_6 : 0 ≤ t_1_x7 ∧ t_1_x7 ≤ 31 := hi_t_1.2.2.2.2.2.2.2.1
      have y155_7 : (-2147483648) ≤ t_1_x8 ∧ t_1_x8 ≤ 2147483647 := hi_t_1.2.2.2.2.2.2.2.2
      rw [hQ]; exact fn_vret hx hb hr hlocks hP hD hS ((fun k => ([(u30a 0), (u30a 1), (u30a 2), (u30a 3), (u30a 4), t_1_x1, t_1_x2, (u30a 5), (u30a 6), t_1_x5, t_1_x6, t_1_x7, t_1_x8] : List Int).getD k 0), (fun k => ([(u30b 0), (u30b 1), t_1_12_c, t_1_13_c, t_1_14_c, (u30b 2)] : List (Nat → Int)).getD k (fun _ => 0))) ⟨(by show 0 ≤ (u30a 0) ∧ (u30a 0) ≤ 3 ∧ (-2147483648) ≤ (u30a 1) ∧ (u30a 1) ≤ 2147483647 ∧ 0 ≤ (u30a 2) ∧ (u30a 2) ≤ 4 ∧ 0 ≤ (u30a 3) ∧ (u30a 3) ≤ 1400 ∧ 0 ≤ (u30a 4) ∧ (u30a 4) ≤ 1400 ∧ 0 ≤ t_1_x1 ∧ t_1_x1 ≤ 20 ∧ 0 ≤ t_1_x2 ∧ t_1_x2 ≤ 100 ∧ 0 ≤ (u30a 5) ∧ (u30a 5) ≤ 5 ∧ 0 ≤ (u30a 6) ∧ (u30a 6) ≤ 12 ∧ 0 ≤ t_1_x5 ∧ t_1_x5 ≤ 24 ∧ 0 ≤ t_1_x6 ∧ t_1_x6 ≤ 4095 ∧ 0 ≤ t_1_x7 ∧ t_1_x7 ≤ 31 ∧ (-2147483648) ≤ t_1_x8 ∧ t_1_x8 ≤ 2147483647; omega), (hu30_0), (hu30_1), (hc_t_1_12), (hc_t_1_13), (hc_t_1_14), (hu30_2), trivial⟩ [3, 4, 5, 6, 0, 1, 2, 7, 8, 9] (by decide) rfl dX3_readLine_155
  · refine lv_aload_n hx hb dX3_readLine_10 rfl (lv_at hl 0 rfl) ?_
    refine fn_govO (wc := [(t, .inr (3, oX3 t_q t_x2 t_x3)), ((t_q 0), .inr (6, oX6 t_0_q t_0_x0 t_0_x2 t_0_x3 t_0_x4)), ((t_0_q 1), .inl (K 1, 1400, .inl (fun j => iI (t_0_1_c j)))), ((t_q 1), .inr (7, oX7 t_1_q t_1_x0 t_1_x1 t_1_x2 t_1_x3 t_1_x4 t_1_x5 t_1_x6 t_1_x7 t_1_x8))]) (wr := [((t_1_q 12), .inl (K 0, 24, .inl (fun j => iI (t_1_12_c j)))), ((t_1_q 13), .inl (K 0, 24, .inl (fun j => iI (t_1_13_c j)))), ((t_1_q 14), .inl (K 0, 24, .inl (fun j => iI (t_1_14_c j)))), ((t_1_q 9), .inl (K 0, 5, .inl (fun j => iI (t_1_9_c j)))), ((t_1_q 10), .inl (K 0, 6, .inl (fun j => iI (t_1_10_c j)))), ((t_1_q 11), .inl (K 0, 12, .inl (fun j => iI (t_1_11_c j))))]) hO hK hP hD hS hA [0, 2, 3, 1] [4, 5, 6, 7, 8, 9] rfl rfl (by decide) (fun hp => va_runV (C := RX3) (As := []) (rest := []) ⟨hx, hb, hml, hown, hts⟩ (k_X3_readTown (l := l) (D := D) (K := K) (adK := adK) (adV := adV) (t := t) (t_q := t_q) (t_x2 := t_x2) (t_x3 := t_x3) (t_0_q := t_0_q) (t_0_x0 := t_0_x0) (t_0_x2 := t_0_x2) (t_0_x3 := t_0_x3) (t_0_x4 := t_0_x4) (t_0_1_c := t_0_1_c) (t_1_q := t_1_q) (t_1_x0 := t_1_x0) (t_1_x1 := t_1_x1) (t_1_x2 := t_1_x2) (t_1_x3 := t_1_x3) (t_1_x4 := t_1_x4) (t_1_x5 := t_1_x5) (t_1_x6 := t_1_x6) (t_1_x7 := t_1_x7) (t_1_x8 := t_1_x8) (hi_t := hi_t) (hi_t_0 := hi_t_0) (hc_t_0_1 := hc_t_0_1) (hi_t_1 := hi_t_1) _) (cwV 0 hts (fn_ginV (fn_gin wd_504) wd_501 wd_503 wp_6 wd_2) rfl rfl rfl (by decide +kernel) ⟨Nat.le_of_ble_eq_true rfl, Nat.le_of_ble_eq_true rfl⟩) ⟨fn_blindO, va_recv hK.1 hP (ci := 3) (q0 := 0) rfl rfl, hp⟩ rfl rfl hl.1 rfl (lv_room (Nat.le_of_ble_eq_true rfl)) dX3_readLine_11 ⟨Nat.le_of_ble_eq_true rfl, Nat.le_of_ble_eq_true rfl⟩) (fun u11 H locs hwu11 hP hD hS => ?_)
    obtain ⟨u11a, u11b⟩ := u11
    obtain ⟨hqu110, -⟩ := hwu11
    have hqu11 : 0 ≤ (u11a 0) ∧ (u11a 0) ≤ 3 ∧ (-2147483648) ≤ (u11a 1) ∧ (u11a 1) ≤ 2147483647 ∧ 0 ≤ (u11a 2) ∧ (u11a 2) ≤ 4 ∧ 0 ≤ (u11a 3) ∧ (u11a 3) ≤ 1400 ∧ 0 ≤ (u11a 4) ∧ (u11a 4) ≤ 1400 ∧ 0 ≤ (u11a 5) ∧ (u11a 5) ≤ 20 ∧ 0 ≤ (u11a 6) ∧ (u11a 6) ≤ 100 := hqu110
    clear hqu110
    have hP : va_P D vwCl [((t_1_q 12), .inl (K 0, 24, .inl (fun j => iI (t_1_12_c j)))), ((t_1_q 13), .inl (K 0, 24, .inl (fun j => iI (t_1_13_c j)))), ((t_1_q 14), .inl (K 0, 24, .inl (fun j => iI (t_1_14_c j)))), ((t_1_q 9), .inl (K 0, 5, .inl (fun j => iI (t_1_9_c j)))), ((t_1_q 10), .inl (K 0, 6, .inl (fun j => iI (t_1_10_c j)))), ((t_1_q 11), .inl (K 0, 12, .inl (fun j => iI (t_1_11_c j)))), (t, .inr (3, oX3 t_q (u11a 0) (u11a 1))), ((t_q 0), .inr (6, oX6 t_0_q t_0_x0 (u11a 2) (u11a 3) (u11a 4))), ((t_0_q 1), .inl (K 1, 1400, .inl (fun j => iI (t_0_1_c j)))), ((t_q 1), .inr (7, oX7 t_1_q t_1_x0 (u11a 5) (u11a 6) t_1_x3 t_1_x4 t_1_x5 t_1_x6 t_1_x7 t_1_x8))] H := hP
    have hD : va_D A [((t_1_q 12), .inl (K 0, 24, .inl (fun j => iI (t_1_12_c j)))), ((t_1_q 13), .inl (K 0, 24, .inl (fun j => iI (t_1_13_c j)))), ((t_1_q 14), .inl (K 0, 24, .inl (fun j => iI (t_1_14_c j)))), ((t_1_q 9), .inl (K 0, 5, .inl (fun j => iI (t_1_9_c j)))), ((t_1_q 10), .inl (K 0, 6, .inl (fun j => iI (t_1_10_c j)))), ((t_1_q 11), .inl (K 0, 12, .inl (fun j => iI (t_1_11_c j)))), (t, .inr (3, oX3 t_q (u11a 0) (u11a 1))), ((t_q 0), .inr (6, oX6 t_0_q t_0_x0 (u11a 2) (u11a 3) (u11a 4))), ((t_0_q 1), .inl (K 1, 1400, .inl (fun j => iI (t_0_1_c j)))), ((t_q 1), .inr (7, oX7 t_1_q t_1_x0 (u11a 5) (u11a 6) t_1_x3 t_1_x4 t_1_x5 t_1_x6 t_1_x7 t_1_x8))] := hD
    refine lv_goto (tgt := 155) hx hb dX3_readLine_14 (by decide) ?_
    have y155_2 : 0 ≤ t_1_x3 ∧ t_1_x3 ≤ 5 := hi_t_1.2.2.2.1
    have y155_3 : 0 ≤ t_1_x4 ∧ t_1_x4 ≤ 12 := hi_t_1.2.2.2.2.1
    have y155_4 : 0 ≤ t_1_x5 ∧ t_1_x5 ≤ 24 := hi_t_1.2.2.2.2.2.1
    have y155_5 : 0 ≤ t_1_x6 ∧ t_1_x6 ≤ 4095 := hi_t_1.2.2.2.2.2.2.1
    have y155_6 : 0 ≤ t_1_x7 ∧ t_1_x7 ≤ 31 := hi_t_1.2.2.2.2.2.2.2.1
    have y155_7 : (-2147483648) ≤ t_1_x8 ∧ t_1_x8 ≤ 2147483647 := hi_t_1.2.2.2.2.2.2.2.2
    rw [hQ]; exact fn_vret hx hb hr hlocks hP hD hS ((fun k => ([(u11a 0), (u11a 1), (u11a 2), (u11a 3), (u11a 4), (u11a 5), (u11a 6), t_1_x3, t_1_x4, t_1_x5, t_1_x6, t_1_x7, t_1_x8] : List Int).getD k 0), (fun k => ([t_1_10_c, t_1_11_c, t_1_12_c, t_1_13_c, t_1_14_c, t_1_9_c] : List (Nat → Int)).getD k (fun _ => 0))) ⟨(by show 0 ≤ (u11a 0) ∧ (u11a 0) ≤ 3 ∧ (-2147483648) ≤ (u11a 1) ∧ (u11a 1) ≤ 2147483647 ∧ 0 ≤ (u11a 2) ∧ (u11a 2) ≤ 4 ∧ 0 ≤ (u11a 3) ∧ (u11a 3) ≤ 1400 ∧ 0 ≤ (u11a 4) ∧ (u11a 4) ≤ 1400 ∧ 0 ≤ (u11a 5) ∧ (u11a 5) ≤ 20 ∧ 0 ≤ (u11a 6) ∧ (u11a 6) ≤ 100 ∧ 0 ≤ t_1_x3 ∧ t_1_x3 ≤ 5 ∧ 0 ≤ t_1_x4 ∧ t_1_x4 ≤ 12 ∧ 0 ≤ t_1_x5 ∧ t_1_x5 ≤ 24 ∧ 0 ≤ t_1_x6 ∧ t_1_x6 ≤ 4095 ∧ 0 ≤ t_1_x7 ∧ t_1_x7 ≤ 31 ∧ (-2147483648) ≤ t_1_x8 ∧ t_1_x8 ≤ 2147483647; omega), (hc_t_1_10), (hc_t_1_11), (hc_t_1_12), (hc_t_1_13), (hc_t_1_14), (hc_t_1_9), trivial⟩ [6, 9, 7, 8, 0, 1, 2, 3, 4, 5] (by decide) rfl dX3_readLine_155
theorem dX3_takeSign_0 : decode cX3_takeSign 0 = .ok (.aload_n 0, 1) := by decide +kernel
theorem dX3_takeSign_1 : decode cX3_takeSign 1 = .ok (.getfield 12, 3) := by decide +kernel
theorem dX3_takeSign_4 : decode cX3_takeSign 4 = .ok (.getfield 38, 3) := by decide +kernel
theorem dX3_takeSign_7 : decode cX3_takeSign 7 = .ok (.iconst 3, 1) := by decide +kernel
theorem dX3_takeSign_8 : decode cX3_takeSign 8 = .ok (.if_icmp .ne 13, 3) := by decide +kernel
theorem dX3_takeSign_21 : decode cX3_takeSign 21 = .ok (.aload_n 0, 1) := by decide +kernel
theorem dX3_takeSign_22 : decode cX3_takeSign 22 = .ok (.iconst 1, 1) := by decide +kernel
theorem dX3_takeSign_23 : decode cX3_takeSign 23 = .ok (.aload_n 0, 1) := by decide +kernel
theorem dX3_takeSign_24 : decode cX3_takeSign 24 = .ok (.getfield 12, 3) := by decide +kernel
theorem dX3_takeSign_27 : decode cX3_takeSign 27 = .ok (.getfield 87, 3) := by decide +kernel
theorem dX3_takeSign_30 : decode cX3_takeSign 30 = .ok (.invokevirtual 90, 3) := by decide +kernel
theorem dX3_takeSign_33 : decode cX3_takeSign 33 = .ok (.return_, 1) := by decide +kernel
theorem dX3_takeSign_11 : decode cX3_takeSign 11 = .ok (.aload_n 0, 1) := by decide +kernel
theorem dX3_takeSign_12 : decode cX3_takeSign 12 = .ok (.getfield 12, 3) := by decide +kernel
theorem dX3_takeSign_15 : decode cX3_takeSign 15 = .ok (.invokevirtual 127, 3) := by decide +kernel
theorem dX3_takeSign_18 : decode cX3_takeSign 18 = .ok (.goto 15, 3) := by decide +kernel
set_option maxHeartbeats 4000000 in
set_option maxRecDepth 100000 in
theorem k_X3_takeSign (l : Launch) (D : va_G) (K : Nat → ClassId) (t : Nat) (t_q t_0_q : Nat → Nat) (t_x2 t_x3 t_0_x0 t_0_x2 t_0_x3 t_0_x4 : Int) (t_0_1_c : Nat → Int) (hi_t : bX3 t_x2 t_x3) (hi_t_0 : bX6 t_0_x0 t_0_x2 t_0_x3 t_0_x4) (hc_t_0_1 : ∀ j : Nat, (-128) ≤ t_0_1_c j ∧ t_0_1_c j ≤ 127) : fn_CV (S := (Nat → Int) × (Nat → Nat → Int)) l D K yX3_takeSign (fn_ws yX3_takeSign cX3_takeSign 1 none) ({ frames := 12, cells := 0, slots := 0, locals := 300 } : Room) [.ref t] [(t, .inr (3, oX3 t_q t_x2 t_x3)), ((t_q 0), .inr (6, oX6 t_0_q t_0_x0 t_0_x2 t_0_x3 t_0_x4)), ((t_0_q 1), .inl (K 1, 1400, .inl (fun j => iI (t_0_1_c j))))] (fun u => (0 ≤ (u.1 0) ∧ (u.1 0) ≤ 3 ∧ (-2147483648) ≤ (u.1 1) ∧ (u.1 1) ≤ 2147483647 ∧ 0 ≤ (u.1 2) ∧ (u.1 2) ≤ 4 ∧ 0 ≤ (u.1 3) ∧ (u.1 3) ≤ 1400 ∧ 0 ≤ (u.1 4) ∧ (u.1 4) ≤ 1400) ∧ True) (fun u => [(t, .inr (3, oX3 t_q (u.1 0) (u.1 1))), ((t_q 0), .inr (6, oX6 t_0_q t_0_x0 (u.1 2) (u.1 3) (u.1 4))), ((t_0_q 1), .inl (K 1, 1400, .inl (fun j => iI (t_0_1_c j))))]) 0 0 := by
  refine g_inV (cc := cX3_takeSign) (maxL := 1) (ret := none) (by decide) rfl (Nat.le_of_ble_eq_true rfl) ?_
  intro p e s m below meth c A ls ag Q B hA hP hD hS hl hQ
  obtain ⟨hx, hb, hr, hml, hts, hown, hlocks, hin, hK⟩ := B
  have hown : s.vm.findClass RX3 = some m.cls := hown
  have hts := fun w h => hts w (List.mem_cons_of_mem _ h)
  have hl : lv_has ls 1 [(0, .ref t)] := hl
  refine lv_aload_n hx hb dX3_takeSign_0 rfl (lv_at hl 0 rfl) ?_
  refine va_get (D := D) (own := RX3) (ci := 3) (v := .ref (t_q 0)) (C := RX3) (T := TX3) (N := 4) hx hb hts inb_X3 hown hK.1 hP 0 rfl rfl 0 (by decide) (hts _ wd_159) (fun _ h9 => h9) rfl dX3_takeSign_1 ?_
  refine va_getN (D := D) (own := RX3) (ci := 6) (v := .int (iI t_0_x2)) (C := RX6) (T := TX6) (N := 5) hx hb hts inb_X6 hown hK.1 hP 1 rfl rfl 2 (by decide) (hK.nf 3 rfl) (fun _ h9 => h9) rfl dX3_takeSign_4 ?_
  have y4_1 : 0 ≤ t_0_x2 ∧ t_0_x2 ≤ 4 := hi_t_0.2.1
  refine lv_iconst (v := iI 3) hx hb dX3_takeSign_7 rfl ?_
  refine g_icmp_ne (tgt := 21) hx hb (by omega) (by omega) dX3_takeSign_8 (by decide) (fun c8 => ?_) (fun c8 => ?_)
  · refine lv_aload_n hx hb dX3_takeSign_21 rfl (lv_at hl 0 rfl) ?_
    refine lv_iconst (v := iI 1) hx hb dX3_takeSign_22 rfl ?_
    refine lv_aload_n hx hb dX3_takeSign_23 rfl (lv_at hl 0 rfl) ?_
    refine va_get (D := D) (own := RX3) (ci := 3) (v := .ref (t_q 0)) (C := RX3) (T := TX3) (N := 4) hx hb hts inb_X3 hown hK.1 hP 0 rfl rfl 0 (by decide) (hts _ wd_159) (fun _ h9 => h9) rfl dX3_takeSign_24 ?_
    refine va_getN (D := D) (own := RX3) (ci := 6) (v := .int (iI t_0_x3)) (C := RX6) (T := TX6) (N := 5) hx hb hts inb_X6 hown hK.1 hP 1 rfl rfl 3 (by decide) (hK.nf 4 rfl) (fun _ h9 => h9) rfl dX3_takeSign_27 ?_
    have y27_2 : 0 ≤ t_0_x3 ∧ t_0_x3 ≤ 1400 := hi_t_0.2.2.1
    refine fn_gov (wc := [(t, .inr (3, oX3 t_q t_x2 t_x3))]) (wr := [((t_q 0), .inr (6, oX6 t_0_q t_0_x0 t_0_x2 t_0_x3 t_0_x4)), ((t_0_q 1), .inl (K 1, 1400, .inl (fun j => iI (t_0_1_c j))))]) hK hP hD hS hA [0] [1, 2] rfl rfl (by decide) (fun hp => va_runV (C := RX3) (As := [.int (iI 1), .int (iI t_0_x3)]) (rest := []) ⟨hx, hb, hml, hown, hts⟩ (k_X3_blame (l := l) (D := D) (K := K) (t := t) (p1 := 1) (p2 := t_0_x3) (t_q := t_q) (t_x2 := t_x2) (t_x3 := t_x3) (hp1 := (by omega)) (hp2 := (by omega)) (hi_t := hi_t) _) (cwV 2 hts (fn_ginV (fn_gin wd_566) wd_563 wd_565 wp_9 wd_2) rfl rfl rfl (by decide +kernel) ⟨Nat.le_of_ble_eq_true rfl, Nat.le_of_ble_eq_true rfl⟩) ⟨fn_blind, va_recv hK.1 hP (ci := 3) (q0 := 0) rfl rfl, hp⟩ rfl rfl hl.1 rfl (lv_room (Nat.le_of_ble_eq_true rfl)) dX3_takeSign_30 ⟨Nat.le_of_ble_eq_true rfl, Nat.le_of_ble_eq_true rfl⟩) (fun u30 H locs hwu30 hP hD hS => ?_)
    obtain ⟨u30a, u30b⟩ := u30
    obtain ⟨hqu300, -⟩ := hwu30
    have hqu30 : 0 ≤ (u30a 0) ∧ (u30a 0) ≤ 3 ∧ (-2147483648) ≤ (u30a 1) ∧ (u30a 1) ≤ 2147483647 := hqu300
    clear hqu300
    have hP : va_P D vwCl [((t_q 0), .inr (6, oX6 t_0_q t_0_x0 t_0_x2 t_0_x3 t_0_x4)), ((t_0_q 1), .inl (K 1, 1400, .inl (fun j => iI (t_0_1_c j)))), (t, .inr (3, oX3 t_q (u30a 0) (u30a 1)))] H := hP
    have hD : va_D A [((t_q 0), .inr (6, oX6 t_0_q t_0_x0 t_0_x2 t_0_x3 t_0_x4)), ((t_0_q 1), .inl (K 1, 1400, .inl (fun j => iI (t_0_1_c j)))), (t, .inr (3, oX3 t_q (u30a 0) (u30a 1)))] := hD
    have y33_3 : 0 ≤ t_0_x4 ∧ t_0_x4 ≤ 1400 := hi_t_0.2.2.2
    rw [hQ]; exact fn_vret hx hb hr hlocks hP hD hS ((fun k => ([(u30a 0), (u30a 1), t_0_x2, t_0_x3, t_0_x4] : List Int).getD k 0), (fun _ _ => 0)) ⟨(by show 0 ≤ (u30a 0) ∧ (u30a 0) ≤ 3 ∧ (-2147483648) ≤ (u30a 1) ∧ (u30a 1) ≤ 2147483647 ∧ 0 ≤ t_0_x2 ∧ t_0_x2 ≤ 4 ∧ 0 ≤ t_0_x3 ∧ t_0_x3 ≤ 1400 ∧ 0 ≤ t_0_x4 ∧ t_0_x4 ≤ 1400; omega), trivial⟩ [2, 0, 1] (by decide) rfl dX3_takeSign_33
  · refine lv_aload_n hx hb dX3_takeSign_11 rfl (lv_at hl 0 rfl) ?_
    refine va_get (D := D) (own := RX3) (ci := 3) (v := .ref (t_q 0)) (C := RX3) (T := TX3) (N := 4) hx hb hts inb_X3 hown hK.1 hP 0 rfl rfl 0 (by decide) (hts _ wd_159) (fun _ h9 => h9) rfl dX3_takeSign_12 ?_
    refine fn_gov (wc := [((t_q 0), .inr (6, oX6 t_0_q t_0_x0 t_0_x2 t_0_x3 t_0_x4)), ((t_0_q 1), .inl (K 1, 1400, .inl (fun j => iI (t_0_1_c j))))]) (wr := [(t, .inr (3, oX3 t_q t_x2 t_x3))]) hK hP hD hS hA [1, 2] [0] rfl rfl (by decide) (fun hp => va_runVN (C := RX6) (As := []) (rest := []) ⟨hx, hb, hml, hown, hts⟩ (k_X6_moveOn (l := l) (D := D) (K := K) (t := (t_q 0)) (t_q := t_0_q) (t_x0 := t_0_x0) (t_x2 := t_0_x2) (t_x3 := t_0_x3) (t_x4 := t_0_x4) (t_1_c := t_0_1_c) (hi_t := hi_t_0) (hc_t_1 := hc_t_0_1) _) ⟨va_cnB (own := RX3) 0 hts (fn_gin wd_493) rfl rfl rfl (hK.nw 98 rfl) (hts _ wd_3) (by decide +kernel) ⟨Nat.le_of_ble_eq_true rfl, Nat.le_of_ble_eq_true rfl⟩, hts _ wd_492, hts _ wp_4⟩ ⟨fn_blind, va_recv hK.1 hP (ci := 6) (q0 := 1) rfl rfl, hp⟩ rfl rfl hl.1 rfl (lv_room (Nat.le_of_ble_eq_true rfl)) dX3_takeSign_15 ⟨Nat.le_of_ble_eq_true rfl, Nat.le_of_ble_eq_true rfl⟩) (fun u15 H locs hwu15 hP hD hS => ?_)
    obtain ⟨u15a, u15b⟩ := u15
    obtain ⟨hqu150, -⟩ := hwu15
    have hqu15 : 0 ≤ (u15a 0) ∧ (u15a 0) ≤ 4 ∧ 0 ≤ (u15a 1) ∧ (u15a 1) ≤ 1400 ∧ 0 ≤ (u15a 2) ∧ (u15a 2) ≤ 1400 := hqu150
    clear hqu150
    have hP : va_P D vwCl [(t, .inr (3, oX3 t_q t_x2 t_x3)), ((t_q 0), .inr (6, oX6 t_0_q t_0_x0 (u15a 0) (u15a 1) (u15a 2))), ((t_0_q 1), .inl (K 1, 1400, .inl (fun j => iI (t_0_1_c j))))] H := hP
    have hD : va_D A [(t, .inr (3, oX3 t_q t_x2 t_x3)), ((t_q 0), .inr (6, oX6 t_0_q t_0_x0 (u15a 0) (u15a 1) (u15a 2))), ((t_0_q 1), .inl (K 1, 1400, .inl (fun j => iI (t_0_1_c j))))] := hD
    refine lv_goto (tgt := 33) hx hb dX3_takeSign_18 (by decide) ?_
    have y33_2 : 0 ≤ t_x2 ∧ t_x2 ≤ 3 := hi_t.1
    have y33_3 : (-2147483648) ≤ t_x3 ∧ t_x3 ≤ 2147483647 := hi_t.2
    rw [hQ]; exact fn_vret hx hb hr hlocks hP hD hS ((fun k => ([t_x2, t_x3, (u15a 0), (u15a 1), (u15a 2)] : List Int).getD k 0), (fun _ _ => 0)) ⟨(by show 0 ≤ t_x2 ∧ t_x2 ≤ 3 ∧ (-2147483648) ≤ t_x3 ∧ t_x3 ≤ 2147483647 ∧ 0 ≤ (u15a 0) ∧ (u15a 0) ≤ 4 ∧ 0 ≤ (u15a 1) ∧ (u15a 1) ≤ 1400 ∧ 0 ≤ (u15a 2) ∧ (u15a 2) ≤ 1400; omega), trivial⟩ [0, 1, 2] (by decide) rfl dX3_takeSign_33
theorem wd_490 : Cond.methodLink "FootNotes$Tape" 22 ⟨"FootNotes$Tape", "moveOn", "()V"⟩ ∈ fn_big := fn_tb (fn_l3 (List.mem_of_getElem? (i := 10) (by decide +kernel))) (by decide +kernel)
theorem dX6_goToFirstToken_0 : decode cX6_goToFirstToken 0 = .ok (.aload_n 0, 1) := by decide +kernel
theorem dX6_goToFirstToken_1 : decode cX6_goToFirstToken 1 = .ok (.iconst 0, 1) := by decide +kernel
theorem dX6_goToFirstToken_2 : decode cX6_goToFirstToken 2 = .ok (.putfield 19, 3) := by decide +kernel
theorem dX6_goToFirstToken_5 : decode cX6_goToFirstToken 5 = .ok (.aload_n 0, 1) := by decide +kernel
theorem dX6_goToFirstToken_6 : decode cX6_goToFirstToken 6 = .ok (.invokevirtual 22, 3) := by decide +kernel
theorem dX6_goToFirstToken_9 : decode cX6_goToFirstToken 9 = .ok (.return_, 1) := by decide +kernel
set_option maxHeartbeats 4000000 in
set_option maxRecDepth 100000 in
theorem k_X6_goToFirstToken (l : Launch) (D : va_G) (K : Nat → ClassId) (t : Nat) (t_q : Nat → Nat) (t_x0 t_x2 t_x3 t_x4 : Int) (t_1_c : Nat → Int) (hi_t : bX6 t_x0 t_x2 t_x3 t_x4) (hc_t_1 : ∀ j : Nat, (-128) ≤ t_1_c j ∧ t_1_c j ≤ 127) : fn_CV (S := (Nat → Int) × (Nat → Nat → Int)) l D K yX6_goToFirstToken (fn_ws yX6_goToFirstToken cX6_goToFirstToken 1 none) ({ frames := 12, cells := 0, slots := 0, locals := 300 } : Room) [.ref t] [(t, .inr (6, oX6 t_q t_x0 t_x2 t_x3 t_x4)), ((t_q 1), .inl (K 1, 1400, .inl (fun j => iI (t_1_c j))))] (fun u => (0 ≤ (u.1 0) ∧ (u.1 0) ≤ 4 ∧ 0 ≤ (u.1 1) ∧ (u.1 1) ≤ 1400 ∧ 0 ≤ (u.1 2) ∧ (u.1 2) ≤ 1400) ∧ True) (fun u => [(t, .inr (6, oX6 t_q t_x0 (u.1 0) (u.1 1) (u.1 2))), ((t_q 1), .inl (K 1, 1400, .inl (fun j => iI (t_1_c j))))]) 0 0 := by
  refine g_inV (cc := cX6_goToFirstToken) (maxL := 1) (ret := none) (by decide) rfl (Nat.le_of_ble_eq_true rfl) ?_
  intro p e s m below meth c A ls ag Q B hA hP hD hS hl hQ
  obtain ⟨hx, hb, hr, hml, hts, hown, hlocks, hin, hK⟩ := B
  have hown : s.vm.findClass RX6 = some m.cls := hown
  have hts := fun w h => hts w (List.mem_cons_of_mem _ h)
  have hl : lv_has ls 1 [(0, .ref t)] := hl
  refine lv_aload_n hx hb dX6_goToFirstToken_0 rfl (lv_at hl 0 rfl) ?_
  refine lv_iconst (v := iI 0) hx hb dX6_goToFirstToken_1 rfl ?_
  refine va_put (D := D) (own := RX6) (ci := 6) (v := .int (iI 0)) (ty := .int) (C := RX6) (T := TX6) (N := 5) hx hb hts inb_X6 tyX6 tyX6_ok nmX6 hown hK.1 hP hD hS 0 rfl rfl 4 (by decide) (hts _ wd_49) (fun _ h9 => h9) rfl (by decide +kernel) rfl rfl (Nat.le_of_ble_eq_true rfl) dX6_goToFirstToken_2 (fun H locs hP hD hS => ?_)
  have hP : va_P D vwCl [(t, .inr (6, oX6 t_q t_x0 t_x2 t_x3 0)), ((t_q 1), .inl (K 1, 1400, .inl (fun j => iI (t_1_c j))))] H := hP
  have hD : va_D A [(t, .inr (6, oX6 t_q t_x0 t_x2 t_x3 0)), ((t_q 1), .inl (K 1, 1400, .inl (fun j => iI (t_1_c j))))] := hD
  refine lv_aload_n hx hb dX6_goToFirstToken_5 rfl (lv_at hl 0 rfl) ?_
  refine fn_gov (wc := [(t, .inr (6, oX6 t_q t_x0 t_x2 t_x3 0)), ((t_q 1), .inl (K 1, 1400, .inl (fun j => iI (t_1_c j))))]) (wr := []) hK hP hD hS hA [0, 1] [] rfl rfl (by decide) (fun hp => va_runV (C := RX6) (As := []) (rest := []) ⟨hx, hb, hml, hown, hts⟩ (k_X6_moveOn (l := l) (D := D) (K := K) (t := t) (t_q := t_q) (t_x0 := t_x0) (t_x2 := t_x2) (t_x3 := t_x3) (t_x4 := 0) (t_1_c := t_1_c) (hi_t := ⟨hi_t.1, hi_t.2.1, hi_t.2.2.1, (by omega)⟩) (hc_t_1 := hc_t_1) _) (cwV 0 hts (fn_ginV (fn_gin wd_493) wd_490 wd_492 wp_4 wd_3) rfl rfl rfl (by decide +kernel) ⟨Nat.le_of_ble_eq_true rfl, Nat.le_of_ble_eq_true rfl⟩) ⟨fn_blind, va_recv hK.1 hP (ci := 6) (q0 := 0) rfl rfl, hp⟩ rfl rfl hl.1 rfl (lv_room (Nat.le_of_ble_eq_true rfl)) dX6_goToFirstToken_6 ⟨Nat.le_of_ble_eq_true rfl, Nat.le_of_ble_eq_true rfl⟩) (fun u6 H locs hwu6 hP hD hS => ?_)
  obtain ⟨u6a, u6b⟩ := u6
  obtain ⟨hqu60, -⟩ := hwu6
  have hqu6 : 0 ≤ (u6a 0) ∧ (u6a 0) ≤ 4 ∧ 0 ≤ (u6a 1) ∧ (u6a 1) ≤ 1400 ∧ 0 ≤ (u6a 2) ∧ (u6a 2) ≤ 1400 := hqu60
  clear hqu60
  have hP : va_P D vwCl [(t, .inr (6, oX6 t_q t_x0 (u6a 0) (u6a 1) (u6a 2))), ((t_q 1), .inl (K 1, 1400, .inl (fun j => iI (t_1_c j))))] H := hP
  have hD : va_D A [(t, .inr (6, oX6 t_q t_x0 (u6a 0) (u6a 1) (u6a 2))), ((t_q 1), .inl (K 1, 1400, .inl (fun j => iI (t_1_c j))))] := hD
  rw [hQ]; exact fn_vret hx hb hr hlocks hP hD hS ((fun k => ([(u6a 0), (u6a 1), (u6a 2)] : List Int).getD k 0), (fun _ _ => 0)) ⟨(by show 0 ≤ (u6a 0) ∧ (u6a 0) ≤ 4 ∧ 0 ≤ (u6a 1) ∧ (u6a 1) ≤ 1400 ∧ 0 ≤ (u6a 2) ∧ (u6a 2) ≤ 1400; omega), trivial⟩ [0, 1] (by decide) rfl dX6_goToFirstToken_9
