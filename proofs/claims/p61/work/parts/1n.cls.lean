theorem wd_1227 : Cond.methodLink "FootNotes" 464 ⟨"java/lang/System", "arraycopy", "(Ljava/lang/Object;ILjava/lang/Object;II)V"⟩ ∈ fn_big := fn_tb (fn_l6 (List.mem_of_getElem? (i := 27) (by decide +kernel))) (by decide +kernel)
theorem wd_1226 : Cond.code ⟨"FootNotes$Row", "spans", "(II)Z"⟩ prog_6_method_4_code 3 (Option.some Jvm.ClassFile.FieldType.boolean) ∈ fn_big := fn_tb (fn_l6 (List.mem_of_getElem? (i := 26) (by decide +kernel))) (by decide +kernel)
theorem wd_1225 : Cond.instanceMethod ⟨"FootNotes$Row", "spans", "(II)Z"⟩ ∈ fn_big := fn_tb (fn_l6 (List.mem_of_getElem? (i := 25) (by decide +kernel))) (by decide +kernel)
theorem wp_93 : Cond.selects "FootNotes$Row" ⟨"FootNotes$Row", "spans", "(II)Z"⟩ ⟨"FootNotes$Row", "spans", "(II)Z"⟩ ∈ fn_big := fn_sel (q := (⟨"FootNotes$Row", "spans", "(II)Z"⟩, 4)) 93 (by decide +kernel) (by decide +kernel)
theorem dX11_paste_0 : decode cX11_paste 0 = .ok (.iload_n 1, 1) := by decide +kernel
theorem dX11_paste_1 : decode cX11_paste 1 = .ok (.invokestatic 337, 3) := by decide +kernel
theorem dX11_paste_4 : decode cX11_paste 4 = .ok (.ifCond .ne 10, 3) := by decide +kernel
theorem dX11_paste_14 : decode cX11_paste 14 = .ok (.bipush (-2), 2) := by decide +kernel
theorem dX11_paste_16 : decode cX11_paste 16 = .ok (.ireturn, 1) := by decide +kernel
theorem dX11_paste_7 : decode cX11_paste 7 = .ok (.iload_n 3, 1) := by decide +kernel
theorem dX11_paste_8 : decode cX11_paste 8 = .ok (.invokestatic 337, 3) := by decide +kernel
theorem dX11_paste_11 : decode cX11_paste 11 = .ok (.ifCond .eq 6, 3) := by decide +kernel
theorem dX11_paste_17 : decode cX11_paste 17 = .ok (.aload_n 0, 1) := by decide +kernel
theorem dX11_paste_18 : decode cX11_paste 18 = .ok (.getfield 44, 3) := by decide +kernel
theorem dX11_paste_21 : decode cX11_paste 21 = .ok (.iload_n 1, 1) := by decide +kernel
theorem dX11_paste_22 : decode cX11_paste 22 = .ok (.aaload, 1) := by decide +kernel
theorem dX11_paste_23 : decode cX11_paste 23 = .ok (.astore 6, 2) := by decide +kernel
theorem dX11_paste_25 : decode cX11_paste 25 = .ok (.aload_n 0, 1) := by decide +kernel
theorem dX11_paste_26 : decode cX11_paste 26 = .ok (.getfield 44, 3) := by decide +kernel
theorem dX11_paste_29 : decode cX11_paste 29 = .ok (.iload_n 3, 1) := by decide +kernel
theorem dX11_paste_30 : decode cX11_paste 30 = .ok (.aaload, 1) := by decide +kernel
theorem dX11_paste_31 : decode cX11_paste 31 = .ok (.astore 7, 2) := by decide +kernel
theorem dX11_paste_33 : decode cX11_paste 33 = .ok (.aload 6, 2) := by decide +kernel
theorem dX11_paste_35 : decode cX11_paste 35 = .ok (.getfield 340, 3) := by decide +kernel
theorem dX11_paste_38 : decode cX11_paste 38 = .ok (.ifCond .eq 11, 3) := by decide +kernel
theorem dX11_paste_49 : decode cX11_paste 49 = .ok (.bipush (-6), 2) := by decide +kernel
theorem dX11_paste_51 : decode cX11_paste 51 = .ok (.ireturn, 1) := by decide +kernel
theorem dX11_paste_41 : decode cX11_paste 41 = .ok (.aload 7, 2) := by decide +kernel
theorem dX11_paste_43 : decode cX11_paste 43 = .ok (.getfield 340, 3) := by decide +kernel
theorem dX11_paste_46 : decode cX11_paste 46 = .ok (.ifCond .ne 6, 3) := by decide +kernel
theorem dX11_paste_52 : decode cX11_paste 52 = .ok (.aload 6, 2) := by decide +kernel
theorem dX11_paste_54 : decode cX11_paste 54 = .ok (.getfield 458, 3) := by decide +kernel
theorem dX11_paste_57 : decode cX11_paste 57 = .ok (.aload 7, 2) := by decide +kernel
theorem dX11_paste_59 : decode cX11_paste 59 = .ok (.getfield 458, 3) := by decide +kernel
theorem dX11_paste_62 : decode cX11_paste 62 = .ok (.if_icmp .eq 6, 3) := by decide +kernel
theorem dX11_paste_68 : decode cX11_paste 68 = .ok (.aload 6, 2) := by decide +kernel
theorem dX11_paste_70 : decode cX11_paste 70 = .ok (.iload_n 2, 1) := by decide +kernel
theorem dX11_paste_71 : decode cX11_paste 71 = .ok (.iload 5, 2) := by decide +kernel
theorem dX11_paste_73 : decode cX11_paste 73 = .ok (.invokevirtual 461, 3) := by decide +kernel
theorem dX11_paste_76 : decode cX11_paste 76 = .ok (.ifCond .eq 15, 3) := by decide +kernel
theorem dX11_paste_91 : decode cX11_paste 91 = .ok (.bipush (-7), 2) := by decide +kernel
theorem dX11_paste_93 : decode cX11_paste 93 = .ok (.ireturn, 1) := by decide +kernel
theorem dX11_paste_79 : decode cX11_paste 79 = .ok (.aload 7, 2) := by decide +kernel
theorem dX11_paste_81 : decode cX11_paste 81 = .ok (.iload 4, 2) := by decide +kernel
theorem dX11_paste_83 : decode cX11_paste 83 = .ok (.iload 5, 2) := by decide +kernel
theorem dX11_paste_85 : decode cX11_paste 85 = .ok (.invokevirtual 461, 3) := by decide +kernel
theorem dX11_paste_88 : decode cX11_paste 88 = .ok (.ifCond .ne 6, 3) := by decide +kernel
theorem dX11_paste_94 : decode cX11_paste 94 = .ok (.aload 6, 2) := by decide +kernel
theorem dX11_paste_96 : decode cX11_paste 96 = .ok (.getfield 344, 3) := by decide +kernel
theorem dX11_paste_99 : decode cX11_paste 99 = .ok (.iload_n 2, 1) := by decide +kernel
theorem dX11_paste_100 : decode cX11_paste 100 = .ok (.aload 7, 2) := by decide +kernel
theorem dX11_paste_102 : decode cX11_paste 102 = .ok (.getfield 344, 3) := by decide +kernel
theorem dX11_paste_105 : decode cX11_paste 105 = .ok (.iload 4, 2) := by decide +kernel
theorem dX11_paste_107 : decode cX11_paste 107 = .ok (.iload 5, 2) := by decide +kernel
theorem dX11_paste_109 : decode cX11_paste 109 = .ok (.invokestatic 464, 3) := by decide +kernel
theorem dX11_paste_112 : decode cX11_paste 112 = .ok (.iconst 0, 1) := by decide +kernel
theorem dX11_paste_113 : decode cX11_paste 113 = .ok (.ireturn, 1) := by decide +kernel
theorem dX11_paste_65 : decode cX11_paste 65 = .ok (.bipush (-8), 2) := by decide +kernel
theorem dX11_paste_67 : decode cX11_paste 67 = .ok (.ireturn, 1) := by decide +kernel
set_option maxHeartbeats 4000000 in
set_option maxRecDepth 100000 in
theorem k_X11_paste_00 (l : Launch) (D : va_G) (K : Nat → ClassId) (t : Nat) (t_q t_6_r t_6_0_q : Nat → Nat) (p2 p4 p5 t_6_0_x0 t_6_0_x1 t_6_0_x2 : Int) (t_6_c : Nat → Option Nat) (t_6_0_3_c : Nat → Int) (hp2 : (-2147483648) ≤ p2 ∧ p2 ≤ 2147483647) (hp4 : (-2147483648) ≤ p4 ∧ p4 ≤ 2147483647) (hp5 : (-2147483648) ≤ p5 ∧ p5 ≤ 2147483647) (hr_t_6 : ∀ j : Nat, j < 4 → t_6_c j = some (t_6_r j)) (hi_t_6_0 : bX4 t_6_0_x0 t_6_0_x1 t_6_0_x2) (hc_t_6_0_3 : ∀ j : Nat, (-9223372036854775808) ≤ t_6_0_3_c j ∧ t_6_0_3_c j ≤ 9223372036854775807) : fn_CI (S := (Nat → Int) × (Nat → Nat → Int)) l D K yX11_paste (fn_ws yX11_paste cX11_paste 8 (some .int)) ({ frames := 8, cells := 0, slots := 0, locals := 200 } : Room) [.ref t, .int (iI 0), .int (iI p2), .int (iI 0), .int (iI p4), .int (iI p5)] [(t, .inr (11, oX11 t_q)), ((t_q 6), .inl (K 6, 4, .inr (.inr (.inr (.inr t_6_c))))), ((t_6_r 0), .inr (4, oX4 t_6_0_q t_6_0_x0 t_6_0_x1 t_6_0_x2)), ((t_6_0_q 3), .inl (K 3, 60, .inr (.inl (fun j => lI (t_6_0_3_c j)))))] (fun r u => ∃ k : Int, r = iI k ∧ ((-8) ≤ k ∧ k ≤ 0) ∧ (∀ j : Nat, (-9223372036854775808) ≤ (u.2 0) j ∧ (u.2 0) j ≤ 9223372036854775807) ∧ True) (fun u => [(t, .inr (11, oX11 t_q)), ((t_q 6), .inl (K 6, 4, .inr (.inr (.inr (.inr t_6_c))))), ((t_6_r 0), .inr (4, oX4 t_6_0_q t_6_0_x0 t_6_0_x1 t_6_0_x2)), ((t_6_0_q 3), .inl (K 3, 60, .inr (.inl (fun j => lI ((u.2 0) j)))))]) 0 0 := by
  refine g_inI (cc := cX11_paste) (maxL := 8) (ret := (some .int)) (by decide) rfl (Nat.le_of_ble_eq_true rfl) ?_
  intro p e s m below meth c A ls ag Q B hA hP hD hS hl hQ
  obtain ⟨hx, hb, hr, hml, hts, hown, hlocks, hin, hK⟩ := B
  have hown : s.vm.findClass RX11 = some m.cls := hown
  have hts := fun w h => hts w (List.mem_cons_of_mem _ h)
  have hl : lv_has ls 8 [(0, .ref t), (1, .int (iI 0)), (2, .int (iI p2)), (3, .int (iI 0)), (4, .int (iI p4)), (5, .int (iI p5))] := hl
  refine lv_iload_n hx hb dX11_paste_0 rfl (lv_at hl 1 rfl) ?_
  refine fn_goi (wc := []) (wr := [(t, .inr (11, oX11 t_q)), ((t_q 6), .inl (K 6, 4, .inr (.inr (.inr (.inr t_6_c))))), ((t_6_r 0), .inr (4, oX4 t_6_0_q t_6_0_x0 t_6_0_x1 t_6_0_x2)), ((t_6_0_q 3), .inl (K 3, 60, .inr (.inl (fun j => lI (t_6_0_3_c j)))))]) hK hP hD hS hA [] [0, 1, 2, 3] rfl rfl (by decide) (fun hp => va_runS (As := [.int (iI 0)]) (rest := []) ⟨hx, hb, hml, hown, hts⟩ (k_X11_noSlot (l := l) (D := D) (K := K) (p1 := 0) (hp1 := (by omega)) _) (va_cwS 1 hts (fn_ginS (fn_gin wd_963) wd_961 wd_962 wd_1) rfl rfl rfl (by decide +kernel) ⟨Nat.le_of_ble_eq_true rfl, Nat.le_of_ble_eq_true rfl⟩) ⟨fn_blind, hp⟩ rfl rfl hl.1 rfl (lv_room (Nat.le_of_ble_eq_true rfl)) dX11_paste_1 ⟨Nat.le_of_ble_eq_true rfl, Nat.le_of_ble_eq_true rfl⟩) (fun r1 u1 H locs hwu1 hP hD hS => ?_)
  obtain ⟨u1a, u1b⟩ := u1
  obtain ⟨kr1, rfl, hkr1, hqu10, -⟩ := hwu1
  have hqu1 : (kr1 = 0 → 0 ≤ (0 : Int) ∧ (0 : Int) ≤ 3) ∧ (kr1 = 1 → (0 : Int) < 0 ∨ 3 < (0 : Int)) := hqu10
  clear hqu10
  have hP : va_P D vwCl [(t, .inr (11, oX11 t_q)), ((t_q 6), .inl (K 6, 4, .inr (.inr (.inr (.inr t_6_c))))), ((t_6_r 0), .inr (4, oX4 t_6_0_q t_6_0_x0 t_6_0_x1 t_6_0_x2)), ((t_6_0_q 3), .inl (K 3, 60, .inr (.inl (fun j => lI (t_6_0_3_c j)))))] H := hP
  have hD : va_D A [(t, .inr (11, oX11 t_q)), ((t_q 6), .inl (K 6, 4, .inr (.inr (.inr (.inr t_6_c))))), ((t_6_r 0), .inr (4, oX4 t_6_0_q t_6_0_x0 t_6_0_x1 t_6_0_x2)), ((t_6_0_q 3), .inl (K 3, 60, .inr (.inl (fun j => lI (t_6_0_3_c j)))))] := hD
  refine g_if_ne (tgt := 14) hx hb (by omega) dX11_paste_4 (by decide) (fun c4 => ?_) (fun c4 => ?_)
  · refine lv_bipush (v := iI (-2)) hx hb dX11_paste_14 (by decide) ?_
    rw [hQ]; exact fn_iret hx hb hr hlocks rfl hP hD hS ((fun _ => 0), (fun k => ([t_6_0_3_c] : List (Nat → Int)).getD k (fun _ => 0))) ⟨(-2), rfl, by omega, (hc_t_6_0_3), trivial⟩ [0, 1, 2, 3] (by decide) rfl dX11_paste_16
  · refine lv_iload_n hx hb dX11_paste_7 rfl (lv_at hl 3 rfl) ?_
    refine fn_goi (wc := []) (wr := [(t, .inr (11, oX11 t_q)), ((t_q 6), .inl (K 6, 4, .inr (.inr (.inr (.inr t_6_c))))), ((t_6_r 0), .inr (4, oX4 t_6_0_q t_6_0_x0 t_6_0_x1 t_6_0_x2)), ((t_6_0_q 3), .inl (K 3, 60, .inr (.inl (fun j => lI (t_6_0_3_c j)))))]) hK hP hD hS hA [] [0, 1, 2, 3] rfl rfl (by decide) (fun hp => va_runS (As := [.int (iI 0)]) (rest := []) ⟨hx, hb, hml, hown, hts⟩ (k_X11_noSlot (l := l) (D := D) (K := K) (p1 := 0) (hp1 := (by omega)) _) (va_cwS 1 hts (fn_ginS (fn_gin wd_963) wd_961 wd_962 wd_1) rfl rfl rfl (by decide +kernel) ⟨Nat.le_of_ble_eq_true rfl, Nat.le_of_ble_eq_true rfl⟩) ⟨fn_blind, hp⟩ rfl rfl hl.1 rfl (lv_room (Nat.le_of_ble_eq_true rfl)) dX11_paste_8 ⟨Nat.le_of_ble_eq_true rfl, Nat.le_of_ble_eq_true rfl⟩) (fun r8 u8 H locs hwu8 hP hD hS => ?_)
    obtain ⟨u8a, u8b⟩ := u8
    obtain ⟨kr8, rfl, hkr8, hqu80, -⟩ := hwu8
    have hqu8 : (kr8 = 0 → 0 ≤ (0 : Int) ∧ (0 : Int) ≤ 3) ∧ (kr8 = 1 → (0 : Int) < 0 ∨ 3 < (0 : Int)) := hqu80
    clear hqu80
    have hP : va_P D vwCl [(t, .inr (11, oX11 t_q)), ((t_q 6), .inl (K 6, 4, .inr (.inr (.inr (.inr t_6_c))))), ((t_6_r 0), .inr (4, oX4 t_6_0_q t_6_0_x0 t_6_0_x1 t_6_0_x2)), ((t_6_0_q 3), .inl (K 3, 60, .inr (.inl (fun j => lI (t_6_0_3_c j)))))] H := hP
    have hD : va_D A [(t, .inr (11, oX11 t_q)), ((t_q 6), .inl (K 6, 4, .inr (.inr (.inr (.inr t_6_c))))), ((t_6_r 0), .inr (4, oX4 t_6_0_q t_6_0_x0 t_6_0_x1 t_6_0_x2)), ((t_6_0_q 3), .inl (K 3, 60, .inr (.inl (fun j => lI (t_6_0_3_c j)))))] := hD
    refine g_if_eq (tgt := 17) hx hb (by omega) dX11_paste_11 (by decide) (fun c11 => ?_) (fun c11 => ?_)
    · refine lv_aload_n hx hb dX11_paste_17 rfl (lv_at hl 0 rfl) ?_
      refine va_get (D := D) (own := RX11) (ci := 11) (v := .ref (t_q 6)) (C := RX11) (T := TX11) (N := 13) hx hb hts inb_X11 hown hK.1 hP 0 rfl rfl 6 (by decide) (hts _ wd_428) (fun _ h9 => h9) rfl dX11_paste_18 ?_
      refine lv_iload_n hx hb dX11_paste_21 rfl (lv_at hl 1 rfl) ?_
      refine va_aldq hx hb hK.1 hP 1 6 rfl rfl (iI_in (by decide) (by decide) (by decide)) dX11_paste_22 ?_
      refine fn_topv (.ref (t_6_r 0)) (by rw [iI_cl (by decide)]; exact congrArg va_rf (hr_t_6 0 (by decide))) ?_
      refine lv_astore (lv' := [(6, .ref (t_6_r 0)), (0, .ref t), (1, .int (iI 0)), (2, .int (iI p2)), (3, .int (iI 0)), (4, .int (iI p4)), (5, .int (iI p5))]) hx hb dX11_paste_23 hl (by decide) rfl (fun ls hl => ?_)
      refine lv_aload_n hx hb dX11_paste_25 rfl (lv_at hl 1 rfl) ?_
      refine va_get (D := D) (own := RX11) (ci := 11) (v := .ref (t_q 6)) (C := RX11) (T := TX11) (N := 13) hx hb hts inb_X11 hown hK.1 hP 0 rfl rfl 6 (by decide) (hts _ wd_428) (fun _ h9 => h9) rfl dX11_paste_26 ?_
      refine lv_iload_n hx hb dX11_paste_29 rfl (lv_at hl 4 rfl) ?_
      refine va_aldq hx hb hK.1 hP 1 6 rfl rfl (iI_in (by decide) (by decide) (by decide)) dX11_paste_30 ?_
      refine fn_topv (.ref (t_6_r 0)) (by rw [iI_cl (by decide)]; exact congrArg va_rf (hr_t_6 0 (by decide))) ?_
      refine lv_astore (lv' := [(7, .ref (t_6_r 0)), (6, .ref (t_6_r 0)), (0, .ref t), (1, .int (iI 0)), (2, .int (iI p2)), (3, .int (iI 0)), (4, .int (iI p4)), (5, .int (iI p5))]) hx hb dX11_paste_31 hl (by decide) rfl (fun ls hl => ?_)
      refine lv_aload hx hb dX11_paste_33 (lv_at hl 1 rfl) ?_
      refine va_getN (D := D) (own := RX11) (ci := 4) (v := .int (iI t_6_0_x0)) (C := RX4) (T := TX4) (N := 4) hx hb hts inb_X4 hown hK.1 hP 2 rfl rfl 0 (by decide) (hK.nf 89 rfl) (fun _ h9 => h9) rfl dX11_paste_35 ?_
      have y35_1 : 0 ≤ t_6_0_x0 ∧ t_6_0_x0 ≤ 1 := hi_t_6_0.1
      refine g_if_eq (tgt := 49) hx hb (by omega) dX11_paste_38 (by decide) (fun c38 => ?_) (fun c38 => ?_)
      · refine fn_at 49 rfl ?_
        refine lv_bipush (v := iI (-6)) hx hb dX11_paste_49 (by decide) ?_
        rw [hQ]; exact fn_iret hx hb hr hlocks rfl hP hD hS ((fun _ => 0), (fun k => ([t_6_0_3_c] : List (Nat → Int)).getD k (fun _ => 0))) ⟨(-6), rfl, by omega, (hc_t_6_0_3), trivial⟩ [0, 1, 2, 3] (by decide) rfl dX11_paste_51
      · refine fn_at 41 rfl ?_
        refine lv_aload hx hb dX11_paste_41 (lv_at hl 0 rfl) ?_
        refine va_getN (D := D) (own := RX11) (ci := 4) (v := .int (iI t_6_0_x0)) (C := RX4) (T := TX4) (N := 4) hx hb hts inb_X4 hown hK.1 hP 2 rfl rfl 0 (by decide) (hK.nf 89 rfl) (fun _ h9 => h9) rfl dX11_paste_43 ?_
        refine g_if_ne (tgt := 52) hx hb (by omega) dX11_paste_46 (by decide) (fun c46 => ?_) (fun c46 => ?_)
        · refine lv_aload hx hb dX11_paste_52 (lv_at hl 1 rfl) ?_
          refine va_getN (D := D) (own := RX11) (ci := 4) (v := .int (iI t_6_0_x1)) (C := RX4) (T := TX4) (N := 4) hx hb hts inb_X4 hown hK.1 hP 2 rfl rfl 1 (by decide) (hK.nf 90 rfl) (fun _ h9 => h9) rfl dX11_paste_54 ?_
          have y54_2 : 0 ≤ t_6_0_x1 ∧ t_6_0_x1 ≤ 3 := hi_t_6_0.2.1
          refine lv_aload hx hb dX11_paste_57 (lv_at hl 0 rfl) ?_
          refine va_getN (D := D) (own := RX11) (ci := 4) (v := .int (iI t_6_0_x1)) (C := RX4) (T := TX4) (N := 4) hx hb hts inb_X4 hown hK.1 hP 2 rfl rfl 1 (by decide) (hK.nf 90 rfl) (fun _ h9 => h9) rfl dX11_paste_59 ?_
          refine g_icmp_eq (tgt := 68) hx hb (by omega) (by omega) dX11_paste_62 (by decide) (fun c62 => ?_) (fun c62 => ?_)
          · refine lv_aload hx hb dX11_paste_68 (lv_at hl 1 rfl) ?_
            refine lv_iload_n hx hb dX11_paste_70 rfl (lv_at hl 4 rfl) ?_
            refine lv_iload hx hb dX11_paste_71 (lv_at hl 7 rfl) ?_
            refine fn_goi (wc := [((t_6_r 0), .inr (4, oX4 t_6_0_q t_6_0_x0 t_6_0_x1 t_6_0_x2))]) (wr := [(t, .inr (11, oX11 t_q)), ((t_q 6), .inl (K 6, 4, .inr (.inr (.inr (.inr t_6_c))))), ((t_6_0_q 3), .inl (K 3, 60, .inr (.inl (fun j => lI (t_6_0_3_c j)))))]) hK hP hD hS hA [2] [0, 1, 3] rfl rfl (by decide) (fun hp => va_runVN (C := RX4) (As := [.int (iI p2), .int (iI p5)]) (rest := []) ⟨hx, hb, hml, hown, hts⟩ (k_X4_spans (l := l) (D := D) (K := K) (t := (t_6_r 0)) (p1 := p2) (p2 := p5) (t_q := t_6_0_q) (t_x0 := t_6_0_x0) (t_x1 := t_6_0_x1) (t_x2 := t_6_0_x2) (hp1 := (by omega)) (hp2 := (by omega)) (hi_t := hi_t_6_0) _) ⟨va_cnB (own := RX11) 2 hts (fn_gin wd_1226) rfl rfl rfl (hK.nw 155 rfl) (hts _ wd_12) (by decide +kernel) ⟨Nat.le_of_ble_eq_true rfl, Nat.le_of_ble_eq_true rfl⟩, hts _ wd_1225, hts _ wp_93⟩ ⟨fn_blind, va_recv hK.1 hP (ci := 4) (q0 := 2) rfl rfl, hp⟩ rfl rfl hl.1 rfl (lv_room (Nat.le_of_ble_eq_true rfl)) dX11_paste_73 ⟨Nat.le_of_ble_eq_true rfl, Nat.le_of_ble_eq_true rfl⟩) (fun r73 u73 H locs hwu73 hP hD hS => ?_)
            obtain ⟨u73a, u73b⟩ := u73
            obtain ⟨kr73, rfl, hkr73, hqu730, -⟩ := hwu73
            have hqu73 : (kr73 = 1 → 0 ≤ p2 ∧ 0 ≤ p5 ∧ p2 + p5 ≤ t_6_0_x2 ∧ p2 + p5 ≤ 60) := hqu730
            clear hqu730
            have hP : va_P D vwCl [(t, .inr (11, oX11 t_q)), ((t_q 6), .inl (K 6, 4, .inr (.inr (.inr (.inr t_6_c))))), ((t_6_0_q 3), .inl (K 3, 60, .inr (.inl (fun j => lI (t_6_0_3_c j))))), ((t_6_r 0), .inr (4, oX4 t_6_0_q t_6_0_x0 t_6_0_x1 t_6_0_x2))] H := hP
            have hD : va_D A [(t, .inr (11, oX11 t_q)), ((t_q 6), .inl (K 6, 4, .inr (.inr (.inr (.inr t_6_c))))), ((t_6_0_q 3), .inl (K 3, 60, .inr (.inl (fun j => lI (t_6_0_3_c j))))), ((t_6_r 0), .inr (4, oX4 t_6_0_q t_6_0_x0 t_6_0_x1 t_6_0_x2))] := hD
            refine g_if_eq (tgt := 91) hx hb (by omega) dX11_paste_76 (by decide) (fun c76 => ?_) (fun c76 => ?_)
            · refine lv_bipush (v := iI (-7)) hx hb dX11_paste_91 (by decide) ?_
              rw [hQ]; exact fn_iret hx hb hr hlocks rfl hP hD hS ((fun _ => 0), (fun k => ([t_6_0_3_c] : List (Nat → Int)).getD k (fun _ => 0))) ⟨(-7), rfl, by omega, (hc_t_6_0_3), trivial⟩ [0, 1, 3, 2] (by decide) rfl dX11_paste_93
            · refine lv_aload hx hb dX11_paste_79 (lv_at hl 0 rfl) ?_
              refine lv_iload hx hb dX11_paste_81 (lv_at hl 6 rfl) ?_
              refine lv_iload hx hb dX11_paste_83 (lv_at hl 7 rfl) ?_
              refine fn_goi (wc := [((t_6_r 0), .inr (4, oX4 t_6_0_q t_6_0_x0 t_6_0_x1 t_6_0_x2))]) (wr := [(t, .inr (11, oX11 t_q)), ((t_q 6), .inl (K 6, 4, .inr (.inr (.inr (.inr t_6_c))))), ((t_6_0_q 3), .inl (K 3, 60, .inr (.inl (fun j => lI (t_6_0_3_c j)))))]) hK hP hD hS hA [3] [0, 1, 2] rfl rfl (by decide) (fun hp => va_runVN (C := RX4) (As := [.int (iI p4), .int (iI p5)]) (rest := []) ⟨hx, hb, hml, hown, hts⟩ (k_X4_spans (l := l) (D := D) (K := K) (t := (t_6_r 0)) (p1 := p4) (p2 := p5) (t_q := t_6_0_q) (t_x0 := t_6_0_x0) (t_x1 := t_6_0_x1) (t_x2 := t_6_0_x2) (hp1 := (by omega)) (hp2 := (by omega)) (hi_t := hi_t_6_0) _) ⟨va_cnB (own := RX11) 2 hts (fn_gin wd_1226) rfl rfl rfl (hK.nw 155 rfl) (hts _ wd_12) (by decide +kernel) ⟨Nat.le_of_ble_eq_true rfl, Nat.le_of_ble_eq_true rfl⟩, hts _ wd_1225, hts _ wp_93⟩ ⟨fn_blind, va_recv hK.1 hP (ci := 4) (q0 := 3) rfl rfl, hp⟩ rfl rfl hl.1 rfl (lv_room (Nat.le_of_ble_eq_true rfl)) dX11_paste_85 ⟨Nat.le_of_ble_eq_true rfl, Nat.le_of_ble_eq_true rfl⟩) (fun r85 u85 H locs hwu85 hP hD hS => ?_)
              obtain ⟨u85a, u85b⟩ := u85
              obtain ⟨kr85, rfl, hkr85, hqu850, -⟩ := hwu85
              have hqu85 : (kr85 = 1 → 0 ≤ p4 ∧ 0 ≤ p5 ∧ p4 + p5 ≤ t_6_0_x2 ∧ p4 + p5 ≤ 60) := hqu850
              clear hqu850
              have hP : va_P D vwCl [(t, .inr (11, oX11 t_q)), ((t_q 6), .inl (K 6, 4, .inr (.inr (.inr (.inr t_6_c))))), ((t_6_0_q 3), .inl (K 3, 60, .inr (.inl (fun j => lI (t_6_0_3_c j))))), ((t_6_r 0), .inr (4, oX4 t_6_0_q t_6_0_x0 t_6_0_x1 t_6_0_x2))] H := hP
              have hD : va_D A [(t, .inr (11, oX11 t_q)), ((t_q 6), .inl (K 6, 4, .inr (.inr (.inr (.inr t_6_c))))), ((t_6_0_q 3), .inl (K 3, 60, .inr (.inl (fun j => lI (t_6_0_3_c j))))), ((t_6_r 0), .inr (4, oX4 t_6_0_q t_6_0_x0 t_6_0_x1 t_6_0_x2))] := hD
              refine g_if_ne (tgt := 94) hx hb (by omega) dX11_paste_88 (by decide) (fun c88 => ?_) (fun c88 => ?_)
              · refine lv_aload hx hb dX11_paste_94 (lv_at hl 1 rfl) ?_
                refine va_getN (D := D) (own := RX11) (ci := 4) (v := .ref (t_6_0_q 3)) (C := RX4) (T := TX4) (N := 4) hx hb hts inb_X4 hown hK.1 hP 3 rfl rfl 3 (by decide) (hK.nf 92 rfl) (fun _ h9 => h9) rfl dX11_paste_96 ?_
                refine fn_at 99 rfl ?_
                refine lv_iload_n hx hb dX11_paste_99 rfl (lv_at hl 4 rfl) ?_
                refine lv_aload hx hb dX11_paste_100 (lv_at hl 0 rfl) ?_
                refine va_getN (D := D) (own := RX11) (ci := 4) (v := .ref (t_6_0_q 3)) (C := RX4) (T := TX4) (N := 4) hx hb hts inb_X4 hown hK.1 hP 3 rfl rfl 3 (by decide) (hK.nf 92 rfl) (fun _ h9 => h9) rfl dX11_paste_102 ?_
                refine lv_iload hx hb dX11_paste_105 (lv_at hl 6 rfl) ?_
                refine lv_iload hx hb dX11_paste_107 (lv_at hl 7 rfl) ?_
                refine g_cpyl (own := RX11) hx hb (hml.trans hl.1.symm) hown (hts _ wd_1227) (hts _ wd_622) (hts _ wd_621) (hts _ wd_19) hK.1 hP hD hS 2 2 3 3 rfl rfl rfl rfl (by omega) (by omega) (by omega) (Nat.le_of_ble_eq_true rfl) (Nat.le_of_ble_eq_true rfl) dX11_paste_109 (fun H locs g109 eg109 hP hD hS => ?_)
                have hg109 : ∀ j : Nat, (-9223372036854775808) ≤ g109 j ∧ g109 j ≤ 9223372036854775807 := by rw [eg109]; exact cI_all hc_t_6_0_3 hc_t_6_0_3
                have hP : va_P D vwCl [(t, .inr (11, oX11 t_q)), ((t_q 6), .inl (K 6, 4, .inr (.inr (.inr (.inr t_6_c))))), ((t_6_0_q 3), .inl (K 3, 60, .inr (.inl (fun j => lI (g109 j))))), ((t_6_r 0), .inr (4, oX4 t_6_0_q t_6_0_x0 t_6_0_x1 t_6_0_x2))] H := hP
                have hD : va_D A [(t, .inr (11, oX11 t_q)), ((t_q 6), .inl (K 6, 4, .inr (.inr (.inr (.inr t_6_c))))), ((t_6_0_q 3), .inl (K 3, 60, .inr (.inl (fun j => lI (g109 j))))), ((t_6_r 0), .inr (4, oX4 t_6_0_q t_6_0_x0 t_6_0_x1 t_6_0_x2))] := hD
                refine lv_iconst (v := iI 0) hx hb dX11_paste_112 rfl ?_
                rw [hQ]; exact fn_iret hx hb hr hlocks rfl hP hD hS ((fun _ => 0), (fun k => ([g109] : List (Nat → Int)).getD k (fun _ => 0))) ⟨0, rfl, by omega, (hg109), trivial⟩ [0, 1, 3, 2] (by decide) rfl dX11_paste_113
              · refine lv_bipush (v := iI (-7)) hx hb dX11_paste_91 (by decide) ?_
                rw [hQ]; exact fn_iret hx hb hr hlocks rfl hP hD hS ((fun _ => 0), (fun k => ([t_6_0_3_c] : List (Nat → Int)).getD k (fun _ => 0))) ⟨(-7), rfl, by omega, (hc_t_6_0_3), trivial⟩ [0, 1, 3, 2] (by decide) rfl dX11_paste_93
          · refine lv_bipush (v := iI (-8)) hx hb dX11_paste_65 (by decide) ?_
            rw [hQ]; exact fn_iret hx hb hr hlocks rfl hP hD hS ((fun _ => 0), (fun k => ([t_6_0_3_c] : List (Nat → Int)).getD k (fun _ => 0))) ⟨(-8), rfl, by omega, (hc_t_6_0_3), trivial⟩ [0, 1, 2, 3] (by decide) rfl dX11_paste_67
        · exfalso; omega
    · refine lv_bipush (v := iI (-2)) hx hb dX11_paste_14 (by decide) ?_
      rw [hQ]; exact fn_iret hx hb hr hlocks rfl hP hD hS ((fun _ => 0), (fun k => ([t_6_0_3_c] : List (Nat → Int)).getD k (fun _ => 0))) ⟨(-2), rfl, by omega, (hc_t_6_0_3), trivial⟩ [0, 1, 2, 3] (by decide) rfl dX11_paste_16
set_option maxHeartbeats 4000000 in
set_option maxRecDepth 100000 in
theorem k_X11_paste_01 (l : Launch) (D : va_G) (K : Nat → ClassId) (t : Nat) (t_q t_6_r t_6_0_q t_6_1_q : Nat → Nat) (p2 p4 p5 t_6_0_x0 t_6_0_x1 t_6_0_x2 t_6_1_x0 t_6_1_x1 t_6_1_x2 : Int) (t_6_c : Nat → Option Nat) (t_6_0_3_c : Nat → Int) (t_6_1_3_c : Nat → Int) (hp2 : (-2147483648) ≤ p2 ∧ p2 ≤ 2147483647) (hp4 : (-2147483648) ≤ p4 ∧ p4 ≤ 2147483647) (hp5 : (-2147483648) ≤ p5 ∧ p5 ≤ 2147483647) (hr_t_6 : ∀ j : Nat, j < 4 → t_6_c j = some (t_6_r j)) (hi_t_6_0 : bX4 t_6_0_x0 t_6_0_x1 t_6_0_x2) (hi_t_6_1 : bX4 t_6_1_x0 t_6_1_x1 t_6_1_x2) (hc_t_6_0_3 : ∀ j : Nat, (-9223372036854775808) ≤ t_6_0_3_c j ∧ t_6_0_3_c j ≤ 9223372036854775807) (hc_t_6_1_3 : ∀ j : Nat, (-9223372036854775808) ≤ t_6_1_3_c j ∧ t_6_1_3_c j ≤ 9223372036854775807) : fn_CI (S := (Nat → Int) × (Nat → Nat → Int)) l D K yX11_paste (fn_ws yX11_paste cX11_paste 8 (some .int)) ({ frames := 8, cells := 0, slots := 0, locals := 200 } : Room) [.ref t, .int (iI 0), .int (iI p2), .int (iI 1), .int (iI p4), .int (iI p5)] [(t, .inr (11, oX11 t_q)), ((t_q 6), .inl (K 6, 4, .inr (.inr (.inr (.inr t_6_c))))), ((t_6_r 0), .inr (4, oX4 t_6_0_q t_6_0_x0 t_6_0_x1 t_6_0_x2)), ((t_6_r 1), .inr (4, oX4 t_6_1_q t_6_1_x0 t_6_1_x1 t_6_1_x2)), ((t_6_0_q 3), .inl (K 3, 60, .inr (.inl (fun j => lI (t_6_0_3_c j))))), ((t_6_1_q 3), .inl (K 3, 60, .inr (.inl (fun j => lI (t_6_1_3_c j)))))] (fun r u => ∃ k : Int, r = iI k ∧ ((-8) ≤ k ∧ k ≤ 0) ∧ (∀ j : Nat, (-9223372036854775808) ≤ (u.2 0) j ∧ (u.2 0) j ≤ 9223372036854775807) ∧ True) (fun u => [(t, .inr (11, oX11 t_q)), ((t_q 6), .inl (K 6, 4, .inr (.inr (.inr (.inr t_6_c))))), ((t_6_r 0), .inr (4, oX4 t_6_0_q t_6_0_x0 t_6_0_x1 t_6_0_x2)), ((t_6_r 1), .inr (4, oX4 t_6_1_q t_6_1_x0 t_6_1_x1 t_6_1_x2)), ((t_6_0_q 3), .inl (K 3, 60, .inr (.inl (fun j => lI (t_6_0_3_c j))))), ((t_6_1_q 3), .inl (K 3, 60, .inr (.inl (fun j => lI ((u.2 0) j)))))]) 0 0 := by
  refine g_inI (cc := cX11_paste) (maxL := 8) (ret := (some .int)) (by decide) rfl (Nat.le_of_ble_eq_true rfl) ?_
  intro p e s m below meth c A ls ag Q B hA hP hD hS hl hQ
  obtain ⟨hx, hb, hr, hml, hts, hown, hlocks, hin, hK⟩ := B
  have hown : s.vm.findClass RX11 = some m.cls := hown
  have hts := fun w h => hts w (List.mem_cons_of_mem _ h)
  have hl : lv_has ls 8 [(0, .ref t), (1, .int (iI 0)), (2, .int (iI p2)), (3, .int (iI 1)), (4, .int (iI p4)), (5, .int (iI p5))] := hl
  refine lv_iload_n hx hb dX11_paste_0 rfl (lv_at hl 1 rfl) ?_
  refine fn_goi (wc := []) (wr := [(t, .inr (11, oX11 t_q)), ((t_q 6), .inl (K 6, 4, .inr (.inr (.inr (.inr t_6_c))))), ((t_6_r 0), .inr (4, oX4 t_6_0_q t_6_0_x0 t_6_0_x1 t_6_0_x2)), ((t_6_r 1), .inr (4, oX4 t_6_1_q t_6_1_x0 t_6_1_x1 t_6_1_x2)), ((t_6_0_q 3), .inl (K 3, 60, .inr (.inl (fun j => lI (t_6_0_3_c j))))), ((t_6_1_q 3), .inl (K 3, 60, .inr (.inl (fun j => lI (t_6_1_3_c j)))))]) hK hP hD hS hA [] [0, 1, 2, 3, 4, 5] rfl rfl (by decide) (fun hp => va_runS (As := [.int (iI 0)]) (rest := []) ⟨hx, hb, hml, hown, hts⟩ (k_X11_noSlot (l := l) (D := D) (K := K) (p1 := 0) (hp1 := (by omega)) _) (va_cwS 1 hts (fn_ginS (fn_gin wd_963) wd_961 wd_962 wd_1) rfl rfl rfl (by decide +kernel) ⟨Nat.le_of_ble_eq_true rfl, Nat.le_of_ble_eq_true rfl⟩) ⟨fn_blind, hp⟩ rfl rfl hl.1 rfl (lv_room (Nat.le_of_ble_eq_true rfl)) dX11_paste_1 ⟨Nat.le_of_ble_eq_true rfl, Nat.le_of_ble_eq_true rfl⟩) (fun r1 u1 H locs hwu1 hP hD hS => ?_)
  obtain ⟨u1a, u1b⟩ := u1
  obtain ⟨kr1, rfl, hkr1, hqu10, -⟩ := hwu1
  have hqu1 : (kr1 = 0 → 0 ≤ (0 : Int) ∧ (0 : Int) ≤ 3) ∧ (kr1 = 1 → (0 : Int) < 0 ∨ 3 < (0 : Int)) := hqu10
  clear hqu10
  have hP : va_P D vwCl [(t, .inr (11, oX11 t_q)), ((t_q 6), .inl (K 6, 4, .inr (.inr (.inr (.inr t_6_c))))), ((t_6_r 0), .inr (4, oX4 t_6_0_q t_6_0_x0 t_6_0_x1 t_6_0_x2)), ((t_6_r 1), .inr (4, oX4 t_6_1_q t_6_1_x0 t_6_1_x1 t_6_1_x2)), ((t_6_0_q 3), .inl (K 3, 60, .inr (.inl (fun j => lI (t_6_0_3_c j))))), ((t_6_1_q 3), .inl (K 3, 60, .inr (.inl (fun j => lI (t_6_1_3_c j)))))] H := hP
  have hD : va_D A [(t, .inr (11, oX11 t_q)), ((t_q 6), .inl (K 6, 4, .inr (.inr (.inr (.inr t_6_c))))), ((t_6_r 0), .inr (4, oX4 t_6_0_q t_6_0_x0 t_6_0_x1 t_6_0_x2)), ((t_6_r 1), .inr (4, oX4 t_6_1_q t_6_1_x0 t_6_1_x1 t_6_1_x2)), ((t_6_0_q 3), .inl (K 3, 60, .inr (.inl (fun j => lI (t_6_0_3_c j))))), ((t_6_1_q 3), .inl (K 3, 60, .inr (.inl (fun j => lI (t_6_1_3_c j)))))] := hD
  refine g_if_ne (tgt := 14) hx hb (by omega) dX11_paste_4 (by decide) (fun c4 => ?_) (fun c4 => ?_)
  · refine lv_bipush (v := iI (-2)) hx hb dX11_paste_14 (by decide) ?_
    rw [hQ]; exact fn_iret hx hb hr hlocks rfl hP hD hS ((fun _ => 0), (fun k => ([t_6_1_3_c] : List (Nat → Int)).getD k (fun _ => 0))) ⟨(-2), rfl, by omega, (hc_t_6_1_3), trivial⟩ [0, 1, 2, 3, 4, 5] (by decide) rfl dX11_paste_16
  · refine lv_iload_n hx hb dX11_paste_7 rfl (lv_at hl 3 rfl) ?_
    refine fn_goi (wc := []) (wr := [(t, .inr (11, oX11 t_q)), ((t_q 6), .inl (K 6, 4, .inr (.inr (.inr (.inr t_6_c))))), ((t_6_r 0), .inr (4, oX4 t_6_0_q t_6_0_x0 t_6_0_x1 t_6_0_x2)), ((t_6_r 1), .inr (4, oX4 t_6_1_q t_6_1_x0 t_6_1_x1 t_6_1_x2)), ((t_6_0_q 3), .inl (K 3, 60, .inr (.inl (fun j => lI (t_6_0_3_c j))))), ((t_6_1_q 3), .inl (K 3, 60, .inr (.inl (fun j => lI (t_6_1_3_c j)))))]) hK hP hD hS hA [] [0, 1, 2, 3, 4, 5] rfl rfl (by decide) (fun hp => va_runS (As := [.int (iI 1)]) (rest := []) ⟨hx, hb, hml, hown, hts⟩ (k_X11_noSlot (l := l) (D := D) (K := K) (p1 := 1) (hp1 := (by omega)) _) (va_cwS 1 hts (fn_ginS (fn_gin wd_963) wd_961 wd_962 wd_1) rfl rfl rfl (by decide +kernel) ⟨Nat.le_of_ble_eq_true rfl, Nat.le_of_ble_eq_true rfl⟩) ⟨fn_blind, hp⟩ rfl rfl hl.1 rfl (lv_room (Nat.le_of_ble_eq_true rfl)) dX11_paste_8 ⟨Nat.le_of_ble_eq_true rfl, Nat.le_of_ble_eq_true rfl⟩) (fun r8 u8 H locs hwu8 hP hD hS => ?_)
    obtain ⟨u8a, u8b⟩ := u8
    obtain ⟨kr8, rfl, hkr8, hqu80, -⟩ := hwu8
    have hqu8 : (kr8 = 0 → 0 ≤ (1 : Int) ∧ (1 : Int) ≤ 3) ∧ (kr8 = 1 → (1 : Int) < 0 ∨ 3 < (1 : Int)) := hqu80
    clear hqu80
    have hP : va_P D vwCl [(t, .inr (11, oX11 t_q)), ((t_q 6), .inl (K 6, 4, .inr (.inr (.inr (.inr t_6_c))))), ((t_6_r 0), .inr (4, oX4 t_6_0_q t_6_0_x0 t_6_0_x1 t_6_0_x2)), ((t_6_r 1), .inr (4, oX4 t_6_1_q t_6_1_x0 t_6_1_x1 t_6_1_x2)), ((t_6_0_q 3), .inl (K 3, 60, .inr (.inl (fun j => lI (t_6_0_3_c j))))), ((t_6_1_q 3), .inl (K 3, 60, .inr (.inl (fun j => lI (t_6_1_3_c j)))))] H := hP
    have hD : va_D A [(t, .inr (11, oX11 t_q)), ((t_q 6), .inl (K 6, 4, .inr (.inr (.inr (.inr t_6_c))))), ((t_6_r 0), .inr (4, oX4 t_6_0_q t_6_0_x0 t_6_0_x1 t_6_0_x2)), ((t_6_r 1), .inr (4, oX4 t_6_1_q t_6_1_x0 t_6_1_x1 t_6_1_x2)), ((t_6_0_q 3), .inl (K 3, 60, .inr (.inl (fun j => lI (t_6_0_3_c j))))), ((t_6_1_q 3), .inl (K 3, 60, .inr (.inl (fun j => lI (t_6_1_3_c j)))))] := hD
    refine g_if_eq (tgt := 17) hx hb (by omega) dX11_paste_11 (by decide) (fun c11 => ?_) (fun c11 => ?_)
    · refine lv_aload_n hx hb dX11_paste_17 rfl (lv_at hl 0 rfl) ?_
      refine va_get (D := D) (own := RX11) (ci := 11) (v := .ref (t_q 6)) (C := RX11) (T := TX11) (N := 13) hx hb hts inb_X11 hown hK.1 hP 0 rfl rfl 6 (by decide) (hts _ wd_428) (fun _ h9 => h9) rfl dX11_paste_18 ?_
      refine lv_iload_n hx hb dX11_paste_21 rfl (lv_at hl 1 rfl) ?_
      refine va_aldq hx hb hK.1 hP 1 6 rfl rfl (iI_in (by decide) (by decide) (by decide)) dX11_paste_22 ?_
      refine fn_topv (.ref (t_6_r 0)) (by rw [iI_cl (by decide)]; exact congrArg va_rf (hr_t_6 0 (by decide))) ?_
      refine lv_astore (lv' := [(6, .ref (t_6_r 0)), (0, .ref t), (1, .int (iI 0)), (2, .int (iI p2)), (3, .int (iI 1)), (4, .int (iI p4)), (5, .int (iI p5))]) hx hb dX11_paste_23 hl (by decide) rfl (fun ls hl => ?_)
      refine lv_aload_n hx hb dX11_paste_25 rfl (lv_at hl 1 rfl) ?_
      refine va_get (D := D) (own := RX11) (ci := 11) (v := .ref (t_q 6)) (C := RX11) (T := TX11) (N := 13) hx hb hts inb_X11 hown hK.1 hP 0 rfl rfl 6 (by decide) (hts _ wd_428) (fun _ h9 => h9) rfl dX11_paste_26 ?_
      refine lv_iload_n hx hb dX11_paste_29 rfl (lv_at hl 4 rfl) ?_
      refine va_aldq hx hb hK.1 hP 1 6 rfl rfl (iI_in (by decide) (by decide) (by decide)) dX11_paste_30 ?_
      refine fn_topv (.ref (t_6_r 1)) (by rw [iI_cl (by decide)]; exact congrArg va_rf (hr_t_6 1 (by decide))) ?_
      refine lv_astore (lv' := [(7, .ref (t_6_r 1)), (6, .ref (t_6_r 0)), (0, .ref t), (1, .int (iI 0)), (2, .int (iI p2)), (3, .int (iI 1)), (4, .int (iI p4)), (5, .int (iI p5))]) hx hb dX11_paste_31 hl (by decide) rfl (fun ls hl => ?_)
      refine lv_aload hx hb dX11_paste_33 (lv_at hl 1 rfl) ?_
      refine va_getN (D := D) (own := RX11) (ci := 4) (v := .int (iI t_6_0_x0)) (C := RX4) (T := TX4) (N := 4) hx hb hts inb_X4 hown hK.1 hP 2 rfl rfl 0 (by decide) (hK.nf 89 rfl) (fun _ h9 => h9) rfl dX11_paste_35 ?_
      have y35_1 : 0 ≤ t_6_0_x0 ∧ t_6_0_x0 ≤ 1 := hi_t_6_0.1
      refine g_if_eq (tgt := 49) hx hb (by omega) dX11_paste_38 (by decide) (fun c38 => ?_) (fun c38 => ?_)
      · refine fn_at 49 rfl ?_
        refine lv_bipush (v := iI (-6)) hx hb dX11_paste_49 (by decide) ?_
        rw [hQ]; exact fn_iret hx hb hr hlocks rfl hP hD hS ((fun _ => 0), (fun k => ([t_6_1_3_c] : List (Nat → Int)).getD k (fun _ => 0))) ⟨(-6), rfl, by omega, (hc_t_6_1_3), trivial⟩ [0, 1, 2, 3, 4, 5] (by decide) rfl dX11_paste_51
      · refine fn_at 41 rfl ?_
        refine lv_aload hx hb dX11_paste_41 (lv_at hl 0 rfl) ?_
        refine va_getN (D := D) (own := RX11) (ci := 4) (v := .int (iI t_6_1_x0)) (C := RX4) (T := TX4) (N := 4) hx hb hts inb_X4 hown hK.1 hP 3 rfl rfl 0 (by decide) (hK.nf 89 rfl) (fun _ h9 => h9) rfl dX11_paste_43 ?_
        have y43_2 : 0 ≤ t_6_1_x0 ∧ t_6_1_x0 ≤ 1 := hi_t_6_1.1
        refine g_if_ne (tgt := 52) hx hb (by omega) dX11_paste_46 (by decide) (fun c46 => ?_) (fun c46 => ?_)
        · refine lv_aload hx hb dX11_paste_52 (lv_at hl 1 rfl) ?_
          refine va_getN (D := D) (own := RX11) (ci := 4) (v := .int (iI t_6_0_x1)) (C := RX4) (T := TX4) (N := 4) hx hb hts inb_X4 hown hK.1 hP 2 rfl rfl 1 (by decide) (hK.nf 90 rfl) (fun _ h9 => h9) rfl dX11_paste_54 ?_
          have y54_3 : 0 ≤ t_6_0_x1 ∧ t_6_0_x1 ≤ 3 := hi_t_6_0.2.1
          refine lv_aload hx hb dX11_paste_57 (lv_at hl 0 rfl) ?_
          refine va_getN (D := D) (own := RX11) (ci := 4) (v := .int (iI t_6_1_x1)) (C := RX4) (T := TX4) (N := 4) hx hb hts inb_X4 hown hK.1 hP 3 rfl rfl 1 (by decide) (hK.nf 90 rfl) (fun _ h9 => h9) rfl dX11_paste_59 ?_
          have y59_4 : 0 ≤ t_6_1_x1 ∧ t_6_1_x1 ≤ 3 := hi_t_6_1.2.1
          refine g_icmp_eq (tgt := 68) hx hb (by omega) (by omega) dX11_paste_62 (by decide) (fun c62 => ?_) (fun c62 => ?_)
          · refine lv_aload hx hb dX11_paste_68 (lv_at hl 1 rfl) ?_
            refine lv_iload_n hx hb dX11_paste_70 rfl (lv_at hl 4 rfl) ?_
            refine lv_iload hx hb dX11_paste_71 (lv_at hl 7 rfl) ?_
            refine fn_goi (wc := [((t_6_r 0), .inr (4, oX4 t_6_0_q t_6_0_x0 t_6_0_x1 t_6_0_x2))]) (wr := [(t, .inr (11, oX11 t_q)), ((t_q 6), .inl (K 6, 4, .inr (.inr (.inr (.inr t_6_c))))), ((t_6_r 1), .inr (4, oX4 t_6_1_q t_6_1_x0 t_6_1_x1 t_6_1_x2)), ((t_6_0_q 3), .inl (K 3, 60, .inr (.inl (fun j => lI (t_6_0_3_c j))))), ((t_6_1_q 3), .inl (K 3, 60, .inr (.inl (fun j => lI (t_6_1_3_c j)))))]) hK hP hD hS hA [2] [0, 1, 3, 4, 5] rfl rfl (by decide) (fun hp => va_runVN (C := RX4) (As := [.int (iI p2), .int (iI p5)]) (rest := []) ⟨hx, hb, hml, hown, hts⟩ (k_X4_spans (l := l) (D := D) (K := K) (t := (t_6_r 0)) (p1 := p2) (p2 := p5) (t_q := t_6_0_q) (t_x0 := t_6_0_x0) (t_x1 := t_6_0_x1) (t_x2 := t_6_0_x2) (hp1 := (by omega)) (hp2 := (by omega)) (hi_t := hi_t_6_0) _) ⟨va_cnB (own := RX11) 2 hts (fn_gin wd_1226) rfl rfl rfl (hK.nw 155 rfl) (hts _ wd_12) (by decide +kernel) ⟨Nat.le_of_ble_eq_true rfl, Nat.le_of_ble_eq_true rfl⟩, hts _ wd_1225, hts _ wp_93⟩ ⟨fn_blind, va_recv hK.1 hP (ci := 4) (q0 := 2) rfl rfl, hp⟩ rfl rfl hl.1 rfl (lv_room (Nat.le_of_ble_eq_true rfl)) dX11_paste_73 ⟨Nat.le_of_ble_eq_true rfl, Nat.le_of_ble_eq_true rfl⟩) (fun r73 u73 H locs hwu73 hP hD hS => ?_)
            obtain ⟨u73a, u73b⟩ := u73
            obtain ⟨kr73, rfl, hkr73, hqu730, -⟩ := hwu73
            have hqu73 : (kr73 = 1 → 0 ≤ p2 ∧ 0 ≤ p5 ∧ p2 + p5 ≤ t_6_0_x2 ∧ p2 + p5 ≤ 60) := hqu730
            clear hqu730
            have hP : va_P D vwCl [(t, .inr (11, oX11 t_q)), ((t_q 6), .inl (K 6, 4, .inr (.inr (.inr (.inr t_6_c))))), ((t_6_r 1), .inr (4, oX4 t_6_1_q t_6_1_x0 t_6_1_x1 t_6_1_x2)), ((t_6_0_q 3), .inl (K 3, 60, .inr (.inl (fun j => lI (t_6_0_3_c j))))), ((t_6_1_q 3), .inl (K 3, 60, .inr (.inl (fun j => lI (t_6_1_3_c j))))), ((t_6_r 0), .inr (4, oX4 t_6_0_q t_6_0_x0 t_6_0_x1 t_6_0_x2))] H := hP
            have hD : va_D A [(t, .inr (11, oX11 t_q)), ((t_q 6), .inl (K 6, 4, .inr (.inr (.inr (.inr t_6_c))))), ((t_6_r 1), .inr (4, oX4 t_6_1_q t_6_1_x0 t_6_1_x1 t_6_1_x2)), ((t_6_0_q 3), .inl (K 3, 60, .inr (.inl (fun j => lI (t_6_0_3_c j))))), ((t_6_1_q 3), .inl (K 3, 60, .inr (.inl (fun j => lI (t_6_1_3_c j))))), ((t_6_r 0), .inr (4, oX4 t_6_0_q t_6_0_x0 t_6_0_x1 t_6_0_x2))] := hD
            refine g_if_eq (tgt := 91) hx hb (by omega) dX11_paste_76 (by decide) (fun c76 => ?_) (fun c76 => ?_)
            · refine lv_bipush (v := iI (-7)) hx hb dX11_paste_91 (by decide) ?_
              rw [hQ]; exact fn_iret hx hb hr hlocks rfl hP hD hS ((fun _ => 0), (fun k => ([t_6_1_3_c] : List (Nat → Int)).getD k (fun _ => 0))) ⟨(-7), rfl, by omega, (hc_t_6_1_3), trivial⟩ [0, 1, 5, 2, 3, 4] (by decide) rfl dX11_paste_93
            · refine lv_aload hx hb dX11_paste_79 (lv_at hl 0 rfl) ?_
              refine lv_iload hx hb dX11_paste_81 (lv_at hl 6 rfl) ?_
              refine lv_iload hx hb dX11_paste_83 (lv_at hl 7 rfl) ?_
              refine fn_goi (wc := [((t_6_r 1), .inr (4, oX4 t_6_1_q t_6_1_x0 t_6_1_x1 t_6_1_x2))]) (wr := [(t, .inr (11, oX11 t_q)), ((t_q 6), .inl (K 6, 4, .inr (.inr (.inr (.inr t_6_c))))), ((t_6_0_q 3), .inl (K 3, 60, .inr (.inl (fun j => lI (t_6_0_3_c j))))), ((t_6_1_q 3), .inl (K 3, 60, .inr (.inl (fun j => lI (t_6_1_3_c j))))), ((t_6_r 0), .inr (4, oX4 t_6_0_q t_6_0_x0 t_6_0_x1 t_6_0_x2))]) hK hP hD hS hA [2] [0, 1, 3, 4, 5] rfl rfl (by decide) (fun hp => va_runVN (C := RX4) (As := [.int (iI p4), .int (iI p5)]) (rest := []) ⟨hx, hb, hml, hown, hts⟩ (k_X4_spans (l := l) (D := D) (K := K) (t := (t_6_r 1)) (p1 := p4) (p2 := p5) (t_q := t_6_1_q) (t_x0 := t_6_1_x0) (t_x1 := t_6_1_x1) (t_x2 := t_6_1_x2) (hp1 := (by omega)) (hp2 := (by omega)) (hi_t := hi_t_6_1) _) ⟨va_cnB (own := RX11) 2 hts (fn_gin wd_1226) rfl rfl rfl (hK.nw 155 rfl) (hts _ wd_12) (by decide +kernel) ⟨Nat.le_of_ble_eq_true rfl, Nat.le_of_ble_eq_true rfl⟩, hts _ wd_1225, hts _ wp_93⟩ ⟨fn_blind, va_recv hK.1 hP (ci := 4) (q0 := 2) rfl rfl, hp⟩ rfl rfl hl.1 rfl (lv_room (Nat.le_of_ble_eq_true rfl)) dX11_paste_85 ⟨Nat.le_of_ble_eq_true rfl, Nat.le_of_ble_eq_true rfl⟩) (fun r85 u85 H locs hwu85 hP hD hS => ?_)
              obtain ⟨u85a, u85b⟩ := u85
              obtain ⟨kr85, rfl, hkr85, hqu850, -⟩ := hwu85
              have hqu85 : (kr85 = 1 → 0 ≤ p4 ∧ 0 ≤ p5 ∧ p4 + p5 ≤ t_6_1_x2 ∧ p4 + p5 ≤ 60) := hqu850
              clear hqu850
              have hP : va_P D vwCl [(t, .inr (11, oX11 t_q)), ((t_q 6), .inl (K 6, 4, .inr (.inr (.inr (.inr t_6_c))))), ((t_6_0_q 3), .inl (K 3, 60, .inr (.inl (fun j => lI (t_6_0_3_c j))))), ((t_6_1_q 3), .inl (K 3, 60, .inr (.inl (fun j => lI (t_6_1_3_c j))))), ((t_6_r 0), .inr (4, oX4 t_6_0_q t_6_0_x0 t_6_0_x1 t_6_0_x2)), ((t_6_r 1), .inr (4, oX4 t_6_1_q t_6_1_x0 t_6_1_x1 t_6_1_x2))] H := hP
              have hD : va_D A [(t, .inr (11, oX11 t_q)), ((t_q 6), .inl (K 6, 4, .inr (.inr (.inr (.inr t_6_c))))), ((t_6_0_q 3), .inl (K 3, 60, .inr (.inl (fun j => lI (t_6_0_3_c j))))), ((t_6_1_q 3), .inl (K 3, 60, .inr (.inl (fun j => lI (t_6_1_3_c j))))), ((t_6_r 0), .inr (4, oX4 t_6_0_q t_6_0_x0 t_6_0_x1 t_6_0_x2)), ((t_6_r 1), .inr (4, oX4 t_6_1_q t_6_1_x0 t_6_1_x1 t_6_1_x2))] := hD
              refine g_if_ne (tgt := 94) hx hb (by omega) dX11_paste_88 (by decide) (fun c88 => ?_) (fun c88 => ?_)
              · refine lv_aload hx hb dX11_paste_94 (lv_at hl 1 rfl) ?_
                refine va_getN (D := D) (own := RX11) (ci := 4) (v := .ref (t_6_0_q 3)) (C := RX4) (T := TX4) (N := 4) hx hb hts inb_X4 hown hK.1 hP 4 rfl rfl 3 (by decide) (hK.nf 92 rfl) (fun _ h9 => h9) rfl dX11_paste_96 ?_
                refine fn_at 99 rfl ?_
                refine lv_iload_n hx hb dX11_paste_99 rfl (lv_at hl 4 rfl) ?_
                refine lv_aload hx hb dX11_paste_100 (lv_at hl 0 rfl) ?_
                refine va_getN (D := D) (own := RX11) (ci := 4) (v := .ref (t_6_1_q 3)) (C := RX4) (T := TX4) (N := 4) hx hb hts inb_X4 hown hK.1 hP 5 rfl rfl 3 (by decide) (hK.nf 92 rfl) (fun _ h9 => h9) rfl dX11_paste_102 ?_
                refine lv_iload hx hb dX11_paste_105 (lv_at hl 6 rfl) ?_
                refine lv_iload hx hb dX11_paste_107 (lv_at hl 7 rfl) ?_
                refine g_cpyl (own := RX11) hx hb (hml.trans hl.1.symm) hown (hts _ wd_1227) (hts _ wd_622) (hts _ wd_621) (hts _ wd_19) hK.1 hP hD hS 2 3 3 3 rfl rfl rfl rfl (by omega) (by omega) (by omega) (Nat.le_of_ble_eq_true rfl) (Nat.le_of_ble_eq_true rfl) dX11_paste_109 (fun H locs g109 eg109 hP hD hS => ?_)
                have hg109 : ∀ j : Nat, (-9223372036854775808) ≤ g109 j ∧ g109 j ≤ 9223372036854775807 := by rw [eg109]; exact cI_all hc_t_6_0_3 hc_t_6_1_3
                have hP : va_P D vwCl [(t, .inr (11, oX11 t_q)), ((t_q 6), .inl (K 6, 4, .inr (.inr (.inr (.inr t_6_c))))), ((t_6_0_q 3), .inl (K 3, 60, .inr (.inl (fun j => lI (t_6_0_3_c j))))), ((t_6_1_q 3), .inl (K 3, 60, .inr (.inl (fun j => lI (g109 j))))), ((t_6_r 0), .inr (4, oX4 t_6_0_q t_6_0_x0 t_6_0_x1 t_6_0_x2)), ((t_6_r 1), .inr (4, oX4 t_6_1_q t_6_1_x0 t_6_1_x1 t_6_1_x2))] H := hP
                have hD : va_D A [(t, .inr (11, oX11 t_q)), ((t_q 6), .inl (K 6, 4, .inr (.inr (.inr (.inr t_6_c))))), ((t_6_0_q 3), .inl (K 3, 60, .inr (.inl (fun j => lI (t_6_0_3_c j))))), ((t_6_1_q 3), .inl (K 3, 60, .inr (.inl (fun j => lI (g109 j))))), ((t_6_r 0), .inr (4, oX4 t_6_0_q t_6_0_x0 t_6_0_x1 t_6_0_x2)), ((t_6_r 1), .inr (4, oX4 t_6_1_q t_6_1_x0 t_6_1_x1 t_6_1_x2))] := hD
                refine lv_iconst (v := iI 0) hx hb dX11_paste_112 rfl ?_
                rw [hQ]; exact fn_iret hx hb hr hlocks rfl hP hD hS ((fun _ => 0), (fun k => ([g109] : List (Nat → Int)).getD k (fun _ => 0))) ⟨0, rfl, by omega, (hg109), trivial⟩ [0, 1, 4, 5, 2, 3] (by decide) rfl dX11_paste_113
              · refine lv_bipush (v := iI (-7)) hx hb dX11_paste_91 (by decide) ?_
                rw [hQ]; exact fn_iret hx hb hr hlocks rfl hP hD hS ((fun _ => 0), (fun k => ([t_6_1_3_c] : List (Nat → Int)).getD k (fun _ => 0))) ⟨(-7), rfl, by omega, (hc_t_6_1_3), trivial⟩ [0, 1, 4, 5, 2, 3] (by decide) rfl dX11_paste_93
          · refine lv_bipush (v := iI (-8)) hx hb dX11_paste_65 (by decide) ?_
            rw [hQ]; exact fn_iret hx hb hr hlocks rfl hP hD hS ((fun _ => 0), (fun k => ([t_6_1_3_c] : List (Nat → Int)).getD k (fun _ => 0))) ⟨(-8), rfl, by omega, (hc_t_6_1_3), trivial⟩ [0, 1, 2, 3, 4, 5] (by decide) rfl dX11_paste_67
        · refine lv_bipush (v := iI (-6)) hx hb dX11_paste_49 (by decide) ?_
          rw [hQ]; exact fn_iret hx hb hr hlocks rfl hP hD hS ((fun _ => 0), (fun k => ([t_6_1_3_c] : List (Nat → Int)).getD k (fun _ => 0))) ⟨(-6), rfl, by omega, (hc_t_6_1_3), trivial⟩ [0, 1, 2, 3, 4, 5] (by decide) rfl dX11_paste_51
    · refine lv_bipush (v := iI (-2)) hx hb dX11_paste_14 (by decide) ?_
      rw [hQ]; exact fn_iret hx hb hr hlocks rfl hP hD hS ((fun _ => 0), (fun k => ([t_6_1_3_c] : List (Nat → Int)).getD k (fun _ => 0))) ⟨(-2), rfl, by omega, (hc_t_6_1_3), trivial⟩ [0, 1, 2, 3, 4, 5] (by decide) rfl dX11_paste_16
set_option maxHeartbeats 4000000 in
set_option maxRecDepth 100000 in
theorem k_X11_paste_02 (l : Launch) (D : va_G) (K : Nat → ClassId) (t : Nat) (t_q t_6_r t_6_0_q t_6_2_q : Nat → Nat) (p2 p4 p5 t_6_0_x0 t_6_0_x1 t_6_0_x2 t_6_2_x0 t_6_2_x1 t_6_2_x2 : Int) (t_6_c : Nat → Option Nat) (t_6_0_3_c : Nat → Int) (t_6_2_3_c : Nat → Int) (hp2 : (-2147483648) ≤ p2 ∧ p2 ≤ 2147483647) (hp4 : (-2147483648) ≤ p4 ∧ p4 ≤ 2147483647) (hp5 : (-2147483648) ≤ p5 ∧ p5 ≤ 2147483647) (hr_t_6 : ∀ j : Nat, j < 4 → t_6_c j = some (t_6_r j)) (hi_t_6_0 : bX4 t_6_0_x0 t_6_0_x1 t_6_0_x2) (hi_t_6_2 : bX4 t_6_2_x0 t_6_2_x1 t_6_2_x2) (hc_t_6_0_3 : ∀ j : Nat, (-9223372036854775808) ≤ t_6_0_3_c j ∧ t_6_0_3_c j ≤ 9223372036854775807) (hc_t_6_2_3 : ∀ j : Nat, (-9223372036854775808) ≤ t_6_2_3_c j ∧ t_6_2_3_c j ≤ 9223372036854775807) : fn_CI (S := (Nat → Int) × (Nat → Nat → Int)) l D K yX11_paste (fn_ws yX11_paste cX11_paste 8 (some .int)) ({ frames := 8, cells := 0, slots := 0, locals := 200 } : Room) [.ref t, .int (iI 0), .int (iI p2), .int (iI 2), .int (iI p4), .int (iI p5)] [(t, .inr (11, oX11 t_q)), ((t_q 6), .inl (K 6, 4, .inr (.inr (.inr (.inr t_6_c))))), ((t_6_r 0), .inr (4, oX4 t_6_0_q t_6_0_x0 t_6_0_x1 t_6_0_x2)), ((t_6_r 2), .inr (4, oX4 t_6_2_q t_6_2_x0 t_6_2_x1 t_6_2_x2)), ((t_6_0_q 3), .inl (K 3, 60, .inr (.inl (fun j => lI (t_6_0_3_c j))))), ((t_6_2_q 3), .inl (K 3, 60, .inr (.inl (fun j => lI (t_6_2_3_c j)))))] (fun r u => ∃ k : Int, r = iI k ∧ ((-8) ≤ k ∧ k ≤ 0) ∧ (∀ j : Nat, (-9223372036854775808) ≤ (u.2 0) j ∧ (u.2 0) j ≤ 9223372036854775807) ∧ True) (fun u => [(t, .inr (11, oX11 t_q)), ((t_q 6), .inl (K 6, 4, .inr (.inr (.inr (.inr t_6_c))))), ((t_6_r 0), .inr (4, oX4 t_6_0_q t_6_0_x0 t_6_0_x1 t_6_0_x2)), ((t_6_r 2), .inr (4, oX4 t_6_2_q t_6_2_x0 t_6_2_x1 t_6_2_x2)), ((t_6_0_q 3), .inl (K 3, 60, .inr (.inl (fun j => lI (t_6_0_3_c j))))), ((t_6_2_q 3), .inl (K 3, 60, .inr (.inl (fun j => lI ((u.2 0) j)))))]) 0 0 := by
  refine g_inI (cc := cX11_paste) (maxL := 8) (ret := (some .int)) (by decide) rfl (Nat.le_of_ble_eq_true rfl) ?_
  intro p e s m below meth c A ls ag Q B hA hP hD hS hl hQ
  obtain ⟨hx, hb, hr, hml, hts, hown, hlocks, hin, hK⟩ := B
  have hown : s.vm.findClass RX11 = some m.cls := hown
  have hts := fun w h => hts w (List.mem_cons_of_mem _ h)
  have hl : lv_has ls 8 [(0, .ref t), (1, .int (iI 0)), (2, .int (iI p2)), (3, .int (iI 2)), (4, .int (iI p4)), (5, .int (iI p5))] := hl
  refine lv_iload_n hx hb dX11_paste_0 rfl (lv_at hl 1 rfl) ?_
  refine fn_goi (wc := []) (wr := [(t, .inr (11, oX11 t_q)), ((t_q 6), .inl (K 6, 4, .inr (.inr (.inr (.inr t_6_c))))), ((t_6_r 0), .inr (4, oX4 t_6_0_q t_6_0_x0 t_6_0_x1 t_6_0_x2)), ((t_6_r 2), .inr (4, oX4 t_6_2_q t_6_2_x0 t_6_2_x1 t_6_2_x2)), ((t_6_0_q 3), .inl (K 3, 60, .inr (.inl (fun j => lI (t_6_0_3_c j))))), ((t_6_2_q 3), .inl (K 3, 60, .inr (.inl (fun j => lI (t_6_2_3_c j)))))]) hK hP hD hS hA [] [0, 1, 2, 3, 4, 5] rfl rfl (by decide) (fun hp => va_runS (As := [.int (iI 0)]) (rest := []) ⟨hx, hb, hml, hown, hts⟩ (k_X11_noSlot (l := l) (D := D) (K := K) (p1 := 0) (hp1 := (by omega)) _) (va_cwS 1 hts (fn_ginS (fn_gin wd_963) wd_961 wd_962 wd_1) rfl rfl rfl (by decide +kernel) ⟨Nat.le_of_ble_eq_true rfl, Nat.le_of_ble_eq_true rfl⟩) ⟨fn_blind, hp⟩ rfl rfl hl.1 rfl (lv_room (Nat.le_of_ble_eq_true rfl)) dX11_paste_1 ⟨Nat.le_of_ble_eq_true rfl, Nat.le_of_ble_eq_true rfl⟩) (fun r1 u1 H locs hwu1 hP hD hS => ?_)
  obtain ⟨u1a, u1b⟩ := u1
  obtain ⟨kr1, rfl, hkr1, hqu10, -⟩ := hwu1
  have hqu1 : (kr1 = 0 → 0 ≤ (0 : Int) ∧ (0 : Int) ≤ 3) ∧ (kr1 = 1 → (0 : Int) < 0 ∨ 3 < (0 : Int)) := hqu10
  clear hqu10
  have hP : va_P D vwCl [(t, .inr (11, oX11 t_q)), ((t_q 6), .inl (K 6, 4, .inr (.inr (.inr (.inr t_6_c))))), ((t_6_r 0), .inr (4, oX4 t_6_0_q t_6_0_x0 t_6_0_x1 t_6_0_x2)), ((t_6_r 2), .inr (4, oX4 t_6_2_q t_6_2_x0 t_6_2_x1 t_6_2_x2)), ((t_6_0_q 3), .inl (K 3, 60, .inr (.inl (fun j => lI (t_6_0_3_c j))))), ((t_6_2_q 3), .inl (K 3, 60, .inr (.inl (fun j => lI (t_6_2_3_c j)))))] H := hP
  have hD : va_D A [(t, .inr (11, oX11 t_q)), ((t_q 6), .inl (K 6, 4, .inr (.inr (.inr (.inr t_6_c))))), ((t_6_r 0), .inr (4, oX4 t_6_0_q t_6_0_x0 t_6_0_x1 t_6_0_x2)), ((t_6_r 2), .inr (4, oX4 t_6_2_q t_6_2_x0 t_6_2_x1 t_6_2_x2)), ((t_6_0_q 3), .inl (K 3, 60, .inr (.inl (fun j => lI (t_6_0_3_c j))))), ((t_6_2_q 3), .inl (K 3, 60, .inr (.inl (fun j => lI (t_6_2_3_c j)))))] := hD
  refine g_if_ne (tgt := 14) hx hb (by omega) dX11_paste_4 (by decide) (fun c4 => ?_) (fun c4 => ?_)
  · refine lv_bipush (v := iI (-2)) hx hb dX11_paste_14 (by decide) ?_
    rw [hQ]; exact fn_iret hx hb hr hlocks rfl hP hD hS ((fun _ => 0), (fun k => ([t_6_2_3_c] : List (Nat → Int)).getD k (fun _ => 0))) ⟨(-2), rfl, by omega, (hc_t_6_2_3), trivial⟩ [0, 1, 2, 3, 4, 5] (by decide) rfl dX11_paste_16
  · refine lv_iload_n hx hb dX11_paste_7 rfl (lv_at hl 3 rfl) ?_
    refine fn_goi (wc := []) (wr := [(t, .inr (11, oX11 t_q)), ((t_q 6), .inl (K 6, 4, .inr (.inr (.inr (.inr t_6_c))))), ((t_6_r 0), .inr (4, oX4 t_6_0_q t_6_0_x0 t_6_0_x1 t_6_0_x2)), ((t_6_r 2), .inr (4, oX4 t_6_2_q t_6_2_x0 t_6_2_x1 t_6_2_x2)), ((t_6_0_q 3), .inl (K 3, 60, .inr (.inl (fun j => lI (t_6_0_3_c j))))), ((t_6_2_q 3), .inl (K 3, 60, .inr (.inl (fun j => lI (t_6_2_3_c j)))))]) hK hP hD hS hA [] [0, 1, 2, 3, 4, 5] rfl rfl (by decide) (fun hp => va_runS (As := [.int (iI 2)]) (rest := []) ⟨hx, hb, hml, hown, hts⟩ (k_X11_noSlot (l := l) (D := D) (K := K) (p1 := 2) (hp1 := (by omega)) _) (va_cwS 1 hts (fn_ginS (fn_gin wd_963) wd_961 wd_962 wd_1) rfl rfl rfl (by decide +kernel) ⟨Nat.le_of_ble_eq_true rfl, Nat.le_of_ble_eq_true rfl⟩) ⟨fn_blind, hp⟩ rfl rfl hl.1 rfl (lv_room (Nat.le_of_ble_eq_true rfl)) dX11_paste_8 ⟨Nat.le_of_ble_eq_true rfl, Nat.le_of_ble_eq_true rfl⟩) (fun r8 u8 H locs hwu8 hP hD hS => ?_)
    obtain ⟨u8a, u8b⟩ := u8
    obtain ⟨kr8, rfl, hkr8, hqu80, -⟩ := hwu8
    have hqu8 : (kr8 = 0 → 0 ≤ (2 : Int) ∧ (2 : Int) ≤ 3) ∧ (kr8 = 1 → (2 : Int) < 0 ∨ 3 < (2 : Int)) := hqu80
    clear hqu80
    have hP : va_P D vwCl [(t, .inr (11, oX11 t_q)), ((t_q 6), .inl (K 6, 4, .inr (.inr (.inr (.inr t_6_c))))), ((t_6_r 0), .inr (4, oX4 t_6_0_q t_6_0_x0 t_6_0_x1 t_6_0_x2)), ((t_6_r 2), .inr (4, oX4 t_6_2_q t_6_2_x0 t_6_2_x1 t_6_2_x2)), ((t_6_0_q 3), .inl (K 3, 60, .inr (.inl (fun j => lI (t_6_0_3_c j))))), ((t_6_2_q 3), .inl (K 3, 60, .inr (.inl (fun j => lI (t_6_2_3_c j)))))] H := hP
    have hD : va_D A [(t, .inr (11, oX11 t_q)), ((t_q 6), .inl (K 6, 4, .inr (.inr (.inr (.inr t_6_c))))), ((t_6_r 0), .inr (4, oX4 t_6_0_q t_6_0_x0 t_6_0_x1 t_6_0_x2)), ((t_6_r 2), .inr (4, oX4 t_6_2_q t_6_2_x0 t_6_2_x1 t_6_2_x2)), ((t_6_0_q 3), .inl (K 3, 60, .inr (.inl (fun j => lI (t_6_0_3_c j))))), ((t_6_2_q 3), .inl (K 3, 60, .inr (.inl (fun j => lI (t_6_2_3_c j)))))] := hD
    refine g_if_eq (tgt := 17) hx hb (by omega) dX11_paste_11 (by decide) (fun c11 => ?_) (fun c11 => ?_)
    · refine lv_aload_n hx hb dX11_paste_17 rfl (lv_at hl 0 rfl) ?_
      refine va_get (D := D) (own := RX11) (ci := 11) (v := .ref (t_q 6)) (C := RX11) (T := TX11) (N := 13) hx hb hts inb_X11 hown hK.1 hP 0 rfl rfl 6 (by decide) (hts _ wd_428) (fun _ h9 => h9) rfl dX11_paste_18 ?_
      refine lv_iload_n hx hb dX11_paste_21 rfl (lv_at hl 1 rfl) ?_
      refine va_aldq hx hb hK.1 hP 1 6 rfl rfl (iI_in (by decide) (by decide) (by decide)) dX11_paste_22 ?_
      refine fn_topv (.ref (t_6_r 0)) (by rw [iI_cl (by decide)]; exact congrArg va_rf (hr_t_6 0 (by decide))) ?_
      refine lv_astore (lv' := [(6, .ref (t_6_r 0)), (0, .ref t), (1, .int (iI 0)), (2, .int (iI p2)), (3, .int (iI 2)), (4, .int (iI p4)), (5, .int (iI p5))]) hx hb dX11_paste_23 hl (by decide) rfl (fun ls hl => ?_)
      refine lv_aload_n hx hb dX11_paste_25 rfl (lv_at hl 1 rfl) ?_
      refine va_get (D := D) (own := RX11) (ci := 11) (v := .ref (t_q 6)) (C := RX11) (T := TX11) (N := 13) hx hb hts inb_X11 hown hK.1 hP 0 rfl rfl 6 (by decide) (hts _ wd_428) (fun _ h9 => h9) rfl dX11_paste_26 ?_
      refine lv_iload_n hx hb dX11_paste_29 rfl (lv_at hl 4 rfl) ?_
      refine va_aldq hx hb hK.1 hP 1 6 rfl rfl (iI_in (by decide) (by decide) (by decide)) dX11_paste_30 ?_
      refine fn_topv (.ref (t_6_r 2)) (by rw [iI_cl (by decide)]; exact congrArg va_rf (hr_t_6 2 (by decide))) ?_
      refine lv_astore (lv' := [(7, .ref (t_6_r 2)), (6, .ref (t_6_r 0)), (0, .ref t), (1, .int (iI 0)), (2, .int (iI p2)), (3, .int (iI 2)), (4, .int (iI p4)), (5, .int (iI p5))]) hx hb dX11_paste_31 hl (by decide) rfl (fun ls hl => ?_)
      refine lv_aload hx hb dX11_paste_33 (lv_at hl 1 rfl) ?_
      refine va_getN (D := D) (own := RX11) (ci := 4) (v := .int (iI t_6_0_x0)) (C := RX4) (T := TX4) (N := 4) hx hb hts inb_X4 hown hK.1 hP 2 rfl rfl 0 (by decide) (hK.nf 89 rfl) (fun _ h9 => h9) rfl dX11_paste_35 ?_
      have y35_1 : 0 ≤ t_6_0_x0 ∧ t_6_0_x0 ≤ 1 := hi_t_6_0.1
      refine g_if_eq (tgt := 49) hx hb (by omega) dX11_paste_38 (by decide) (fun c38 => ?_) (fun c38 => ?_)
      · refine fn_at 49 rfl ?_
        refine lv_bipush (v := iI (-6)) hx hb dX11_paste_49 (by decide) ?_
        rw [hQ]; exact fn_iret hx hb hr hlocks rfl hP hD hS ((fun _ => 0), (fun k => ([t_6_2_3_c] : List (Nat → Int)).getD k (fun _ => 0))) ⟨(-6), rfl, by omega, (hc_t_6_2_3), trivial⟩ [0, 1, 2, 3, 4, 5] (by decide) rfl dX11_paste_51
      · refine fn_at 41 rfl ?_
        refine lv_aload hx hb dX11_paste_41 (lv_at hl 0 rfl) ?_
        refine va_getN (D := D) (own := RX11) (ci := 4) (v := .int (iI t_6_2_x0)) (C := RX4) (T := TX4) (N := 4) hx hb hts inb_X4 hown hK.1 hP 3 rfl rfl 0 (by decide) (hK.nf 89 rfl) (fun _ h9 => h9) rfl dX11_paste_43 ?_
        have y43_2 : 0 ≤ t_6_2_x0 ∧ t_6_2_x0 ≤ 1 := hi_t_6_2.1
        refine g_if_ne (tgt := 52) hx hb (by omega) dX11_paste_46 (by decide) (fun c46 => ?_) (fun c46 => ?_)
        · refine lv_aload hx hb dX11_paste_52 (lv_at hl 1 rfl) ?_
          refine va_getN (D := D) (own := RX11) (ci := 4) (v := .int (iI t_6_0_x1)) (C := RX4) (T := TX4) (N := 4) hx hb hts inb_X4 hown hK.1 hP 2 rfl rfl 1 (by decide) (hK.nf 90 rfl) (fun _ h9 => h9) rfl dX11_paste_54 ?_
          have y54_3 : 0 ≤ t_6_0_x1 ∧ t_6_0_x1 ≤ 3 := hi_t_6_0.2.1
          refine lv_aload hx hb dX11_paste_57 (lv_at hl 0 rfl) ?_
          refine va_getN (D := D) (own := RX11) (ci := 4) (v := .int (iI t_6_2_x1)) (C := RX4) (T := TX4) (N := 4) hx hb hts inb_X4 hown hK.1 hP 3 rfl rfl 1 (by decide) (hK.nf 90 rfl) (fun _ h9 => h9) rfl dX11_paste_59 ?_
          have y59_4 : 0 ≤ t_6_2_x1 ∧ t_6_2_x1 ≤ 3 := hi_t_6_2.2.1
          refine g_icmp_eq (tgt := 68) hx hb (by omega) (by omega) dX11_paste_62 (by decide) (fun c62 => ?_) (fun c62 => ?_)
          · refine lv_aload hx hb dX11_paste_68 (lv_at hl 1 rfl) ?_
            refine lv_iload_n hx hb dX11_paste_70 rfl (lv_at hl 4 rfl) ?_
            refine lv_iload hx hb dX11_paste_71 (lv_at hl 7 rfl) ?_
            refine fn_goi (wc := [((t_6_r 0), .inr (4, oX4 t_6_0_q t_6_0_x0 t_6_0_x1 t_6_0_x2))]) (wr := [(t, .inr (11, oX11 t_q)), ((t_q 6), .inl (K 6, 4, .inr (.inr (.inr (.inr t_6_c))))), ((t_6_r 2), .inr (4, oX4 t_6_2_q t_6_2_x0 t_6_2_x1 t_6_2_x2)), ((t_6_0_q 3), .inl (K 3, 60, .inr (.inl (fun j => lI (t_6_0_3_c j))))), ((t_6_2_q 3), .inl (K 3, 60, .inr (.inl (fun j => lI (t_6_2_3_c j)))))]) hK hP hD hS hA [2] [0, 1, 3, 4, 5] rfl rfl (by decide) (fun hp => va_runVN (C := RX4) (As := [.int (iI p2), .int (iI p5)]) (rest := []) ⟨hx, hb, hml, hown, hts⟩ (k_X4_spans (l := l) (D := D) (K := K) (t := (t_6_r 0)) (p1 := p2) (p2 := p5) (t_q := t_6_0_q) (t_x0 := t_6_0_x0) (t_x1 := t_6_0_x1) (t_x2 := t_6_0_x2) (hp1 := (by omega)) (hp2 := (by omega)) (hi_t := hi_t_6_0) _) ⟨va_cnB (own := RX11) 2 hts (fn_gin wd_1226) rfl rfl rfl (hK.nw 155 rfl) (hts _ wd_12) (by decide +kernel) ⟨Nat.le_of_ble_eq_true rfl, Nat.le_of_ble_eq_true rfl⟩, hts _ wd_1225, hts _ wp_93⟩ ⟨fn_blind, va_recv hK.1 hP (ci := 4) (q0 := 2) rfl rfl, hp⟩ rfl rfl hl.1 rfl (lv_room (Nat.le_of_ble_eq_true rfl)) dX11_paste_73 ⟨Nat.le_of_ble_eq_true rfl, Nat.le_of_ble_eq_true rfl⟩) (fun r73 u73 H locs hwu73 hP hD hS => ?_)
            obtain ⟨u73a, u73b⟩ := u73
            obtain ⟨kr73, rfl, hkr73, hqu730, -⟩ := hwu73
            have hqu73 : (kr73 = 1 → 0 ≤ p2 ∧ 0 ≤ p5 ∧ p2 + p5 ≤ t_6_0_x2 ∧ p2 + p5 ≤ 60) := hqu730
            clear hqu730
            have hP : va_P D vwCl [(t, .inr (11, oX11 t_q)), ((t_q 6), .inl (K 6, 4, .inr (.inr (.inr (.inr t_6_c))))), ((t_6_r 2), .inr (4, oX4 t_6_2_q t_6_2_x0 t_6_2_x1 t_6_2_x2)), ((t_6_0_q 3), .inl (K 3, 60, .inr (.inl (fun j => lI (t_6_0_3_c j))))), ((t_6_2_q 3), .inl (K 3, 60, .inr (.inl (fun j => lI (t_6_2_3_c j))))), ((t_6_r 0), .inr (4, oX4 t_6_0_q t_6_0_x0 t_6_0_x1 t_6_0_x2))] H := hP
            have hD : va_D A [(t, .inr (11, oX11 t_q)), ((t_q 6), .inl (K 6, 4, .inr (.inr (.inr (.inr t_6_c))))), ((t_6_r 2), .inr (4, oX4 t_6_2_q t_6_2_x0 t_6_2_x1 t_6_2_x2)), ((t_6_0_q 3), .inl (K 3, 60, .inr (.inl (fun j => lI (t_6_0_3_c j))))), ((t_6_2_q 3), .inl (K 3, 60, .inr (.inl (fun j => lI (t_6_2_3_c j))))), ((t_6_r 0), .inr (4, oX4 t_6_0_q t_6_0_x0 t_6_0_x1 t_6_0_x2))] := hD
            refine g_if_eq (tgt := 91) hx hb (by omega) dX11_paste_76 (by decide) (fun c76 => ?_) (fun c76 => ?_)
            · refine lv_bipush (v := iI (-7)) hx hb dX11_paste_91 (by decide) ?_
              rw [hQ]; exact fn_iret hx hb hr hlocks rfl hP hD hS ((fun _ => 0), (fun k => ([t_6_2_3_c] : List (Nat → Int)).getD k (fun _ => 0))) ⟨(-7), rfl, by omega, (hc_t_6_2_3), trivial⟩ [0, 1, 5, 2, 3, 4] (by decide) rfl dX11_paste_93
            · refine lv_aload hx hb dX11_paste_79 (lv_at hl 0 rfl) ?_
              refine lv_iload hx hb dX11_paste_81 (lv_at hl 6 rfl) ?_
              refine lv_iload hx hb dX11_paste_83 (lv_at hl 7 rfl) ?_
              refine fn_goi (wc := [((t_6_r 2), .inr (4, oX4 t_6_2_q t_6_2_x0 t_6_2_x1 t_6_2_x2))]) (wr := [(t, .inr (11, oX11 t_q)), ((t_q 6), .inl (K 6, 4, .inr (.inr (.inr (.inr t_6_c))))), ((t_6_0_q 3), .inl (K 3, 60, .inr (.inl (fun j => lI (t_6_0_3_c j))))), ((t_6_2_q 3), .inl (K 3, 60, .inr (.inl (fun j => lI (t_6_2_3_c j))))), ((t_6_r 0), .inr (4, oX4 t_6_0_q t_6_0_x0 t_6_0_x1 t_6_0_x2))]) hK hP hD hS hA [2] [0, 1, 3, 4, 5] rfl rfl (by decide) (fun hp => va_runVN (C := RX4) (As := [.int (iI p4), .int (iI p5)]) (rest := []) ⟨hx, hb, hml, hown, hts⟩ (k_X4_spans (l := l) (D := D) (K := K) (t := (t_6_r 2)) (p1 := p4) (p2 := p5) (t_q := t_6_2_q) (t_x0 := t_6_2_x0) (t_x1 := t_6_2_x1) (t_x2 := t_6_2_x2) (hp1 := (by omega)) (hp2 := (by omega)) (hi_t := hi_t_6_2) _) ⟨va_cnB (own := RX11) 2 hts (fn_gin wd_1226) rfl rfl rfl (hK.nw 155 rfl) (hts _ wd_12) (by decide +kernel) ⟨Nat.le_of_ble_eq_true rfl, Nat.le_of_ble_eq_true rfl⟩, hts _ wd_1225, hts _ wp_93⟩ ⟨fn_blind, va_recv hK.1 hP (ci := 4) (q0 := 2) rfl rfl, hp⟩ rfl rfl hl.1 rfl (lv_room (Nat.le_of_ble_eq_true rfl)) dX11_paste_85 ⟨Nat.le_of_ble_eq_true rfl, Nat.le_of_ble_eq_true rfl⟩) (fun r85 u85 H locs hwu85 hP hD hS => ?_)
              obtain ⟨u85a, u85b⟩ := u85
              obtain ⟨kr85, rfl, hkr85, hqu850, -⟩ := hwu85
              have hqu85 : (kr85 = 1 → 0 ≤ p4 ∧ 0 ≤ p5 ∧ p4 + p5 ≤ t_6_2_x2 ∧ p4 + p5 ≤ 60) := hqu850
              clear hqu850
              have hP : va_P D vwCl [(t, .inr (11, oX11 t_q)), ((t_q 6), .inl (K 6, 4, .inr (.inr (.inr (.inr t_6_c))))), ((t_6_0_q 3), .inl (K 3, 60, .inr (.inl (fun j => lI (t_6_0_3_c j))))), ((t_6_2_q 3), .inl (K 3, 60, .inr (.inl (fun j => lI (t_6_2_3_c j))))), ((t_6_r 0), .inr (4, oX4 t_6_0_q t_6_0_x0 t_6_0_x1 t_6_0_x2)), ((t_6_r 2), .inr (4, oX4 t_6_2_q t_6_2_x0 t_6_2_x1 t_6_2_x2))] H := hP
              have hD : va_D A [(t, .inr (11, oX11 t_q)), ((t_q 6), .inl (K 6, 4, .inr (.inr (.inr (.inr t_6_c))))), ((t_6_0_q 3), .inl (K 3, 60, .inr (.inl (fun j => lI (t_6_0_3_c j))))), ((t_6_2_q 3), .inl (K 3, 60, .inr (.inl (fun j => lI (t_6_2_3_c j))))), ((t_6_r 0), .inr (4, oX4 t_6_0_q t_6_0_x0 t_6_0_x1 t_6_0_x2)), ((t_6_r 2), .inr (4, oX4 t_6_2_q t_6_2_x0 t_6_2_x1 t_6_2_x2))] := hD
              refine g_if_ne (tgt := 94) hx hb (by omega) dX11_paste_88 (by decide) (fun c88 => ?_) (fun c88 => ?_)
              · refine lv_aload hx hb dX11_paste_94 (lv_at hl 1 rfl) ?_
                refine va_getN (D := D) (own := RX11) (ci := 4) (v := .ref (t_6_0_q 3)) (C := RX4) (T := TX4) (N := 4) hx hb hts inb_X4 hown hK.1 hP 4 rfl rfl 3 (by decide) (hK.nf 92 rfl) (fun _ h9 => h9) rfl dX11_paste_96 ?_
                refine fn_at 99 rfl ?_
                refine lv_iload_n hx hb dX11_paste_99 rfl (lv_at hl 4 rfl) ?_
                refine lv_aload hx hb dX11_paste_100 (lv_at hl 0 rfl) ?_
                refine va_getN (D := D) (own := RX11) (ci := 4) (v := .ref (t_6_2_q 3)) (C := RX4) (T := TX4) (N := 4) hx hb hts inb_X4 hown hK.1 hP 5 rfl rfl 3 (by decide) (hK.nf 92 rfl) (fun _ h9 => h9) rfl dX11_paste_102 ?_
                refine lv_iload hx hb dX11_paste_105 (lv_at hl 6 rfl) ?_
                refine lv_iload hx hb dX11_paste_107 (lv_at hl 7 rfl) ?_
                refine g_cpyl (own := RX11) hx hb (hml.trans hl.1.symm) hown (hts _ wd_1227) (hts _ wd_622) (hts _ wd_621) (hts _ wd_19) hK.1 hP hD hS 2 3 3 3 rfl rfl rfl rfl (by omega) (by omega) (by omega) (Nat.le_of_ble_eq_true rfl) (Nat.le_of_ble_eq_true rfl) dX11_paste_109 (fun H locs g109 eg109 hP hD hS => ?_)
                have hg109 : ∀ j : Nat, (-9223372036854775808) ≤ g109 j ∧ g109 j ≤ 9223372036854775807 := by rw [eg109]; exact cI_all hc_t_6_0_3 hc_t_6_2_3
                have hP : va_P D vwCl [(t, .inr (11, oX11 t_q)), ((t_q 6), .inl (K 6, 4, .inr (.inr (.inr (.inr t_6_c))))), ((t_6_0_q 3), .inl (K 3, 60, .inr (.inl (fun j => lI (t_6_0_3_c j))))), ((t_6_2_q 3), .inl (K 3, 60, .inr (.inl (fun j => lI (g109 j))))), ((t_6_r 0), .inr (4, oX4 t_6_0_q t_6_0_x0 t_6_0_x1 t_6_0_x2)), ((t_6_r 2), .inr (4, oX4 t_6_2_q t_6_2_x0 t_6_2_x1 t_6_2_x2))] H := hP
                have hD : va_D A [(t, .inr (11, oX11 t_q)), ((t_q 6), .inl (K 6, 4, .inr (.inr (.inr (.inr t_6_c))))), ((t_6_0_q 3), .inl (K 3, 60, .inr (.inl (fun j => lI (t_6_0_3_c j))))), ((t_6_2_q 3), .inl (K 3, 60, .inr (.inl (fun j => lI (g109 j))))), ((t_6_r 0), .inr (4, oX4 t_6_0_q t_6_0_x0 t_6_0_x1 t_6_0_x2)), ((t_6_r 2), .inr (4, oX4 t_6_2_q t_6_2_x0 t_6_2_x1 t_6_2_x2))] := hD
                refine lv_iconst (v := iI 0) hx hb dX11_paste_112 rfl ?_
                rw [hQ]; exact fn_iret hx hb hr hlocks rfl hP hD hS ((fun _ => 0), (fun k => ([g109] : List (Nat → Int)).getD k (fun _ => 0))) ⟨0, rfl, by omega, (hg109), trivial⟩ [0, 1, 4, 5, 2, 3] (by decide) rfl dX11_paste_113
              · refine lv_bipush (v := iI (-7)) hx hb dX11_paste_91 (by decide) ?_
                rw [hQ]; exact fn_iret hx hb hr hlocks rfl hP hD hS ((fun _ => 0), (fun k => ([t_6_2_3_c] : List (Nat → Int)).getD k (fun _ => 0))) ⟨(-7), rfl, by omega, (hc_t_6_2_3), trivial⟩ [0, 1, 4, 5, 2, 3] (by decide) rfl dX11_paste_93
          · refine lv_bipush (v := iI (-8)) hx hb dX11_paste_65 (by decide) ?_
            rw [hQ]; exact fn_iret hx hb hr hlocks rfl hP hD hS ((fun _ => 0), (fun k => ([t_6_2_3_c] : List (Nat → Int)).getD k (fun _ => 0))) ⟨(-8), rfl, by omega, (hc_t_6_2_3), trivial⟩ [0, 1, 2, 3, 4, 5] (by decide) rfl dX11_paste_67
        · refine lv_bipush (v := iI (-6)) hx hb dX11_paste_49 (by decide) ?_
          rw [hQ]; exact fn_iret hx hb hr hlocks rfl hP hD hS ((fun _ => 0), (fun k => ([t_6_2_3_c] : List (Nat → Int)).getD k (fun _ => 0))) ⟨(-6), rfl, by omega, (hc_t_6_2_3), trivial⟩ [0, 1, 2, 3, 4, 5] (by decide) rfl dX11_paste_51
    · refine lv_bipush (v := iI (-2)) hx hb dX11_paste_14 (by decide) ?_
      rw [hQ]; exact fn_iret hx hb hr hlocks rfl hP hD hS ((fun _ => 0), (fun k => ([t_6_2_3_c] : List (Nat → Int)).getD k (fun _ => 0))) ⟨(-2), rfl, by omega, (hc_t_6_2_3), trivial⟩ [0, 1, 2, 3, 4, 5] (by decide) rfl dX11_paste_16
set_option maxHeartbeats 4000000 in
set_option maxRecDepth 100000 in
theorem k_X11_paste_03 (l : Launch) (D : va_G) (K : Nat → ClassId) (t : Nat) (t_q t_6_r t_6_0_q t_6_3_q : Nat → Nat) (p2 p4 p5 t_6_0_x0 t_6_0_x1 t_6_0_x2 t_6_3_x0 t_6_3_x1 t_6_3_x2 : Int) (t_6_c : Nat → Option Nat) (t_6_0_3_c : Nat → Int) (t_6_3_3_c : Nat → Int) (hp2 : (-2147483648) ≤ p2 ∧ p2 ≤ 2147483647) (hp4 : (-2147483648) ≤ p4 ∧ p4 ≤ 2147483647) (hp5 : (-2147483648) ≤ p5 ∧ p5 ≤ 2147483647) (hr_t_6 : ∀ j : Nat, j < 4 → t_6_c j = some (t_6_r j)) (hi_t_6_0 : bX4 t_6_0_x0 t_6_0_x1 t_6_0_x2) (hi_t_6_3 : bX4 t_6_3_x0 t_6_3_x1 t_6_3_x2) (hc_t_6_0_3 : ∀ j : Nat, (-9223372036854775808) ≤ t_6_0_3_c j ∧ t_6_0_3_c j ≤ 9223372036854775807) (hc_t_6_3_3 : ∀ j : Nat, (-9223372036854775808) ≤ t_6_3_3_c j ∧ t_6_3_3_c j ≤ 9223372036854775807) : fn_CI (S := (Nat → Int) × (Nat → Nat → Int)) l D K yX11_paste (fn_ws yX11_paste cX11_paste 8 (some .int)) ({ frames := 8, cells := 0, slots := 0, locals := 200 } : Room) [.ref t, .int (iI 0), .int (iI p2), .int (iI 3), .int (iI p4), .int (iI p5)] [(t, .inr (11, oX11 t_q)), ((t_q 6), .inl (K 6, 4, .inr (.inr (.inr (.inr t_6_c))))), ((t_6_r 0), .inr (4, oX4 t_6_0_q t_6_0_x0 t_6_0_x1 t_6_0_x2)), ((t_6_r 3), .inr (4, oX4 t_6_3_q t_6_3_x0 t_6_3_x1 t_6_3_x2)), ((t_6_0_q 3), .inl (K 3, 60, .inr (.inl (fun j => lI (t_6_0_3_c j))))), ((t_6_3_q 3), .inl (K 3, 60, .inr (.inl (fun j => lI (t_6_3_3_c j)))))] (fun r u => ∃ k : Int, r = iI k ∧ ((-8) ≤ k ∧ k ≤ 0) ∧ (∀ j : Nat, (-9223372036854775808) ≤ (u.2 0) j ∧ (u.2 0) j ≤ 9223372036854775807) ∧ True) (fun u => [(t, .inr (11, oX11 t_q)), ((t_q 6), .inl (K 6, 4, .inr (.inr (.inr (.inr t_6_c))))), ((t_6_r 0), .inr (4, oX4 t_6_0_q t_6_0_x0 t_6_0_x1 t_6_0_x2)), ((t_6_r 3), .inr (4, oX4 t_6_3_q t_6_3_x0 t_6_3_x1 t_6_3_x2)), ((t_6_0_q 3), .inl (K 3, 60, .inr (.inl (fun j => lI (t_6_0_3_c j))))), ((t_6_3_q 3), .inl (K 3, 60, .inr (.inl (fun j => lI ((u.2 0) j)))))]) 0 0 := by
  refine g_inI (cc := cX11_paste) (maxL := 8) (ret := (some .int)) (by decide) rfl (Nat.le_of_ble_eq_true rfl) ?_
  intro p e s m below meth c A ls ag Q B hA hP hD hS hl hQ
  obtain ⟨hx, hb, hr, hml, hts, hown, hlocks, hin, hK⟩ := B
  have hown : s.vm.findClass RX11 = some m.cls := hown
  have hts := fun w h => hts w (List.mem_cons_of_mem _ h)
  have hl : lv_has ls 8 [(0, .ref t), (1, .int (iI 0)), (2, .int (iI p2)), (3, .int (iI 3)), (4, .int (iI p4)), (5, .int (iI p5))] := hl
  refine lv_iload_n hx hb dX11_paste_0 rfl (lv_at hl 1 rfl) ?_
  refine fn_goi (wc := []) (wr := [(t, .inr (11, oX11 t_q)), ((t_q 6), .inl (K 6, 4, .inr (.inr (.inr (.inr t_6_c))))), ((t_6_r 0), .inr (4, oX4 t_6_0_q t_6_0_x0 t_6_0_x1 t_6_0_x2)), ((t_6_r 3), .inr (4, oX4 t_6_3_q t_6_3_x0 t_6_3_x1 t_6_3_x2)), ((t_6_0_q 3), .inl (K 3, 60, .inr (.inl (fun j => lI (t_6_0_3_c j))))), ((t_6_3_q 3), .inl (K 3, 60, .inr (.inl (fun j => lI (t_6_3_3_c j)))))]) hK hP hD hS hA [] [0, 1, 2, 3, 4, 5] rfl rfl (by decide) (fun hp => va_runS (As := [.int (iI 0)]) (rest := []) ⟨hx, hb, hml, hown, hts⟩ (k_X11_noSlot (l := l) (D := D) (K := K) (p1 := 0) (hp1 := (by omega)) _) (va_cwS 1 hts (fn_ginS (fn_gin wd_963) wd_961 wd_962 wd_1) rfl rfl rfl (by decide +kernel) ⟨Nat.le_of_ble_eq_true rfl, Nat.le_of_ble_eq_true rfl⟩) ⟨fn_blind, hp⟩ rfl rfl hl.1 rfl (lv_room (Nat.le_of_ble_eq_true rfl)) dX11_paste_1 ⟨Nat.le_of_ble_eq_true rfl, Nat.le_of_ble_eq_true rfl⟩) (fun r1 u1 H locs hwu1 hP hD hS => ?_)
  obtain ⟨u1a, u1b⟩ := u1
  obtain ⟨kr1, rfl, hkr1, hqu10, -⟩ := hwu1
  have hqu1 : (kr1 = 0 → 0 ≤ (0 : Int) ∧ (0 : Int) ≤ 3) ∧ (kr1 = 1 → (0 : Int) < 0 ∨ 3 < (0 : Int)) := hqu10
  clear hqu10
  have hP : va_P D vwCl [(t, .inr (11, oX11 t_q)), ((t_q 6), .inl (K 6, 4, .inr (.inr (.inr (.inr t_6_c))))), ((t_6_r 0), .inr (4, oX4 t_6_0_q t_6_0_x0 t_6_0_x1 t_6_0_x2)), ((t_6_r 3), .inr (4, oX4 t_6_3_q t_6_3_x0 t_6_3_x1 t_6_3_x2)), ((t_6_0_q 3), .inl (K 3, 60, .inr (.inl (fun j => lI (t_6_0_3_c j))))), ((t_6_3_q 3), .inl (K 3, 60, .inr (.inl (fun j => lI (t_6_3_3_c j)))))] H := hP
  have hD : va_D A [(t, .inr (11, oX11 t_q)), ((t_q 6), .inl (K 6, 4, .inr (.inr (.inr (.inr t_6_c))))), ((t_6_r 0), .inr (4, oX4 t_6_0_q t_6_0_x0 t_6_0_x1 t_6_0_x2)), ((t_6_r 3), .inr (4, oX4 t_6_3_q t_6_3_x0 t_6_3_x1 t_6_3_x2)), ((t_6_0_q 3), .inl (K 3, 60, .inr (.inl (fun j => lI (t_6_0_3_c j))))), ((t_6_3_q 3), .inl (K 3, 60, .inr (.inl (fun j => lI (t_6_3_3_c j)))))] := hD
  refine g_if_ne (tgt := 14) hx hb (by omega) dX11_paste_4 (by decide) (fun c4 => ?_) (fun c4 => ?_)
  · refine lv_bipush (v := iI (-2)) hx hb dX11_paste_14 (by decide) ?_
    rw [hQ]; exact fn_iret hx hb hr hlocks rfl hP hD hS ((fun _ => 0), (fun k => ([t_6_3_3_c] : List (Nat → Int)).getD k (fun _ => 0))) ⟨(-2), rfl, by omega, (hc_t_6_3_3), trivial⟩ [0, 1, 2, 3, 4, 5] (by decide) rfl dX11_paste_16
  · refine lv_iload_n hx hb dX11_paste_7 rfl (lv_at hl 3 rfl) ?_
    refine fn_goi (wc := []) (wr := [(t, .inr (11, oX11 t_q)), ((t_q 6), .inl (K 6, 4, .inr (.inr (.inr (.inr t_6_c))))), ((t_6_r 0), .inr (4, oX4 t_6_0_q t_6_0_x0 t_6_0_x1 t_6_0_x2)), ((t_6_r 3), .inr (4, oX4 t_6_3_q t_6_3_x0 t_6_3_x1 t_6_3_x2)), ((t_6_0_q 3), .inl (K 3, 60, .inr (.inl (fun j => lI (t_6_0_3_c j))))), ((t_6_3_q 3), .inl (K 3, 60, .inr (.inl (fun j => lI (t_6_3_3_c j)))))]) hK hP hD hS hA [] [0, 1, 2, 3, 4, 5] rfl rfl (by decide) (fun hp => va_runS (As := [.int (iI 3)]) (rest := []) ⟨hx, hb, hml, hown, hts⟩ (k_X11_noSlot (l := l) (D := D) (K := K) (p1 := 3) (hp1 := (by omega)) _) (va_cwS 1 hts (fn_ginS (fn_gin wd_963) wd_961 wd_962 wd_1) rfl rfl rfl (by decide +kernel) ⟨Nat.le_of_ble_eq_true rfl, Nat.le_of_ble_eq_true rfl⟩) ⟨fn_blind, hp⟩ rfl rfl hl.1 rfl (lv_room (Nat.le_of_ble_eq_true rfl)) dX11_paste_8 ⟨Nat.le_of_ble_eq_true rfl, Nat.le_of_ble_eq_true rfl⟩) (fun r8 u8 H locs hwu8 hP hD hS => ?_)
    obtain ⟨u8a, u8b⟩ := u8
    obtain ⟨kr8, rfl, hkr8, hqu80, -⟩ := hwu8
    have hqu8 : (kr8 = 0 → 0 ≤ (3 : Int) ∧ (3 : Int) ≤ 3) ∧ (kr8 = 1 → (3 : Int) < 0 ∨ 3 < (3 : Int)) := hqu80
    clear hqu80
    have hP : va_P D vwCl [(t, .inr (11, oX11 t_q)), ((t_q 6), .inl (K 6, 4, .inr (.inr (.inr (.inr t_6_c))))), ((t_6_r 0), .inr (4, oX4 t_6_0_q t_6_0_x0 t_6_0_x1 t_6_0_x2)), ((t_6_r 3), .inr (4, oX4 t_6_3_q t_6_3_x0 t_6_3_x1 t_6_3_x2)), ((t_6_0_q 3), .inl (K 3, 60, .inr (.inl (fun j => lI (t_6_0_3_c j))))), ((t_6_3_q 3), .inl (K 3, 60, .inr (.inl (fun j => lI (t_6_3_3_c j)))))] H := hP
    have hD : va_D A [(t, .inr (11, oX11 t_q)), ((t_q 6), .inl (K 6, 4, .inr (.inr (.inr (.inr t_6_c))))), ((t_6_r 0), .inr (4, oX4 t_6_0_q t_6_0_x0 t_6_0_x1 t_6_0_x2)), ((t_6_r 3), .inr (4, oX4 t_6_3_q t_6_3_x0 t_6_3_x1 t_6_3_x2)), ((t_6_0_q 3), .inl (K 3, 60, .inr (.inl (fun j => lI (t_6_0_3_c j))))), ((t_6_3_q 3), .inl (K 3, 60, .inr (.inl (fun j => lI (t_6_3_3_c j)))))] := hD
    refine g_if_eq (tgt := 17) hx hb (by omega) dX11_paste_11 (by decide) (fun c11 => ?_) (fun c11 => ?_)
    · refine lv_aload_n hx hb dX11_paste_17 rfl (lv_at hl 0 rfl) ?_
      refine va_get (D := D) (own := RX11) (ci := 11) (v := .ref (t_q 6)) (C := RX11) (T := TX11) (N := 13) hx hb hts inb_X11 hown hK.1 hP 0 rfl rfl 6 (by decide) (hts _ wd_428) (fun _ h9 => h9) rfl dX11_paste_18 ?_
      refine lv_iload_n hx hb dX11_paste_21 rfl (lv_at hl 1 rfl) ?_
      refine va_aldq hx hb hK.1 hP 1 6 rfl rfl (iI_in (by decide) (by decide) (by decide)) dX11_paste_22 ?_
      refine fn_topv (.ref (t_6_r 0)) (by rw [iI_cl (by decide)]; exact congrArg va_rf (hr_t_6 0 (by decide))) ?_
      refine lv_astore (lv' := [(6, .ref (t_6_r 0)), (0, .ref t), (1, .int (iI 0)), (2, .int (iI p2)), (3, .int (iI 3)), (4, .int (iI p4)), (5, .int (iI p5))]) hx hb dX11_paste_23 hl (by decide) rfl (fun ls hl => ?_)
      refine lv_aload_n hx hb dX11_paste_25 rfl (lv_at hl 1 rfl) ?_
      refine va_get (D := D) (own := RX11) (ci := 11) (v := .ref (t_q 6)) (C := RX11) (T := TX11) (N := 13) hx hb hts inb_X11 hown hK.1 hP 0 rfl rfl 6 (by decide) (hts _ wd_428) (fun _ h9 => h9) rfl dX11_paste_26 ?_
      refine lv_iload_n hx hb dX11_paste_29 rfl (lv_at hl 4 rfl) ?_
      refine va_aldq hx hb hK.1 hP 1 6 rfl rfl (iI_in (by decide) (by decide) (by decide)) dX11_paste_30 ?_
      refine fn_topv (.ref (t_6_r 3)) (by rw [iI_cl (by decide)]; exact congrArg va_rf (hr_t_6 3 (by decide))) ?_
      refine lv_astore (lv' := [(7, .ref (t_6_r 3)), (6, .ref (t_6_r 0)), (0, .ref t), (1, .int (iI 0)), (2, .int (iI p2)), (3, .int (iI 3)), (4, .int (iI p4)), (5, .int (iI p5))]) hx hb dX11_paste_31 hl (by decide) rfl (fun ls hl => ?_)
      refine lv_aload hx hb dX11_paste_33 (lv_at hl 1 rfl) ?_
      refine va_getN (D := D) (own := RX11) (ci := 4) (v := .int (iI t_6_0_x0)) (C := RX4) (T := TX4) (N := 4) hx hb hts inb_X4 hown hK.1 hP 2 rfl rfl 0 (by decide) (hK.nf 89 rfl) (fun _ h9 => h9) rfl dX11_paste_35 ?_
      have y35_1 : 0 ≤ t_6_0_x0 ∧ t_6_0_x0 ≤ 1 := hi_t_6_0.1
      refine g_if_eq (tgt := 49) hx hb (by omega) dX11_paste_38 (by decide) (fun c38 => ?_) (fun c38 => ?_)
      · refine fn_at 49 rfl ?_
        refine lv_bipush (v := iI (-6)) hx hb dX11_paste_49 (by decide) ?_
        rw [hQ]; exact fn_iret hx hb hr hlocks rfl hP hD hS ((fun _ => 0), (fun k => ([t_6_3_3_c] : List (Nat → Int)).getD k (fun _ => 0))) ⟨(-6), rfl, by omega, (hc_t_6_3_3), trivial⟩ [0, 1, 2, 3, 4, 5] (by decide) rfl dX11_paste_51
      · refine fn_at 41 rfl ?_
        refine lv_aload hx hb dX11_paste_41 (lv_at hl 0 rfl) ?_
        refine va_getN (D := D) (own := RX11) (ci := 4) (v := .int (iI t_6_3_x0)) (C := RX4) (T := TX4) (N := 4) hx hb hts inb_X4 hown hK.1 hP 3 rfl rfl 0 (by decide) (hK.nf 89 rfl) (fun _ h9 => h9) rfl dX11_paste_43 ?_
        have y43_2 : 0 ≤ t_6_3_x0 ∧ t_6_3_x0 ≤ 1 := hi_t_6_3.1
        refine g_if_ne (tgt := 52) hx hb (by omega) dX11_paste_46 (by decide) (fun c46 => ?_) (fun c46 => ?_)
        · refine lv_aload hx hb dX11_paste_52 (lv_at hl 1 rfl) ?_
          refine va_getN (D := D) (own := RX11) (ci := 4) (v := .int (iI t_6_0_x1)) (C := RX4) (T := TX4) (N := 4) hx hb hts inb_X4 hown hK.1 hP 2 rfl rfl 1 (by decide) (hK.nf 90 rfl) (fun _ h9 => h9) rfl dX11_paste_54 ?_
          have y54_3 : 0 ≤ t_6_0_x1 ∧ t_6_0_x1 ≤ 3 := hi_t_6_0.2.1
          refine lv_aload hx hb dX11_paste_57 (lv_at hl 0 rfl) ?_
          refine va_getN (D := D) (own := RX11) (ci := 4) (v := .int (iI t_6_3_x1)) (C := RX4) (T := TX4) (N := 4) hx hb hts inb_X4 hown hK.1 hP 3 rfl rfl 1 (by decide) (hK.nf 90 rfl) (fun _ h9 => h9) rfl dX11_paste_59 ?_
          have y59_4 : 0 ≤ t_6_3_x1 ∧ t_6_3_x1 ≤ 3 := hi_t_6_3.2.1
          refine g_icmp_eq (tgt := 68) hx hb (by omega) (by omega) dX11_paste_62 (by decide) (fun c62 => ?_) (fun c62 => ?_)
          · refine lv_aload hx hb dX11_paste_68 (lv_at hl 1 rfl) ?_
            refine lv_iload_n hx hb dX11_paste_70 rfl (lv_at hl 4 rfl) ?_
            refine lv_iload hx hb dX11_paste_71 (lv_at hl 7 rfl) ?_
            refine fn_goi (wc := [((t_6_r 0), .inr (4, oX4 t_6_0_q t_6_0_x0 t_6_0_x1 t_6_0_x2))]) (wr := [(t, .inr (11, oX11 t_q)), ((t_q 6), .inl (K 6, 4, .inr (.inr (.inr (.inr t_6_c))))), ((t_6_r 3), .inr (4, oX4 t_6_3_q t_6_3_x0 t_6_3_x1 t_6_3_x2)), ((t_6_0_q 3), .inl (K 3, 60, .inr (.inl (fun j => lI (t_6_0_3_c j))))), ((t_6_3_q 3), .inl (K 3, 60, .inr (.inl (fun j => lI (t_6_3_3_c j)))))]) hK hP hD hS hA [2] [0, 1, 3, 4, 5] rfl rfl (by decide) (fun hp => va_runVN (C := RX4) (As := [.int (iI p2), .int (iI p5)]) (rest := []) ⟨hx, hb, hml, hown, hts⟩ (k_X4_spans (l := l) (D := D) (K := K) (t := (t_6_r 0)) (p1 := p2) (p2 := p5) (t_q := t_6_0_q) (t_x0 := t_6_0_x0) (t_x1 := t_6_0_x1) (t_x2 := t_6_0_x2) (hp1 := (by omega)) (hp2 := (by omega)) (hi_t := hi_t_6_0) _) ⟨va_cnB (own := RX11) 2 hts (fn_gin wd_1226) rfl rfl rfl (hK.nw 155 rfl) (hts _ wd_12) (by decide +kernel) ⟨Nat.le_of_ble_eq_true rfl, Nat.le_of_ble_eq_true rfl⟩, hts _ wd_1225, hts _ wp_93⟩ ⟨fn_blind, va_recv hK.1 hP (ci := 4) (q0 := 2) rfl rfl, hp⟩ rfl rfl hl.1 rfl (lv_room (Nat.le_of_ble_eq_true rfl)) dX11_paste_73 ⟨Nat.le_of_ble_eq_true rfl, Nat.le_of_ble_eq_true rfl⟩) (fun r73 u73 H locs hwu73 hP hD hS => ?_)
            obtain ⟨u73a, u73b⟩ := u73
            obtain ⟨kr73, rfl, hkr73, hqu730, -⟩ := hwu73
            have hqu73 : (kr73 = 1 → 0 ≤ p2 ∧ 0 ≤ p5 ∧ p2 + p5 ≤ t_6_0_x2 ∧ p2 + p5 ≤ 60) := hqu730
            clear hqu730
            have hP : va_P D vwCl [(t, .inr (11, oX11 t_q)), ((t_q 6), .inl (K 6, 4, .inr (.inr (.inr (.inr t_6_c))))), ((t_6_r 3), .inr (4, oX4 t_6_3_q t_6_3_x0 t_6_3_x1 t_6_3_x2)), ((t_6_0_q 3), .inl (K 3, 60, .inr (.inl (fun j => lI (t_6_0_3_c j))))), ((t_6_3_q 3), .inl (K 3, 60, .inr (.inl (fun j => lI (t_6_3_3_c j))))), ((t_6_r 0), .inr (4, oX4 t_6_0_q t_6_0_x0 t_6_0_x1 t_6_0_x2))] H := hP
            have hD : va_D A [(t, .inr (11, oX11 t_q)), ((t_q 6), .inl (K 6, 4, .inr (.inr (.inr (.inr t_6_c))))), ((t_6_r 3), .inr (4, oX4 t_6_3_q t_6_3_x0 t_6_3_x1 t_6_3_x2)), ((t_6_0_q 3), .inl (K 3, 60, .inr (.inl (fun j => lI (t_6_0_3_c j))))), ((t_6_3_q 3), .inl (K 3, 60, .inr (.inl (fun j => lI (t_6_3_3_c j))))), ((t_6_r 0), .inr (4, oX4 t_6_0_q t_6_0_x0 t_6_0_x1 t_6_0_x2))] := hD
            refine g_if_eq (tgt := 91) hx hb (by omega) dX11_paste_76 (by decide) (fun c76 => ?_) (fun c76 => ?_)
            · refine lv_bipush (v := iI (-7)) hx hb dX11_paste_91 (by decide) ?_
              rw [hQ]; exact fn_iret hx hb hr hlocks rfl hP hD hS ((fun _ => 0), (fun k => ([t_6_3_3_c] : List (Nat → Int)).getD k (fun _ => 0))) ⟨(-7), rfl, by omega, (hc_t_6_3_3), trivial⟩ [0, 1, 5, 2, 3, 4] (by decide) rfl dX11_paste_93
            · refine lv_aload hx hb dX11_paste_79 (lv_at hl 0 rfl) ?_
              refine lv_iload hx hb dX11_paste_81 (lv_at hl 6 rfl) ?_
              refine lv_iload hx hb dX11_paste_83 (lv_at hl 7 rfl) ?_
              refine fn_goi (wc := [((t_6_r 3), .inr (4, oX4 t_6_3_q t_6_3_x0 t_6_3_x1 t_6_3_x2))]) (wr := [(t, .inr (11, oX11 t_q)), ((t_q 6), .inl (K 6, 4, .inr (.inr (.inr (.inr t_6_c))))), ((t_6_0_q 3), .inl (K 3, 60, .inr (.inl (fun j => lI (t_6_0_3_c j))))), ((t_6_3_q 3), .inl (K 3, 60, .inr (.inl (fun j => lI (t_6_3_3_c j))))), ((t_6_r 0), .inr (4, oX4 t_6_0_q t_6_0_x0 t_6_0_x1 t_6_0_x2))]) hK hP hD hS hA [2] [0, 1, 3, 4, 5] rfl rfl (by decide) (fun hp => va_runVN (C := RX4) (As := [.int (iI p4), .int (iI p5)]) (rest := []) ⟨hx, hb, hml, hown, hts⟩ (k_X4_spans (l := l) (D := D) (K := K) (t := (t_6_r 3)) (p1 := p4) (p2 := p5) (t_q := t_6_3_q) (t_x0 := t_6_3_x0) (t_x1 := t_6_3_x1) (t_x2 := t_6_3_x2) (hp1 := (by omega)) (hp2 := (by omega)) (hi_t := hi_t_6_3) _) ⟨va_cnB (own := RX11) 2 hts (fn_gin wd_1226) rfl rfl rfl (hK.nw 155 rfl) (hts _ wd_12) (by decide +kernel) ⟨Nat.le_of_ble_eq_true rfl, Nat.le_of_ble_eq_true rfl⟩, hts _ wd_1225, hts _ wp_93⟩ ⟨fn_blind, va_recv hK.1 hP (ci := 4) (q0 := 2) rfl rfl, hp⟩ rfl rfl hl.1 rfl (lv_room (Nat.le_of_ble_eq_true rfl)) dX11_paste_85 ⟨Nat.le_of_ble_eq_true rfl, Nat.le_of_ble_eq_true rfl⟩) (fun r85 u85 H locs hwu85 hP hD hS => ?_)
              obtain ⟨u85a, u85b⟩ := u85
              obtain ⟨kr85, rfl, hkr85, hqu850, -⟩ := hwu85
              have hqu85 : (kr85 = 1 → 0 ≤ p4 ∧ 0 ≤ p5 ∧ p4 + p5 ≤ t_6_3_x2 ∧ p4 + p5 ≤ 60) := hqu850
              clear hqu850
              have hP : va_P D vwCl [(t, .inr (11, oX11 t_q)), ((t_q 6), .inl (K 6, 4, .inr (.inr (.inr (.inr t_6_c))))), ((t_6_0_q 3), .inl (K 3, 60, .inr (.inl (fun j => lI (t_6_0_3_c j))))), ((t_6_3_q 3), .inl (K 3, 60, .inr (.inl (fun j => lI (t_6_3_3_c j))))), ((t_6_r 0), .inr (4, oX4 t_6_0_q t_6_0_x0 t_6_0_x1 t_6_0_x2)), ((t_6_r 3), .inr (4, oX4 t_6_3_q t_6_3_x0 t_6_3_x1 t_6_3_x2))] H := hP
              have hD : va_D A [(t, .inr (11, oX11 t_q)), ((t_q 6), .inl (K 6, 4, .inr (.inr (.inr (.inr t_6_c))))), ((t_6_0_q 3), .inl (K 3, 60, .inr (.inl (fun j => lI (t_6_0_3_c j))))), ((t_6_3_q 3), .inl (K 3, 60, .inr (.inl (fun j => lI (t_6_3_3_c j))))), ((t_6_r 0), .inr (4, oX4 t_6_0_q t_6_0_x0 t_6_0_x1 t_6_0_x2)), ((t_6_r 3), .inr (4, oX4 t_6_3_q t_6_3_x0 t_6_3_x1 t_6_3_x2))] := hD
              refine g_if_ne (tgt := 94) hx hb (by omega) dX11_paste_88 (by decide) (fun c88 => ?_) (fun c88 => ?_)
              · refine lv_aload hx hb dX11_paste_94 (lv_at hl 1 rfl) ?_
                refine va_getN (D := D) (own := RX11) (ci := 4) (v := .ref (t_6_0_q 3)) (C := RX4) (T := TX4) (N := 4) hx hb hts inb_X4 hown hK.1 hP 4 rfl rfl 3 (by decide) (hK.nf 92 rfl) (fun _ h9 => h9) rfl dX11_paste_96 ?_
                refine fn_at 99 rfl ?_
                refine lv_iload_n hx hb dX11_paste_99 rfl (lv_at hl 4 rfl) ?_
                refine lv_aload hx hb dX11_paste_100 (lv_at hl 0 rfl) ?_
                refine va_getN (D := D) (own := RX11) (ci := 4) (v := .ref (t_6_3_q 3)) (C := RX4) (T := TX4) (N := 4) hx hb hts inb_X4 hown hK.1 hP 5 rfl rfl 3 (by decide) (hK.nf 92 rfl) (fun _ h9 => h9) rfl dX11_paste_102 ?_
                refine lv_iload hx hb dX11_paste_105 (lv_at hl 6 rfl) ?_
                refine lv_iload hx hb dX11_paste_107 (lv_at hl 7 rfl) ?_
                refine g_cpyl (own := RX11) hx hb (hml.trans hl.1.symm) hown (hts _ wd_1227) (hts _ wd_622) (hts _ wd_621) (hts _ wd_19) hK.1 hP hD hS 2 3 3 3 rfl rfl rfl rfl (by omega) (by omega) (by omega) (Nat.le_of_ble_eq_true rfl) (Nat.le_of_ble_eq_true rfl) dX11_paste_109 (fun H locs g109 eg109 hP hD hS => ?_)
                have hg109 : ∀ j : Nat, (-9223372036854775808) ≤ g109 j ∧ g109 j ≤ 9223372036854775807 := by rw [eg109]; exact cI_all hc_t_6_0_3 hc_t_6_3_3
                have hP : va_P D vwCl [(t, .inr (11, oX11 t_q)), ((t_q 6), .inl (K 6, 4, .inr (.inr (.inr (.inr t_6_c))))), ((t_6_0_q 3), .inl (K 3, 60, .inr (.inl (fun j => lI (t_6_0_3_c j))))), ((t_6_3_q 3), .inl (K 3, 60, .inr (.inl (fun j => lI (g109 j))))), ((t_6_r 0), .inr (4, oX4 t_6_0_q t_6_0_x0 t_6_0_x1 t_6_0_x2)), ((t_6_r 3), .inr (4, oX4 t_6_3_q t_6_3_x0 t_6_3_x1 t_6_3_x2))] H := hP
                have hD : va_D A [(t, .inr (11, oX11 t_q)), ((t_q 6), .inl (K 6, 4, .inr (.inr (.inr (.inr t_6_c))))), ((t_6_0_q 3), .inl (K 3, 60, .inr (.inl (fun j => lI (t_6_0_3_c j))))), ((t_6_3_q 3), .inl (K 3, 60, .inr (.inl (fun j => lI (g109 j))))), ((t_6_r 0), .inr (4, oX4 t_6_0_q t_6_0_x0 t_6_0_x1 t_6_0_x2)), ((t_6_r 3), .inr (4, oX4 t_6_3_q t_6_3_x0 t_6_3_x1 t_6_3_x2))] := hD
                refine lv_iconst (v := iI 0) hx hb dX11_paste_112 rfl ?_
                rw [hQ]; exact fn_iret hx hb hr hlocks rfl hP hD hS ((fun _ => 0), (fun k => ([g109] : List (Nat → Int)).getD k (fun _ => 0))) ⟨0, rfl, by omega, (hg109), trivial⟩ [0, 1, 4, 5, 2, 3] (by decide) rfl dX11_paste_113
              · refine lv_bipush (v := iI (-7)) hx hb dX11_paste_91 (by decide) ?_
                rw [hQ]; exact fn_iret hx hb hr hlocks rfl hP hD hS ((fun _ => 0), (fun k => ([t_6_3_3_c] : List (Nat → Int)).getD k (fun _ => 0))) ⟨(-7), rfl, by omega, (hc_t_6_3_3), trivial⟩ [0, 1, 4, 5, 2, 3] (by decide) rfl dX11_paste_93
          · refine lv_bipush (v := iI (-8)) hx hb dX11_paste_65 (by decide) ?_
            rw [hQ]; exact fn_iret hx hb hr hlocks rfl hP hD hS ((fun _ => 0), (fun k => ([t_6_3_3_c] : List (Nat → Int)).getD k (fun _ => 0))) ⟨(-8), rfl, by omega, (hc_t_6_3_3), trivial⟩ [0, 1, 2, 3, 4, 5] (by decide) rfl dX11_paste_67
        · refine lv_bipush (v := iI (-6)) hx hb dX11_paste_49 (by decide) ?_
          rw [hQ]; exact fn_iret hx hb hr hlocks rfl hP hD hS ((fun _ => 0), (fun k => ([t_6_3_3_c] : List (Nat → Int)).getD k (fun _ => 0))) ⟨(-6), rfl, by omega, (hc_t_6_3_3), trivial⟩ [0, 1, 2, 3, 4, 5] (by decide) rfl dX11_paste_51
    · refine lv_bipush (v := iI (-2)) hx hb dX11_paste_14 (by decide) ?_
      rw [hQ]; exact fn_iret hx hb hr hlocks rfl hP hD hS ((fun _ => 0), (fun k => ([t_6_3_3_c] : List (Nat → Int)).getD k (fun _ => 0))) ⟨(-2), rfl, by omega, (hc_t_6_3_3), trivial⟩ [0, 1, 2, 3, 4, 5] (by decide) rfl dX11_paste_16
set_option maxHeartbeats 4000000 in
set_option maxRecDepth 100000 in
theorem k_X11_paste_10 (l : Launch) (D : va_G) (K : Nat → ClassId) (t : Nat) (t_q t_6_r t_6_1_q t_6_0_q : Nat → Nat) (p2 p4 p5 t_6_1_x0 t_6_1_x1 t_6_1_x2 t_6_0_x0 t_6_0_x1 t_6_0_x2 : Int) (t_6_c : Nat → Option Nat) (t_6_1_3_c : Nat → Int) (t_6_0_3_c : Nat → Int) (hp2 : (-2147483648) ≤ p2 ∧ p2 ≤ 2147483647) (hp4 : (-2147483648) ≤ p4 ∧ p4 ≤ 2147483647) (hp5 : (-2147483648) ≤ p5 ∧ p5 ≤ 2147483647) (hr_t_6 : ∀ j : Nat, j < 4 → t_6_c j = some (t_6_r j)) (hi_t_6_1 : bX4 t_6_1_x0 t_6_1_x1 t_6_1_x2) (hi_t_6_0 : bX4 t_6_0_x0 t_6_0_x1 t_6_0_x2) (hc_t_6_1_3 : ∀ j : Nat, (-9223372036854775808) ≤ t_6_1_3_c j ∧ t_6_1_3_c j ≤ 9223372036854775807) (hc_t_6_0_3 : ∀ j : Nat, (-9223372036854775808) ≤ t_6_0_3_c j ∧ t_6_0_3_c j ≤ 9223372036854775807) : fn_CI (S := (Nat → Int) × (Nat → Nat → Int)) l D K yX11_paste (fn_ws yX11_paste cX11_paste 8 (some .int)) ({ frames := 8, cells := 0, slots := 0, locals := 200 } : Room) [.ref t, .int (iI 1), .int (iI p2), .int (iI 0), .int (iI p4), .int (iI p5)] [(t, .inr (11, oX11 t_q)), ((t_q 6), .inl (K 6, 4, .inr (.inr (.inr (.inr t_6_c))))), ((t_6_r 1), .inr (4, oX4 t_6_1_q t_6_1_x0 t_6_1_x1 t_6_1_x2)), ((t_6_r 0), .inr (4, oX4 t_6_0_q t_6_0_x0 t_6_0_x1 t_6_0_x2)), ((t_6_1_q 3), .inl (K 3, 60, .inr (.inl (fun j => lI (t_6_1_3_c j))))), ((t_6_0_q 3), .inl (K 3, 60, .inr (.inl (fun j => lI (t_6_0_3_c j)))))] (fun r u => ∃ k : Int, r = iI k ∧ ((-8) ≤ k ∧ k ≤ 0) ∧ (∀ j : Nat, (-9223372036854775808) ≤ (u.2 0) j ∧ (u.2 0) j ≤ 9223372036854775807) ∧ True) (fun u => [(t, .inr (11, oX11 t_q)), ((t_q 6), .inl (K 6, 4, .inr (.inr (.inr (.inr t_6_c))))), ((t_6_r 1), .inr (4, oX4 t_6_1_q t_6_1_x0 t_6_1_x1 t_6_1_x2)), ((t_6_r 0), .inr (4, oX4 t_6_0_q t_6_0_x0 t_6_0_x1 t_6_0_x2)), ((t_6_1_q 3), .inl (K 3, 60, .inr (.inl (fun j => lI (t_6_1_3_c j))))), ((t_6_0_q 3), .inl (K 3, 60, .inr (.inl (fun j => lI ((u.2 0) j)))))]) 0 0 := by
  refine g_inI (cc := cX11_paste) (maxL := 8) (ret := (some .int)) (by decide) rfl (Nat.le_of_ble_eq_true rfl) ?_
  intro p e s m below meth c A ls ag Q B hA hP hD hS hl hQ
  obtain ⟨hx, hb, hr, hml, hts, hown, hlocks, hin, hK⟩ := B
  have hown : s.vm.findClass RX11 = some m.cls := hown
  have hts := fun w h => hts w (List.mem_cons_of_mem _ h)
  have hl : lv_has ls 8 [(0, .ref t), (1, .int (iI 1)), (2, .int (iI p2)), (3, .int (iI 0)), (4, .int (iI p4)), (5, .int (iI p5))] := hl
  refine lv_iload_n hx hb dX11_paste_0 rfl (lv_at hl 1 rfl) ?_
  refine fn_goi (wc := []) (wr := [(t, .inr (11, oX11 t_q)), ((t_q 6), .inl (K 6, 4, .inr (.inr (.inr (.inr t_6_c))))), ((t_6_r 1), .inr (4, oX4 t_6_1_q t_6_1_x0 t_6_1_x1 t_6_1_x2)), ((t_6_r 0), .inr (4, oX4 t_6_0_q t_6_0_x0 t_6_0_x1 t_6_0_x2)), ((t_6_1_q 3), .inl (K 3, 60, .inr (.inl (fun j => lI (t_6_1_3_c j))))), ((t_6_0_q 3), .inl (K 3, 60, .inr (.inl (fun j => lI (t_6_0_3_c j)))))]) hK hP hD hS hA [] [0, 1, 2, 3, 4, 5] rfl rfl (by decide) (fun hp => va_runS (As := [.int (iI 1)]) (rest := []) ⟨hx, hb, hml, hown, hts⟩ (k_X11_noSlot (l := l) (D := D) (K := K) (p1 := 1) (hp1 := (by omega)) _) (va_cwS 1 hts (fn_ginS (fn_gin wd_963) wd_961 wd_962 wd_1) rfl rfl rfl (by decide +kernel) ⟨Nat.le_of_ble_eq_true rfl, Nat.le_of_ble_eq_true rfl⟩) ⟨fn_blind, hp⟩ rfl rfl hl.1 rfl (lv_room (Nat.le_of_ble_eq_true rfl)) dX11_paste_1 ⟨Nat.le_of_ble_eq_true rfl, Nat.le_of_ble_eq_true rfl⟩) (fun r1 u1 H locs hwu1 hP hD hS => ?_)
  obtain ⟨u1a, u1b⟩ := u1
  obtain ⟨kr1, rfl, hkr1, hqu10, -⟩ := hwu1
  have hqu1 : (kr1 = 0 → 0 ≤ (1 : Int) ∧ (1 : Int) ≤ 3) ∧ (kr1 = 1 → (1 : Int) < 0 ∨ 3 < (1 : Int)) := hqu10
  clear hqu10
  have hP : va_P D vwCl [(t, .inr (11, oX11 t_q)), ((t_q 6), .inl (K 6, 4, .inr (.inr (.inr (.inr t_6_c))))), ((t_6_r 1), .inr (4, oX4 t_6_1_q t_6_1_x0 t_6_1_x1 t_6_1_x2)), ((t_6_r 0), .inr (4, oX4 t_6_0_q t_6_0_x0 t_6_0_x1 t_6_0_x2)), ((t_6_1_q 3), .inl (K 3, 60, .inr (.inl (fun j => lI (t_6_1_3_c j))))), ((t_6_0_q 3), .inl (K 3, 60, .inr (.inl (fun j => lI (t_6_0_3_c j)))))] H := hP
  have hD : va_D A [(t, .inr (11, oX11 t_q)), ((t_q 6), .inl (K 6, 4, .inr (.inr (.inr (.inr t_6_c))))), ((t_6_r 1), .inr (4, oX4 t_6_1_q t_6_1_x0 t_6_1_x1 t_6_1_x2)), ((t_6_r 0), .inr (4, oX4 t_6_0_q t_6_0_x0 t_6_0_x1 t_6_0_x2)), ((t_6_1_q 3), .inl (K 3, 60, .inr (.inl (fun j => lI (t_6_1_3_c j))))), ((t_6_0_q 3), .inl (K 3, 60, .inr (.inl (fun j => lI (t_6_0_3_c j)))))] := hD
  refine g_if_ne (tgt := 14) hx hb (by omega) dX11_paste_4 (by decide) (fun c4 => ?_) (fun c4 => ?_)
  · refine lv_bipush (v := iI (-2)) hx hb dX11_paste_14 (by decide) ?_
    rw [hQ]; exact fn_iret hx hb hr hlocks rfl hP hD hS ((fun _ => 0), (fun k => ([t_6_0_3_c] : List (Nat → Int)).getD k (fun _ => 0))) ⟨(-2), rfl, by omega, (hc_t_6_0_3), trivial⟩ [0, 1, 2, 3, 4, 5] (by decide) rfl dX11_paste_16
  · refine lv_iload_n hx hb dX11_paste_7 rfl (lv_at hl 3 rfl) ?_
    refine fn_goi (wc := []) (wr := [(t, .inr (11, oX11 t_q)), ((t_q 6), .inl (K 6, 4, .inr (.inr (.inr (.inr t_6_c))))), ((t_6_r 1), .inr (4, oX4 t_6_1_q t_6_1_x0 t_6_1_x1 t_6_1_x2)), ((t_6_r 0), .inr (4, oX4 t_6_0_q t_6_0_x0 t_6_0_x1 t_6_0_x2)), ((t_6_1_q 3), .inl (K 3, 60, .inr (.inl (fun j => lI (t_6_1_3_c j))))), ((t_6_0_q 3), .inl (K 3, 60, .inr (.inl (fun j => lI (t_6_0_3_c j)))))]) hK hP hD hS hA [] [0, 1, 2, 3, 4, 5] rfl rfl (by decide) (fun hp => va_runS (As := [.int (iI 0)]) (rest := []) ⟨hx, hb, hml, hown, hts⟩ (k_X11_noSlot (l := l) (D := D) (K := K) (p1 := 0) (hp1 := (by omega)) _) (va_cwS 1 hts (fn_ginS (fn_gin wd_963) wd_961 wd_962 wd_1) rfl rfl rfl (by decide +kernel) ⟨Nat.le_of_ble_eq_true rfl, Nat.le_of_ble_eq_true rfl⟩) ⟨fn_blind, hp⟩ rfl rfl hl.1 rfl (lv_room (Nat.le_of_ble_eq_true rfl)) dX11_paste_8 ⟨Nat.le_of_ble_eq_true rfl, Nat.le_of_ble_eq_true rfl⟩) (fun r8 u8 H locs hwu8 hP hD hS => ?_)
    obtain ⟨u8a, u8b⟩ := u8
    obtain ⟨kr8, rfl, hkr8, hqu80, -⟩ := hwu8
    have hqu8 : (kr8 = 0 → 0 ≤ (0 : Int) ∧ (0 : Int) ≤ 3) ∧ (kr8 = 1 → (0 : Int) < 0 ∨ 3 < (0 : Int)) := hqu80
    clear hqu80
    have hP : va_P D vwCl [(t, .inr (11, oX11 t_q)), ((t_q 6), .inl (K 6, 4, .inr (.inr (.inr (.inr t_6_c))))), ((t_6_r 1), .inr (4, oX4 t_6_1_q t_6_1_x0 t_6_1_x1 t_6_1_x2)), ((t_6_r 0), .inr (4, oX4 t_6_0_q t_6_0_x0 t_6_0_x1 t_6_0_x2)), ((t_6_1_q 3), .inl (K 3, 60, .inr (.inl (fun j => lI (t_6_1_3_c j))))), ((t_6_0_q 3), .inl (K 3, 60, .inr (.inl (fun j => lI (t_6_0_3_c j)))))] H := hP
    have hD : va_D A [(t, .inr (11, oX11 t_q)), ((t_q 6), .inl (K 6, 4, .inr (.inr (.inr (.inr t_6_c))))), ((t_6_r 1), .inr (4, oX4 t_6_1_q t_6_1_x0 t_6_1_x1 t_6_1_x2)), ((t_6_r 0), .inr (4, oX4 t_6_0_q t_6_0_x0 t_6_0_x1 t_6_0_x2)), ((t_6_1_q 3), .inl (K 3, 60, .inr (.inl (fun j => lI (t_6_1_3_c j))))), ((t_6_0_q 3), .inl (K 3, 60, .inr (.inl (fun j => lI (t_6_0_3_c j)))))] := hD
    refine g_if_eq (tgt := 17) hx hb (by omega) dX11_paste_11 (by decide) (fun c11 => ?_) (fun c11 => ?_)
    · refine lv_aload_n hx hb dX11_paste_17 rfl (lv_at hl 0 rfl) ?_
      refine va_get (D := D) (own := RX11) (ci := 11) (v := .ref (t_q 6)) (C := RX11) (T := TX11) (N := 13) hx hb hts inb_X11 hown hK.1 hP 0 rfl rfl 6 (by decide) (hts _ wd_428) (fun _ h9 => h9) rfl dX11_paste_18 ?_
      refine lv_iload_n hx hb dX11_paste_21 rfl (lv_at hl 1 rfl) ?_
      refine va_aldq hx hb hK.1 hP 1 6 rfl rfl (iI_in (by decide) (by decide) (by decide)) dX11_paste_22 ?_
      refine fn_topv (.ref (t_6_r 1)) (by rw [iI_cl (by decide)]; exact congrArg va_rf (hr_t_6 1 (by decide))) ?_
      refine lv_astore (lv' := [(6, .ref (t_6_r 1)), (0, .ref t), (1, .int (iI 1)), (2, .int (iI p2)), (3, .int (iI 0)), (4, .int (iI p4)), (5, .int (iI p5))]) hx hb dX11_paste_23 hl (by decide) rfl (fun ls hl => ?_)
      refine lv_aload_n hx hb dX11_paste_25 rfl (lv_at hl 1 rfl) ?_
      refine va_get (D := D) (own := RX11) (ci := 11) (v := .ref (t_q 6)) (C := RX11) (T := TX11) (N := 13) hx hb hts inb_X11 hown hK.1 hP 0 rfl rfl 6 (by decide) (hts _ wd_428) (fun _ h9 => h9) rfl dX11_paste_26 ?_
      refine lv_iload_n hx hb dX11_paste_29 rfl (lv_at hl 4 rfl) ?_
      refine va_aldq hx hb hK.1 hP 1 6 rfl rfl (iI_in (by decide) (by decide) (by decide)) dX11_paste_30 ?_
      refine fn_topv (.ref (t_6_r 0)) (by rw [iI_cl (by decide)]; exact congrArg va_rf (hr_t_6 0 (by decide))) ?_
      refine lv_astore (lv' := [(7, .ref (t_6_r 0)), (6, .ref (t_6_r 1)), (0, .ref t), (1, .int (iI 1)), (2, .int (iI p2)), (3, .int (iI 0)), (4, .int (iI p4)), (5, .int (iI p5))]) hx hb dX11_paste_31 hl (by decide) rfl (fun ls hl => ?_)
      refine lv_aload hx hb dX11_paste_33 (lv_at hl 1 rfl) ?_
      refine va_getN (D := D) (own := RX11) (ci := 4) (v := .int (iI t_6_1_x0)) (C := RX4) (T := TX4) (N := 4) hx hb hts inb_X4 hown hK.1 hP 2 rfl rfl 0 (by decide) (hK.nf 89 rfl) (fun _ h9 => h9) rfl dX11_paste_35 ?_
      have y35_1 : 0 ≤ t_6_1_x0 ∧ t_6_1_x0 ≤ 1 := hi_t_6_1.1
      refine g_if_eq (tgt := 49) hx hb (by omega) dX11_paste_38 (by decide) (fun c38 => ?_) (fun c38 => ?_)
      · refine fn_at 49 rfl ?_
        refine lv_bipush (v := iI (-6)) hx hb dX11_paste_49 (by decide) ?_
        rw [hQ]; exact fn_iret hx hb hr hlocks rfl hP hD hS ((fun _ => 0), (fun k => ([t_6_0_3_c] : List (Nat → Int)).getD k (fun _ => 0))) ⟨(-6), rfl, by omega, (hc_t_6_0_3), trivial⟩ [0, 1, 2, 3, 4, 5] (by decide) rfl dX11_paste_51
      · refine fn_at 41 rfl ?_
        refine lv_aload hx hb dX11_paste_41 (lv_at hl 0 rfl) ?_
        refine va_getN (D := D) (own := RX11) (ci := 4) (v := .int (iI t_6_0_x0)) (C := RX4) (T := TX4) (N := 4) hx hb hts inb_X4 hown hK.1 hP 3 rfl rfl 0 (by decide) (hK.nf 89 rfl) (fun _ h9 => h9) rfl dX11_paste_43 ?_
        have y43_2 : 0 ≤ t_6_0_x0 ∧ t_6_0_x0 ≤ 1 := hi_t_6_0.1
        refine g_if_ne (tgt := 52) hx hb (by omega) dX11_paste_46 (by decide) (fun c46 => ?_) (fun c46 => ?_)
        · refine lv_aload hx hb dX11_paste_52 (lv_at hl 1 rfl) ?_
          refine va_getN (D := D) (own := RX11) (ci := 4) (v := .int (iI t_6_1_x1)) (C := RX4) (T := TX4) (N := 4) hx hb hts inb_X4 hown hK.1 hP 2 rfl rfl 1 (by decide) (hK.nf 90 rfl) (fun _ h9 => h9) rfl dX11_paste_54 ?_
          have y54_3 : 0 ≤ t_6_1_x1 ∧ t_6_1_x1 ≤ 3 := hi_t_6_1.2.1
          refine lv_aload hx hb dX11_paste_57 (lv_at hl 0 rfl) ?_
          refine va_getN (D := D) (own := RX11) (ci := 4) (v := .int (iI t_6_0_x1)) (C := RX4) (T := TX4) (N := 4) hx hb hts inb_X4 hown hK.1 hP 3 rfl rfl 1 (by decide) (hK.nf 90 rfl) (fun _ h9 => h9) rfl dX11_paste_59 ?_
          have y59_4 : 0 ≤ t_6_0_x1 ∧ t_6_0_x1 ≤ 3 := hi_t_6_0.2.1
          refine g_icmp_eq (tgt := 68) hx hb (by omega) (by omega) dX11_paste_62 (by decide) (fun c62 => ?_) (fun c62 => ?_)
          · refine lv_aload hx hb dX11_paste_68 (lv_at hl 1 rfl) ?_
            refine lv_iload_n hx hb dX11_paste_70 rfl (lv_at hl 4 rfl) ?_
            refine lv_iload hx hb dX11_paste_71 (lv_at hl 7 rfl) ?_
            refine fn_goi (wc := [((t_6_r 1), .inr (4, oX4 t_6_1_q t_6_1_x0 t_6_1_x1 t_6_1_x2))]) (wr := [(t, .inr (11, oX11 t_q)), ((t_q 6), .inl (K 6, 4, .inr (.inr (.inr (.inr t_6_c))))), ((t_6_r 0), .inr (4, oX4 t_6_0_q t_6_0_x0 t_6_0_x1 t_6_0_x2)), ((t_6_1_q 3), .inl (K 3, 60, .inr (.inl (fun j => lI (t_6_1_3_c j))))), ((t_6_0_q 3), .inl (K 3, 60, .inr (.inl (fun j => lI (t_6_0_3_c j)))))]) hK hP hD hS hA [2] [0, 1, 3, 4, 5] rfl rfl (by decide) (fun hp => va_runVN (C := RX4) (As := [.int (iI p2), .int (iI p5)]) (rest := []) ⟨hx, hb, hml, hown, hts⟩ (k_X4_spans (l := l) (D := D) (K := K) (t := (t_6_r 1)) (p1 := p2) (p2 := p5) (t_q := t_6_1_q) (t_x0 := t_6_1_x0) (t_x1 := t_6_1_x1) (t_x2 := t_6_1_x2) (hp1 := (by omega)) (hp2 := (by omega)) (hi_t := hi_t_6_1) _) ⟨va_cnB (own := RX11) 2 hts (fn_gin wd_1226) rfl rfl rfl (hK.nw 155 rfl) (hts _ wd_12) (by decide +kernel) ⟨Nat.le_of_ble_eq_true rfl, Nat.le_of_ble_eq_true rfl⟩, hts _ wd_1225, hts _ wp_93⟩ ⟨fn_blind, va_recv hK.1 hP (ci := 4) (q0 := 2) rfl rfl, hp⟩ rfl rfl hl.1 rfl (lv_room (Nat.le_of_ble_eq_true rfl)) dX11_paste_73 ⟨Nat.le_of_ble_eq_true rfl, Nat.le_of_ble_eq_true rfl⟩) (fun r73 u73 H locs hwu73 hP hD hS => ?_)
            obtain ⟨u73a, u73b⟩ := u73
            obtain ⟨kr73, rfl, hkr73, hqu730, -⟩ := hwu73
            have hqu73 : (kr73 = 1 → 0 ≤ p2 ∧ 0 ≤ p5 ∧ p2 + p5 ≤ t_6_1_x2 ∧ p2 + p5 ≤ 60) := hqu730
            clear hqu730
            have hP : va_P D vwCl [(t, .inr (11, oX11 t_q)), ((t_q 6), .inl (K 6, 4, .inr (.inr (.inr (.inr t_6_c))))), ((t_6_r 0), .inr (4, oX4 t_6_0_q t_6_0_x0 t_6_0_x1 t_6_0_x2)), ((t_6_1_q 3), .inl (K 3, 60, .inr (.inl (fun j => lI (t_6_1_3_c j))))), ((t_6_0_q 3), .inl (K 3, 60, .inr (.inl (fun j => lI (t_6_0_3_c j))))), ((t_6_r 1), .inr (4, oX4 t_6_1_q t_6_1_x0 t_6_1_x1 t_6_1_x2))] H := hP
            have hD : va_D A [(t, .inr (11, oX11 t_q)), ((t_q 6), .inl (K 6, 4, .inr (.inr (.inr (.inr t_6_c))))), ((t_6_r 0), .inr (4, oX4 t_6_0_q t_6_0_x0 t_6_0_x1 t_6_0_x2)), ((t_6_1_q 3), .inl (K 3, 60, .inr (.inl (fun j => lI (t_6_1_3_c j))))), ((t_6_0_q 3), .inl (K 3, 60, .inr (.inl (fun j => lI (t_6_0_3_c j))))), ((t_6_r 1), .inr (4, oX4 t_6_1_q t_6_1_x0 t_6_1_x1 t_6_1_x2))] := hD
            refine g_if_eq (tgt := 91) hx hb (by omega) dX11_paste_76 (by decide) (fun c76 => ?_) (fun c76 => ?_)
            · refine lv_bipush (v := iI (-7)) hx hb dX11_paste_91 (by decide) ?_
              rw [hQ]; exact fn_iret hx hb hr hlocks rfl hP hD hS ((fun _ => 0), (fun k => ([t_6_0_3_c] : List (Nat → Int)).getD k (fun _ => 0))) ⟨(-7), rfl, by omega, (hc_t_6_0_3), trivial⟩ [0, 1, 5, 2, 3, 4] (by decide) rfl dX11_paste_93
            · refine lv_aload hx hb dX11_paste_79 (lv_at hl 0 rfl) ?_
              refine lv_iload hx hb dX11_paste_81 (lv_at hl 6 rfl) ?_
              refine lv_iload hx hb dX11_paste_83 (lv_at hl 7 rfl) ?_
              refine fn_goi (wc := [((t_6_r 0), .inr (4, oX4 t_6_0_q t_6_0_x0 t_6_0_x1 t_6_0_x2))]) (wr := [(t, .inr (11, oX11 t_q)), ((t_q 6), .inl (K 6, 4, .inr (.inr (.inr (.inr t_6_c))))), ((t_6_1_q 3), .inl (K 3, 60, .inr (.inl (fun j => lI (t_6_1_3_c j))))), ((t_6_0_q 3), .inl (K 3, 60, .inr (.inl (fun j => lI (t_6_0_3_c j))))), ((t_6_r 1), .inr (4, oX4 t_6_1_q t_6_1_x0 t_6_1_x1 t_6_1_x2))]) hK hP hD hS hA [2] [0, 1, 3, 4, 5] rfl rfl (by decide) (fun hp => va_runVN (C := RX4) (As := [.int (iI p4), .int (iI p5)]) (rest := []) ⟨hx, hb, hml, hown, hts⟩ (k_X4_spans (l := l) (D := D) (K := K) (t := (t_6_r 0)) (p1 := p4) (p2 := p5) (t_q := t_6_0_q) (t_x0 := t_6_0_x0) (t_x1 := t_6_0_x1) (t_x2 := t_6_0_x2) (hp1 := (by omega)) (hp2 := (by omega)) (hi_t := hi_t_6_0) _) ⟨va_cnB (own := RX11) 2 hts (fn_gin wd_1226) rfl rfl rfl (hK.nw 155 rfl) (hts _ wd_12) (by decide +kernel) ⟨Nat.le_of_ble_eq_true rfl, Nat.le_of_ble_eq_true rfl⟩, hts _ wd_1225, hts _ wp_93⟩ ⟨fn_blind, va_recv hK.1 hP (ci := 4) (q0 := 2) rfl rfl, hp⟩ rfl rfl hl.1 rfl (lv_room (Nat.le_of_ble_eq_true rfl)) dX11_paste_85 ⟨Nat.le_of_ble_eq_true rfl, Nat.le_of_ble_eq_true rfl⟩) (fun r85 u85 H locs hwu85 hP hD hS => ?_)
              obtain ⟨u85a, u85b⟩ := u85
              obtain ⟨kr85, rfl, hkr85, hqu850, -⟩ := hwu85
              have hqu85 : (kr85 = 1 → 0 ≤ p4 ∧ 0 ≤ p5 ∧ p4 + p5 ≤ t_6_0_x2 ∧ p4 + p5 ≤ 60) := hqu850
              clear hqu850
              have hP : va_P D vwCl [(t, .inr (11, oX11 t_q)), ((t_q 6), .inl (K 6, 4, .inr (.inr (.inr (.inr t_6_c))))), ((t_6_1_q 3), .inl (K 3, 60, .inr (.inl (fun j => lI (t_6_1_3_c j))))), ((t_6_0_q 3), .inl (K 3, 60, .inr (.inl (fun j => lI (t_6_0_3_c j))))), ((t_6_r 1), .inr (4, oX4 t_6_1_q t_6_1_x0 t_6_1_x1 t_6_1_x2)), ((t_6_r 0), .inr (4, oX4 t_6_0_q t_6_0_x0 t_6_0_x1 t_6_0_x2))] H := hP
              have hD : va_D A [(t, .inr (11, oX11 t_q)), ((t_q 6), .inl (K 6, 4, .inr (.inr (.inr (.inr t_6_c))))), ((t_6_1_q 3), .inl (K 3, 60, .inr (.inl (fun j => lI (t_6_1_3_c j))))), ((t_6_0_q 3), .inl (K 3, 60, .inr (.inl (fun j => lI (t_6_0_3_c j))))), ((t_6_r 1), .inr (4, oX4 t_6_1_q t_6_1_x0 t_6_1_x1 t_6_1_x2)), ((t_6_r 0), .inr (4, oX4 t_6_0_q t_6_0_x0 t_6_0_x1 t_6_0_x2))] := hD
              refine g_if_ne (tgt := 94) hx hb (by omega) dX11_paste_88 (by decide) (fun c88 => ?_) (fun c88 => ?_)
              · refine lv_aload hx hb dX11_paste_94 (lv_at hl 1 rfl) ?_
                refine va_getN (D := D) (own := RX11) (ci := 4) (v := .ref (t_6_1_q 3)) (C := RX4) (T := TX4) (N := 4) hx hb hts inb_X4 hown hK.1 hP 4 rfl rfl 3 (by decide) (hK.nf 92 rfl) (fun _ h9 => h9) rfl dX11_paste_96 ?_
                refine fn_at 99 rfl ?_
                refine lv_iload_n hx hb dX11_paste_99 rfl (lv_at hl 4 rfl) ?_
                refine lv_aload hx hb dX11_paste_100 (lv_at hl 0 rfl) ?_
                refine va_getN (D := D) (own := RX11) (ci := 4) (v := .ref (t_6_0_q 3)) (C := RX4) (T := TX4) (N := 4) hx hb hts inb_X4 hown hK.1 hP 5 rfl rfl 3 (by decide) (hK.nf 92 rfl) (fun _ h9 => h9) rfl dX11_paste_102 ?_
                refine lv_iload hx hb dX11_paste_105 (lv_at hl 6 rfl) ?_
                refine lv_iload hx hb dX11_paste_107 (lv_at hl 7 rfl) ?_
                refine g_cpyl (own := RX11) hx hb (hml.trans hl.1.symm) hown (hts _ wd_1227) (hts _ wd_622) (hts _ wd_621) (hts _ wd_19) hK.1 hP hD hS 2 3 3 3 rfl rfl rfl rfl (by omega) (by omega) (by omega) (Nat.le_of_ble_eq_true rfl) (Nat.le_of_ble_eq_true rfl) dX11_paste_109 (fun H locs g109 eg109 hP hD hS => ?_)
                have hg109 : ∀ j : Nat, (-9223372036854775808) ≤ g109 j ∧ g109 j ≤ 9223372036854775807 := by rw [eg109]; exact cI_all hc_t_6_1_3 hc_t_6_0_3
                have hP : va_P D vwCl [(t, .inr (11, oX11 t_q)), ((t_q 6), .inl (K 6, 4, .inr (.inr (.inr (.inr t_6_c))))), ((t_6_1_q 3), .inl (K 3, 60, .inr (.inl (fun j => lI (t_6_1_3_c j))))), ((t_6_0_q 3), .inl (K 3, 60, .inr (.inl (fun j => lI (g109 j))))), ((t_6_r 1), .inr (4, oX4 t_6_1_q t_6_1_x0 t_6_1_x1 t_6_1_x2)), ((t_6_r 0), .inr (4, oX4 t_6_0_q t_6_0_x0 t_6_0_x1 t_6_0_x2))] H := hP
                have hD : va_D A [(t, .inr (11, oX11 t_q)), ((t_q 6), .inl (K 6, 4, .inr (.inr (.inr (.inr t_6_c))))), ((t_6_1_q 3), .inl (K 3, 60, .inr (.inl (fun j => lI (t_6_1_3_c j))))), ((t_6_0_q 3), .inl (K 3, 60, .inr (.inl (fun j => lI (g109 j))))), ((t_6_r 1), .inr (4, oX4 t_6_1_q t_6_1_x0 t_6_1_x1 t_6_1_x2)), ((t_6_r 0), .inr (4, oX4 t_6_0_q t_6_0_x0 t_6_0_x1 t_6_0_x2))] := hD
                refine lv_iconst (v := iI 0) hx hb dX11_paste_112 rfl ?_
                rw [hQ]; exact fn_iret hx hb hr hlocks rfl hP hD hS ((fun _ => 0), (fun k => ([g109] : List (Nat → Int)).getD k (fun _ => 0))) ⟨0, rfl, by omega, (hg109), trivial⟩ [0, 1, 4, 5, 2, 3] (by decide) rfl dX11_paste_113
              · refine lv_bipush (v := iI (-7)) hx hb dX11_paste_91 (by decide) ?_
                rw [hQ]; exact fn_iret hx hb hr hlocks rfl hP hD hS ((fun _ => 0), (fun k => ([t_6_0_3_c] : List (Nat → Int)).getD k (fun _ => 0))) ⟨(-7), rfl, by omega, (hc_t_6_0_3), trivial⟩ [0, 1, 4, 5, 2, 3] (by decide) rfl dX11_paste_93
          · refine lv_bipush (v := iI (-8)) hx hb dX11_paste_65 (by decide) ?_
            rw [hQ]; exact fn_iret hx hb hr hlocks rfl hP hD hS ((fun _ => 0), (fun k => ([t_6_0_3_c] : List (Nat → Int)).getD k (fun _ => 0))) ⟨(-8), rfl, by omega, (hc_t_6_0_3), trivial⟩ [0, 1, 2, 3, 4, 5] (by decide) rfl dX11_paste_67
        · refine lv_bipush (v := iI (-6)) hx hb dX11_paste_49 (by decide) ?_
          rw [hQ]; exact fn_iret hx hb hr hlocks rfl hP hD hS ((fun _ => 0), (fun k => ([t_6_0_3_c] : List (Nat → Int)).getD k (fun _ => 0))) ⟨(-6), rfl, by omega, (hc_t_6_0_3), trivial⟩ [0, 1, 2, 3, 4, 5] (by decide) rfl dX11_paste_51
    · refine lv_bipush (v := iI (-2)) hx hb dX11_paste_14 (by decide) ?_
      rw [hQ]; exact fn_iret hx hb hr hlocks rfl hP hD hS ((fun _ => 0), (fun k => ([t_6_0_3_c] : List (Nat → Int)).getD k (fun _ => 0))) ⟨(-2), rfl, by omega, (hc_t_6_0_3), trivial⟩ [0, 1, 2, 3, 4, 5] (by decide) rfl dX11_paste_16
set_option maxHeartbeats 4000000 in
set_option maxRecDepth 100000 in
theorem k_X11_paste_11 (l : Launch) (D : va_G) (K : Nat → ClassId) (t : Nat) (t_q t_6_r t_6_1_q : Nat → Nat) (p2 p4 p5 t_6_1_x0 t_6_1_x1 t_6_1_x2 : Int) (t_6_c : Nat → Option Nat) (t_6_1_3_c : Nat → Int) (hp2 : (-2147483648) ≤ p2 ∧ p2 ≤ 2147483647) (hp4 : (-2147483648) ≤ p4 ∧ p4 ≤ 2147483647) (hp5 : (-2147483648) ≤ p5 ∧ p5 ≤ 2147483647) (hr_t_6 : ∀ j : Nat, j < 4 → t_6_c j = some (t_6_r j)) (hi_t_6_1 : bX4 t_6_1_x0 t_6_1_x1 t_6_1_x2) (hc_t_6_1_3 : ∀ j : Nat, (-9223372036854775808) ≤ t_6_1_3_c j ∧ t_6_1_3_c j ≤ 9223372036854775807) : fn_CI (S := (Nat → Int) × (Nat → Nat → Int)) l D K yX11_paste (fn_ws yX11_paste cX11_paste 8 (some .int)) ({ frames := 8, cells := 0, slots := 0, locals := 200 } : Room) [.ref t, .int (iI 1), .int (iI p2), .int (iI 1), .int (iI p4), .int (iI p5)] [(t, .inr (11, oX11 t_q)), ((t_q 6), .inl (K 6, 4, .inr (.inr (.inr (.inr t_6_c))))), ((t_6_r 1), .inr (4, oX4 t_6_1_q t_6_1_x0 t_6_1_x1 t_6_1_x2)), ((t_6_1_q 3), .inl (K 3, 60, .inr (.inl (fun j => lI (t_6_1_3_c j)))))] (fun r u => ∃ k : Int, r = iI k ∧ ((-8) ≤ k ∧ k ≤ 0) ∧ (∀ j : Nat, (-9223372036854775808) ≤ (u.2 0) j ∧ (u.2 0) j ≤ 9223372036854775807) ∧ True) (fun u => [(t, .inr (11, oX11 t_q)), ((t_q 6), .inl (K 6, 4, .inr (.inr (.inr (.inr t_6_c))))), ((t_6_r 1), .inr (4, oX4 t_6_1_q t_6_1_x0 t_6_1_x1 t_6_1_x2)), ((t_6_1_q 3), .inl (K 3, 60, .inr (.inl (fun j => lI ((u.2 0) j)))))]) 0 0 := by
  refine g_inI (cc := cX11_paste) (maxL := 8) (ret := (some .int)) (by decide) rfl (Nat.le_of_ble_eq_true rfl) ?_
  intro p e s m below meth c A ls ag Q B hA hP hD hS hl hQ
  obtain ⟨hx, hb, hr, hml, hts, hown, hlocks, hin, hK⟩ := B
  have hown : s.vm.findClass RX11 = some m.cls := hown
  have hts := fun w h => hts w (List.mem_cons_of_mem _ h)
  have hl : lv_has ls 8 [(0, .ref t), (1, .int (iI 1)), (2, .int (iI p2)), (3, .int (iI 1)), (4, .int (iI p4)), (5, .int (iI p5))] := hl
  refine lv_iload_n hx hb dX11_paste_0 rfl (lv_at hl 1 rfl) ?_
  refine fn_goi (wc := []) (wr := [(t, .inr (11, oX11 t_q)), ((t_q 6), .inl (K 6, 4, .inr (.inr (.inr (.inr t_6_c))))), ((t_6_r 1), .inr (4, oX4 t_6_1_q t_6_1_x0 t_6_1_x1 t_6_1_x2)), ((t_6_1_q 3), .inl (K 3, 60, .inr (.inl (fun j => lI (t_6_1_3_c j)))))]) hK hP hD hS hA [] [0, 1, 2, 3] rfl rfl (by decide) (fun hp => va_runS (As := [.int (iI 1)]) (rest := []) ⟨hx, hb, hml, hown, hts⟩ (k_X11_noSlot (l := l) (D := D) (K := K) (p1 := 1) (hp1 := (by omega)) _) (va_cwS 1 hts (fn_ginS (fn_gin wd_963) wd_961 wd_962 wd_1) rfl rfl rfl (by decide +kernel) ⟨Nat.le_of_ble_eq_true rfl, Nat.le_of_ble_eq_true rfl⟩) ⟨fn_blind, hp⟩ rfl rfl hl.1 rfl (lv_room (Nat.le_of_ble_eq_true rfl)) dX11_paste_1 ⟨Nat.le_of_ble_eq_true rfl, Nat.le_of_ble_eq_true rfl⟩) (fun r1 u1 H locs hwu1 hP hD hS => ?_)
  obtain ⟨u1a, u1b⟩ := u1
  obtain ⟨kr1, rfl, hkr1, hqu10, -⟩ := hwu1
  have hqu1 : (kr1 = 0 → 0 ≤ (1 : Int) ∧ (1 : Int) ≤ 3) ∧ (kr1 = 1 → (1 : Int) < 0 ∨ 3 < (1 : Int)) := hqu10
  clear hqu10
  have hP : va_P D vwCl [(t, .inr (11, oX11 t_q)), ((t_q 6), .inl (K 6, 4, .inr (.inr (.inr (.inr t_6_c))))), ((t_6_r 1), .inr (4, oX4 t_6_1_q t_6_1_x0 t_6_1_x1 t_6_1_x2)), ((t_6_1_q 3), .inl (K 3, 60, .inr (.inl (fun j => lI (t_6_1_3_c j)))))] H := hP
  have hD : va_D A [(t, .inr (11, oX11 t_q)), ((t_q 6), .inl (K 6, 4, .inr (.inr (.inr (.inr t_6_c))))), ((t_6_r 1), .inr (4, oX4 t_6_1_q t_6_1_x0 t_6_1_x1 t_6_1_x2)), ((t_6_1_q 3), .inl (K 3, 60, .inr (.inl (fun j => lI (t_6_1_3_c j)))))] := hD
  refine g_if_ne (tgt := 14) hx hb (by omega) dX11_paste_4 (by decide) (fun c4 => ?_) (fun c4 => ?_)
  · refine lv_bipush (v := iI (-2)) hx hb dX11_paste_14 (by decide) ?_
    rw [hQ]; exact fn_iret hx hb hr hlocks rfl hP hD hS ((fun _ => 0), (fun k => ([t_6_1_3_c] : List (Nat → Int)).getD k (fun _ => 0))) ⟨(-2), rfl, by omega, (hc_t_6_1_3), trivial⟩ [0, 1, 2, 3] (by decide) rfl dX11_paste_16
  · refine lv_iload_n hx hb dX11_paste_7 rfl (lv_at hl 3 rfl) ?_
    refine fn_goi (wc := []) (wr := [(t, .inr (11, oX11 t_q)), ((t_q 6), .inl (K 6, 4, .inr (.inr (.inr (.inr t_6_c))))), ((t_6_r 1), .inr (4, oX4 t_6_1_q t_6_1_x0 t_6_1_x1 t_6_1_x2)), ((t_6_1_q 3), .inl (K 3, 60, .inr (.inl (fun j => lI (t_6_1_3_c j)))))]) hK hP hD hS hA [] [0, 1, 2, 3] rfl rfl (by decide) (fun hp => va_runS (As := [.int (iI 1)]) (rest := []) ⟨hx, hb, hml, hown, hts⟩ (k_X11_noSlot (l := l) (D := D) (K := K) (p1 := 1) (hp1 := (by omega)) _) (va_cwS 1 hts (fn_ginS (fn_gin wd_963) wd_961 wd_962 wd_1) rfl rfl rfl (by decide +kernel) ⟨Nat.le_of_ble_eq_true rfl, Nat.le_of_ble_eq_true rfl⟩) ⟨fn_blind, hp⟩ rfl rfl hl.1 rfl (lv_room (Nat.le_of_ble_eq_true rfl)) dX11_paste_8 ⟨Nat.le_of_ble_eq_true rfl, Nat.le_of_ble_eq_true rfl⟩) (fun r8 u8 H locs hwu8 hP hD hS => ?_)
    obtain ⟨u8a, u8b⟩ := u8
    obtain ⟨kr8, rfl, hkr8, hqu80, -⟩ := hwu8
    have hqu8 : (kr8 = 0 → 0 ≤ (1 : Int) ∧ (1 : Int) ≤ 3) ∧ (kr8 = 1 → (1 : Int) < 0 ∨ 3 < (1 : Int)) := hqu80
    clear hqu80
    have hP : va_P D vwCl [(t, .inr (11, oX11 t_q)), ((t_q 6), .inl (K 6, 4, .inr (.inr (.inr (.inr t_6_c))))), ((t_6_r 1), .inr (4, oX4 t_6_1_q t_6_1_x0 t_6_1_x1 t_6_1_x2)), ((t_6_1_q 3), .inl (K 3, 60, .inr (.inl (fun j => lI (t_6_1_3_c j)))))] H := hP
    have hD : va_D A [(t, .inr (11, oX11 t_q)), ((t_q 6), .inl (K 6, 4, .inr (.inr (.inr (.inr t_6_c))))), ((t_6_r 1), .inr (4, oX4 t_6_1_q t_6_1_x0 t_6_1_x1 t_6_1_x2)), ((t_6_1_q 3), .inl (K 3, 60, .inr (.inl (fun j => lI (t_6_1_3_c j)))))] := hD
    refine g_if_eq (tgt := 17) hx hb (by omega) dX11_paste_11 (by decide) (fun c11 => ?_) (fun c11 => ?_)
    · refine lv_aload_n hx hb dX11_paste_17 rfl (lv_at hl 0 rfl) ?_
      refine va_get (D := D) (own := RX11) (ci := 11) (v := .ref (t_q 6)) (C := RX11) (T := TX11) (N := 13) hx hb hts inb_X11 hown hK.1 hP 0 rfl rfl 6 (by decide) (hts _ wd_428) (fun _ h9 => h9) rfl dX11_paste_18 ?_
      refine lv_iload_n hx hb dX11_paste_21 rfl (lv_at hl 1 rfl) ?_
      refine va_aldq hx hb hK.1 hP 1 6 rfl rfl (iI_in (by decide) (by decide) (by decide)) dX11_paste_22 ?_
      refine fn_topv (.ref (t_6_r 1)) (by rw [iI_cl (by decide)]; exact congrArg va_rf (hr_t_6 1 (by decide))) ?_
      refine lv_astore (lv' := [(6, .ref (t_6_r 1)), (0, .ref t), (1, .int (iI 1)), (2, .int (iI p2)), (3, .int (iI 1)), (4, .int (iI p4)), (5, .int (iI p5))]) hx hb dX11_paste_23 hl (by decide) rfl (fun ls hl => ?_)
      refine lv_aload_n hx hb dX11_paste_25 rfl (lv_at hl 1 rfl) ?_
      refine va_get (D := D) (own := RX11) (ci := 11) (v := .ref (t_q 6)) (C := RX11) (T := TX11) (N := 13) hx hb hts inb_X11 hown hK.1 hP 0 rfl rfl 6 (by decide) (hts _ wd_428) (fun _ h9 => h9) rfl dX11_paste_26 ?_
      refine lv_iload_n hx hb dX11_paste_29 rfl (lv_at hl 4 rfl) ?_
      refine va_aldq hx hb hK.1 hP 1 6 rfl rfl (iI_in (by decide) (by decide) (by decide)) dX11_paste_30 ?_
      refine fn_topv (.ref (t_6_r 1)) (by rw [iI_cl (by decide)]; exact congrArg va_rf (hr_t_6 1 (by decide))) ?_
      refine lv_astore (lv' := [(7, .ref (t_6_r 1)), (6, .ref (t_6_r 1)), (0, .ref t), (1, .int (iI 1)), (2, .int (iI p2)), (3, .int (iI 1)), (4, .int (iI p4)), (5, .int (iI p5))]) hx hb dX11_paste_31 hl (by decide) rfl (fun ls hl => ?_)
      refine lv_aload hx hb dX11_paste_33 (lv_at hl 1 rfl) ?_
      refine va_getN (D := D) (own := RX11) (ci := 4) (v := .int (iI t_6_1_x0)) (C := RX4) (T := TX4) (N := 4) hx hb hts inb_X4 hown hK.1 hP 2 rfl rfl 0 (by decide) (hK.nf 89 rfl) (fun _ h9 => h9) rfl dX11_paste_35 ?_
      have y35_1 : 0 ≤ t_6_1_x0 ∧ t_6_1_x0 ≤ 1 := hi_t_6_1.1
      refine g_if_eq (tgt := 49) hx hb (by omega) dX11_paste_38 (by decide) (fun c38 => ?_) (fun c38 => ?_)
      · refine fn_at 49 rfl ?_
        refine lv_bipush (v := iI (-6)) hx hb dX11_paste_49 (by decide) ?_
        rw [hQ]; exact fn_iret hx hb hr hlocks rfl hP hD hS ((fun _ => 0), (fun k => ([t_6_1_3_c] : List (Nat → Int)).getD k (fun _ => 0))) ⟨(-6), rfl, by omega, (hc_t_6_1_3), trivial⟩ [0, 1, 2, 3] (by decide) rfl dX11_paste_51
      · refine fn_at 41 rfl ?_
        refine lv_aload hx hb dX11_paste_41 (lv_at hl 0 rfl) ?_
        refine va_getN (D := D) (own := RX11) (ci := 4) (v := .int (iI t_6_1_x0)) (C := RX4) (T := TX4) (N := 4) hx hb hts inb_X4 hown hK.1 hP 2 rfl rfl 0 (by decide) (hK.nf 89 rfl) (fun _ h9 => h9) rfl dX11_paste_43 ?_
        refine g_if_ne (tgt := 52) hx hb (by omega) dX11_paste_46 (by decide) (fun c46 => ?_) (fun c46 => ?_)
        · refine lv_aload hx hb dX11_paste_52 (lv_at hl 1 rfl) ?_
          refine va_getN (D := D) (own := RX11) (ci := 4) (v := .int (iI t_6_1_x1)) (C := RX4) (T := TX4) (N := 4) hx hb hts inb_X4 hown hK.1 hP 2 rfl rfl 1 (by decide) (hK.nf 90 rfl) (fun _ h9 => h9) rfl dX11_paste_54 ?_
          have y54_2 : 0 ≤ t_6_1_x1 ∧ t_6_1_x1 ≤ 3 := hi_t_6_1.2.1
          refine lv_aload hx hb dX11_paste_57 (lv_at hl 0 rfl) ?_
          refine va_getN (D := D) (own := RX11) (ci := 4) (v := .int (iI t_6_1_x1)) (C := RX4) (T := TX4) (N := 4) hx hb hts inb_X4 hown hK.1 hP 2 rfl rfl 1 (by decide) (hK.nf 90 rfl) (fun _ h9 => h9) rfl dX11_paste_59 ?_
          refine g_icmp_eq (tgt := 68) hx hb (by omega) (by omega) dX11_paste_62 (by decide) (fun c62 => ?_) (fun c62 => ?_)
          · refine lv_aload hx hb dX11_paste_68 (lv_at hl 1 rfl) ?_
            refine lv_iload_n hx hb dX11_paste_70 rfl (lv_at hl 4 rfl) ?_
            refine lv_iload hx hb dX11_paste_71 (lv_at hl 7 rfl) ?_
            refine fn_goi (wc := [((t_6_r 1), .inr (4, oX4 t_6_1_q t_6_1_x0 t_6_1_x1 t_6_1_x2))]) (wr := [(t, .inr (11, oX11 t_q)), ((t_q 6), .inl (K 6, 4, .inr (.inr (.inr (.inr t_6_c))))), ((t_6_1_q 3), .inl (K 3, 60, .inr (.inl (fun j => lI (t_6_1_3_c j)))))]) hK hP hD hS hA [2] [0, 1, 3] rfl rfl (by decide) (fun hp => va_runVN (C := RX4) (As := [.int (iI p2), .int (iI p5)]) (rest := []) ⟨hx, hb, hml, hown, hts⟩ (k_X4_spans (l := l) (D := D) (K := K) (t := (t_6_r 1)) (p1 := p2) (p2 := p5) (t_q := t_6_1_q) (t_x0 := t_6_1_x0) (t_x1 := t_6_1_x1) (t_x2 := t_6_1_x2) (hp1 := (by omega)) (hp2 := (by omega)) (hi_t := hi_t_6_1) _) ⟨va_cnB (own := RX11) 2 hts (fn_gin wd_1226) rfl rfl rfl (hK.nw 155 rfl) (hts _ wd_12) (by decide +kernel) ⟨Nat.le_of_ble_eq_true rfl, Nat.le_of_ble_eq_true rfl⟩, hts _ wd_1225, hts _ wp_93⟩ ⟨fn_blind, va_recv hK.1 hP (ci := 4) (q0 := 2) rfl rfl, hp⟩ rfl rfl hl.1 rfl (lv_room (Nat.le_of_ble_eq_true rfl)) dX11_paste_73 ⟨Nat.le_of_ble_eq_true rfl, Nat.le_of_ble_eq_true rfl⟩) (fun r73 u73 H locs hwu73 hP hD hS => ?_)
            obtain ⟨u73a, u73b⟩ := u73
            obtain ⟨kr73, rfl, hkr73, hqu730, -⟩ := hwu73
            have hqu73 : (kr73 = 1 → 0 ≤ p2 ∧ 0 ≤ p5 ∧ p2 + p5 ≤ t_6_1_x2 ∧ p2 + p5 ≤ 60) := hqu730
            clear hqu730
            have hP : va_P D vwCl [(t, .inr (11, oX11 t_q)), ((t_q 6), .inl (K 6, 4, .inr (.inr (.inr (.inr t_6_c))))), ((t_6_1_q 3), .inl (K 3, 60, .inr (.inl (fun j => lI (t_6_1_3_c j))))), ((t_6_r 1), .inr (4, oX4 t_6_1_q t_6_1_x0 t_6_1_x1 t_6_1_x2))] H := hP
            have hD : va_D A [(t, .inr (11, oX11 t_q)), ((t_q 6), .inl (K 6, 4, .inr (.inr (.inr (.inr t_6_c))))), ((t_6_1_q 3), .inl (K 3, 60, .inr (.inl (fun j => lI (t_6_1_3_c j))))), ((t_6_r 1), .inr (4, oX4 t_6_1_q t_6_1_x0 t_6_1_x1 t_6_1_x2))] := hD
            refine g_if_eq (tgt := 91) hx hb (by omega) dX11_paste_76 (by decide) (fun c76 => ?_) (fun c76 => ?_)
            · refine lv_bipush (v := iI (-7)) hx hb dX11_paste_91 (by decide) ?_
              rw [hQ]; exact fn_iret hx hb hr hlocks rfl hP hD hS ((fun _ => 0), (fun k => ([t_6_1_3_c] : List (Nat → Int)).getD k (fun _ => 0))) ⟨(-7), rfl, by omega, (hc_t_6_1_3), trivial⟩ [0, 1, 3, 2] (by decide) rfl dX11_paste_93
            · refine lv_aload hx hb dX11_paste_79 (lv_at hl 0 rfl) ?_
              refine lv_iload hx hb dX11_paste_81 (lv_at hl 6 rfl) ?_
              refine lv_iload hx hb dX11_paste_83 (lv_at hl 7 rfl) ?_
              refine fn_goi (wc := [((t_6_r 1), .inr (4, oX4 t_6_1_q t_6_1_x0 t_6_1_x1 t_6_1_x2))]) (wr := [(t, .inr (11, oX11 t_q)), ((t_q 6), .inl (K 6, 4, .inr (.inr (.inr (.inr t_6_c))))), ((t_6_1_q 3), .inl (K 3, 60, .inr (.inl (fun j => lI (t_6_1_3_c j)))))]) hK hP hD hS hA [3] [0, 1, 2] rfl rfl (by decide) (fun hp => va_runVN (C := RX4) (As := [.int (iI p4), .int (iI p5)]) (rest := []) ⟨hx, hb, hml, hown, hts⟩ (k_X4_spans (l := l) (D := D) (K := K) (t := (t_6_r 1)) (p1 := p4) (p2 := p5) (t_q := t_6_1_q) (t_x0 := t_6_1_x0) (t_x1 := t_6_1_x1) (t_x2 := t_6_1_x2) (hp1 := (by omega)) (hp2 := (by omega)) (hi_t := hi_t_6_1) _) ⟨va_cnB (own := RX11) 2 hts (fn_gin wd_1226) rfl rfl rfl (hK.nw 155 rfl) (hts _ wd_12) (by decide +kernel) ⟨Nat.le_of_ble_eq_true rfl, Nat.le_of_ble_eq_true rfl⟩, hts _ wd_1225, hts _ wp_93⟩ ⟨fn_blind, va_recv hK.1 hP (ci := 4) (q0 := 3) rfl rfl, hp⟩ rfl rfl hl.1 rfl (lv_room (Nat.le_of_ble_eq_true rfl)) dX11_paste_85 ⟨Nat.le_of_ble_eq_true rfl, Nat.le_of_ble_eq_true rfl⟩) (fun r85 u85 H locs hwu85 hP hD hS => ?_)
              obtain ⟨u85a, u85b⟩ := u85
              obtain ⟨kr85, rfl, hkr85, hqu850, -⟩ := hwu85
              have hqu85 : (kr85 = 1 → 0 ≤ p4 ∧ 0 ≤ p5 ∧ p4 + p5 ≤ t_6_1_x2 ∧ p4 + p5 ≤ 60) := hqu850
              clear hqu850
              have hP : va_P D vwCl [(t, .inr (11, oX11 t_q)), ((t_q 6), .inl (K 6, 4, .inr (.inr (.inr (.inr t_6_c))))), ((t_6_1_q 3), .inl (K 3, 60, .inr (.inl (fun j => lI (t_6_1_3_c j))))), ((t_6_r 1), .inr (4, oX4 t_6_1_q t_6_1_x0 t_6_1_x1 t_6_1_x2))] H := hP
              have hD : va_D A [(t, .inr (11, oX11 t_q)), ((t_q 6), .inl (K 6, 4, .inr (.inr (.inr (.inr t_6_c))))), ((t_6_1_q 3), .inl (K 3, 60, .inr (.inl (fun j => lI (t_6_1_3_c j))))), ((t_6_r 1), .inr (4, oX4 t_6_1_q t_6_1_x0 t_6_1_x1 t_6_1_x2))] := hD
              refine g_if_ne (tgt := 94) hx hb (by omega) dX11_paste_88 (by decide) (fun c88 => ?_) (fun c88 => ?_)
              · refine lv_aload hx hb dX11_paste_94 (lv_at hl 1 rfl) ?_
                refine va_getN (D := D) (own := RX11) (ci := 4) (v := .ref (t_6_1_q 3)) (C := RX4) (T := TX4) (N := 4) hx hb hts inb_X4 hown hK.1 hP 3 rfl rfl 3 (by decide) (hK.nf 92 rfl) (fun _ h9 => h9) rfl dX11_paste_96 ?_
                refine fn_at 99 rfl ?_
                refine lv_iload_n hx hb dX11_paste_99 rfl (lv_at hl 4 rfl) ?_
                refine lv_aload hx hb dX11_paste_100 (lv_at hl 0 rfl) ?_
                refine va_getN (D := D) (own := RX11) (ci := 4) (v := .ref (t_6_1_q 3)) (C := RX4) (T := TX4) (N := 4) hx hb hts inb_X4 hown hK.1 hP 3 rfl rfl 3 (by decide) (hK.nf 92 rfl) (fun _ h9 => h9) rfl dX11_paste_102 ?_
                refine lv_iload hx hb dX11_paste_105 (lv_at hl 6 rfl) ?_
                refine lv_iload hx hb dX11_paste_107 (lv_at hl 7 rfl) ?_
                refine g_cpyl (own := RX11) hx hb (hml.trans hl.1.symm) hown (hts _ wd_1227) (hts _ wd_622) (hts _ wd_621) (hts _ wd_19) hK.1 hP hD hS 2 2 3 3 rfl rfl rfl rfl (by omega) (by omega) (by omega) (Nat.le_of_ble_eq_true rfl) (Nat.le_of_ble_eq_true rfl) dX11_paste_109 (fun H locs g109 eg109 hP hD hS => ?_)
                have hg109 : ∀ j : Nat, (-9223372036854775808) ≤ g109 j ∧ g109 j ≤ 9223372036854775807 := by rw [eg109]; exact cI_all hc_t_6_1_3 hc_t_6_1_3
                have hP : va_P D vwCl [(t, .inr (11, oX11 t_q)), ((t_q 6), .inl (K 6, 4, .inr (.inr (.inr (.inr t_6_c))))), ((t_6_1_q 3), .inl (K 3, 60, .inr (.inl (fun j => lI (g109 j))))), ((t_6_r 1), .inr (4, oX4 t_6_1_q t_6_1_x0 t_6_1_x1 t_6_1_x2))] H := hP
                have hD : va_D A [(t, .inr (11, oX11 t_q)), ((t_q 6), .inl (K 6, 4, .inr (.inr (.inr (.inr t_6_c))))), ((t_6_1_q 3), .inl (K 3, 60, .inr (.inl (fun j => lI (g109 j))))), ((t_6_r 1), .inr (4, oX4 t_6_1_q t_6_1_x0 t_6_1_x1 t_6_1_x2))] := hD
                refine lv_iconst (v := iI 0) hx hb dX11_paste_112 rfl ?_
                rw [hQ]; exact fn_iret hx hb hr hlocks rfl hP hD hS ((fun _ => 0), (fun k => ([g109] : List (Nat → Int)).getD k (fun _ => 0))) ⟨0, rfl, by omega, (hg109), trivial⟩ [0, 1, 3, 2] (by decide) rfl dX11_paste_113
              · refine lv_bipush (v := iI (-7)) hx hb dX11_paste_91 (by decide) ?_
                rw [hQ]; exact fn_iret hx hb hr hlocks rfl hP hD hS ((fun _ => 0), (fun k => ([t_6_1_3_c] : List (Nat → Int)).getD k (fun _ => 0))) ⟨(-7), rfl, by omega, (hc_t_6_1_3), trivial⟩ [0, 1, 3, 2] (by decide) rfl dX11_paste_93
          · refine lv_bipush (v := iI (-8)) hx hb dX11_paste_65 (by decide) ?_
            rw [hQ]; exact fn_iret hx hb hr hlocks rfl hP hD hS ((fun _ => 0), (fun k => ([t_6_1_3_c] : List (Nat → Int)).getD k (fun _ => 0))) ⟨(-8), rfl, by omega, (hc_t_6_1_3), trivial⟩ [0, 1, 2, 3] (by decide) rfl dX11_paste_67
        · exfalso; omega
    · refine lv_bipush (v := iI (-2)) hx hb dX11_paste_14 (by decide) ?_
      rw [hQ]; exact fn_iret hx hb hr hlocks rfl hP hD hS ((fun _ => 0), (fun k => ([t_6_1_3_c] : List (Nat → Int)).getD k (fun _ => 0))) ⟨(-2), rfl, by omega, (hc_t_6_1_3), trivial⟩ [0, 1, 2, 3] (by decide) rfl dX11_paste_16
set_option maxHeartbeats 4000000 in
set_option maxRecDepth 100000 in
theorem k_X11_paste_12 (l : Launch) (D : va_G) (K : Nat → ClassId) (t : Nat) (t_q t_6_r t_6_1_q t_6_2_q : Nat → Nat) (p2 p4 p5 t_6_1_x0 t_6_1_x1 t_6_1_x2 t_6_2_x0 t_6_2_x1 t_6_2_x2 : Int) (t_6_c : Nat → Option Nat) (t_6_1_3_c : Nat → Int) (t_6_2_3_c : Nat → Int) (hp2 : (-2147483648) ≤ p2 ∧ p2 ≤ 2147483647) (hp4 : (-2147483648) ≤ p4 ∧ p4 ≤ 2147483647) (hp5 : (-2147483648) ≤ p5 ∧ p5 ≤ 2147483647) (hr_t_6 : ∀ j : Nat, j < 4 → t_6_c j = some (t_6_r j)) (hi_t_6_1 : bX4 t_6_1_x0 t_6_1_x1 t_6_1_x2) (hi_t_6_2 : bX4 t_6_2_x0 t_6_2_x1 t_6_2_x2) (hc_t_6_1_3 : ∀ j : Nat, (-9223372036854775808) ≤ t_6_1_3_c j ∧ t_6_1_3_c j ≤ 9223372036854775807) (hc_t_6_2_3 : ∀ j : Nat, (-9223372036854775808) ≤ t_6_2_3_c j ∧ t_6_2_3_c j ≤ 9223372036854775807) : fn_CI (S := (Nat → Int) × (Nat → Nat → Int)) l D K yX11_paste (fn_ws yX11_paste cX11_paste 8 (some .int)) ({ frames := 8, cells := 0, slots := 0, locals := 200 } : Room) [.ref t, .int (iI 1), .int (iI p2), .int (iI 2), .int (iI p4), .int (iI p5)] [(t, .inr (11, oX11 t_q)), ((t_q 6), .inl (K 6, 4, .inr (.inr (.inr (.inr t_6_c))))), ((t_6_r 1), .inr (4, oX4 t_6_1_q t_6_1_x0 t_6_1_x1 t_6_1_x2)), ((t_6_r 2), .inr (4, oX4 t_6_2_q t_6_2_x0 t_6_2_x1 t_6_2_x2)), ((t_6_1_q 3), .inl (K 3, 60, .inr (.inl (fun j => lI (t_6_1_3_c j))))), ((t_6_2_q 3), .inl (K 3, 60, .inr (.inl (fun j => lI (t_6_2_3_c j)))))] (fun r u => ∃ k : Int, r = iI k ∧ ((-8) ≤ k ∧ k ≤ 0) ∧ (∀ j : Nat, (-9223372036854775808) ≤ (u.2 0) j ∧ (u.2 0) j ≤ 9223372036854775807) ∧ True) (fun u => [(t, .inr (11, oX11 t_q)), ((t_q 6), .inl (K 6, 4, .inr (.inr (.inr (.inr t_6_c))))), ((t_6_r 1), .inr (4, oX4 t_6_1_q t_6_1_x0 t_6_1_x1 t_6_1_x2)), ((t_6_r 2), .inr (4, oX4 t_6_2_q t_6_2_x0 t_6_2_x1 t_6_2_x2)), ((t_6_1_q 3), .inl (K 3, 60, .inr (.inl (fun j => lI (t_6_1_3_c j))))), ((t_6_2_q 3), .inl (K 3, 60, .inr (.inl (fun j => lI ((u.2 0) j)))))]) 0 0 := by
  refine g_inI (cc := cX11_paste) (maxL := 8) (ret := (some .int)) (by decide) rfl (Nat.le_of_ble_eq_true rfl) ?_
  intro p e s m below meth c A ls ag Q B hA hP hD hS hl hQ
  obtain ⟨hx, hb, hr, hml, hts, hown, hlocks, hin, hK⟩ := B
  have hown : s.vm.findClass RX11 = some m.cls := hown
  have hts := fun w h => hts w (List.mem_cons_of_mem _ h)
  have hl : lv_has ls 8 [(0, .ref t), (1, .int (iI 1)), (2, .int (iI p2)), (3, .int (iI 2)), (4, .int (iI p4)), (5, .int (iI p5))] := hl
  refine lv_iload_n hx hb dX11_paste_0 rfl (lv_at hl 1 rfl) ?_
  refine fn_goi (wc := []) (wr := [(t, .inr (11, oX11 t_q)), ((t_q 6), .inl (K 6, 4, .inr (.inr (.inr (.inr t_6_c))))), ((t_6_r 1), .inr (4, oX4 t_6_1_q t_6_1_x0 t_6_1_x1 t_6_1_x2)), ((t_6_r 2), .inr (4, oX4 t_6_2_q t_6_2_x0 t_6_2_x1 t_6_2_x2)), ((t_6_1_q 3), .inl (K 3, 60, .inr (.inl (fun j => lI (t_6_1_3_c j))))), ((t_6_2_q 3), .inl (K 3, 60, .inr (.inl (fun j => lI (t_6_2_3_c j)))))]) hK hP hD hS hA [] [0, 1, 2, 3, 4, 5] rfl rfl (by decide) (fun hp => va_runS (As := [.int (iI 1)]) (rest := []) ⟨hx, hb, hml, hown, hts⟩ (k_X11_noSlot (l := l) (D := D) (K := K) (p1 := 1) (hp1 := (by omega)) _) (va_cwS 1 hts (fn_ginS (fn_gin wd_963) wd_961 wd_962 wd_1) rfl rfl rfl (by decide +kernel) ⟨Nat.le_of_ble_eq_true rfl, Nat.le_of_ble_eq_true rfl⟩) ⟨fn_blind, hp⟩ rfl rfl hl.1 rfl (lv_room (Nat.le_of_ble_eq_true rfl)) dX11_paste_1 ⟨Nat.le_of_ble_eq_true rfl, Nat.le_of_ble_eq_true rfl⟩) (fun r1 u1 H locs hwu1 hP hD hS => ?_)
  obtain ⟨u1a, u1b⟩ := u1
  obtain ⟨kr1, rfl, hkr1, hqu10, -⟩ := hwu1
  have hqu1 : (kr1 = 0 → 0 ≤ (1 : Int) ∧ (1 : Int) ≤ 3) ∧ (kr1 = 1 → (1 : Int) < 0 ∨ 3 < (1 : Int)) := hqu10
  clear hqu10
  have hP : va_P D vwCl [(t, .inr (11, oX11 t_q)), ((t_q 6), .inl (K 6, 4, .inr (.inr (.inr (.inr t_6_c))))), ((t_6_r 1), .inr (4, oX4 t_6_1_q t_6_1_x0 t_6_1_x1 t_6_1_x2)), ((t_6_r 2), .inr (4, oX4 t_6_2_q t_6_2_x0 t_6_2_x1 t_6_2_x2)), ((t_6_1_q 3), .inl (K 3, 60, .inr (.inl (fun j => lI (t_6_1_3_c j))))), ((t_6_2_q 3), .inl (K 3, 60, .inr (.inl (fun j => lI (t_6_2_3_c j)))))] H := hP
  have hD : va_D A [(t, .inr (11, oX11 t_q)), ((t_q 6), .inl (K 6, 4, .inr (.inr (.inr (.inr t_6_c))))), ((t_6_r 1), .inr (4, oX4 t_6_1_q t_6_1_x0 t_6_1_x1 t_6_1_x2)), ((t_6_r 2), .inr (4, oX4 t_6_2_q t_6_2_x0 t_6_2_x1 t_6_2_x2)), ((t_6_1_q 3), .inl (K 3, 60, .inr (.inl (fun j => lI (t_6_1_3_c j))))), ((t_6_2_q 3), .inl (K 3, 60, .inr (.inl (fun j => lI (t_6_2_3_c j)))))] := hD
  refine g_if_ne (tgt := 14) hx hb (by omega) dX11_paste_4 (by decide) (fun c4 => ?_) (fun c4 => ?_)
  · refine lv_bipush (v := iI (-2)) hx hb dX11_paste_14 (by decide) ?_
    rw [hQ]; exact fn_iret hx hb hr hlocks rfl hP hD hS ((fun _ => 0), (fun k => ([t_6_2_3_c] : List (Nat → Int)).getD k (fun _ => 0))) ⟨(-2), rfl, by omega, (hc_t_6_2_3), trivial⟩ [0, 1, 2, 3, 4, 5] (by decide) rfl dX11_paste_16
  · refine lv_iload_n hx hb dX11_paste_7 rfl (lv_at hl 3 rfl) ?_
    refine fn_goi (wc := []) (wr := [(t, .inr (11, oX11 t_q)), ((t_q 6), .inl (K 6, 4, .inr (.inr (.inr (.inr t_6_c))))), ((t_6_r 1), .inr (4, oX4 t_6_1_q t_6_1_x0 t_6_1_x1 t_6_1_x2)), ((t_6_r 2), .inr (4, oX4 t_6_2_q t_6_2_x0 t_6_2_x1 t_6_2_x2)), ((t_6_1_q 3), .inl (K 3, 60, .inr (.inl (fun j => lI (t_6_1_3_c j))))), ((t_6_2_q 3), .inl (K 3, 60, .inr (.inl (fun j => lI (t_6_2_3_c j)))))]) hK hP hD hS hA [] [0, 1, 2, 3, 4, 5] rfl rfl (by decide) (fun hp => va_runS (As := [.int (iI 2)]) (rest := []) ⟨hx, hb, hml, hown, hts⟩ (k_X11_noSlot (l := l) (D := D) (K := K) (p1 := 2) (hp1 := (by omega)) _) (va_cwS 1 hts (fn_ginS (fn_gin wd_963) wd_961 wd_962 wd_1) rfl rfl rfl (by decide +kernel) ⟨Nat.le_of_ble_eq_true rfl, Nat.le_of_ble_eq_true rfl⟩) ⟨fn_blind, hp⟩ rfl rfl hl.1 rfl (lv_room (Nat.le_of_ble_eq_true rfl)) dX11_paste_8 ⟨Nat.le_of_ble_eq_true rfl, Nat.le_of_ble_eq_true rfl⟩) (fun r8 u8 H locs hwu8 hP hD hS => ?_)
    obtain ⟨u8a, u8b⟩ := u8
    obtain ⟨kr8, rfl, hkr8, hqu80, -⟩ := hwu8
    have hqu8 : (kr8 = 0 → 0 ≤ (2 : Int) ∧ (2 : Int) ≤ 3) ∧ (kr8 = 1 → (2 : Int) < 0 ∨ 3 < (2 : Int)) := hqu80
    clear hqu80
    have hP : va_P D vwCl [(t, .inr (11, oX11 t_q)), ((t_q 6), .inl (K 6, 4, .inr (.inr (.inr (.inr t_6_c))))), ((t_6_r 1), .inr (4, oX4 t_6_1_q t_6_1_x0 t_6_1_x1 t_6_1_x2)), ((t_6_r 2), .inr (4, oX4 t_6_2_q t_6_2_x0 t_6_2_x1 t_6_2_x2)), ((t_6_1_q 3), .inl (K 3, 60, .inr (.inl (fun j => lI (t_6_1_3_c j))))), ((t_6_2_q 3), .inl (K 3, 60, .inr (.inl (fun j => lI (t_6_2_3_c j)))))] H := hP
    have hD : va_D A [(t, .inr (11, oX11 t_q)), ((t_q 6), .inl (K 6, 4, .inr (.inr (.inr (.inr t_6_c))))), ((t_6_r 1), .inr (4, oX4 t_6_1_q t_6_1_x0 t_6_1_x1 t_6_1_x2)), ((t_6_r 2), .inr (4, oX4 t_6_2_q t_6_2_x0 t_6_2_x1 t_6_2_x2)), ((t_6_1_q 3), .inl (K 3, 60, .inr (.inl (fun j => lI (t_6_1_3_c j))))), ((t_6_2_q 3), .inl (K 3, 60, .inr (.inl (fun j => lI (t_6_2_3_c j)))))] := hD
    refine g_if_eq (tgt := 17) hx hb (by omega) dX11_paste_11 (by decide) (fun c11 => ?_) (fun c11 => ?_)
    · refine lv_aload_n hx hb dX11_paste_17 rfl (lv_at hl 0 rfl) ?_
      refine va_get (D := D) (own := RX11) (ci := 11) (v := .ref (t_q 6)) (C := RX11) (T := TX11) (N := 13) hx hb hts inb_X11 hown hK.1 hP 0 rfl rfl 6 (by decide) (hts _ wd_428) (fun _ h9 => h9) rfl dX11_paste_18 ?_
      refine lv_iload_n hx hb dX11_paste_21 rfl (lv_at hl 1 rfl) ?_
      refine va_aldq hx hb hK.1 hP 1 6 rfl rfl (iI_in (by decide) (by decide) (by decide)) dX11_paste_22 ?_
      refine fn_topv (.ref (t_6_r 1)) (by rw [iI_cl (by decide)]; exact congrArg va_rf (hr_t_6 1 (by decide))) ?_
      refine lv_astore (lv' := [(6, .ref (t_6_r 1)), (0, .ref t), (1, .int (iI 1)), (2, .int (iI p2)), (3, .int (iI 2)), (4, .int (iI p4)), (5, .int (iI p5))]) hx hb dX11_paste_23 hl (by decide) rfl (fun ls hl => ?_)
      refine lv_aload_n hx hb dX11_paste_25 rfl (lv_at hl 1 rfl) ?_
      refine va_get (D := D) (own := RX11) (ci := 11) (v := .ref (t_q 6)) (C := RX11) (T := TX11) (N := 13) hx hb hts inb_X11 hown hK.1 hP 0 rfl rfl 6 (by decide) (hts _ wd_428) (fun _ h9 => h9) rfl dX11_paste_26 ?_
      refine lv_iload_n hx hb dX11_paste_29 rfl (lv_at hl 4 rfl) ?_
      refine va_aldq hx hb hK.1 hP 1 6 rfl rfl (iI_in (by decide) (by decide) (by decide)) dX11_paste_30 ?_
      refine fn_topv (.ref (t_6_r 2)) (by rw [iI_cl (by decide)]; exact congrArg va_rf (hr_t_6 2 (by decide))) ?_
      refine lv_astore (lv' := [(7, .ref (t_6_r 2)), (6, .ref (t_6_r 1)), (0, .ref t), (1, .int (iI 1)), (2, .int (iI p2)), (3, .int (iI 2)), (4, .int (iI p4)), (5, .int (iI p5))]) hx hb dX11_paste_31 hl (by decide) rfl (fun ls hl => ?_)
      refine lv_aload hx hb dX11_paste_33 (lv_at hl 1 rfl) ?_
      refine va_getN (D := D) (own := RX11) (ci := 4) (v := .int (iI t_6_1_x0)) (C := RX4) (T := TX4) (N := 4) hx hb hts inb_X4 hown hK.1 hP 2 rfl rfl 0 (by decide) (hK.nf 89 rfl) (fun _ h9 => h9) rfl dX11_paste_35 ?_
      have y35_1 : 0 ≤ t_6_1_x0 ∧ t_6_1_x0 ≤ 1 := hi_t_6_1.1
      refine g_if_eq (tgt := 49) hx hb (by omega) dX11_paste_38 (by decide) (fun c38 => ?_) (fun c38 => ?_)
      · refine fn_at 49 rfl ?_
        refine lv_bipush (v := iI (-6)) hx hb dX11_paste_49 (by decide) ?_
        rw [hQ]; exact fn_iret hx hb hr hlocks rfl hP hD hS ((fun _ => 0), (fun k => ([t_6_2_3_c] : List (Nat → Int)).getD k (fun _ => 0))) ⟨(-6), rfl, by omega, (hc_t_6_2_3), trivial⟩ [0, 1, 2, 3, 4, 5] (by decide) rfl dX11_paste_51
      · refine fn_at 41 rfl ?_
        refine lv_aload hx hb dX11_paste_41 (lv_at hl 0 rfl) ?_
        refine va_getN (D := D) (own := RX11) (ci := 4) (v := .int (iI t_6_2_x0)) (C := RX4) (T := TX4) (N := 4) hx hb hts inb_X4 hown hK.1 hP 3 rfl rfl 0 (by decide) (hK.nf 89 rfl) (fun _ h9 => h9) rfl dX11_paste_43 ?_
        have y43_2 : 0 ≤ t_6_2_x0 ∧ t_6_2_x0 ≤ 1 := hi_t_6_2.1
        refine g_if_ne (tgt := 52) hx hb (by omega) dX11_paste_46 (by decide) (fun c46 => ?_) (fun c46 => ?_)
        · refine lv_aload hx hb dX11_paste_52 (lv_at hl 1 rfl) ?_
          refine va_getN (D := D) (own := RX11) (ci := 4) (v := .int (iI t_6_1_x1)) (C := RX4) (T := TX4) (N := 4) hx hb hts inb_X4 hown hK.1 hP 2 rfl rfl 1 (by decide) (hK.nf 90 rfl) (fun _ h9 => h9) rfl dX11_paste_54 ?_
          have y54_3 : 0 ≤ t_6_1_x1 ∧ t_6_1_x1 ≤ 3 := hi_t_6_1.2.1
          refine lv_aload hx hb dX11_paste_57 (lv_at hl 0 rfl) ?_
          refine va_getN (D := D) (own := RX11) (ci := 4) (v := .int (iI t_6_2_x1)) (C := RX4) (T := TX4) (N := 4) hx hb hts inb_X4 hown hK.1 hP 3 rfl rfl 1 (by decide) (hK.nf 90 rfl) (fun _ h9 => h9) rfl dX11_paste_59 ?_
          have y59_4 : 0 ≤ t_6_2_x1 ∧ t_6_2_x1 ≤ 3 := hi_t_6_2.2.1
          refine g_icmp_eq (tgt := 68) hx hb (by omega) (by omega) dX11_paste_62 (by decide) (fun c62 => ?_) (fun c62 => ?_)
          · refine lv_aload hx hb dX11_paste_68 (lv_at hl 1 rfl) ?_
            refine lv_iload_n hx hb dX11_paste_70 rfl (lv_at hl 4 rfl) ?_
            refine lv_iload hx hb dX11_paste_71 (lv_at hl 7 rfl) ?_
            refine fn_goi (wc := [((t_6_r 1), .inr (4, oX4 t_6_1_q t_6_1_x0 t_6_1_x1 t_6_1_x2))]) (wr := [(t, .inr (11, oX11 t_q)), ((t_q 6), .inl (K 6, 4, .inr (.inr (.inr (.inr t_6_c))))), ((t_6_r 2), .inr (4, oX4 t_6_2_q t_6_2_x0 t_6_2_x1 t_6_2_x2)), ((t_6_1_q 3), .inl (K 3, 60, .inr (.inl (fun j => lI (t_6_1_3_c j))))), ((t_6_2_q 3), .inl (K 3, 60, .inr (.inl (fun j => lI (t_6_2_3_c j)))))]) hK hP hD hS hA [2] [0, 1, 3, 4, 5] rfl rfl (by decide) (fun hp => va_runVN (C := RX4) (As := [.int (iI p2), .int (iI p5)]) (rest := []) ⟨hx, hb, hml, hown, hts⟩ (k_X4_spans (l := l) (D := D) (K := K) (t := (t_6_r 1)) (p1 := p2) (p2 := p5) (t_q := t_6_1_q) (t_x0 := t_6_1_x0) (t_x1 := t_6_1_x1) (t_x2 := t_6_1_x2) (hp1 := (by omega)) (hp2 := (by omega)) (hi_t := hi_t_6_1) _) ⟨va_cnB (own := RX11) 2 hts (fn_gin wd_1226) rfl rfl rfl (hK.nw 155 rfl) (hts _ wd_12) (by decide +kernel) ⟨Nat.le_of_ble_eq_true rfl, Nat.le_of_ble_eq_true rfl⟩, hts _ wd_1225, hts _ wp_93⟩ ⟨fn_blind, va_recv hK.1 hP (ci := 4) (q0 := 2) rfl rfl, hp⟩ rfl rfl hl.1 rfl (lv_room (Nat.le_of_ble_eq_true rfl)) dX11_paste_73 ⟨Nat.le_of_ble_eq_true rfl, Nat.le_of_ble_eq_true rfl⟩) (fun r73 u73 H locs hwu73 hP hD hS => ?_)
            obtain ⟨u73a, u73b⟩ := u73
            obtain ⟨kr73, rfl, hkr73, hqu730, -⟩ := hwu73
            have hqu73 : (kr73 = 1 → 0 ≤ p2 ∧ 0 ≤ p5 ∧ p2 + p5 ≤ t_6_1_x2 ∧ p2 + p5 ≤ 60) := hqu730
            clear hqu730
            have hP : va_P D vwCl [(t, .inr (11, oX11 t_q)), ((t_q 6), .inl (K 6, 4, .inr (.inr (.inr (.inr t_6_c))))), ((t_6_r 2), .inr (4, oX4 t_6_2_q t_6_2_x0 t_6_2_x1 t_6_2_x2)), ((t_6_1_q 3), .inl (K 3, 60, .inr (.inl (fun j => lI (t_6_1_3_c j))))), ((t_6_2_q 3), .inl (K 3, 60, .inr (.inl (fun j => lI (t_6_2_3_c j))))), ((t_6_r 1), .inr (4, oX4 t_6_1_q t_6_1_x0 t_6_1_x1 t_6_1_x2))] H := hP
            have hD : va_D A [(t, .inr (11, oX11 t_q)), ((t_q 6), .inl (K 6, 4, .inr (.inr (.inr (.inr t_6_c))))), ((t_6_r 2), .inr (4, oX4 t_6_2_q t_6_2_x0 t_6_2_x1 t_6_2_x2)), ((t_6_1_q 3), .inl (K 3, 60, .inr (.inl (fun j => lI (t_6_1_3_c j))))), ((t_6_2_q 3), .inl (K 3, 60, .inr (.inl (fun j => lI (t_6_2_3_c j))))), ((t_6_r 1), .inr (4, oX4 t_6_1_q t_6_1_x0 t_6_1_x1 t_6_1_x2))] := hD
            refine g_if_eq (tgt := 91) hx hb (by omega) dX11_paste_76 (by decide) (fun c76 => ?_) (fun c76 => ?_)
            · refine lv_bipush (v := iI (-7)) hx hb dX11_paste_91 (by decide) ?_
              rw [hQ]; exact fn_iret hx hb hr hlocks rfl hP hD hS ((fun _ => 0), (fun k => ([t_6_2_3_c] : List (Nat → Int)).getD k (fun _ => 0))) ⟨(-7), rfl, by omega, (hc_t_6_2_3), trivial⟩ [0, 1, 5, 2, 3, 4] (by decide) rfl dX11_paste_93
            · refine lv_aload hx hb dX11_paste_79 (lv_at hl 0 rfl) ?_
              refine lv_iload hx hb dX11_paste_81 (lv_at hl 6 rfl) ?_
              refine lv_iload hx hb dX11_paste_83 (lv_at hl 7 rfl) ?_
              refine fn_goi (wc := [((t_6_r 2), .inr (4, oX4 t_6_2_q t_6_2_x0 t_6_2_x1 t_6_2_x2))]) (wr := [(t, .inr (11, oX11 t_q)), ((t_q 6), .inl (K 6, 4, .inr (.inr (.inr (.inr t_6_c))))), ((t_6_1_q 3), .inl (K 3, 60, .inr (.inl (fun j => lI (t_6_1_3_c j))))), ((t_6_2_q 3), .inl (K 3, 60, .inr (.inl (fun j => lI (t_6_2_3_c j))))), ((t_6_r 1), .inr (4, oX4 t_6_1_q t_6_1_x0 t_6_1_x1 t_6_1_x2))]) hK hP hD hS hA [2] [0, 1, 3, 4, 5] rfl rfl (by decide) (fun hp => va_runVN (C := RX4) (As := [.int (iI p4), .int (iI p5)]) (rest := []) ⟨hx, hb, hml, hown, hts⟩ (k_X4_spans (l := l) (D := D) (K := K) (t := (t_6_r 2)) (p1 := p4) (p2 := p5) (t_q := t_6_2_q) (t_x0 := t_6_2_x0) (t_x1 := t_6_2_x1) (t_x2 := t_6_2_x2) (hp1 := (by omega)) (hp2 := (by omega)) (hi_t := hi_t_6_2) _) ⟨va_cnB (own := RX11) 2 hts (fn_gin wd_1226) rfl rfl rfl (hK.nw 155 rfl) (hts _ wd_12) (by decide +kernel) ⟨Nat.le_of_ble_eq_true rfl, Nat.le_of_ble_eq_true rfl⟩, hts _ wd_1225, hts _ wp_93⟩ ⟨fn_blind, va_recv hK.1 hP (ci := 4) (q0 := 2) rfl rfl, hp⟩ rfl rfl hl.1 rfl (lv_room (Nat.le_of_ble_eq_true rfl)) dX11_paste_85 ⟨Nat.le_of_ble_eq_true rfl, Nat.le_of_ble_eq_true rfl⟩) (fun r85 u85 H locs hwu85 hP hD hS => ?_)
              obtain ⟨u85a, u85b⟩ := u85
              obtain ⟨kr85, rfl, hkr85, hqu850, -⟩ := hwu85
              have hqu85 : (kr85 = 1 → 0 ≤ p4 ∧ 0 ≤ p5 ∧ p4 + p5 ≤ t_6_2_x2 ∧ p4 + p5 ≤ 60) := hqu850
              clear hqu850
              have hP : va_P D vwCl [(t, .inr (11, oX11 t_q)), ((t_q 6), .inl (K 6, 4, .inr (.inr (.inr (.inr t_6_c))))), ((t_6_1_q 3), .inl (K 3, 60, .inr (.inl (fun j => lI (t_6_1_3_c j))))), ((t_6_2_q 3), .inl (K 3, 60, .inr (.inl (fun j => lI (t_6_2_3_c j))))), ((t_6_r 1), .inr (4, oX4 t_6_1_q t_6_1_x0 t_6_1_x1 t_6_1_x2)), ((t_6_r 2), .inr (4, oX4 t_6_2_q t_6_2_x0 t_6_2_x1 t_6_2_x2))] H := hP
              have hD : va_D A [(t, .inr (11, oX11 t_q)), ((t_q 6), .inl (K 6, 4, .inr (.inr (.inr (.inr t_6_c))))), ((t_6_1_q 3), .inl (K 3, 60, .inr (.inl (fun j => lI (t_6_1_3_c j))))), ((t_6_2_q 3), .inl (K 3, 60, .inr (.inl (fun j => lI (t_6_2_3_c j))))), ((t_6_r 1), .inr (4, oX4 t_6_1_q t_6_1_x0 t_6_1_x1 t_6_1_x2)), ((t_6_r 2), .inr (4, oX4 t_6_2_q t_6_2_x0 t_6_2_x1 t_6_2_x2))] := hD
              refine g_if_ne (tgt := 94) hx hb (by omega) dX11_paste_88 (by decide) (fun c88 => ?_) (fun c88 => ?_)
              · refine lv_aload hx hb dX11_paste_94 (lv_at hl 1 rfl) ?_
                refine va_getN (D := D) (own := RX11) (ci := 4) (v := .ref (t_6_1_q 3)) (C := RX4) (T := TX4) (N := 4) hx hb hts inb_X4 hown hK.1 hP 4 rfl rfl 3 (by decide) (hK.nf 92 rfl) (fun _ h9 => h9) rfl dX11_paste_96 ?_
                refine fn_at 99 rfl ?_
                refine lv_iload_n hx hb dX11_paste_99 rfl (lv_at hl 4 rfl) ?_
                refine lv_aload hx hb dX11_paste_100 (lv_at hl 0 rfl) ?_
                refine va_getN (D := D) (own := RX11) (ci := 4) (v := .ref (t_6_2_q 3)) (C := RX4) (T := TX4) (N := 4) hx hb hts inb_X4 hown hK.1 hP 5 rfl rfl 3 (by decide) (hK.nf 92 rfl) (fun _ h9 => h9) rfl dX11_paste_102 ?_
                refine lv_iload hx hb dX11_paste_105 (lv_at hl 6 rfl) ?_
                refine lv_iload hx hb dX11_paste_107 (lv_at hl 7 rfl) ?_
                refine g_cpyl (own := RX11) hx hb (hml.trans hl.1.symm) hown (hts _ wd_1227) (hts _ wd_622) (hts _ wd_621) (hts _ wd_19) hK.1 hP hD hS 2 3 3 3 rfl rfl rfl rfl (by omega) (by omega) (by omega) (Nat.le_of_ble_eq_true rfl) (Nat.le_of_ble_eq_true rfl) dX11_paste_109 (fun H locs g109 eg109 hP hD hS => ?_)
                have hg109 : ∀ j : Nat, (-9223372036854775808) ≤ g109 j ∧ g109 j ≤ 9223372036854775807 := by rw [eg109]; exact cI_all hc_t_6_1_3 hc_t_6_2_3
                have hP : va_P D vwCl [(t, .inr (11, oX11 t_q)), ((t_q 6), .inl (K 6, 4, .inr (.inr (.inr (.inr t_6_c))))), ((t_6_1_q 3), .inl (K 3, 60, .inr (.inl (fun j => lI (t_6_1_3_c j))))), ((t_6_2_q 3), .inl (K 3, 60, .inr (.inl (fun j => lI (g109 j))))), ((t_6_r 1), .inr (4, oX4 t_6_1_q t_6_1_x0 t_6_1_x1 t_6_1_x2)), ((t_6_r 2), .inr (4, oX4 t_6_2_q t_6_2_x0 t_6_2_x1 t_6_2_x2))] H := hP
                have hD : va_D A [(t, .inr (11, oX11 t_q)), ((t_q 6), .inl (K 6, 4, .inr (.inr (.inr (.inr t_6_c))))), ((t_6_1_q 3), .inl (K 3, 60, .inr (.inl (fun j => lI (t_6_1_3_c j))))), ((t_6_2_q 3), .inl (K 3, 60, .inr (.inl (fun j => lI (g109 j))))), ((t_6_r 1), .inr (4, oX4 t_6_1_q t_6_1_x0 t_6_1_x1 t_6_1_x2)), ((t_6_r 2), .inr (4, oX4 t_6_2_q t_6_2_x0 t_6_2_x1 t_6_2_x2))] := hD
                refine lv_iconst (v := iI 0) hx hb dX11_paste_112 rfl ?_
                rw [hQ]; exact fn_iret hx hb hr hlocks rfl hP hD hS ((fun _ => 0), (fun k => ([g109] : List (Nat → Int)).getD k (fun _ => 0))) ⟨0, rfl, by omega, (hg109), trivial⟩ [0, 1, 4, 5, 2, 3] (by decide) rfl dX11_paste_113
              · refine lv_bipush (v := iI (-7)) hx hb dX11_paste_91 (by decide) ?_
                rw [hQ]; exact fn_iret hx hb hr hlocks rfl hP hD hS ((fun _ => 0), (fun k => ([t_6_2_3_c] : List (Nat → Int)).getD k (fun _ => 0))) ⟨(-7), rfl, by omega, (hc_t_6_2_3), trivial⟩ [0, 1, 4, 5, 2, 3] (by decide) rfl dX11_paste_93
          · refine lv_bipush (v := iI (-8)) hx hb dX11_paste_65 (by decide) ?_
            rw [hQ]; exact fn_iret hx hb hr hlocks rfl hP hD hS ((fun _ => 0), (fun k => ([t_6_2_3_c] : List (Nat → Int)).getD k (fun _ => 0))) ⟨(-8), rfl, by omega, (hc_t_6_2_3), trivial⟩ [0, 1, 2, 3, 4, 5] (by decide) rfl dX11_paste_67
        · refine lv_bipush (v := iI (-6)) hx hb dX11_paste_49 (by decide) ?_
          rw [hQ]; exact fn_iret hx hb hr hlocks rfl hP hD hS ((fun _ => 0), (fun k => ([t_6_2_3_c] : List (Nat → Int)).getD k (fun _ => 0))) ⟨(-6), rfl, by omega, (hc_t_6_2_3), trivial⟩ [0, 1, 2, 3, 4, 5] (by decide) rfl dX11_paste_51
    · refine lv_bipush (v := iI (-2)) hx hb dX11_paste_14 (by decide) ?_
      rw [hQ]; exact fn_iret hx hb hr hlocks rfl hP hD hS ((fun _ => 0), (fun k => ([t_6_2_3_c] : List (Nat → Int)).getD k (fun _ => 0))) ⟨(-2), rfl, by omega, (hc_t_6_2_3), trivial⟩ [0, 1, 2, 3, 4, 5] (by decide) rfl dX11_paste_16
set_option maxHeartbeats 4000000 in
set_option maxRecDepth 100000 in
theorem k_X11_paste_13 (l : Launch) (D : va_G) (K : Nat → ClassId) (t : Nat) (t_q t_6_r t_6_1_q t_6_3_q : Nat → Nat) (p2 p4 p5 t_6_1_x0 t_6_1_x1 t_6_1_x2 t_6_3_x0 t_6_3_x1 t_6_3_x2 : Int) (t_6_c : Nat → Option Nat) (t_6_1_3_c : Nat → Int) (t_6_3_3_c : Nat → Int) (hp2 : (-2147483648) ≤ p2 ∧ p2 ≤ 2147483647) (hp4 : (-2147483648) ≤ p4 ∧ p4 ≤ 2147483647) (hp5 : (-2147483648) ≤ p5 ∧ p5 ≤ 2147483647) (hr_t_6 : ∀ j : Nat, j < 4 → t_6_c j = some (t_6_r j)) (hi_t_6_1 : bX4 t_6_1_x0 t_6_1_x1 t_6_1_x2) (hi_t_6_3 : bX4 t_6_3_x0 t_6_3_x1 t_6_3_x2) (hc_t_6_1_3 : ∀ j : Nat, (-9223372036854775808) ≤ t_6_1_3_c j ∧ t_6_1_3_c j ≤ 9223372036854775807) (hc_t_6_3_3 : ∀ j : Nat, (-9223372036854775808) ≤ t_6_3_3_c j ∧ t_6_3_3_c j ≤ 9223372036854775807) : fn_CI (S := (Nat → Int) × (Nat → Nat → Int)) l D K yX11_paste (fn_ws yX11_paste cX11_paste 8 (some .int)) ({ frames := 8, cells := 0, slots := 0, locals := 200 } : Room) [.ref t, .int (iI 1), .int (iI p2), .int (iI 3), .int (iI p4), .int (iI p5)] [(t, .inr (11, oX11 t_q)), ((t_q 6), .inl (K 6, 4, .inr (.inr (.inr (.inr t_6_c))))), ((t_6_r 1), .inr (4, oX4 t_6_1_q t_6_1_x0 t_6_1_x1 t_6_1_x2)), ((t_6_r 3), .inr (4, oX4 t_6_3_q t_6_3_x0 t_6_3_x1 t_6_3_x2)), ((t_6_1_q 3), .inl (K 3, 60, .inr (.inl (fun j => lI (t_6_1_3_c j))))), ((t_6_3_q 3), .inl (K 3, 60, .inr (.inl (fun j => lI (t_6_3_3_c j)))))] (fun r u => ∃ k : Int, r = iI k ∧ ((-8) ≤ k ∧ k ≤ 0) ∧ (∀ j : Nat, (-9223372036854775808) ≤ (u.2 0) j ∧ (u.2 0) j ≤ 9223372036854775807) ∧ True) (fun u => [(t, .inr (11, oX11 t_q)), ((t_q 6), .inl (K 6, 4, .inr (.inr (.inr (.inr t_6_c))))), ((t_6_r 1), .inr (4, oX4 t_6_1_q t_6_1_x0 t_6_1_x1 t_6_1_x2)), ((t_6_r 3), .inr (4, oX4 t_6_3_q t_6_3_x0 t_6_3_x1 t_6_3_x2)), ((t_6_1_q 3), .inl (K 3, 60, .inr (.inl (fun j => lI (t_6_1_3_c j))))), ((t_6_3_q 3), .inl (K 3, 60, .inr (.inl (fun j => lI ((u.2 0) j)))))]) 0 0 := by
  refine g_inI (cc := cX11_paste) (maxL := 8) (ret := (some .int)) (by decide) rfl (Nat.le_of_ble_eq_true rfl) ?_
  intro p e s m below meth c A ls ag Q B hA hP hD hS hl hQ
  obtain ⟨hx, hb, hr, hml, hts, hown, hlocks, hin, hK⟩ := B
  have hown : s.vm.findClass RX11 = some m.cls := hown
  have hts := fun w h => hts w (List.mem_cons_of_mem _ h)
  have hl : lv_has ls 8 [(0, .ref t), (1, .int (iI 1)), (2, .int (iI p2)), (3, .int (iI 3)), (4, .int (iI p4)), (5, .int (iI p5))] := hl
  refine lv_iload_n hx hb dX11_paste_0 rfl (lv_at hl 1 rfl) ?_
  refine fn_goi (wc := []) (wr := [(t, .inr (11, oX11 t_q)), ((t_q 6), .inl (K 6, 4, .inr (.inr (.inr (.inr t_6_c))))), ((t_6_r 1), .inr (4, oX4 t_6_1_q t_6_1_x0 t_6_1_x1 t_6_1_x2)), ((t_6_r 3), .inr (4, oX4 t_6_3_q t_6_3_x0 t_6_3_x1 t_6_3_x2)), ((t_6_1_q 3), .inl (K 3, 60, .inr (.inl (fun j => lI (t_6_1_3_c j))))), ((t_6_3_q 3), .inl (K 3, 60, .inr (.inl (fun j => lI (t_6_3_3_c j)))))]) hK hP hD hS hA [] [0, 1, 2, 3, 4, 5] rfl rfl (by decide) (fun hp => va_runS (As := [.int (iI 1)]) (rest := []) ⟨hx, hb, hml, hown, hts⟩ (k_X11_noSlot (l := l) (D := D) (K := K) (p1 := 1) (hp1 := (by omega)) _) (va_cwS 1 hts (fn_ginS (fn_gin wd_963) wd_961 wd_962 wd_1) rfl rfl rfl (by decide +kernel) ⟨Nat.le_of_ble_eq_true rfl, Nat.le_of_ble_eq_true rfl⟩) ⟨fn_blind, hp⟩ rfl rfl hl.1 rfl (lv_room (Nat.le_of_ble_eq_true rfl)) dX11_paste_1 ⟨Nat.le_of_ble_eq_true rfl, Nat.le_of_ble_eq_true rfl⟩) (fun r1 u1 H locs hwu1 hP hD hS => ?_)
  obtain ⟨u1a, u1b⟩ := u1
  obtain ⟨kr1, rfl, hkr1, hqu10, -⟩ := hwu1
  have hqu1 : (kr1 = 0 → 0 ≤ (1 : Int) ∧ (1 : Int) ≤ 3) ∧ (kr1 = 1 → (1 : Int) < 0 ∨ 3 < (1 : Int)) := hqu10
  clear hqu10
  have hP : va_P D vwCl [(t, .inr (11, oX11 t_q)), ((t_q 6), .inl (K 6, 4, .inr (.inr (.inr (.inr t_6_c))))), ((t_6_r 1), .inr (4, oX4 t_6_1_q t_6_1_x0 t_6_1_x1 t_6_1_x2)), ((t_6_r 3), .inr (4, oX4 t_6_3_q t_6_3_x0 t_6_3_x1 t_6_3_x2)), ((t_6_1_q 3), .inl (K 3, 60, .inr (.inl (fun j => lI (t_6_1_3_c j))))), ((t_6_3_q 3), .inl (K 3, 60, .inr (.inl (fun j => lI (t_6_3_3_c j)))))] H := hP
  have hD : va_D A [(t, .inr (11, oX11 t_q)), ((t_q 6), .inl (K 6, 4, .inr (.inr (.inr (.inr t_6_c))))), ((t_6_r 1), .inr (4, oX4 t_6_1_q t_6_1_x0 t_6_1_x1 t_6_1_x2)), ((t_6_r 3), .inr (4, oX4 t_6_3_q t_6_3_x0 t_6_3_x1 t_6_3_x2)), ((t_6_1_q 3), .inl (K 3, 60, .inr (.inl (fun j => lI (t_6_1_3_c j))))), ((t_6_3_q 3), .inl (K 3, 60, .inr (.inl (fun j => lI (t_6_3_3_c j)))))] := hD
  refine g_if_ne (tgt := 14) hx hb (by omega) dX11_paste_4 (by decide) (fun c4 => ?_) (fun c4 => ?_)
  · refine lv_bipush (v := iI (-2)) hx hb dX11_paste_14 (by decide) ?_
    rw [hQ]; exact fn_iret hx hb hr hlocks rfl hP hD hS ((fun _ => 0), (fun k => ([t_6_3_3_c] : List (Nat → Int)).getD k (fun _ => 0))) ⟨(-2), rfl, by omega, (hc_t_6_3_3), trivial⟩ [0, 1, 2, 3, 4, 5] (by decide) rfl dX11_paste_16
  · refine lv_iload_n hx hb dX11_paste_7 rfl (lv_at hl 3 rfl) ?_
    refine fn_goi (wc := []) (wr := [(t, .inr (11, oX11 t_q)), ((t_q 6), .inl (K 6, 4, .inr (.inr (.inr (.inr t_6_c))))), ((t_6_r 1), .inr (4, oX4 t_6_1_q t_6_1_x0 t_6_1_x1 t_6_1_x2)), ((t_6_r 3), .inr (4, oX4 t_6_3_q t_6_3_x0 t_6_3_x1 t_6_3_x2)), ((t_6_1_q 3), .inl (K 3, 60, .inr (.inl (fun j => lI (t_6_1_3_c j))))), ((t_6_3_q 3), .inl (K 3, 60, .inr (.inl (fun j => lI (t_6_3_3_c j)))))]) hK hP hD hS hA [] [0, 1, 2, 3, 4, 5] rfl rfl (by decide) (fun hp => va_runS (As := [.int (iI 3)]) (rest := []) ⟨hx, hb, hml, hown, hts⟩ (k_X11_noSlot (l := l) (D := D) (K := K) (p1 := 3) (hp1 := (by omega)) _) (va_cwS 1 hts (fn_ginS (fn_gin wd_963) wd_961 wd_962 wd_1) rfl rfl rfl (by decide +kernel) ⟨Nat.le_of_ble_eq_true rfl, Nat.le_of_ble_eq_true rfl⟩) ⟨fn_blind, hp⟩ rfl rfl hl.1 rfl (lv_room (Nat.le_of_ble_eq_true rfl)) dX11_paste_8 ⟨Nat.le_of_ble_eq_true rfl, Nat.le_of_ble_eq_true rfl⟩) (fun r8 u8 H locs hwu8 hP hD hS => ?_)
    obtain ⟨u8a, u8b⟩ := u8
    obtain ⟨kr8, rfl, hkr8, hqu80, -⟩ := hwu8
    have hqu8 : (kr8 = 0 → 0 ≤ (3 : Int) ∧ (3 : Int) ≤ 3) ∧ (kr8 = 1 → (3 : Int) < 0 ∨ 3 < (3 : Int)) := hqu80
    clear hqu80
    have hP : va_P D vwCl [(t, .inr (11, oX11 t_q)), ((t_q 6), .inl (K 6, 4, .inr (.inr (.inr (.inr t_6_c))))), ((t_6_r 1), .inr (4, oX4 t_6_1_q t_6_1_x0 t_6_1_x1 t_6_1_x2)), ((t_6_r 3), .inr (4, oX4 t_6_3_q t_6_3_x0 t_6_3_x1 t_6_3_x2)), ((t_6_1_q 3), .inl (K 3, 60, .inr (.inl (fun j => lI (t_6_1_3_c j))))), ((t_6_3_q 3), .inl (K 3, 60, .inr (.inl (fun j => lI (t_6_3_3_c j)))))] H := hP
    have hD : va_D A [(t, .inr (11, oX11 t_q)), ((t_q 6), .inl (K 6, 4, .inr (.inr (.inr (.inr t_6_c))))), ((t_6_r 1), .inr (4, oX4 t_6_1_q t_6_1_x0 t_6_1_x1 t_6_1_x2)), ((t_6_r 3), .inr (4, oX4 t_6_3_q t_6_3_x0 t_6_3_x1 t_6_3_x2)), ((t_6_1_q 3), .inl (K 3, 60, .inr (.inl (fun j => lI (t_6_1_3_c j))))), ((t_6_3_q 3), .inl (K 3, 60, .inr (.inl (fun j => lI (t_6_3_3_c j)))))] := hD
    refine g_if_eq (tgt := 17) hx hb (by omega) dX11_paste_11 (by decide) (fun c11 => ?_) (fun c11 => ?_)
    · refine lv_aload_n hx hb dX11_paste_17 rfl (lv_at hl 0 rfl) ?_
      refine va_get (D := D) (own := RX11) (ci := 11) (v := .ref (t_q 6)) (C := RX11) (T := TX11) (N := 13) hx hb hts inb_X11 hown hK.1 hP 0 rfl rfl 6 (by decide) (hts _ wd_428) (fun _ h9 => h9) rfl dX11_paste_18 ?_
      refine lv_iload_n hx hb dX11_paste_21 rfl (lv_at hl 1 rfl) ?_
      refine va_aldq hx hb hK.1 hP 1 6 rfl rfl (iI_in (by decide) (by decide) (by decide)) dX11_paste_22 ?_
      refine fn_topv (.ref (t_6_r 1)) (by rw [iI_cl (by decide)]; exact congrArg va_rf (hr_t_6 1 (by decide))) ?_
      refine lv_astore (lv' := [(6, .ref (t_6_r 1)), (0, .ref t), (1, .int (iI 1)), (2, .int (iI p2)), (3, .int (iI 3)), (4, .int (iI p4)), (5, .int (iI p5))]) hx hb dX11_paste_23 hl (by decide) rfl (fun ls hl => ?_)
      refine lv_aload_n hx hb dX11_paste_25 rfl (lv_at hl 1 rfl) ?_
      refine va_get (D := D) (own := RX11) (ci := 11) (v := .ref (t_q 6)) (C := RX11) (T := TX11) (N := 13) hx hb hts inb_X11 hown hK.1 hP 0 rfl rfl 6 (by decide) (hts _ wd_428) (fun _ h9 => h9) rfl dX11_paste_26 ?_
      refine lv_iload_n hx hb dX11_paste_29 rfl (lv_at hl 4 rfl) ?_
      refine va_aldq hx hb hK.1 hP 1 6 rfl rfl (iI_in (by decide) (by decide) (by decide)) dX11_paste_30 ?_
      refine fn_topv (.ref (t_6_r 3)) (by rw [iI_cl (by decide)]; exact congrArg va_rf (hr_t_6 3 (by decide))) ?_
      refine lv_astore (lv' := [(7, .ref (t_6_r 3)), (6, .ref (t_6_r 1)), (0, .ref t), (1, .int (iI 1)), (2, .int (iI p2)), (3, .int (iI 3)), (4, .int (iI p4)), (5, .int (iI p5))]) hx hb dX11_paste_31 hl (by decide) rfl (fun ls hl => ?_)
      refine lv_aload hx hb dX11_paste_33 (lv_at hl 1 rfl) ?_
      refine va_getN (D := D) (own := RX11) (ci := 4) (v := .int (iI t_6_1_x0)) (C := RX4) (T := TX4) (N := 4) hx hb hts inb_X4 hown hK.1 hP 2 rfl rfl 0 (by decide) (hK.nf 89 rfl) (fun _ h9 => h9) rfl dX11_paste_35 ?_
      have y35_1 : 0 ≤ t_6_1_x0 ∧ t_6_1_x0 ≤ 1 := hi_t_6_1.1
      refine g_if_eq (tgt := 49) hx hb (by omega) dX11_paste_38 (by decide) (fun c38 => ?_) (fun c38 => ?_)
      · refine fn_at 49 rfl ?_
        refine lv_bipush (v := iI (-6)) hx hb dX11_paste_49 (by decide) ?_
        rw [hQ]; exact fn_iret hx hb hr hlocks rfl hP hD hS ((fun _ => 0), (fun k => ([t_6_3_3_c] : List (Nat → Int)).getD k (fun _ => 0))) ⟨(-6), rfl, by omega, (hc_t_6_3_3), trivial⟩ [0, 1, 2, 3, 4, 5] (by decide) rfl dX11_paste_51
      · refine fn_at 41 rfl ?_
        refine lv_aload hx hb dX11_paste_41 (lv_at hl 0 rfl) ?_
        refine va_getN (D := D) (own := RX11) (ci := 4) (v := .int (iI t_6_3_x0)) (C := RX4) (T := TX4) (N := 4) hx hb hts inb_X4 hown hK.1 hP 3 rfl rfl 0 (by decide) (hK.nf 89 rfl) (fun _ h9 => h9) rfl dX11_paste_43 ?_
        have y43_2 : 0 ≤ t_6_3_x0 ∧ t_6_3_x0 ≤ 1 := hi_t_6_3.1
        refine g_if_ne (tgt := 52) hx hb (by omega) dX11_paste_46 (by decide) (fun c46 => ?_) (fun c46 => ?_)
        · refine lv_aload hx hb dX11_paste_52 (lv_at hl 1 rfl) ?_
          refine va_getN (D := D) (own := RX11) (ci := 4) (v := .int (iI t_6_1_x1)) (C := RX4) (T := TX4) (N := 4) hx hb hts inb_X4 hown hK.1 hP 2 rfl rfl 1 (by decide) (hK.nf 90 rfl) (fun _ h9 => h9) rfl dX11_paste_54 ?_
          have y54_3 : 0 ≤ t_6_1_x1 ∧ t_6_1_x1 ≤ 3 := hi_t_6_1.2.1
          refine lv_aload hx hb dX11_paste_57 (lv_at hl 0 rfl) ?_
          refine va_getN (D := D) (own := RX11) (ci := 4) (v := .int (iI t_6_3_x1)) (C := RX4) (T := TX4) (N := 4) hx hb hts inb_X4 hown hK.1 hP 3 rfl rfl 1 (by decide) (hK.nf 90 rfl) (fun _ h9 => h9) rfl dX11_paste_59 ?_
          have y59_4 : 0 ≤ t_6_3_x1 ∧ t_6_3_x1 ≤ 3 := hi_t_6_3.2.1
          refine g_icmp_eq (tgt := 68) hx hb (by omega) (by omega) dX11_paste_62 (by decide) (fun c62 => ?_) (fun c62 => ?_)
          · refine lv_aload hx hb dX11_paste_68 (lv_at hl 1 rfl) ?_
            refine lv_iload_n hx hb dX11_paste_70 rfl (lv_at hl 4 rfl) ?_
            refine lv_iload hx hb dX11_paste_71 (lv_at hl 7 rfl) ?_
            refine fn_goi (wc := [((t_6_r 1), .inr (4, oX4 t_6_1_q t_6_1_x0 t_6_1_x1 t_6_1_x2))]) (wr := [(t, .inr (11, oX11 t_q)), ((t_q 6), .inl (K 6, 4, .inr (.inr (.inr (.inr t_6_c))))), ((t_6_r 3), .inr (4, oX4 t_6_3_q t_6_3_x0 t_6_3_x1 t_6_3_x2)), ((t_6_1_q 3), .inl (K 3, 60, .inr (.inl (fun j => lI (t_6_1_3_c j))))), ((t_6_3_q 3), .inl (K 3, 60, .inr (.inl (fun j => lI (t_6_3_3_c j)))))]) hK hP hD hS hA [2] [0, 1, 3, 4, 5] rfl rfl (by decide) (fun hp => va_runVN (C := RX4) (As := [.int (iI p2), .int (iI p5)]) (rest := []) ⟨hx, hb, hml, hown, hts⟩ (k_X4_spans (l := l) (D := D) (K := K) (t := (t_6_r 1)) (p1 := p2) (p2 := p5) (t_q := t_6_1_q) (t_x0 := t_6_1_x0) (t_x1 := t_6_1_x1) (t_x2 := t_6_1_x2) (hp1 := (by omega)) (hp2 := (by omega)) (hi_t := hi_t_6_1) _) ⟨va_cnB (own := RX11) 2 hts (fn_gin wd_1226) rfl rfl rfl (hK.nw 155 rfl) (hts _ wd_12) (by decide +kernel) ⟨Nat.le_of_ble_eq_true rfl, Nat.le_of_ble_eq_true rfl⟩, hts _ wd_1225, hts _ wp_93⟩ ⟨fn_blind, va_recv hK.1 hP (ci := 4) (q0 := 2) rfl rfl, hp⟩ rfl rfl hl.1 rfl (lv_room (Nat.le_of_ble_eq_true rfl)) dX11_paste_73 ⟨Nat.le_of_ble_eq_true rfl, Nat.le_of_ble_eq_true rfl⟩) (fun r73 u73 H locs hwu73 hP hD hS => ?_)
            obtain ⟨u73a, u73b⟩ := u73
            obtain ⟨kr73, rfl, hkr73, hqu730, -⟩ := hwu73
            have hqu73 : (kr73 = 1 → 0 ≤ p2 ∧ 0 ≤ p5 ∧ p2 + p5 ≤ t_6_1_x2 ∧ p2 + p5 ≤ 60) := hqu730
            clear hqu730
            have hP : va_P D vwCl [(t, .inr (11, oX11 t_q)), ((t_q 6), .inl (K 6, 4, .inr (.inr (.inr (.inr t_6_c))))), ((t_6_r 3), .inr (4, oX4 t_6_3_q t_6_3_x0 t_6_3_x1 t_6_3_x2)), ((t_6_1_q 3), .inl (K 3, 60, .inr (.inl (fun j => lI (t_6_1_3_c j))))), ((t_6_3_q 3), .inl (K 3, 60, .inr (.inl (fun j => lI (t_6_3_3_c j))))), ((t_6_r 1), .inr (4, oX4 t_6_1_q t_6_1_x0 t_6_1_x1 t_6_1_x2))] H := hP
            have hD : va_D A [(t, .inr (11, oX11 t_q)), ((t_q 6), .inl (K 6, 4, .inr (.inr (.inr (.inr t_6_c))))), ((t_6_r 3), .inr (4, oX4 t_6_3_q t_6_3_x0 t_6_3_x1 t_6_3_x2)), ((t_6_1_q 3), .inl (K 3, 60, .inr (.inl (fun j => lI (t_6_1_3_c j))))), ((t_6_3_q 3), .inl (K 3, 60, .inr (.inl (fun j => lI (t_6_3_3_c j))))), ((t_6_r 1), .inr (4, oX4 t_6_1_q t_6_1_x0 t_6_1_x1 t_6_1_x2))] := hD
            refine g_if_eq (tgt := 91) hx hb (by omega) dX11_paste_76 (by decide) (fun c76 => ?_) (fun c76 => ?_)
            · refine lv_bipush (v := iI (-7)) hx hb dX11_paste_91 (by decide) ?_
              rw [hQ]; exact fn_iret hx hb hr hlocks rfl hP hD hS ((fun _ => 0), (fun k => ([t_6_3_3_c] : List (Nat → Int)).getD k (fun _ => 0))) ⟨(-7), rfl, by omega, (hc_t_6_3_3), trivial⟩ [0, 1, 5, 2, 3, 4] (by decide) rfl dX11_paste_93
            · refine lv_aload hx hb dX11_paste_79 (lv_at hl 0 rfl) ?_
              refine lv_iload hx hb dX11_paste_81 (lv_at hl 6 rfl) ?_
              refine lv_iload hx hb dX11_paste_83 (lv_at hl 7 rfl) ?_
              refine fn_goi (wc := [((t_6_r 3), .inr (4, oX4 t_6_3_q t_6_3_x0 t_6_3_x1 t_6_3_x2))]) (wr := [(t, .inr (11, oX11 t_q)), ((t_q 6), .inl (K 6, 4, .inr (.inr (.inr (.inr t_6_c))))), ((t_6_1_q 3), .inl (K 3, 60, .inr (.inl (fun j => lI (t_6_1_3_c j))))), ((t_6_3_q 3), .inl (K 3, 60, .inr (.inl (fun j => lI (t_6_3_3_c j))))), ((t_6_r 1), .inr (4, oX4 t_6_1_q t_6_1_x0 t_6_1_x1 t_6_1_x2))]) hK hP hD hS hA [2] [0, 1, 3, 4, 5] rfl rfl (by decide) (fun hp => va_runVN (C := RX4) (As := [.int (iI p4), .int (iI p5)]) (rest := []) ⟨hx, hb, hml, hown, hts⟩ (k_X4_spans (l := l) (D := D) (K := K) (t := (t_6_r 3)) (p1 := p4) (p2 := p5) (t_q := t_6_3_q) (t_x0 := t_6_3_x0) (t_x1 := t_6_3_x1) (t_x2 := t_6_3_x2) (hp1 := (by omega)) (hp2 := (by omega)) (hi_t := hi_t_6_3) _) ⟨va_cnB (own := RX11) 2 hts (fn_gin wd_1226) rfl rfl rfl (hK.nw 155 rfl) (hts _ wd_12) (by decide +kernel) ⟨Nat.le_of_ble_eq_true rfl, Nat.le_of_ble_eq_true rfl⟩, hts _ wd_1225, hts _ wp_93⟩ ⟨fn_blind, va_recv hK.1 hP (ci := 4) (q0 := 2) rfl rfl, hp⟩ rfl rfl hl.1 rfl (lv_room (Nat.le_of_ble_eq_true rfl)) dX11_paste_85 ⟨Nat.le_of_ble_eq_true rfl, Nat.le_of_ble_eq_true rfl⟩) (fun r85 u85 H locs hwu85 hP hD hS => ?_)
              obtain ⟨u85a, u85b⟩ := u85
              obtain ⟨kr85, rfl, hkr85, hqu850, -⟩ := hwu85
              have hqu85 : (kr85 = 1 → 0 ≤ p4 ∧ 0 ≤ p5 ∧ p4 + p5 ≤ t_6_3_x2 ∧ p4 + p5 ≤ 60) := hqu850
              clear hqu850
              have hP : va_P D vwCl [(t, .inr (11, oX11 t_q)), ((t_q 6), .inl (K 6, 4, .inr (.inr (.inr (.inr t_6_c))))), ((t_6_1_q 3), .inl (K 3, 60, .inr (.inl (fun j => lI (t_6_1_3_c j))))), ((t_6_3_q 3), .inl (K 3, 60, .inr (.inl (fun j => lI (t_6_3_3_c j))))), ((t_6_r 1), .inr (4, oX4 t_6_1_q t_6_1_x0 t_6_1_x1 t_6_1_x2)), ((t_6_r 3), .inr (4, oX4 t_6_3_q t_6_3_x0 t_6_3_x1 t_6_3_x2))] H := hP
              have hD : va_D A [(t, .inr (11, oX11 t_q)), ((t_q 6), .inl (K 6, 4, .inr (.inr (.inr (.inr t_6_c))))), ((t_6_1_q 3), .inl (K 3, 60, .inr (.inl (fun j => lI (t_6_1_3_c j))))), ((t_6_3_q 3), .inl (K 3, 60, .inr (.inl (fun j => lI (t_6_3_3_c j))))), ((t_6_r 1), .inr (4, oX4 t_6_1_q t_6_1_x0 t_6_1_x1 t_6_1_x2)), ((t_6_r 3), .inr (4, oX4 t_6_3_q t_6_3_x0 t_6_3_x1 t_6_3_x2))] := hD
              refine g_if_ne (tgt := 94) hx hb (by omega) dX11_paste_88 (by decide) (fun c88 => ?_) (fun c88 => ?_)
              · refine lv_aload hx hb dX11_paste_94 (lv_at hl 1 rfl) ?_
                refine va_getN (D := D) (own := RX11) (ci := 4) (v := .ref (t_6_1_q 3)) (C := RX4) (T := TX4) (N := 4) hx hb hts inb_X4 hown hK.1 hP 4 rfl rfl 3 (by decide) (hK.nf 92 rfl) (fun _ h9 => h9) rfl dX11_paste_96 ?_
                refine fn_at 99 rfl ?_
                refine lv_iload_n hx hb dX11_paste_99 rfl (lv_at hl 4 rfl) ?_
                refine lv_aload hx hb dX11_paste_100 (lv_at hl 0 rfl) ?_
                refine va_getN (D := D) (own := RX11) (ci := 4) (v := .ref (t_6_3_q 3)) (C := RX4) (T := TX4) (N := 4) hx hb hts inb_X4 hown hK.1 hP 5 rfl rfl 3 (by decide) (hK.nf 92 rfl) (fun _ h9 => h9) rfl dX11_paste_102 ?_
                refine lv_iload hx hb dX11_paste_105 (lv_at hl 6 rfl) ?_
                refine lv_iload hx hb dX11_paste_107 (lv_at hl 7 rfl) ?_
                refine g_cpyl (own := RX11) hx hb (hml.trans hl.1.symm) hown (hts _ wd_1227) (hts _ wd_622) (hts _ wd_621) (hts _ wd_19) hK.1 hP hD hS 2 3 3 3 rfl rfl rfl rfl (by omega) (by omega) (by omega) (Nat.le_of_ble_eq_true rfl) (Nat.le_of_ble_eq_true rfl) dX11_paste_109 (fun H locs g109 eg109 hP hD hS => ?_)
                have hg109 : ∀ j : Nat, (-9223372036854775808) ≤ g109 j ∧ g109 j ≤ 9223372036854775807 := by rw [eg109]; exact cI_all hc_t_6_1_3 hc_t_6_3_3
                have hP : va_P D vwCl [(t, .inr (11, oX11 t_q)), ((t_q 6), .inl (K 6, 4, .inr (.inr (.inr (.inr t_6_c))))), ((t_6_1_q 3), .inl (K 3, 60, .inr (.inl (fun j => lI (t_6_1_3_c j))))), ((t_6_3_q 3), .inl (K 3, 60, .inr (.inl (fun j => lI (g109 j))))), ((t_6_r 1), .inr (4, oX4 t_6_1_q t_6_1_x0 t_6_1_x1 t_6_1_x2)), ((t_6_r 3), .inr (4, oX4 t_6_3_q t_6_3_x0 t_6_3_x1 t_6_3_x2))] H := hP
                have hD : va_D A [(t, .inr (11, oX11 t_q)), ((t_q 6), .inl (K 6, 4, .inr (.inr (.inr (.inr t_6_c))))), ((t_6_1_q 3), .inl (K 3, 60, .inr (.inl (fun j => lI (t_6_1_3_c j))))), ((t_6_3_q 3), .inl (K 3, 60, .inr (.inl (fun j => lI (g109 j))))), ((t_6_r 1), .inr (4, oX4 t_6_1_q t_6_1_x0 t_6_1_x1 t_6_1_x2)), ((t_6_r 3), .inr (4, oX4 t_6_3_q t_6_3_x0 t_6_3_x1 t_6_3_x2))] := hD
                refine lv_iconst (v := iI 0) hx hb dX11_paste_112 rfl ?_
                rw [hQ]; exact fn_iret hx hb hr hlocks rfl hP hD hS ((fun _ => 0), (fun k => ([g109] : List (Nat → Int)).getD k (fun _ => 0))) ⟨0, rfl, by omega, (hg109), trivial⟩ [0, 1, 4, 5, 2, 3] (by decide) rfl dX11_paste_113
              · refine lv_bipush (v := iI (-7)) hx hb dX11_paste_91 (by decide) ?_
                rw [hQ]; exact fn_iret hx hb hr hlocks rfl hP hD hS ((fun _ => 0), (fun k => ([t_6_3_3_c] : List (Nat → Int)).getD k (fun _ => 0))) ⟨(-7), rfl, by omega, (hc_t_6_3_3), trivial⟩ [0, 1, 4, 5, 2, 3] (by decide) rfl dX11_paste_93
          · refine lv_bipush (v := iI (-8)) hx hb dX11_paste_65 (by decide) ?_
            rw [hQ]; exact fn_iret hx hb hr hlocks rfl hP hD hS ((fun _ => 0), (fun k => ([t_6_3_3_c] : List (Nat → Int)).getD k (fun _ => 0))) ⟨(-8), rfl, by omega, (hc_t_6_3_3), trivial⟩ [0, 1, 2, 3, 4, 5] (by decide) rfl dX11_paste_67
        · refine lv_bipush (v := iI (-6)) hx hb dX11_paste_49 (by decide) ?_
          rw [hQ]; exact fn_iret hx hb hr hlocks rfl hP hD hS ((fun _ => 0), (fun k => ([t_6_3_3_c] : List (Nat → Int)).getD k (fun _ => 0))) ⟨(-6), rfl, by omega, (hc_t_6_3_3), trivial⟩ [0, 1, 2, 3, 4, 5] (by decide) rfl dX11_paste_51
    · refine lv_bipush (v := iI (-2)) hx hb dX11_paste_14 (by decide) ?_
      rw [hQ]; exact fn_iret hx hb hr hlocks rfl hP hD hS ((fun _ => 0), (fun k => ([t_6_3_3_c] : List (Nat → Int)).getD k (fun _ => 0))) ⟨(-2), rfl, by omega, (hc_t_6_3_3), trivial⟩ [0, 1, 2, 3, 4, 5] (by decide) rfl dX11_paste_16
set_option maxHeartbeats 4000000 in
set_option maxRecDepth 100000 in
theorem k_X11_paste_20 (l : Launch) (D : va_G) (K : Nat → ClassId) (t : Nat) (t_q t_6_r t_6_2_q t_6_0_q : Nat → Nat) (p2 p4 p5 t_6_2_x0 t_6_2_x1 t_6_2_x2 t_6_0_x0 t_6_0_x1 t_6_0_x2 : Int) (t_6_c : Nat → Option Nat) (t_6_2_3_c : Nat → Int) (t_6_0_3_c : Nat → Int) (hp2 : (-2147483648) ≤ p2 ∧ p2 ≤ 2147483647) (hp4 : (-2147483648) ≤ p4 ∧ p4 ≤ 2147483647) (hp5 : (-2147483648) ≤ p5 ∧ p5 ≤ 2147483647) (hr_t_6 : ∀ j : Nat, j < 4 → t_6_c j = some (t_6_r j)) (hi_t_6_2 : bX4 t_6_2_x0 t_6_2_x1 t_6_2_x2) (hi_t_6_0 : bX4 t_6_0_x0 t_6_0_x1 t_6_0_x2) (hc_t_6_2_3 : ∀ j : Nat, (-9223372036854775808) ≤ t_6_2_3_c j ∧ t_6_2_3_c j ≤ 9223372036854775807) (hc_t_6_0_3 : ∀ j : Nat, (-9223372036854775808) ≤ t_6_0_3_c j ∧ t_6_0_3_c j ≤ 9223372036854775807) : fn_CI (S := (Nat → Int) × (Nat → Nat → Int)) l D K yX11_paste (fn_ws yX11_paste cX11_paste 8 (some .int)) ({ frames := 8, cells := 0, slots := 0, locals := 200 } : Room) [.ref t, .int (iI 2), .int (iI p2), .int (iI 0), .int (iI p4), .int (iI p5)] [(t, .inr (11, oX11 t_q)), ((t_q 6), .inl (K 6, 4, .inr (.inr (.inr (.inr t_6_c))))), ((t_6_r 2), .inr (4, oX4 t_6_2_q t_6_2_x0 t_6_2_x1 t_6_2_x2)), ((t_6_r 0), .inr (4, oX4 t_6_0_q t_6_0_x0 t_6_0_x1 t_6_0_x2)), ((t_6_2_q 3), .inl (K 3, 60, .inr (.inl (fun j => lI (t_6_2_3_c j))))), ((t_6_0_q 3), .inl (K 3, 60, .inr (.inl (fun j => lI (t_6_0_3_c j)))))] (fun r u => ∃ k : Int, r = iI k ∧ ((-8) ≤ k ∧ k ≤ 0) ∧ (∀ j : Nat, (-9223372036854775808) ≤ (u.2 0) j ∧ (u.2 0) j ≤ 9223372036854775807) ∧ True) (fun u => [(t, .inr (11, oX11 t_q)), ((t_q 6), .inl (K 6, 4, .inr (.inr (.inr (.inr t_6_c))))), ((t_6_r 2), .inr (4, oX4 t_6_2_q t_6_2_x0 t_6_2_x1 t_6_2_x2)), ((t_6_r 0), .inr (4, oX4 t_6_0_q t_6_0_x0 t_6_0_x1 t_6_0_x2)), ((t_6_2_q 3), .inl (K 3, 60, .inr (.inl (fun j => lI (t_6_2_3_c j))))), ((t_6_0_q 3), .inl (K 3, 60, .inr (.inl (fun j => lI ((u.2 0) j)))))]) 0 0 := by
  refine g_inI (cc := cX11_paste) (maxL := 8) (ret := (some .int)) (by decide) rfl (Nat.le_of_ble_eq_true rfl) ?_
  intro p e s m below meth c A ls ag Q B hA hP hD hS hl hQ
  obtain ⟨hx, hb, hr, hml, hts, hown, hlocks, hin, hK⟩ := B
  have hown : s.vm.findClass RX11 = some m.cls := hown
  have hts := fun w h => hts w (List.mem_cons_of_mem _ h)
  have hl : lv_has ls 8 [(0, .ref t), (1, .int (iI 2)), (2, .int (iI p2)), (3, .int (iI 0)), (4, .int (iI p4)), (5, .int (iI p5))] := hl
  refine lv_iload_n hx hb dX11_paste_0 rfl (lv_at hl 1 rfl) ?_
  refine fn_goi (wc := []) (wr := [(t, .inr (11, oX11 t_q)), ((t_q 6), .inl (K 6, 4, .inr (.inr (.inr (.inr t_6_c))))), ((t_6_r 2), .inr (4, oX4 t_6_2_q t_6_2_x0 t_6_2_x1 t_6_2_x2)), ((t_6_r 0), .inr (4, oX4 t_6_0_q t_6_0_x0 t_6_0_x1 t_6_0_x2)), ((t_6_2_q 3), .inl (K 3, 60, .inr (.inl (fun j => lI (t_6_2_3_c j))))), ((t_6_0_q 3), .inl (K 3, 60, .inr (.inl (fun j => lI (t_6_0_3_c j)))))]) hK hP hD hS hA [] [0, 1, 2, 3, 4, 5] rfl rfl (by decide) (fun hp => va_runS (As := [.int (iI 2)]) (rest := []) ⟨hx, hb, hml, hown, hts⟩ (k_X11_noSlot (l := l) (D := D) (K := K) (p1 := 2) (hp1 := (by omega)) _) (va_cwS 1 hts (fn_ginS (fn_gin wd_963) wd_961 wd_962 wd_1) rfl rfl rfl (by decide +kernel) ⟨Nat.le_of_ble_eq_true rfl, Nat.le_of_ble_eq_true rfl⟩) ⟨fn_blind, hp⟩ rfl rfl hl.1 rfl (lv_room (Nat.le_of_ble_eq_true rfl)) dX11_paste_1 ⟨Nat.le_of_ble_eq_true rfl, Nat.le_of_ble_eq_true rfl⟩) (fun r1 u1 H locs hwu1 hP hD hS => ?_)
  obtain ⟨u1a, u1b⟩ := u1
  obtain ⟨kr1, rfl, hkr1, hqu10, -⟩ := hwu1
  have hqu1 : (kr1 = 0 → 0 ≤ (2 : Int) ∧ (2 : Int) ≤ 3) ∧ (kr1 = 1 → (2 : Int) < 0 ∨ 3 < (2 : Int)) := hqu10
  clear hqu10
  have hP : va_P D vwCl [(t, .inr (11, oX11 t_q)), ((t_q 6), .inl (K 6, 4, .inr (.inr (.inr (.inr t_6_c))))), ((t_6_r 2), .inr (4, oX4 t_6_2_q t_6_2_x0 t_6_2_x1 t_6_2_x2)), ((t_6_r 0), .inr (4, oX4 t_6_0_q t_6_0_x0 t_6_0_x1 t_6_0_x2)), ((t_6_2_q 3), .inl (K 3, 60, .inr (.inl (fun j => lI (t_6_2_3_c j))))), ((t_6_0_q 3), .inl (K 3, 60, .inr (.inl (fun j => lI (t_6_0_3_c j)))))] H := hP
  have hD : va_D A [(t, .inr (11, oX11 t_q)), ((t_q 6), .inl (K 6, 4, .inr (.inr (.inr (.inr t_6_c))))), ((t_6_r 2), .inr (4, oX4 t_6_2_q t_6_2_x0 t_6_2_x1 t_6_2_x2)), ((t_6_r 0), .inr (4, oX4 t_6_0_q t_6_0_x0 t_6_0_x1 t_6_0_x2)), ((t_6_2_q 3), .inl (K 3, 60, .inr (.inl (fun j => lI (t_6_2_3_c j))))), ((t_6_0_q 3), .inl (K 3, 60, .inr (.inl (fun j => lI (t_6_0_3_c j)))))] := hD
  refine g_if_ne (tgt := 14) hx hb (by omega) dX11_paste_4 (by decide) (fun c4 => ?_) (fun c4 => ?_)
  · refine lv_bipush (v := iI (-2)) hx hb dX11_paste_14 (by decide) ?_
    rw [hQ]; exact fn_iret hx hb hr hlocks rfl hP hD hS ((fun _ => 0), (fun k => ([t_6_0_3_c] : List (Nat → Int)).getD k (fun _ => 0))) ⟨(-2), rfl, by omega, (hc_t_6_0_3), trivial⟩ [0, 1, 2, 3, 4, 5] (by decide) rfl dX11_paste_16
  · refine lv_iload_n hx hb dX11_paste_7 rfl (lv_at hl 3 rfl) ?_
    refine fn_goi (wc := []) (wr := [(t, .inr (11, oX11 t_q)), ((t_q 6), .inl (K 6, 4, .inr (.inr (.inr (.inr t_6_c))))), ((t_6_r 2), .inr (4, oX4 t_6_2_q t_6_2_x0 t_6_2_x1 t_6_2_x2)), ((t_6_r 0), .inr (4, oX4 t_6_0_q t_6_0_x0 t_6_0_x1 t_6_0_x2)), ((t_6_2_q 3), .inl (K 3, 60, .inr (.inl (fun j => lI (t_6_2_3_c j))))), ((t_6_0_q 3), .inl (K 3, 60, .inr (.inl (fun j => lI (t_6_0_3_c j)))))]) hK hP hD hS hA [] [0, 1, 2, 3, 4, 5] rfl rfl (by decide) (fun hp => va_runS (As := [.int (iI 0)]) (rest := []) ⟨hx, hb, hml, hown, hts⟩ (k_X11_noSlot (l := l) (D := D) (K := K) (p1 := 0) (hp1 := (by omega)) _) (va_cwS 1 hts (fn_ginS (fn_gin wd_963) wd_961 wd_962 wd_1) rfl rfl rfl (by decide +kernel) ⟨Nat.le_of_ble_eq_true rfl, Nat.le_of_ble_eq_true rfl⟩) ⟨fn_blind, hp⟩ rfl rfl hl.1 rfl (lv_room (Nat.le_of_ble_eq_true rfl)) dX11_paste_8 ⟨Nat.le_of_ble_eq_true rfl, Nat.le_of_ble_eq_true rfl⟩) (fun r8 u8 H locs hwu8 hP hD hS => ?_)
    obtain ⟨u8a, u8b⟩ := u8
    obtain ⟨kr8, rfl, hkr8, hqu80, -⟩ := hwu8
    have hqu8 : (kr8 = 0 → 0 ≤ (0 : Int) ∧ (0 : Int) ≤ 3) ∧ (kr8 = 1 → (0 : Int) < 0 ∨ 3 < (0 : Int)) := hqu80
    clear hqu80
    have hP : va_P D vwCl [(t, .inr (11, oX11 t_q)), ((t_q 6), .inl (K 6, 4, .inr (.inr (.inr (.inr t_6_c))))), ((t_6_r 2), .inr (4, oX4 t_6_2_q t_6_2_x0 t_6_2_x1 t_6_2_x2)), ((t_6_r 0), .inr (4, oX4 t_6_0_q t_6_0_x0 t_6_0_x1 t_6_0_x2)), ((t_6_2_q 3), .inl (K 3, 60, .inr (.inl (fun j => lI (t_6_2_3_c j))))), ((t_6_0_q 3), .inl (K 3, 60, .inr (.inl (fun j => lI (t_6_0_3_c j)))))] H := hP
    have hD : va_D A [(t, .inr (11, oX11 t_q)), ((t_q 6), .inl (K 6, 4, .inr (.inr (.inr (.inr t_6_c))))), ((t_6_r 2), .inr (4, oX4 t_6_2_q t_6_2_x0 t_6_2_x1 t_6_2_x2)), ((t_6_r 0), .inr (4, oX4 t_6_0_q t_6_0_x0 t_6_0_x1 t_6_0_x2)), ((t_6_2_q 3), .inl (K 3, 60, .inr (.inl (fun j => lI (t_6_2_3_c j))))), ((t_6_0_q 3), .inl (K 3, 60, .inr (.inl (fun j => lI (t_6_0_3_c j)))))] := hD
    refine g_if_eq (tgt := 17) hx hb (by omega) dX11_paste_11 (by decide) (fun c11 => ?_) (fun c11 => ?_)
    · refine lv_aload_n hx hb dX11_paste_17 rfl (lv_at hl 0 rfl) ?_
      refine va_get (D := D) (own := RX11) (ci := 11) (v := .ref (t_q 6)) (C := RX11) (T := TX11) (N := 13) hx hb hts inb_X11 hown hK.1 hP 0 rfl rfl 6 (by decide) (hts _ wd_428) (fun _ h9 => h9) rfl dX11_paste_18 ?_
      refine lv_iload_n hx hb dX11_paste_21 rfl (lv_at hl 1 rfl) ?_
      refine va_aldq hx hb hK.1 hP 1 6 rfl rfl (iI_in (by decide) (by decide) (by decide)) dX11_paste_22 ?_
      refine fn_topv (.ref (t_6_r 2)) (by rw [iI_cl (by decide)]; exact congrArg va_rf (hr_t_6 2 (by decide))) ?_
      refine lv_astore (lv' := [(6, .ref (t_6_r 2)), (0, .ref t), (1, .int (iI 2)), (2, .int (iI p2)), (3, .int (iI 0)), (4, .int (iI p4)), (5, .int (iI p5))]) hx hb dX11_paste_23 hl (by decide) rfl (fun ls hl => ?_)
      refine lv_aload_n hx hb dX11_paste_25 rfl (lv_at hl 1 rfl) ?_
      refine va_get (D := D) (own := RX11) (ci := 11) (v := .ref (t_q 6)) (C := RX11) (T := TX11) (N := 13) hx hb hts inb_X11 hown hK.1 hP 0 rfl rfl 6 (by decide) (hts _ wd_428) (fun _ h9 => h9) rfl dX11_paste_26 ?_
      refine lv_iload_n hx hb dX11_paste_29 rfl (lv_at hl 4 rfl) ?_
      refine va_aldq hx hb hK.1 hP 1 6 rfl rfl (iI_in (by decide) (by decide) (by decide)) dX11_paste_30 ?_
      refine fn_topv (.ref (t_6_r 0)) (by rw [iI_cl (by decide)]; exact congrArg va_rf (hr_t_6 0 (by decide))) ?_
      refine lv_astore (lv' := [(7, .ref (t_6_r 0)), (6, .ref (t_6_r 2)), (0, .ref t), (1, .int (iI 2)), (2, .int (iI p2)), (3, .int (iI 0)), (4, .int (iI p4)), (5, .int (iI p5))]) hx hb dX11_paste_31 hl (by decide) rfl (fun ls hl => ?_)
      refine lv_aload hx hb dX11_paste_33 (lv_at hl 1 rfl) ?_
      refine va_getN (D := D) (own := RX11) (ci := 4) (v := .int (iI t_6_2_x0)) (C := RX4) (T := TX4) (N := 4) hx hb hts inb_X4 hown hK.1 hP 2 rfl rfl 0 (by decide) (hK.nf 89 rfl) (fun _ h9 => h9) rfl dX11_paste_35 ?_
      have y35_1 : 0 ≤ t_6_2_x0 ∧ t_6_2_x0 ≤ 1 := hi_t_6_2.1
      refine g_if_eq (tgt := 49) hx hb (by omega) dX11_paste_38 (by decide) (fun c38 => ?_) (fun c38 => ?_)
      · refine fn_at 49 rfl ?_
        refine lv_bipush (v := iI (-6)) hx hb dX11_paste_49 (by decide) ?_
        rw [hQ]; exact fn_iret hx hb hr hlocks rfl hP hD hS ((fun _ => 0), (fun k => ([t_6_0_3_c] : List (Nat → Int)).getD k (fun _ => 0))) ⟨(-6), rfl, by omega, (hc_t_6_0_3), trivial⟩ [0, 1, 2, 3, 4, 5] (by decide) rfl dX11_paste_51
      · refine fn_at 41 rfl ?_
        refine lv_aload hx hb dX11_paste_41 (lv_at hl 0 rfl) ?_
        refine va_getN (D := D) (own := RX11) (ci := 4) (v := .int (iI t_6_0_x0)) (C := RX4) (T := TX4) (N := 4) hx hb hts inb_X4 hown hK.1 hP 3 rfl rfl 0 (by decide) (hK.nf 89 rfl) (fun _ h9 => h9) rfl dX11_paste_43 ?_
        have y43_2 : 0 ≤ t_6_0_x0 ∧ t_6_0_x0 ≤ 1 := hi_t_6_0.1
        refine g_if_ne (tgt := 52) hx hb (by omega) dX11_paste_46 (by decide) (fun c46 => ?_) (fun c46 => ?_)
        · refine lv_aload hx hb dX11_paste_52 (lv_at hl 1 rfl) ?_
          refine va_getN (D := D) (own := RX11) (ci := 4) (v := .int (iI t_6_2_x1)) (C := RX4) (T := TX4) (N := 4) hx hb hts inb_X4 hown hK.1 hP 2 rfl rfl 1 (by decide) (hK.nf 90 rfl) (fun _ h9 => h9) rfl dX11_paste_54 ?_
          have y54_3 : 0 ≤ t_6_2_x1 ∧ t_6_2_x1 ≤ 3 := hi_t_6_2.2.1
          refine lv_aload hx hb dX11_paste_57 (lv_at hl 0 rfl) ?_
          refine va_getN (D := D) (own := RX11) (ci := 4) (v := .int (iI t_6_0_x1)) (C := RX4) (T := TX4) (N := 4) hx hb hts inb_X4 hown hK.1 hP 3 rfl rfl 1 (by decide) (hK.nf 90 rfl) (fun _ h9 => h9) rfl dX11_paste_59 ?_
          have y59_4 : 0 ≤ t_6_0_x1 ∧ t_6_0_x1 ≤ 3 := hi_t_6_0.2.1
          refine g_icmp_eq (tgt := 68) hx hb (by omega) (by omega) dX11_paste_62 (by decide) (fun c62 => ?_) (fun c62 => ?_)
          · refine lv_aload hx hb dX11_paste_68 (lv_at hl 1 rfl) ?_
            refine lv_iload_n hx hb dX11_paste_70 rfl (lv_at hl 4 rfl) ?_
            refine lv_iload hx hb dX11_paste_71 (lv_at hl 7 rfl) ?_
            refine fn_goi (wc := [((t_6_r 2), .inr (4, oX4 t_6_2_q t_6_2_x0 t_6_2_x1 t_6_2_x2))]) (wr := [(t, .inr (11, oX11 t_q)), ((t_q 6), .inl (K 6, 4, .inr (.inr (.inr (.inr t_6_c))))), ((t_6_r 0), .inr (4, oX4 t_6_0_q t_6_0_x0 t_6_0_x1 t_6_0_x2)), ((t_6_2_q 3), .inl (K 3, 60, .inr (.inl (fun j => lI (t_6_2_3_c j))))), ((t_6_0_q 3), .inl (K 3, 60, .inr (.inl (fun j => lI (t_6_0_3_c j)))))]) hK hP hD hS hA [2] [0, 1, 3, 4, 5] rfl rfl (by decide) (fun hp => va_runVN (C := RX4) (As := [.int (iI p2), .int (iI p5)]) (rest := []) ⟨hx, hb, hml, hown, hts⟩ (k_X4_spans (l := l) (D := D) (K := K) (t := (t_6_r 2)) (p1 := p2) (p2 := p5) (t_q := t_6_2_q) (t_x0 := t_6_2_x0) (t_x1 := t_6_2_x1) (t_x2 := t_6_2_x2) (hp1 := (by omega)) (hp2 := (by omega)) (hi_t := hi_t_6_2) _) ⟨va_cnB (own := RX11) 2 hts (fn_gin wd_1226) rfl rfl rfl (hK.nw 155 rfl) (hts _ wd_12) (by decide +kernel) ⟨Nat.le_of_ble_eq_true rfl, Nat.le_of_ble_eq_true rfl⟩, hts _ wd_1225, hts _ wp_93⟩ ⟨fn_blind, va_recv hK.1 hP (ci := 4) (q0 := 2) rfl rfl, hp⟩ rfl rfl hl.1 rfl (lv_room (Nat.le_of_ble_eq_true rfl)) dX11_paste_73 ⟨Nat.le_of_ble_eq_true rfl, Nat.le_of_ble_eq_true rfl⟩) (fun r73 u73 H locs hwu73 hP hD hS => ?_)
            obtain ⟨u73a, u73b⟩ := u73
            obtain ⟨kr73, rfl, hkr73, hqu730, -⟩ := hwu73
            have hqu73 : (kr73 = 1 → 0 ≤ p2 ∧ 0 ≤ p5 ∧ p2 + p5 ≤ t_6_2_x2 ∧ p2 + p5 ≤ 60) := hqu730
            clear hqu730
            have hP : va_P D vwCl [(t, .inr (11, oX11 t_q)), ((t_q 6), .inl (K 6, 4, .inr (.inr (.inr (.inr t_6_c))))), ((t_6_r 0), .inr (4, oX4 t_6_0_q t_6_0_x0 t_6_0_x1 t_6_0_x2)), ((t_6_2_q 3), .inl (K 3, 60, .inr (.inl (fun j => lI (t_6_2_3_c j))))), ((t_6_0_q 3), .inl (K 3, 60, .inr (.inl (fun j => lI (t_6_0_3_c j))))), ((t_6_r 2), .inr (4, oX4 t_6_2_q t_6_2_x0 t_6_2_x1 t_6_2_x2))] H := hP
            have hD : va_D A [(t, .inr (11, oX11 t_q)), ((t_q 6), .inl (K 6, 4, .inr (.inr (.inr (.inr t_6_c))))), ((t_6_r 0), .inr (4, oX4 t_6_0_q t_6_0_x0 t_6_0_x1 t_6_0_x2)), ((t_6_2_q 3), .inl (K 3, 60, .inr (.inl (fun j => lI (t_6_2_3_c j))))), ((t_6_0_q 3), .inl (K 3, 60, .inr (.inl (fun j => lI (t_6_0_3_c j))))), ((t_6_r 2), .inr (4, oX4 t_6_2_q t_6_2_x0 t_6_2_x1 t_6_2_x2))] := hD
            refine g_if_eq (tgt := 91) hx hb (by omega) dX11_paste_76 (by decide) (fun c76 => ?_) (fun c76 => ?_)
            · refine lv_bipush (v := iI (-7)) hx hb dX11_paste_91 (by decide) ?_
              rw [hQ]; exact fn_iret hx hb hr hlocks rfl hP hD hS ((fun _ => 0), (fun k => ([t_6_0_3_c] : List (Nat → Int)).getD k (fun _ => 0))) ⟨(-7), rfl, by omega, (hc_t_6_0_3), trivial⟩ [0, 1, 5, 2, 3, 4] (by decide) rfl dX11_paste_93
            · refine lv_aload hx hb dX11_paste_79 (lv_at hl 0 rfl) ?_
              refine lv_iload hx hb dX11_paste_81 (lv_at hl 6 rfl) ?_
              refine lv_iload hx hb dX11_paste_83 (lv_at hl 7 rfl) ?_
              refine fn_goi (wc := [((t_6_r 0), .inr (4, oX4 t_6_0_q t_6_0_x0 t_6_0_x1 t_6_0_x2))]) (wr := [(t, .inr (11, oX11 t_q)), ((t_q 6), .inl (K 6, 4, .inr (.inr (.inr (.inr t_6_c))))), ((t_6_2_q 3), .inl (K 3, 60, .inr (.inl (fun j => lI (t_6_2_3_c j))))), ((t_6_0_q 3), .inl (K 3, 60, .inr (.inl (fun j => lI (t_6_0_3_c j))))), ((t_6_r 2), .inr (4, oX4 t_6_2_q t_6_2_x0 t_6_2_x1 t_6_2_x2))]) hK hP hD hS hA [2] [0, 1, 3, 4, 5] rfl rfl (by decide) (fun hp => va_runVN (C := RX4) (As := [.int (iI p4), .int (iI p5)]) (rest := []) ⟨hx, hb, hml, hown, hts⟩ (k_X4_spans (l := l) (D := D) (K := K) (t := (t_6_r 0)) (p1 := p4) (p2 := p5) (t_q := t_6_0_q) (t_x0 := t_6_0_x0) (t_x1 := t_6_0_x1) (t_x2 := t_6_0_x2) (hp1 := (by omega)) (hp2 := (by omega)) (hi_t := hi_t_6_0) _) ⟨va_cnB (own := RX11) 2 hts (fn_gin wd_1226) rfl rfl rfl (hK.nw 155 rfl) (hts _ wd_12) (by decide +kernel) ⟨Nat.le_of_ble_eq_true rfl, Nat.le_of_ble_eq_true rfl⟩, hts _ wd_1225, hts _ wp_93⟩ ⟨fn_blind, va_recv hK.1 hP (ci := 4) (q0 := 2) rfl rfl, hp⟩ rfl rfl hl.1 rfl (lv_room (Nat.le_of_ble_eq_true rfl)) dX11_paste_85 ⟨Nat.le_of_ble_eq_true rfl, Nat.le_of_ble_eq_true rfl⟩) (fun r85 u85 H locs hwu85 hP hD hS => ?_)
              obtain ⟨u85a, u85b⟩ := u85
              obtain ⟨kr85, rfl, hkr85, hqu850, -⟩ := hwu85
              have hqu85 : (kr85 = 1 → 0 ≤ p4 ∧ 0 ≤ p5 ∧ p4 + p5 ≤ t_6_0_x2 ∧ p4 + p5 ≤ 60) := hqu850
              clear hqu850
              have hP : va_P D vwCl [(t, .inr (11, oX11 t_q)), ((t_q 6), .inl (K 6, 4, .inr (.inr (.inr (.inr t_6_c))))), ((t_6_2_q 3), .inl (K 3, 60, .inr (.inl (fun j => lI (t_6_2_3_c j))))), ((t_6_0_q 3), .inl (K 3, 60, .inr (.inl (fun j => lI (t_6_0_3_c j))))), ((t_6_r 2), .inr (4, oX4 t_6_2_q t_6_2_x0 t_6_2_x1 t_6_2_x2)), ((t_6_r 0), .inr (4, oX4 t_6_0_q t_6_0_x0 t_6_0_x1 t_6_0_x2))] H := hP
              have hD : va_D A [(t, .inr (11, oX11 t_q)), ((t_q 6), .inl (K 6, 4, .inr (.inr (.inr (.inr t_6_c))))), ((t_6_2_q 3), .inl (K 3, 60, .inr (.inl (fun j => lI (t_6_2_3_c j))))), ((t_6_0_q 3), .inl (K 3, 60, .inr (.inl (fun j => lI (t_6_0_3_c j))))), ((t_6_r 2), .inr (4, oX4 t_6_2_q t_6_2_x0 t_6_2_x1 t_6_2_x2)), ((t_6_r 0), .inr (4, oX4 t_6_0_q t_6_0_x0 t_6_0_x1 t_6_0_x2))] := hD
              refine g_if_ne (tgt := 94) hx hb (by omega) dX11_paste_88 (by decide) (fun c88 => ?_) (fun c88 => ?_)
              · refine lv_aload hx hb dX11_paste_94 (lv_at hl 1 rfl) ?_
                refine va_getN (D := D) (own := RX11) (ci := 4) (v := .ref (t_6_2_q 3)) (C := RX4) (T := TX4) (N := 4) hx hb hts inb_X4 hown hK.1 hP 4 rfl rfl 3 (by decide) (hK.nf 92 rfl) (fun _ h9 => h9) rfl dX11_paste_96 ?_
                refine fn_at 99 rfl ?_
                refine lv_iload_n hx hb dX11_paste_99 rfl (lv_at hl 4 rfl) ?_
                refine lv_aload hx hb dX11_paste_100 (lv_at hl 0 rfl) ?_
                refine va_getN (D := D) (own := RX11) (ci := 4) (v := .ref (t_6_0_q 3)) (C := RX4) (T := TX4) (N := 4) hx hb hts inb_X4 hown hK.1 hP 5 rfl rfl 3 (by decide) (hK.nf 92 rfl) (fun _ h9 => h9) rfl dX11_paste_102 ?_
                refine lv_iload hx hb dX11_paste_105 (lv_at hl 6 rfl) ?_
                refine lv_iload hx hb dX11_paste_107 (lv_at hl 7 rfl) ?_
                refine g_cpyl (own := RX11) hx hb (hml.trans hl.1.symm) hown (hts _ wd_1227) (hts _ wd_622) (hts _ wd_621) (hts _ wd_19) hK.1 hP hD hS 2 3 3 3 rfl rfl rfl rfl (by omega) (by omega) (by omega) (Nat.le_of_ble_eq_true rfl) (Nat.le_of_ble_eq_true rfl) dX11_paste_109 (fun H locs g109 eg109 hP hD hS => ?_)
                have hg109 : ∀ j : Nat, (-9223372036854775808) ≤ g109 j ∧ g109 j ≤ 9223372036854775807 := by rw [eg109]; exact cI_all hc_t_6_2_3 hc_t_6_0_3
                have hP : va_P D vwCl [(t, .inr (11, oX11 t_q)), ((t_q 6), .inl (K 6, 4, .inr (.inr (.inr (.inr t_6_c))))), ((t_6_2_q 3), .inl (K 3, 60, .inr (.inl (fun j => lI (t_6_2_3_c j))))), ((t_6_0_q 3), .inl (K 3, 60, .inr (.inl (fun j => lI (g109 j))))), ((t_6_r 2), .inr (4, oX4 t_6_2_q t_6_2_x0 t_6_2_x1 t_6_2_x2)), ((t_6_r 0), .inr (4, oX4 t_6_0_q t_6_0_x0 t_6_0_x1 t_6_0_x2))] H := hP
                have hD : va_D A [(t, .inr (11, oX11 t_q)), ((t_q 6), .inl (K 6, 4, .inr (.inr (.inr (.inr t_6_c))))), ((t_6_2_q 3), .inl (K 3, 60, .inr (.inl (fun j => lI (t_6_2_3_c j))))), ((t_6_0_q 3), .inl (K 3, 60, .inr (.inl (fun j => lI (g109 j))))), ((t_6_r 2), .inr (4, oX4 t_6_2_q t_6_2_x0 t_6_2_x1 t_6_2_x2)), ((t_6_r 0), .inr (4, oX4 t_6_0_q t_6_0_x0 t_6_0_x1 t_6_0_x2))] := hD
                refine lv_iconst (v := iI 0) hx hb dX11_paste_112 rfl ?_
                rw [hQ]; exact fn_iret hx hb hr hlocks rfl hP hD hS ((fun _ => 0), (fun k => ([g109] : List (Nat → Int)).getD k (fun _ => 0))) ⟨0, rfl, by omega, (hg109), trivial⟩ [0, 1, 4, 5, 2, 3] (by decide) rfl dX11_paste_113
              · refine lv_bipush (v := iI (-7)) hx hb dX11_paste_91 (by decide) ?_
                rw [hQ]; exact fn_iret hx hb hr hlocks rfl hP hD hS ((fun _ => 0), (fun k => ([t_6_0_3_c] : List (Nat → Int)).getD k (fun _ => 0))) ⟨(-7), rfl, by omega, (hc_t_6_0_3), trivial⟩ [0, 1, 4, 5, 2, 3] (by decide) rfl dX11_paste_93
          · refine lv_bipush (v := iI (-8)) hx hb dX11_paste_65 (by decide) ?_
            rw [hQ]; exact fn_iret hx hb hr hlocks rfl hP hD hS ((fun _ => 0), (fun k => ([t_6_0_3_c] : List (Nat → Int)).getD k (fun _ => 0))) ⟨(-8), rfl, by omega, (hc_t_6_0_3), trivial⟩ [0, 1, 2, 3, 4, 5] (by decide) rfl dX11_paste_67
        · refine lv_bipush (v := iI (-6)) hx hb dX11_paste_49 (by decide) ?_
          rw [hQ]; exact fn_iret hx hb hr hlocks rfl hP hD hS ((fun _ => 0), (fun k => ([t_6_0_3_c] : List (Nat → Int)).getD k (fun _ => 0))) ⟨(-6), rfl, by omega, (hc_t_6_0_3), trivial⟩ [0, 1, 2, 3, 4, 5] (by decide) rfl dX11_paste_51
    · refine lv_bipush (v := iI (-2)) hx hb dX11_paste_14 (by decide) ?_
      rw [hQ]; exact fn_iret hx hb hr hlocks rfl hP hD hS ((fun _ => 0), (fun k => ([t_6_0_3_c] : List (Nat → Int)).getD k (fun _ => 0))) ⟨(-2), rfl, by omega, (hc_t_6_0_3), trivial⟩ [0, 1, 2, 3, 4, 5] (by decide) rfl dX11_paste_16
set_option maxHeartbeats 4000000 in
set_option maxRecDepth 100000 in
theorem k_X11_paste_21 (l : Launch) (D : va_G) (K : Nat → ClassId) (t : Nat) (t_q t_6_r t_6_2_q t_6_1_q : Nat → Nat) (p2 p4 p5 t_6_2_x0 t_6_2_x1 t_6_2_x2 t_6_1_x0 t_6_1_x1 t_6_1_x2 : Int) (t_6_c : Nat → Option Nat) (t_6_2_3_c : Nat → Int) (t_6_1_3_c : Nat → Int) (hp2 : (-2147483648) ≤ p2 ∧ p2 ≤ 2147483647) (hp4 : (-2147483648) ≤ p4 ∧ p4 ≤ 2147483647) (hp5 : (-2147483648) ≤ p5 ∧ p5 ≤ 2147483647) (hr_t_6 : ∀ j : Nat, j < 4 → t_6_c j = some (t_6_r j)) (hi_t_6_2 : bX4 t_6_2_x0 t_6_2_x1 t_6_2_x2) (hi_t_6_1 : bX4 t_6_1_x0 t_6_1_x1 t_6_1_x2) (hc_t_6_2_3 : ∀ j : Nat, (-9223372036854775808) ≤ t_6_2_3_c j ∧ t_6_2_3_c j ≤ 9223372036854775807) (hc_t_6_1_3 : ∀ j : Nat, (-9223372036854775808) ≤ t_6_1_3_c j ∧ t_6_1_3_c j ≤ 9223372036854775807) : fn_CI (S := (Nat → Int) × (Nat → Nat → Int)) l D K yX11_paste (fn_ws yX11_paste cX11_paste 8 (some .int)) ({ frames := 8, cells := 0, slots := 0, locals := 200 } : Room) [.ref t, .int (iI 2), .int (iI p2), .int (iI 1), .int (iI p4), .int (iI p5)] [(t, .inr (11, oX11 t_q)), ((t_q 6), .inl (K 6, 4, .inr (.inr (.inr (.inr t_6_c))))), ((t_6_r 2), .inr (4, oX4 t_6_2_q t_6_2_x0 t_6_2_x1 t_6_2_x2)), ((t_6_r 1), .inr (4, oX4 t_6_1_q t_6_1_x0 t_6_1_x1 t_6_1_x2)), ((t_6_2_q 3), .inl (K 3, 60, .inr (.inl (fun j => lI (t_6_2_3_c j))))), ((t_6_1_q 3), .inl (K 3, 60, .inr (.inl (fun j => lI (t_6_1_3_c j)))))] (fun r u => ∃ k : Int, r = iI k ∧ ((-8) ≤ k ∧ k ≤ 0) ∧ (∀ j : Nat, (-9223372036854775808) ≤ (u.2 0) j ∧ (u.2 0) j ≤ 9223372036854775807) ∧ True) (fun u => [(t, .inr (11, oX11 t_q)), ((t_q 6), .inl (K 6, 4, .inr (.inr (.inr (.inr t_6_c))))), ((t_6_r 2), .inr (4, oX4 t_6_2_q t_6_2_x0 t_6_2_x1 t_6_2_x2)), ((t_6_r 1), .inr (4, oX4 t_6_1_q t_6_1_x0 t_6_1_x1 t_6_1_x2)), ((t_6_2_q 3), .inl (K 3, 60, .inr (.inl (fun j => lI (t_6_2_3_c j))))), ((t_6_1_q 3), .inl (K 3, 60, .inr (.inl (fun j => lI ((u.2 0) j)))))]) 0 0 := by
  refine g_inI (cc := cX11_paste) (maxL := 8) (ret := (some .int)) (by decide) rfl (Nat.le_of_ble_eq_true rfl) ?_
  intro p e s m below meth c A ls ag Q B hA hP hD hS hl hQ
  obtain ⟨hx, hb, hr, hml, hts, hown, hlocks, hin, hK⟩ := B
  have hown : s.vm.findClass RX11 = some m.cls := hown
  have hts := fun w h => hts w (List.mem_cons_of_mem _ h)
  have hl : lv_has ls 8 [(0, .ref t), (1, .int (iI 2)), (2, .int (iI p2)), (3, .int (iI 1)), (4, .int (iI p4)), (5, .int (iI p5))] := hl
  refine lv_iload_n hx hb dX11_paste_0 rfl (lv_at hl 1 rfl) ?_
  refine fn_goi (wc := []) (wr := [(t, .inr (11, oX11 t_q)), ((t_q 6), .inl (K 6, 4, .inr (.inr (.inr (.inr t_6_c))))), ((t_6_r 2), .inr (4, oX4 t_6_2_q t_6_2_x0 t_6_2_x1 t_6_2_x2)), ((t_6_r 1), .inr (4, oX4 t_6_1_q t_6_1_x0 t_6_1_x1 t_6_1_x2)), ((t_6_2_q 3), .inl (K 3, 60, .inr (.inl (fun j => lI (t_6_2_3_c j))))), ((t_6_1_q 3), .inl (K 3, 60, .inr (.inl (fun j => lI (t_6_1_3_c j)))))]) hK hP hD hS hA [] [0, 1, 2, 3, 4, 5] rfl rfl (by decide) (fun hp => va_runS (As := [.int (iI 2)]) (rest := []) ⟨hx, hb, hml, hown, hts⟩ (k_X11_noSlot (l := l) (D := D) (K := K) (p1 := 2) (hp1 := (by omega)) _) (va_cwS 1 hts (fn_ginS (fn_gin wd_963) wd_961 wd_962 wd_1) rfl rfl rfl (by decide +kernel) ⟨Nat.le_of_ble_eq_true rfl, Nat.le_of_ble_eq_true rfl⟩) ⟨fn_blind, hp⟩ rfl rfl hl.1 rfl (lv_room (Nat.le_of_ble_eq_true rfl)) dX11_paste_1 ⟨Nat.le_of_ble_eq_true rfl, Nat.le_of_ble_eq_true rfl⟩) (fun r1 u1 H locs hwu1 hP hD hS => ?_)
  obtain ⟨u1a, u1b⟩ := u1
  obtain ⟨kr1, rfl, hkr1, hqu10, -⟩ := hwu1
  have hqu1 : (kr1 = 0 → 0 ≤ (2 : Int) ∧ (2 : Int) ≤ 3) ∧ (kr1 = 1 → (2 : Int) < 0 ∨ 3 < (2 : Int)) := hqu10
  clear hqu10
  have hP : va_P D vwCl [(t, .inr (11, oX11 t_q)), ((t_q 6), .inl (K 6, 4, .inr (.inr (.inr (.inr t_6_c))))), ((t_6_r 2), .inr (4, oX4 t_6_2_q t_6_2_x0 t_6_2_x1 t_6_2_x2)), ((t_6_r 1), .inr (4, oX4 t_6_1_q t_6_1_x0 t_6_1_x1 t_6_1_x2)), ((t_6_2_q 3), .inl (K 3, 60, .inr (.inl (fun j => lI (t_6_2_3_c j))))), ((t_6_1_q 3), .inl (K 3, 60, .inr (.inl (fun j => lI (t_6_1_3_c j)))))] H := hP
  have hD : va_D A [(t, .inr (11, oX11 t_q)), ((t_q 6), .inl (K 6, 4, .inr (.inr (.inr (.inr t_6_c))))), ((t_6_r 2), .inr (4, oX4 t_6_2_q t_6_2_x0 t_6_2_x1 t_6_2_x2)), ((t_6_r 1), .inr (4, oX4 t_6_1_q t_6_1_x0 t_6_1_x1 t_6_1_x2)), ((t_6_2_q 3), .inl (K 3, 60, .inr (.inl (fun j => lI (t_6_2_3_c j))))), ((t_6_1_q 3), .inl (K 3, 60, .inr (.inl (fun j => lI (t_6_1_3_c j)))))] := hD
  refine g_if_ne (tgt := 14) hx hb (by omega) dX11_paste_4 (by decide) (fun c4 => ?_) (fun c4 => ?_)
  · refine lv_bipush (v := iI (-2)) hx hb dX11_paste_14 (by decide) ?_
    rw [hQ]; exact fn_iret hx hb hr hlocks rfl hP hD hS ((fun _ => 0), (fun k => ([t_6_1_3_c] : List (Nat → Int)).getD k (fun _ => 0))) ⟨(-2), rfl, by omega, (hc_t_6_1_3), trivial⟩ [0, 1, 2, 3, 4, 5] (by decide) rfl dX11_paste_16
  · refine lv_iload_n hx hb dX11_paste_7 rfl (lv_at hl 3 rfl) ?_
    refine fn_goi (wc := []) (wr := [(t, .inr (11, oX11 t_q)), ((t_q 6), .inl (K 6, 4, .inr (.inr (.inr (.inr t_6_c))))), ((t_6_r 2), .inr (4, oX4 t_6_2_q t_6_2_x0 t_6_2_x1 t_6_2_x2)), ((t_6_r 1), .inr (4, oX4 t_6_1_q t_6_1_x0 t_6_1_x1 t_6_1_x2)), ((t_6_2_q 3), .inl (K 3, 60, .inr (.inl (fun j => lI (t_6_2_3_c j))))), ((t_6_1_q 3), .inl (K 3, 60, .inr (.inl (fun j => lI (t_6_1_3_c j)))))]) hK hP hD hS hA [] [0, 1, 2, 3, 4, 5] rfl rfl (by decide) (fun hp => va_runS (As := [.int (iI 1)]) (rest := []) ⟨hx, hb, hml, hown, hts⟩ (k_X11_noSlot (l := l) (D := D) (K := K) (p1 := 1) (hp1 := (by omega)) _) (va_cwS 1 hts (fn_ginS (fn_gin wd_963) wd_961 wd_962 wd_1) rfl rfl rfl (by decide +kernel) ⟨Nat.le_of_ble_eq_true rfl, Nat.le_of_ble_eq_true rfl⟩) ⟨fn_blind, hp⟩ rfl rfl hl.1 rfl (lv_room (Nat.le_of_ble_eq_true rfl)) dX11_paste_8 ⟨Nat.le_of_ble_eq_true rfl, Nat.le_of_ble_eq_true rfl⟩) (fun r8 u8 H locs hwu8 hP hD hS => ?_)
    obtain ⟨u8a, u8b⟩ := u8
    obtain ⟨kr8, rfl, hkr8, hqu80, -⟩ := hwu8
    have hqu8 : (kr8 = 0 → 0 ≤ (1 : Int) ∧ (1 : Int) ≤ 3) ∧ (kr8 = 1 → (1 : Int) < 0 ∨ 3 < (1 : Int)) := hqu80
    clear hqu80
    have hP : va_P D vwCl [(t, .inr (11, oX11 t_q)), ((t_q 6), .inl (K 6, 4, .inr (.inr (.inr (.inr t_6_c))))), ((t_6_r 2), .inr (4, oX4 t_6_2_q t_6_2_x0 t_6_2_x1 t_6_2_x2)), ((t_6_r 1), .inr (4, oX4 t_6_1_q t_6_1_x0 t_6_1_x1 t_6_1_x2)), ((t_6_2_q 3), .inl (K 3, 60, .inr (.inl (fun j => lI (t_6_2_3_c j))))), ((t_6_1_q 3), .inl (K 3, 60, .inr (.inl (fun j => lI (t_6_1_3_c j)))))] H := hP
    have hD : va_D A [(t, .inr (11, oX11 t_q)), ((t_q 6), .inl (K 6, 4, .inr (.inr (.inr (.inr t_6_c))))), ((t_6_r 2), .inr (4, oX4 t_6_2_q t_6_2_x0 t_6_2_x1 t_6_2_x2)), ((t_6_r 1), .inr (4, oX4 t_6_1_q t_6_1_x0 t_6_1_x1 t_6_1_x2)), ((t_6_2_q 3), .inl (K 3, 60, .inr (.inl (fun j => lI (t_6_2_3_c j))))), ((t_6_1_q 3), .inl (K 3, 60, .inr (.inl (fun j => lI (t_6_1_3_c j)))))] := hD
    refine g_if_eq (tgt := 17) hx hb (by omega) dX11_paste_11 (by decide) (fun c11 => ?_) (fun c11 => ?_)
    · refine lv_aload_n hx hb dX11_paste_17 rfl (lv_at hl 0 rfl) ?_
      refine va_get (D := D) (own := RX11) (ci := 11) (v := .ref (t_q 6)) (C := RX11) (T := TX11) (N := 13) hx hb hts inb_X11 hown hK.1 hP 0 rfl rfl 6 (by decide) (hts _ wd_428) (fun _ h9 => h9) rfl dX11_paste_18 ?_
      refine lv_iload_n hx hb dX11_paste_21 rfl (lv_at hl 1 rfl) ?_
      refine va_aldq hx hb hK.1 hP 1 6 rfl rfl (iI_in (by decide) (by decide) (by decide)) dX11_paste_22 ?_
      refine fn_topv (.ref (t_6_r 2)) (by rw [iI_cl (by decide)]; exact congrArg va_rf (hr_t_6 2 (by decide))) ?_
      refine lv_astore (lv' := [(6, .ref (t_6_r 2)), (0, .ref t), (1, .int (iI 2)), (2, .int (iI p2)), (3, .int (iI 1)), (4, .int (iI p4)), (5, .int (iI p5))]) hx hb dX11_paste_23 hl (by decide) rfl (fun ls hl => ?_)
      refine lv_aload_n hx hb dX11_paste_25 rfl (lv_at hl 1 rfl) ?_
      refine va_get (D := D) (own := RX11) (ci := 11) (v := .ref (t_q 6)) (C := RX11) (T := TX11) (N := 13) hx hb hts inb_X11 hown hK.1 hP 0 rfl rfl 6 (by decide) (hts _ wd_428) (fun _ h9 => h9) rfl dX11_paste_26 ?_
      refine lv_iload_n hx hb dX11_paste_29 rfl (lv_at hl 4 rfl) ?_
      refine va_aldq hx hb hK.1 hP 1 6 rfl rfl (iI_in (by decide) (by decide) (by decide)) dX11_paste_30 ?_
      refine fn_topv (.ref (t_6_r 1)) (by rw [iI_cl (by decide)]; exact congrArg va_rf (hr_t_6 1 (by decide))) ?_
      refine lv_astore (lv' := [(7, .ref (t_6_r 1)), (6, .ref (t_6_r 2)), (0, .ref t), (1, .int (iI 2)), (2, .int (iI p2)), (3, .int (iI 1)), (4, .int (iI p4)), (5, .int (iI p5))]) hx hb dX11_paste_31 hl (by decide) rfl (fun ls hl => ?_)
      refine lv_aload hx hb dX11_paste_33 (lv_at hl 1 rfl) ?_
      refine va_getN (D := D) (own := RX11) (ci := 4) (v := .int (iI t_6_2_x0)) (C := RX4) (T := TX4) (N := 4) hx hb hts inb_X4 hown hK.1 hP 2 rfl rfl 0 (by decide) (hK.nf 89 rfl) (fun _ h9 => h9) rfl dX11_paste_35 ?_
      have y35_1 : 0 ≤ t_6_2_x0 ∧ t_6_2_x0 ≤ 1 := hi_t_6_2.1
      refine g_if_eq (tgt := 49) hx hb (by omega) dX11_paste_38 (by decide) (fun c38 => ?_) (fun c38 => ?_)
      · refine fn_at 49 rfl ?_
        refine lv_bipush (v := iI (-6)) hx hb dX11_paste_49 (by decide) ?_
        rw [hQ]; exact fn_iret hx hb hr hlocks rfl hP hD hS ((fun _ => 0), (fun k => ([t_6_1_3_c] : List (Nat → Int)).getD k (fun _ => 0))) ⟨(-6), rfl, by omega, (hc_t_6_1_3), trivial⟩ [0, 1, 2, 3, 4, 5] (by decide) rfl dX11_paste_51
      · refine fn_at 41 rfl ?_
        refine lv_aload hx hb dX11_paste_41 (lv_at hl 0 rfl) ?_
        refine va_getN (D := D) (own := RX11) (ci := 4) (v := .int (iI t_6_1_x0)) (C := RX4) (T := TX4) (N := 4) hx hb hts inb_X4 hown hK.1 hP 3 rfl rfl 0 (by decide) (hK.nf 89 rfl) (fun _ h9 => h9) rfl dX11_paste_43 ?_
        have y43_2 : 0 ≤ t_6_1_x0 ∧ t_6_1_x0 ≤ 1 := hi_t_6_1.1
        refine g_if_ne (tgt := 52) hx hb (by omega) dX11_paste_46 (by decide) (fun c46 => ?_) (fun c46 => ?_)
        · refine lv_aload hx hb dX11_paste_52 (lv_at hl 1 rfl) ?_
          refine va_getN (D := D) (own := RX11) (ci := 4) (v := .int (iI t_6_2_x1)) (C := RX4) (T := TX4) (N := 4) hx hb hts inb_X4 hown hK.1 hP 2 rfl rfl 1 (by decide) (hK.nf 90 rfl) (fun _ h9 => h9) rfl dX11_paste_54 ?_
          have y54_3 : 0 ≤ t_6_2_x1 ∧ t_6_2_x1 ≤ 3 := hi_t_6_2.2.1
          refine lv_aload hx hb dX11_paste_57 (lv_at hl 0 rfl) ?_
          refine va_getN (D := D) (own := RX11) (ci := 4) (v := .int (iI t_6_1_x1)) (C := RX4) (T := TX4) (N := 4) hx hb hts inb_X4 hown hK.1 hP 3 rfl rfl 1 (by decide) (hK.nf 90 rfl) (fun _ h9 => h9) rfl dX11_paste_59 ?_
          have y59_4 : 0 ≤ t_6_1_x1 ∧ t_6_1_x1 ≤ 3 := hi_t_6_1.2.1
          refine g_icmp_eq (tgt := 68) hx hb (by omega) (by omega) dX11_paste_62 (by decide) (fun c62 => ?_) (fun c62 => ?_)
          · refine lv_aload hx hb dX11_paste_68 (lv_at hl 1 rfl) ?_
            refine lv_iload_n hx hb dX11_paste_70 rfl (lv_at hl 4 rfl) ?_
            refine lv_iload hx hb dX11_paste_71 (lv_at hl 7 rfl) ?_
            refine fn_goi (wc := [((t_6_r 2), .inr (4, oX4 t_6_2_q t_6_2_x0 t_6_2_x1 t_6_2_x2))]) (wr := [(t, .inr (11, oX11 t_q)), ((t_q 6), .inl (K 6, 4, .inr (.inr (.inr (.inr t_6_c))))), ((t_6_r 1), .inr (4, oX4 t_6_1_q t_6_1_x0 t_6_1_x1 t_6_1_x2)), ((t_6_2_q 3), .inl (K 3, 60, .inr (.inl (fun j => lI (t_6_2_3_c j))))), ((t_6_1_q 3), .inl (K 3, 60, .inr (.inl (fun j => lI (t_6_1_3_c j)))))]) hK hP hD hS hA [2] [0, 1, 3, 4, 5] rfl rfl (by decide) (fun hp => va_runVN (C := RX4) (As := [.int (iI p2), .int (iI p5)]) (rest := []) ⟨hx, hb, hml, hown, hts⟩ (k_X4_spans (l := l) (D := D) (K := K) (t := (t_6_r 2)) (p1 := p2) (p2 := p5) (t_q := t_6_2_q) (t_x0 := t_6_2_x0) (t_x1 := t_6_2_x1) (t_x2 := t_6_2_x2) (hp1 := (by omega)) (hp2 := (by omega)) (hi_t := hi_t_6_2) _) ⟨va_cnB (own := RX11) 2 hts (fn_gin wd_1226) rfl rfl rfl (hK.nw 155 rfl) (hts _ wd_12) (by decide +kernel) ⟨Nat.le_of_ble_eq_true rfl, Nat.le_of_ble_eq_true rfl⟩, hts _ wd_1225, hts _ wp_93⟩ ⟨fn_blind, va_recv hK.1 hP (ci := 4) (q0 := 2) rfl rfl, hp⟩ rfl rfl hl.1 rfl (lv_room (Nat.le_of_ble_eq_true rfl)) dX11_paste_73 ⟨Nat.le_of_ble_eq_true rfl, Nat.le_of_ble_eq_true rfl⟩) (fun r73 u73 H locs hwu73 hP hD hS => ?_)
            obtain ⟨u73a, u73b⟩ := u73
            obtain ⟨kr73, rfl, hkr73, hqu730, -⟩ := hwu73
            have hqu73 : (kr73 = 1 → 0 ≤ p2 ∧ 0 ≤ p5 ∧ p2 + p5 ≤ t_6_2_x2 ∧ p2 + p5 ≤ 60) := hqu730
            clear hqu730
            have hP : va_P D vwCl [(t, .inr (11, oX11 t_q)), ((t_q 6), .inl (K 6, 4, .inr (.inr (.inr (.inr t_6_c))))), ((t_6_r 1), .inr (4, oX4 t_6_1_q t_6_1_x0 t_6_1_x1 t_6_1_x2)), ((t_6_2_q 3), .inl (K 3, 60, .inr (.inl (fun j => lI (t_6_2_3_c j))))), ((t_6_1_q 3), .inl (K 3, 60, .inr (.inl (fun j => lI (t_6_1_3_c j))))), ((t_6_r 2), .inr (4, oX4 t_6_2_q t_6_2_x0 t_6_2_x1 t_6_2_x2))] H := hP
            have hD : va_D A [(t, .inr (11, oX11 t_q)), ((t_q 6), .inl (K 6, 4, .inr (.inr (.inr (.inr t_6_c))))), ((t_6_r 1), .inr (4, oX4 t_6_1_q t_6_1_x0 t_6_1_x1 t_6_1_x2)), ((t_6_2_q 3), .inl (K 3, 60, .inr (.inl (fun j => lI (t_6_2_3_c j))))), ((t_6_1_q 3), .inl (K 3, 60, .inr (.inl (fun j => lI (t_6_1_3_c j))))), ((t_6_r 2), .inr (4, oX4 t_6_2_q t_6_2_x0 t_6_2_x1 t_6_2_x2))] := hD
            refine g_if_eq (tgt := 91) hx hb (by omega) dX11_paste_76 (by decide) (fun c76 => ?_) (fun c76 => ?_)
            · refine lv_bipush (v := iI (-7)) hx hb dX11_paste_91 (by decide) ?_
              rw [hQ]; exact fn_iret hx hb hr hlocks rfl hP hD hS ((fun _ => 0), (fun k => ([t_6_1_3_c] : List (Nat → Int)).getD k (fun _ => 0))) ⟨(-7), rfl, by omega, (hc_t_6_1_3), trivial⟩ [0, 1, 5, 2, 3, 4] (by decide) rfl dX11_paste_93
            · refine lv_aload hx hb dX11_paste_79 (lv_at hl 0 rfl) ?_
              refine lv_iload hx hb dX11_paste_81 (lv_at hl 6 rfl) ?_
              refine lv_iload hx hb dX11_paste_83 (lv_at hl 7 rfl) ?_
              refine fn_goi (wc := [((t_6_r 1), .inr (4, oX4 t_6_1_q t_6_1_x0 t_6_1_x1 t_6_1_x2))]) (wr := [(t, .inr (11, oX11 t_q)), ((t_q 6), .inl (K 6, 4, .inr (.inr (.inr (.inr t_6_c))))), ((t_6_2_q 3), .inl (K 3, 60, .inr (.inl (fun j => lI (t_6_2_3_c j))))), ((t_6_1_q 3), .inl (K 3, 60, .inr (.inl (fun j => lI (t_6_1_3_c j))))), ((t_6_r 2), .inr (4, oX4 t_6_2_q t_6_2_x0 t_6_2_x1 t_6_2_x2))]) hK hP hD hS hA [2] [0, 1, 3, 4, 5] rfl rfl (by decide) (fun hp => va_runVN (C := RX4) (As := [.int (iI p4), .int (iI p5)]) (rest := []) ⟨hx, hb, hml, hown, hts⟩ (k_X4_spans (l := l) (D := D) (K := K) (t := (t_6_r 1)) (p1 := p4) (p2 := p5) (t_q := t_6_1_q) (t_x0 := t_6_1_x0) (t_x1 := t_6_1_x1) (t_x2 := t_6_1_x2) (hp1 := (by omega)) (hp2 := (by omega)) (hi_t := hi_t_6_1) _) ⟨va_cnB (own := RX11) 2 hts (fn_gin wd_1226) rfl rfl rfl (hK.nw 155 rfl) (hts _ wd_12) (by decide +kernel) ⟨Nat.le_of_ble_eq_true rfl, Nat.le_of_ble_eq_true rfl⟩, hts _ wd_1225, hts _ wp_93⟩ ⟨fn_blind, va_recv hK.1 hP (ci := 4) (q0 := 2) rfl rfl, hp⟩ rfl rfl hl.1 rfl (lv_room (Nat.le_of_ble_eq_true rfl)) dX11_paste_85 ⟨Nat.le_of_ble_eq_true rfl, Nat.le_of_ble_eq_true rfl⟩) (fun r85 u85 H locs hwu85 hP hD hS => ?_)
              obtain ⟨u85a, u85b⟩ := u85
              obtain ⟨kr85, rfl, hkr85, hqu850, -⟩ := hwu85
              have hqu85 : (kr85 = 1 → 0 ≤ p4 ∧ 0 ≤ p5 ∧ p4 + p5 ≤ t_6_1_x2 ∧ p4 + p5 ≤ 60) := hqu850
              clear hqu850
              have hP : va_P D vwCl [(t, .inr (11, oX11 t_q)), ((t_q 6), .inl (K 6, 4, .inr (.inr (.inr (.inr t_6_c))))), ((t_6_2_q 3), .inl (K 3, 60, .inr (.inl (fun j => lI (t_6_2_3_c j))))), ((t_6_1_q 3), .inl (K 3, 60, .inr (.inl (fun j => lI (t_6_1_3_c j))))), ((t_6_r 2), .inr (4, oX4 t_6_2_q t_6_2_x0 t_6_2_x1 t_6_2_x2)), ((t_6_r 1), .inr (4, oX4 t_6_1_q t_6_1_x0 t_6_1_x1 t_6_1_x2))] H := hP
              have hD : va_D A [(t, .inr (11, oX11 t_q)), ((t_q 6), .inl (K 6, 4, .inr (.inr (.inr (.inr t_6_c))))), ((t_6_2_q 3), .inl (K 3, 60, .inr (.inl (fun j => lI (t_6_2_3_c j))))), ((t_6_1_q 3), .inl (K 3, 60, .inr (.inl (fun j => lI (t_6_1_3_c j))))), ((t_6_r 2), .inr (4, oX4 t_6_2_q t_6_2_x0 t_6_2_x1 t_6_2_x2)), ((t_6_r 1), .inr (4, oX4 t_6_1_q t_6_1_x0 t_6_1_x1 t_6_1_x2))] := hD
              refine g_if_ne (tgt := 94) hx hb (by omega) dX11_paste_88 (by decide) (fun c88 => ?_) (fun c88 => ?_)
              · refine lv_aload hx hb dX11_paste_94 (lv_at hl 1 rfl) ?_
                refine va_getN (D := D) (own := RX11) (ci := 4) (v := .ref (t_6_2_q 3)) (C := RX4) (T := TX4) (N := 4) hx hb hts inb_X4 hown hK.1 hP 4 rfl rfl 3 (by decide) (hK.nf 92 rfl) (fun _ h9 => h9) rfl dX11_paste_96 ?_
                refine fn_at 99 rfl ?_
                refine lv_iload_n hx hb dX11_paste_99 rfl (lv_at hl 4 rfl) ?_
                refine lv_aload hx hb dX11_paste_100 (lv_at hl 0 rfl) ?_
                refine va_getN (D := D) (own := RX11) (ci := 4) (v := .ref (t_6_1_q 3)) (C := RX4) (T := TX4) (N := 4) hx hb hts inb_X4 hown hK.1 hP 5 rfl rfl 3 (by decide) (hK.nf 92 rfl) (fun _ h9 => h9) rfl dX11_paste_102 ?_
                refine lv_iload hx hb dX11_paste_105 (lv_at hl 6 rfl) ?_
                refine lv_iload hx hb dX11_paste_107 (lv_at hl 7 rfl) ?_
                refine g_cpyl (own := RX11) hx hb (hml.trans hl.1.symm) hown (hts _ wd_1227) (hts _ wd_622) (hts _ wd_621) (hts _ wd_19) hK.1 hP hD hS 2 3 3 3 rfl rfl rfl rfl (by omega) (by omega) (by omega) (Nat.le_of_ble_eq_true rfl) (Nat.le_of_ble_eq_true rfl) dX11_paste_109 (fun H locs g109 eg109 hP hD hS => ?_)
                have hg109 : ∀ j : Nat, (-9223372036854775808) ≤ g109 j ∧ g109 j ≤ 9223372036854775807 := by rw [eg109]; exact cI_all hc_t_6_2_3 hc_t_6_1_3
                have hP : va_P D vwCl [(t, .inr (11, oX11 t_q)), ((t_q 6), .inl (K 6, 4, .inr (.inr (.inr (.inr t_6_c))))), ((t_6_2_q 3), .inl (K 3, 60, .inr (.inl (fun j => lI (t_6_2_3_c j))))), ((t_6_1_q 3), .inl (K 3, 60, .inr (.inl (fun j => lI (g109 j))))), ((t_6_r 2), .inr (4, oX4 t_6_2_q t_6_2_x0 t_6_2_x1 t_6_2_x2)), ((t_6_r 1), .inr (4, oX4 t_6_1_q t_6_1_x0 t_6_1_x1 t_6_1_x2))] H := hP
                have hD : va_D A [(t, .inr (11, oX11 t_q)), ((t_q 6), .inl (K 6, 4, .inr (.inr (.inr (.inr t_6_c))))), ((t_6_2_q 3), .inl (K 3, 60, .inr (.inl (fun j => lI (t_6_2_3_c j))))), ((t_6_1_q 3), .inl (K 3, 60, .inr (.inl (fun j => lI (g109 j))))), ((t_6_r 2), .inr (4, oX4 t_6_2_q t_6_2_x0 t_6_2_x1 t_6_2_x2)), ((t_6_r 1), .inr (4, oX4 t_6_1_q t_6_1_x0 t_6_1_x1 t_6_1_x2))] := hD
                refine lv_iconst (v := iI 0) hx hb dX11_paste_112 rfl ?_
                rw [hQ]; exact fn_iret hx hb hr hlocks rfl hP hD hS ((fun _ => 0), (fun k => ([g109] : List (Nat → Int)).getD k (fun _ => 0))) ⟨0, rfl, by omega, (hg109), trivial⟩ [0, 1, 4, 5, 2, 3] (by decide) rfl dX11_paste_113
              · refine lv_bipush (v := iI (-7)) hx hb dX11_paste_91 (by decide) ?_
                rw [hQ]; exact fn_iret hx hb hr hlocks rfl hP hD hS ((fun _ => 0), (fun k => ([t_6_1_3_c] : List (Nat → Int)).getD k (fun _ => 0))) ⟨(-7), rfl, by omega, (hc_t_6_1_3), trivial⟩ [0, 1, 4, 5, 2, 3] (by decide) rfl dX11_paste_93
          · refine lv_bipush (v := iI (-8)) hx hb dX11_paste_65 (by decide) ?_
            rw [hQ]; exact fn_iret hx hb hr hlocks rfl hP hD hS ((fun _ => 0), (fun k => ([t_6_1_3_c] : List (Nat → Int)).getD k (fun _ => 0))) ⟨(-8), rfl, by omega, (hc_t_6_1_3), trivial⟩ [0, 1, 2, 3, 4, 5] (by decide) rfl dX11_paste_67
        · refine lv_bipush (v := iI (-6)) hx hb dX11_paste_49 (by decide) ?_
          rw [hQ]; exact fn_iret hx hb hr hlocks rfl hP hD hS ((fun _ => 0), (fun k => ([t_6_1_3_c] : List (Nat → Int)).getD k (fun _ => 0))) ⟨(-6), rfl, by omega, (hc_t_6_1_3), trivial⟩ [0, 1, 2, 3, 4, 5] (by decide) rfl dX11_paste_51
    · refine lv_bipush (v := iI (-2)) hx hb dX11_paste_14 (by decide) ?_
      rw [hQ]; exact fn_iret hx hb hr hlocks rfl hP hD hS ((fun _ => 0), (fun k => ([t_6_1_3_c] : List (Nat → Int)).getD k (fun _ => 0))) ⟨(-2), rfl, by omega, (hc_t_6_1_3), trivial⟩ [0, 1, 2, 3, 4, 5] (by decide) rfl dX11_paste_16
set_option maxHeartbeats 4000000 in
set_option maxRecDepth 100000 in
theorem k_X11_paste_22 (l : Launch) (D : va_G) (K : Nat → ClassId) (t : Nat) (t_q t_6_r t_6_2_q : Nat → Nat) (p2 p4 p5 t_6_2_x0 t_6_2_x1 t_6_2_x2 : Int) (t_6_c : Nat → Option Nat) (t_6_2_3_c : Nat → Int) (hp2 : (-2147483648) ≤ p2 ∧ p2 ≤ 2147483647) (hp4 : (-2147483648) ≤ p4 ∧ p4 ≤ 2147483647) (hp5 : (-2147483648) ≤ p5 ∧ p5 ≤ 2147483647) (hr_t_6 : ∀ j : Nat, j < 4 → t_6_c j = some (t_6_r j)) (hi_t_6_2 : bX4 t_6_2_x0 t_6_2_x1 t_6_2_x2) (hc_t_6_2_3 : ∀ j : Nat, (-9223372036854775808) ≤ t_6_2_3_c j ∧ t_6_2_3_c j ≤ 9223372036854775807) : fn_CI (S := (Nat → Int) × (Nat → Nat → Int)) l D K yX11_paste (fn_ws yX11_paste cX11_paste 8 (some .int)) ({ frames := 8, cells := 0, slots := 0, locals := 200 } : Room) [.ref t, .int (iI 2), .int (iI p2), .int (iI 2), .int (iI p4), .int (iI p5)] [(t, .inr (11, oX11 t_q)), ((t_q 6), .inl (K 6, 4, .inr (.inr (.inr (.inr t_6_c))))), ((t_6_r 2), .inr (4, oX4 t_6_2_q t_6_2_x0 t_6_2_x1 t_6_2_x2)), ((t_6_2_q 3), .inl (K 3, 60, .inr (.inl (fun j => lI (t_6_2_3_c j)))))] (fun r u => ∃ k : Int, r = iI k ∧ ((-8) ≤ k ∧ k ≤ 0) ∧ (∀ j : Nat, (-9223372036854775808) ≤ (u.2 0) j ∧ (u.2 0) j ≤ 9223372036854775807) ∧ True) (fun u => [(t, .inr (11, oX11 t_q)), ((t_q 6), .inl (K 6, 4, .inr (.inr (.inr (.inr t_6_c))))), ((t_6_r 2), .inr (4, oX4 t_6_2_q t_6_2_x0 t_6_2_x1 t_6_2_x2)), ((t_6_2_q 3), .inl (K 3, 60, .inr (.inl (fun j => lI ((u.2 0) j)))))]) 0 0 := by
  refine g_inI (cc := cX11_paste) (maxL := 8) (ret := (some .int)) (by decide) rfl (Nat.le_of_ble_eq_true rfl) ?_
  intro p e s m below meth c A ls ag Q B hA hP hD hS hl hQ
  obtain ⟨hx, hb, hr, hml, hts, hown, hlocks, hin, hK⟩ := B
  have hown : s.vm.findClass RX11 = some m.cls := hown
  have hts := fun w h => hts w (List.mem_cons_of_mem _ h)
  have hl : lv_has ls 8 [(0, .ref t), (1, .int (iI 2)), (2, .int (iI p2)), (3, .int (iI 2)), (4, .int (iI p4)), (5, .int (iI p5))] := hl
  refine lv_iload_n hx hb dX11_paste_0 rfl (lv_at hl 1 rfl) ?_
  refine fn_goi (wc := []) (wr := [(t, .inr (11, oX11 t_q)), ((t_q 6), .inl (K 6, 4, .inr (.inr (.inr (.inr t_6_c))))), ((t_6_r 2), .inr (4, oX4 t_6_2_q t_6_2_x0 t_6_2_x1 t_6_2_x2)), ((t_6_2_q 3), .inl (K 3, 60, .inr (.inl (fun j => lI (t_6_2_3_c j)))))]) hK hP hD hS hA [] [0, 1, 2, 3] rfl rfl (by decide) (fun hp => va_runS (As := [.int (iI 2)]) (rest := []) ⟨hx, hb, hml, hown, hts⟩ (k_X11_noSlot (l := l) (D := D) (K := K) (p1 := 2) (hp1 := (by omega)) _) (va_cwS 1 hts (fn_ginS (fn_gin wd_963) wd_961 wd_962 wd_1) rfl rfl rfl (by decide +kernel) ⟨Nat.le_of_ble_eq_true rfl, Nat.le_of_ble_eq_true rfl⟩) ⟨fn_blind, hp⟩ rfl rfl hl.1 rfl (lv_room (Nat.le_of_ble_eq_true rfl)) dX11_paste_1 ⟨Nat.le_of_ble_eq_true rfl, Nat.le_of_ble_eq_true rfl⟩) (fun r1 u1 H locs hwu1 hP hD hS => ?_)
  obtain ⟨u1a, u1b⟩ := u1
  obtain ⟨kr1, rfl, hkr1, hqu10, -⟩ := hwu1
  have hqu1 : (kr1 = 0 → 0 ≤ (2 : Int) ∧ (2 : Int) ≤ 3) ∧ (kr1 = 1 → (2 : Int) < 0 ∨ 3 < (2 : Int)) := hqu10
  clear hqu10
  have hP : va_P D vwCl [(t, .inr (11, oX11 t_q)), ((t_q 6), .inl (K 6, 4, .inr (.inr (.inr (.inr t_6_c))))), ((t_6_r 2), .inr (4, oX4 t_6_2_q t_6_2_x0 t_6_2_x1 t_6_2_x2)), ((t_6_2_q 3), .inl (K 3, 60, .inr (.inl (fun j => lI (t_6_2_3_c j)))))] H := hP
  have hD : va_D A [(t, .inr (11, oX11 t_q)), ((t_q 6), .inl (K 6, 4, .inr (.inr (.inr (.inr t_6_c))))), ((t_6_r 2), .inr (4, oX4 t_6_2_q t_6_2_x0 t_6_2_x1 t_6_2_x2)), ((t_6_2_q 3), .inl (K 3, 60, .inr (.inl (fun j => lI (t_6_2_3_c j)))))] := hD
  refine g_if_ne (tgt := 14) hx hb (by omega) dX11_paste_4 (by decide) (fun c4 => ?_) (fun c4 => ?_)
  · refine lv_bipush (v := iI (-2)) hx hb dX11_paste_14 (by decide) ?_
    rw [hQ]; exact fn_iret hx hb hr hlocks rfl hP hD hS ((fun _ => 0), (fun k => ([t_6_2_3_c] : List (Nat → Int)).getD k (fun _ => 0))) ⟨(-2), rfl, by omega, (hc_t_6_2_3), trivial⟩ [0, 1, 2, 3] (by decide) rfl dX11_paste_16
  · refine lv_iload_n hx hb dX11_paste_7 rfl (lv_at hl 3 rfl) ?_
    refine fn_goi (wc := []) (wr := [(t, .inr (11, oX11 t_q)), ((t_q 6), .inl (K 6, 4, .inr (.inr (.inr (.inr t_6_c))))), ((t_6_r 2), .inr (4, oX4 t_6_2_q t_6_2_x0 t_6_2_x1 t_6_2_x2)), ((t_6_2_q 3), .inl (K 3, 60, .inr (.inl (fun j => lI (t_6_2_3_c j)))))]) hK hP hD hS hA [] [0, 1, 2, 3] rfl rfl (by decide) (fun hp => va_runS (As := [.int (iI 2)]) (rest := []) ⟨hx, hb, hml, hown, hts⟩ (k_X11_noSlot (l := l) (D := D) (K := K) (p1 := 2) (hp1 := (by omega)) _) (va_cwS 1 hts (fn_ginS (fn_gin wd_963) wd_961 wd_962 wd_1) rfl rfl rfl (by decide +kernel) ⟨Nat.le_of_ble_eq_true rfl, Nat.le_of_ble_eq_true rfl⟩) ⟨fn_blind, hp⟩ rfl rfl hl.1 rfl (lv_room (Nat.le_of_ble_eq_true rfl)) dX11_paste_8 ⟨Nat.le_of_ble_eq_true rfl, Nat.le_of_ble_eq_true rfl⟩) (fun r8 u8 H locs hwu8 hP hD hS => ?_)
    obtain ⟨u8a, u8b⟩ := u8
    obtain ⟨kr8, rfl, hkr8, hqu80, -⟩ := hwu8
    have hqu8 : (kr8 = 0 → 0 ≤ (2 : Int) ∧ (2 : Int) ≤ 3) ∧ (kr8 = 1 → (2 : Int) < 0 ∨ 3 < (2 : Int)) := hqu80
    clear hqu80
    have hP : va_P D vwCl [(t, .inr (11, oX11 t_q)), ((t_q 6), .inl (K 6, 4, .inr (.inr (.inr (.inr t_6_c))))), ((t_6_r 2), .inr (4, oX4 t_6_2_q t_6_2_x0 t_6_2_x1 t_6_2_x2)), ((t_6_2_q 3), .inl (K 3, 60, .inr (.inl (fun j => lI (t_6_2_3_c j)))))] H := hP
    have hD : va_D A [(t, .inr (11, oX11 t_q)), ((t_q 6), .inl (K 6, 4, .inr (.inr (.inr (.inr t_6_c))))), ((t_6_r 2), .inr (4, oX4 t_6_2_q t_6_2_x0 t_6_2_x1 t_6_2_x2)), ((t_6_2_q 3), .inl (K 3, 60, .inr (.inl (fun j => lI (t_6_2_3_c j)))))] := hD
    refine g_if_eq (tgt := 17) hx hb (by omega) dX11_paste_11 (by decide) (fun c11 => ?_) (fun c11 => ?_)
    · refine lv_aload_n hx hb dX11_paste_17 rfl (lv_at hl 0 rfl) ?_
      refine va_get (D := D) (own := RX11) (ci := 11) (v := .ref (t_q 6)) (C := RX11) (T := TX11) (N := 13) hx hb hts inb_X11 hown hK.1 hP 0 rfl rfl 6 (by decide) (hts _ wd_428) (fun _ h9 => h9) rfl dX11_paste_18 ?_
      refine lv_iload_n hx hb dX11_paste_21 rfl (lv_at hl 1 rfl) ?_
      refine va_aldq hx hb hK.1 hP 1 6 rfl rfl (iI_in (by decide) (by decide) (by decide)) dX11_paste_22 ?_
      refine fn_topv (.ref (t_6_r 2)) (by rw [iI_cl (by decide)]; exact congrArg va_rf (hr_t_6 2 (by decide))) ?_
      refine lv_astore (lv' := [(6, .ref (t_6_r 2)), (0, .ref t), (1, .int (iI 2)), (2, .int (iI p2)), (3, .int (iI 2)), (4, .int (iI p4)), (5, .int (iI p5))]) hx hb dX11_paste_23 hl (by decide) rfl (fun ls hl => ?_)
      refine lv_aload_n hx hb dX11_paste_25 rfl (lv_at hl 1 rfl) ?_
      refine va_get (D := D) (own := RX11) (ci := 11) (v := .ref (t_q 6)) (C := RX11) (T := TX11) (N := 13) hx hb hts inb_X11 hown hK.1 hP 0 rfl rfl 6 (by decide) (hts _ wd_428) (fun _ h9 => h9) rfl dX11_paste_26 ?_
      refine lv_iload_n hx hb dX11_paste_29 rfl (lv_at hl 4 rfl) ?_
      refine va_aldq hx hb hK.1 hP 1 6 rfl rfl (iI_in (by decide) (by decide) (by decide)) dX11_paste_30 ?_
      refine fn_topv (.ref (t_6_r 2)) (by rw [iI_cl (by decide)]; exact congrArg va_rf (hr_t_6 2 (by decide))) ?_
      refine lv_astore (lv' := [(7, .ref (t_6_r 2)), (6, .ref (t_6_r 2)), (0, .ref t), (1, .int (iI 2)), (2, .int (iI p2)), (3, .int (iI 2)), (4, .int (iI p4)), (5, .int (iI p5))]) hx hb dX11_paste_31 hl (by decide) rfl (fun ls hl => ?_)
      refine lv_aload hx hb dX11_paste_33 (lv_at hl 1 rfl) ?_
      refine va_getN (D := D) (own := RX11) (ci := 4) (v := .int (iI t_6_2_x0)) (C := RX4) (T := TX4) (N := 4) hx hb hts inb_X4 hown hK.1 hP 2 rfl rfl 0 (by decide) (hK.nf 89 rfl) (fun _ h9 => h9) rfl dX11_paste_35 ?_
      have y35_1 : 0 ≤ t_6_2_x0 ∧ t_6_2_x0 ≤ 1 := hi_t_6_2.1
      refine g_if_eq (tgt := 49) hx hb (by omega) dX11_paste_38 (by decide) (fun c38 => ?_) (fun c38 => ?_)
      · refine fn_at 49 rfl ?_
        refine lv_bipush (v := iI (-6)) hx hb dX11_paste_49 (by decide) ?_
        rw [hQ]; exact fn_iret hx hb hr hlocks rfl hP hD hS ((fun _ => 0), (fun k => ([t_6_2_3_c] : List (Nat → Int)).getD k (fun _ => 0))) ⟨(-6), rfl, by omega, (hc_t_6_2_3), trivial⟩ [0, 1, 2, 3] (by decide) rfl dX11_paste_51
      · refine fn_at 41 rfl ?_
        refine lv_aload hx hb dX11_paste_41 (lv_at hl 0 rfl) ?_
        refine va_getN (D := D) (own := RX11) (ci := 4) (v := .int (iI t_6_2_x0)) (C := RX4) (T := TX4) (N := 4) hx hb hts inb_X4 hown hK.1 hP 2 rfl rfl 0 (by decide) (hK.nf 89 rfl) (fun _ h9 => h9) rfl dX11_paste_43 ?_
        refine g_if_ne (tgt := 52) hx hb (by omega) dX11_paste_46 (by decide) (fun c46 => ?_) (fun c46 => ?_)
        · refine lv_aload hx hb dX11_paste_52 (lv_at hl 1 rfl) ?_
          refine va_getN (D := D) (own := RX11) (ci := 4) (v := .int (iI t_6_2_x1)) (C := RX4) (T := TX4) (N := 4) hx hb hts inb_X4 hown hK.1 hP 2 rfl rfl 1 (by decide) (hK.nf 90 rfl) (fun _ h9 => h9) rfl dX11_paste_54 ?_
          have y54_2 : 0 ≤ t_6_2_x1 ∧ t_6_2_x1 ≤ 3 := hi_t_6_2.2.1
          refine lv_aload hx hb dX11_paste_57 (lv_at hl 0 rfl) ?_
          refine va_getN (D := D) (own := RX11) (ci := 4) (v := .int (iI t_6_2_x1)) (C := RX4) (T := TX4) (N := 4) hx hb hts inb_X4 hown hK.1 hP 2 rfl rfl 1 (by decide) (hK.nf 90 rfl) (fun _ h9 => h9) rfl dX11_paste_59 ?_
          refine g_icmp_eq (tgt := 68) hx hb (by omega) (by omega) dX11_paste_62 (by decide) (fun c62 => ?_) (fun c62 => ?_)
          · refine lv_aload hx hb dX11_paste_68 (lv_at hl 1 rfl) ?_
            refine lv_iload_n hx hb dX11_paste_70 rfl (lv_at hl 4 rfl) ?_
            refine lv_iload hx hb dX11_paste_71 (lv_at hl 7 rfl) ?_
            refine fn_goi (wc := [((t_6_r 2), .inr (4, oX4 t_6_2_q t_6_2_x0 t_6_2_x1 t_6_2_x2))]) (wr := [(t, .inr (11, oX11 t_q)), ((t_q 6), .inl (K 6, 4, .inr (.inr (.inr (.inr t_6_c))))), ((t_6_2_q 3), .inl (K 3, 60, .inr (.inl (fun j => lI (t_6_2_3_c j)))))]) hK hP hD hS hA [2] [0, 1, 3] rfl rfl (by decide) (fun hp => va_runVN (C := RX4) (As := [.int (iI p2), .int (iI p5)]) (rest := []) ⟨hx, hb, hml, hown, hts⟩ (k_X4_spans (l := l) (D := D) (K := K) (t := (t_6_r 2)) (p1 := p2) (p2 := p5) (t_q := t_6_2_q) (t_x0 := t_6_2_x0) (t_x1 := t_6_2_x1) (t_x2 := t_6_2_x2) (hp1 := (by omega)) (hp2 := (by omega)) (hi_t := hi_t_6_2) _) ⟨va_cnB (own := RX11) 2 hts (fn_gin wd_1226) rfl rfl rfl (hK.nw 155 rfl) (hts _ wd_12) (by decide +kernel) ⟨Nat.le_of_ble_eq_true rfl, Nat.le_of_ble_eq_true rfl⟩, hts _ wd_1225, hts _ wp_93⟩ ⟨fn_blind, va_recv hK.1 hP (ci := 4) (q0 := 2) rfl rfl, hp⟩ rfl rfl hl.1 rfl (lv_room (Nat.le_of_ble_eq_true rfl)) dX11_paste_73 ⟨Nat.le_of_ble_eq_true rfl, Nat.le_of_ble_eq_true rfl⟩) (fun r73 u73 H locs hwu73 hP hD hS => ?_)
            obtain ⟨u73a, u73b⟩ := u73
            obtain ⟨kr73, rfl, hkr73, hqu730, -⟩ := hwu73
            have hqu73 : (kr73 = 1 → 0 ≤ p2 ∧ 0 ≤ p5 ∧ p2 + p5 ≤ t_6_2_x2 ∧ p2 + p5 ≤ 60) := hqu730
            clear hqu730
            have hP : va_P D vwCl [(t, .inr (11, oX11 t_q)), ((t_q 6), .inl (K 6, 4, .inr (.inr (.inr (.inr t_6_c))))), ((t_6_2_q 3), .inl (K 3, 60, .inr (.inl (fun j => lI (t_6_2_3_c j))))), ((t_6_r 2), .inr (4, oX4 t_6_2_q t_6_2_x0 t_6_2_x1 t_6_2_x2))] H := hP
            have hD : va_D A [(t, .inr (11, oX11 t_q)), ((t_q 6), .inl (K 6, 4, .inr (.inr (.inr (.inr t_6_c))))), ((t_6_2_q 3), .inl (K 3, 60, .inr (.inl (fun j => lI (t_6_2_3_c j))))), ((t_6_r 2), .inr (4, oX4 t_6_2_q t_6_2_x0 t_6_2_x1 t_6_2_x2))] := hD
            refine g_if_eq (tgt := 91) hx hb (by omega) dX11_paste_76 (by decide) (fun c76 => ?_) (fun c76 => ?_)
            · refine lv_bipush (v := iI (-7)) hx hb dX11_paste_91 (by decide) ?_
              rw [hQ]; exact fn_iret hx hb hr hlocks rfl hP hD hS ((fun _ => 0), (fun k => ([t_6_2_3_c] : List (Nat → Int)).getD k (fun _ => 0))) ⟨(-7), rfl, by omega, (hc_t_6_2_3), trivial⟩ [0, 1, 3, 2] (by decide) rfl dX11_paste_93
            · refine lv_aload hx hb dX11_paste_79 (lv_at hl 0 rfl) ?_
              refine lv_iload hx hb dX11_paste_81 (lv_at hl 6 rfl) ?_
              refine lv_iload hx hb dX11_paste_83 (lv_at hl 7 rfl) ?_
              refine fn_goi (wc := [((t_6_r 2), .inr (4, oX4 t_6_2_q t_6_2_x0 t_6_2_x1 t_6_2_x2))]) (wr := [(t, .inr (11, oX11 t_q)), ((t_q 6), .inl (K 6, 4, .inr (.inr (.inr (.inr t_6_c))))), ((t_6_2_q 3), .inl (K 3, 60, .inr (.inl (fun j => lI (t_6_2_3_c j)))))]) hK hP hD hS hA [3] [0, 1, 2] rfl rfl (by decide) (fun hp => va_runVN (C := RX4) (As := [.int (iI p4), .int (iI p5)]) (rest := []) ⟨hx, hb, hml, hown, hts⟩ (k_X4_spans (l := l) (D := D) (K := K) (t := (t_6_r 2)) (p1 := p4) (p2 := p5) (t_q := t_6_2_q) (t_x0 := t_6_2_x0) (t_x1 := t_6_2_x1) (t_x2 := t_6_2_x2) (hp1 := (by omega)) (hp2 := (by omega)) (hi_t := hi_t_6_2) _) ⟨va_cnB (own := RX11) 2 hts (fn_gin wd_1226) rfl rfl rfl (hK.nw 155 rfl) (hts _ wd_12) (by decide +kernel) ⟨Nat.le_of_ble_eq_true rfl, Nat.le_of_ble_eq_true rfl⟩, hts _ wd_1225, hts _ wp_93⟩ ⟨fn_blind, va_recv hK.1 hP (ci := 4) (q0 := 3) rfl rfl, hp⟩ rfl rfl hl.1 rfl (lv_room (Nat.le_of_ble_eq_true rfl)) dX11_paste_85 ⟨Nat.le_of_ble_eq_true rfl, Nat.le_of_ble_eq_true rfl⟩) (fun r85 u85 H locs hwu85 hP hD hS => ?_)
              obtain ⟨u85a, u85b⟩ := u85
              obtain ⟨kr85, rfl, hkr85, hqu850, -⟩ := hwu85
              have hqu85 : (kr85 = 1 → 0 ≤ p4 ∧ 0 ≤ p5 ∧ p4 + p5 ≤ t_6_2_x2 ∧ p4 + p5 ≤ 60) := hqu850
              clear hqu850
              have hP : va_P D vwCl [(t, .inr (11, oX11 t_q)), ((t_q 6), .inl (K 6, 4, .inr (.inr (.inr (.inr t_6_c))))), ((t_6_2_q 3), .inl (K 3, 60, .inr (.inl (fun j => lI (t_6_2_3_c j))))), ((t_6_r 2), .inr (4, oX4 t_6_2_q t_6_2_x0 t_6_2_x1 t_6_2_x2))] H := hP
              have hD : va_D A [(t, .inr (11, oX11 t_q)), ((t_q 6), .inl (K 6, 4, .inr (.inr (.inr (.inr t_6_c))))), ((t_6_2_q 3), .inl (K 3, 60, .inr (.inl (fun j => lI (t_6_2_3_c j))))), ((t_6_r 2), .inr (4, oX4 t_6_2_q t_6_2_x0 t_6_2_x1 t_6_2_x2))] := hD
              refine g_if_ne (tgt := 94) hx hb (by omega) dX11_paste_88 (by decide) (fun c88 => ?_) (fun c88 => ?_)
              · refine lv_aload hx hb dX11_paste_94 (lv_at hl 1 rfl) ?_
                refine va_getN (D := D) (own := RX11) (ci := 4) (v := .ref (t_6_2_q 3)) (C := RX4) (T := TX4) (N := 4) hx hb hts inb_X4 hown hK.1 hP 3 rfl rfl 3 (by decide) (hK.nf 92 rfl) (fun _ h9 => h9) rfl dX11_paste_96 ?_
                refine fn_at 99 rfl ?_
                refine lv_iload_n hx hb dX11_paste_99 rfl (lv_at hl 4 rfl) ?_
                refine lv_aload hx hb dX11_paste_100 (lv_at hl 0 rfl) ?_
                refine va_getN (D := D) (own := RX11) (ci := 4) (v := .ref (t_6_2_q 3)) (C := RX4) (T := TX4) (N := 4) hx hb hts inb_X4 hown hK.1 hP 3 rfl rfl 3 (by decide) (hK.nf 92 rfl) (fun _ h9 => h9) rfl dX11_paste_102 ?_
                refine lv_iload hx hb dX11_paste_105 (lv_at hl 6 rfl) ?_
                refine lv_iload hx hb dX11_paste_107 (lv_at hl 7 rfl) ?_
                refine g_cpyl (own := RX11) hx hb (hml.trans hl.1.symm) hown (hts _ wd_1227) (hts _ wd_622) (hts _ wd_621) (hts _ wd_19) hK.1 hP hD hS 2 2 3 3 rfl rfl rfl rfl (by omega) (by omega) (by omega) (Nat.le_of_ble_eq_true rfl) (Nat.le_of_ble_eq_true rfl) dX11_paste_109 (fun H locs g109 eg109 hP hD hS => ?_)
                have hg109 : ∀ j : Nat, (-9223372036854775808) ≤ g109 j ∧ g109 j ≤ 9223372036854775807 := by rw [eg109]; exact cI_all hc_t_6_2_3 hc_t_6_2_3
                have hP : va_P D vwCl [(t, .inr (11, oX11 t_q)), ((t_q 6), .inl (K 6, 4, .inr (.inr (.inr (.inr t_6_c))))), ((t_6_2_q 3), .inl (K 3, 60, .inr (.inl (fun j => lI (g109 j))))), ((t_6_r 2), .inr (4, oX4 t_6_2_q t_6_2_x0 t_6_2_x1 t_6_2_x2))] H := hP
                have hD : va_D A [(t, .inr (11, oX11 t_q)), ((t_q 6), .inl (K 6, 4, .inr (.inr (.inr (.inr t_6_c))))), ((t_6_2_q 3), .inl (K 3, 60, .inr (.inl (fun j => lI (g109 j))))), ((t_6_r 2), .inr (4, oX4 t_6_2_q t_6_2_x0 t_6_2_x1 t_6_2_x2))] := hD
                refine lv_iconst (v := iI 0) hx hb dX11_paste_112 rfl ?_
                rw [hQ]; exact fn_iret hx hb hr hlocks rfl hP hD hS ((fun _ => 0), (fun k => ([g109] : List (Nat → Int)).getD k (fun _ => 0))) ⟨0, rfl, by omega, (hg109), trivial⟩ [0, 1, 3, 2] (by decide) rfl dX11_paste_113
              · refine lv_bipush (v := iI (-7)) hx hb dX11_paste_91 (by decide) ?_
                rw [hQ]; exact fn_iret hx hb hr hlocks rfl hP hD hS ((fun _ => 0), (fun k => ([t_6_2_3_c] : List (Nat → Int)).getD k (fun _ => 0))) ⟨(-7), rfl, by omega, (hc_t_6_2_3), trivial⟩ [0, 1, 3, 2] (by decide) rfl dX11_paste_93
          · refine lv_bipush (v := iI (-8)) hx hb dX11_paste_65 (by decide) ?_
            rw [hQ]; exact fn_iret hx hb hr hlocks rfl hP hD hS ((fun _ => 0), (fun k => ([t_6_2_3_c] : List (Nat → Int)).getD k (fun _ => 0))) ⟨(-8), rfl, by omega, (hc_t_6_2_3), trivial⟩ [0, 1, 2, 3] (by decide) rfl dX11_paste_67
        · exfalso; omega
    · refine lv_bipush (v := iI (-2)) hx hb dX11_paste_14 (by decide) ?_
      rw [hQ]; exact fn_iret hx hb hr hlocks rfl hP hD hS ((fun _ => 0), (fun k => ([t_6_2_3_c] : List (Nat → Int)).getD k (fun _ => 0))) ⟨(-2), rfl, by omega, (hc_t_6_2_3), trivial⟩ [0, 1, 2, 3] (by decide) rfl dX11_paste_16
set_option maxHeartbeats 4000000 in
set_option maxRecDepth 100000 in
theorem k_X11_paste_23 (l : Launch) (D : va_G) (K : Nat → ClassId) (t : Nat) (t_q t_6_r t_6_2_q t_6_3_q : Nat → Nat) (p2 p4 p5 t_6_2_x0 t_6_2_x1 t_6_2_x2 t_6_3_x0 t_6_3_x1 t_6_3_x2 : Int) (t_6_c : Nat → Option Nat) (t_6_2_3_c : Nat → Int) (t_6_3_3_c : Nat → Int) (hp2 : (-2147483648) ≤ p2 ∧ p2 ≤ 2147483647) (hp4 : (-2147483648) ≤ p4 ∧ p4 ≤ 2147483647) (hp5 : (-2147483648) ≤ p5 ∧ p5 ≤ 2147483647) (hr_t_6 : ∀ j : Nat, j < 4 → t_6_c j = some (t_6_r j)) (hi_t_6_2 : bX4 t_6_2_x0 t_6_2_x1 t_6_2_x2) (hi_t_6_3 : bX4 t_6_3_x0 t_6_3_x1 t_6_3_x2) (hc_t_6_2_3 : ∀ j : Nat, (-9223372036854775808) ≤ t_6_2_3_c j ∧ t_6_2_3_c j ≤ 9223372036854775807) (hc_t_6_3_3 : ∀ j : Nat, (-9223372036854775808) ≤ t_6_3_3_c j ∧ t_6_3_3_c j ≤ 9223372036854775807) : fn_CI (S := (Nat → Int) × (Nat → Nat → Int)) l D K yX11_paste (fn_ws yX11_paste cX11_paste 8 (some .int)) ({ frames := 8, cells := 0, slots := 0, locals := 200 } : Room) [.ref t, .int (iI 2), .int (iI p2), .int (iI 3), .int (iI p4), .int (iI p5)] [(t, .inr (11, oX11 t_q)), ((t_q 6), .inl (K 6, 4, .inr (.inr (.inr (.inr t_6_c))))), ((t_6_r 2), .inr (4, oX4 t_6_2_q t_6_2_x0 t_6_2_x1 t_6_2_x2)), ((t_6_r 3), .inr (4, oX4 t_6_3_q t_6_3_x0 t_6_3_x1 t_6_3_x2)), ((t_6_2_q 3), .inl (K 3, 60, .inr (.inl (fun j => lI (t_6_2_3_c j))))), ((t_6_3_q 3), .inl (K 3, 60, .inr (.inl (fun j => lI (t_6_3_3_c j)))))] (fun r u => ∃ k : Int, r = iI k ∧ ((-8) ≤ k ∧ k ≤ 0) ∧ (∀ j : Nat, (-9223372036854775808) ≤ (u.2 0) j ∧ (u.2 0) j ≤ 9223372036854775807) ∧ True) (fun u => [(t, .inr (11, oX11 t_q)), ((t_q 6), .inl (K 6, 4, .inr (.inr (.inr (.inr t_6_c))))), ((t_6_r 2), .inr (4, oX4 t_6_2_q t_6_2_x0 t_6_2_x1 t_6_2_x2)), ((t_6_r 3), .inr (4, oX4 t_6_3_q t_6_3_x0 t_6_3_x1 t_6_3_x2)), ((t_6_2_q 3), .inl (K 3, 60, .inr (.inl (fun j => lI (t_6_2_3_c j))))), ((t_6_3_q 3), .inl (K 3, 60, .inr (.inl (fun j => lI ((u.2 0) j)))))]) 0 0 := by
  refine g_inI (cc := cX11_paste) (maxL := 8) (ret := (some .int)) (by decide) rfl (Nat.le_of_ble_eq_true rfl) ?_
  intro p e s m below meth c A ls ag Q B hA hP hD hS hl hQ
  obtain ⟨hx, hb, hr, hml, hts, hown, hlocks, hin, hK⟩ := B
  have hown : s.vm.findClass RX11 = some m.cls := hown
  have hts := fun w h => hts w (List.mem_cons_of_mem _ h)
  have hl : lv_has ls 8 [(0, .ref t), (1, .int (iI 2)), (2, .int (iI p2)), (3, .int (iI 3)), (4, .int (iI p4)), (5, .int (iI p5))] := hl
  refine lv_iload_n hx hb dX11_paste_0 rfl (lv_at hl 1 rfl) ?_
  refine fn_goi (wc := []) (wr := [(t, .inr (11, oX11 t_q)), ((t_q 6), .inl (K 6, 4, .inr (.inr (.inr (.inr t_6_c))))), ((t_6_r 2), .inr (4, oX4 t_6_2_q t_6_2_x0 t_6_2_x1 t_6_2_x2)), ((t_6_r 3), .inr (4, oX4 t_6_3_q t_6_3_x0 t_6_3_x1 t_6_3_x2)), ((t_6_2_q 3), .inl (K 3, 60, .inr (.inl (fun j => lI (t_6_2_3_c j))))), ((t_6_3_q 3), .inl (K 3, 60, .inr (.inl (fun j => lI (t_6_3_3_c j)))))]) hK hP hD hS hA [] [0, 1, 2, 3, 4, 5] rfl rfl (by decide) (fun hp => va_runS (As := [.int (iI 2)]) (rest := []) ⟨hx, hb, hml, hown, hts⟩ (k_X11_noSlot (l := l) (D := D) (K := K) (p1 := 2) (hp1 := (by omega)) _) (va_cwS 1 hts (fn_ginS (fn_gin wd_963) wd_961 wd_962 wd_1) rfl rfl rfl (by decide +kernel) ⟨Nat.le_of_ble_eq_true rfl, Nat.le_of_ble_eq_true rfl⟩) ⟨fn_blind, hp⟩ rfl rfl hl.1 rfl (lv_room (Nat.le_of_ble_eq_true rfl)) dX11_paste_1 ⟨Nat.le_of_ble_eq_true rfl, Nat.le_of_ble_eq_true rfl⟩) (fun r1 u1 H locs hwu1 hP hD hS => ?_)
  obtain ⟨u1a, u1b⟩ := u1
  obtain ⟨kr1, rfl, hkr1, hqu10, -⟩ := hwu1
  have hqu1 : (kr1 = 0 → 0 ≤ (2 : Int) ∧ (2 : Int) ≤ 3) ∧ (kr1 = 1 → (2 : Int) < 0 ∨ 3 < (2 : Int)) := hqu10
  clear hqu10
  have hP : va_P D vwCl [(t, .inr (11, oX11 t_q)), ((t_q 6), .inl (K 6, 4, .inr (.inr (.inr (.inr t_6_c))))), ((t_6_r 2), .inr (4, oX4 t_6_2_q t_6_2_x0 t_6_2_x1 t_6_2_x2)), ((t_6_r 3), .inr (4, oX4 t_6_3_q t_6_3_x0 t_6_3_x1 t_6_3_x2)), ((t_6_2_q 3), .inl (K 3, 60, .inr (.inl (fun j => lI (t_6_2_3_c j))))), ((t_6_3_q 3), .inl (K 3, 60, .inr (.inl (fun j => lI (t_6_3_3_c j)))))] H := hP
  have hD : va_D A [(t, .inr (11, oX11 t_q)), ((t_q 6), .inl (K 6, 4, .inr (.inr (.inr (.inr t_6_c))))), ((t_6_r 2), .inr (4, oX4 t_6_2_q t_6_2_x0 t_6_2_x1 t_6_2_x2)), ((t_6_r 3), .inr (4, oX4 t_6_3_q t_6_3_x0 t_6_3_x1 t_6_3_x2)), ((t_6_2_q 3), .inl (K 3, 60, .inr (.inl (fun j => lI (t_6_2_3_c j))))), ((t_6_3_q 3), .inl (K 3, 60, .inr (.inl (fun j => lI (t_6_3_3_c j)))))] := hD
  refine g_if_ne (tgt := 14) hx hb (by omega) dX11_paste_4 (by decide) (fun c4 => ?_) (fun c4 => ?_)
  · refine lv_bipush (v := iI (-2)) hx hb dX11_paste_14 (by decide) ?_
    rw [hQ]; exact fn_iret hx hb hr hlocks rfl hP hD hS ((fun _ => 0), (fun k => ([t_6_3_3_c] : List (Nat → Int)).getD k (fun _ => 0))) ⟨(-2), rfl, by omega, (hc_t_6_3_3), trivial⟩ [0, 1, 2, 3, 4, 5] (by decide) rfl dX11_paste_16
  · refine lv_iload_n hx hb dX11_paste_7 rfl (lv_at hl 3 rfl) ?_
    refine fn_goi (wc := []) (wr := [(t, .inr (11, oX11 t_q)), ((t_q 6), .inl (K 6, 4, .inr (.inr (.inr (.inr t_6_c))))), ((t_6_r 2), .inr (4, oX4 t_6_2_q t_6_2_x0 t_6_2_x1 t_6_2_x2)), ((t_6_r 3), .inr (4, oX4 t_6_3_q t_6_3_x0 t_6_3_x1 t_6_3_x2)), ((t_6_2_q 3), .inl (K 3, 60, .inr (.inl (fun j => lI (t_6_2_3_c j))))), ((t_6_3_q 3), .inl (K 3, 60, .inr (.inl (fun j => lI (t_6_3_3_c j)))))]) hK hP hD hS hA [] [0, 1, 2, 3, 4, 5] rfl rfl (by decide) (fun hp => va_runS (As := [.int (iI 3)]) (rest := []) ⟨hx, hb, hml, hown, hts⟩ (k_X11_noSlot (l := l) (D := D) (K := K) (p1 := 3) (hp1 := (by omega)) _) (va_cwS 1 hts (fn_ginS (fn_gin wd_963) wd_961 wd_962 wd_1) rfl rfl rfl (by decide +kernel) ⟨Nat.le_of_ble_eq_true rfl, Nat.le_of_ble_eq_true rfl⟩) ⟨fn_blind, hp⟩ rfl rfl hl.1 rfl (lv_room (Nat.le_of_ble_eq_true rfl)) dX11_paste_8 ⟨Nat.le_of_ble_eq_true rfl, Nat.le_of_ble_eq_true rfl⟩) (fun r8 u8 H locs hwu8 hP hD hS => ?_)
    obtain ⟨u8a, u8b⟩ := u8
    obtain ⟨kr8, rfl, hkr8, hqu80, -⟩ := hwu8
    have hqu8 : (kr8 = 0 → 0 ≤ (3 : Int) ∧ (3 : Int) ≤ 3) ∧ (kr8 = 1 → (3 : Int) < 0 ∨ 3 < (3 : Int)) := hqu80
    clear hqu80
    have hP : va_P D vwCl [(t, .inr (11, oX11 t_q)), ((t_q 6), .inl (K 6, 4, .inr (.inr (.inr (.inr t_6_c))))), ((t_6_r 2), .inr (4, oX4 t_6_2_q t_6_2_x0 t_6_2_x1 t_6_2_x2)), ((t_6_r 3), .inr (4, oX4 t_6_3_q t_6_3_x0 t_6_3_x1 t_6_3_x2)), ((t_6_2_q 3), .inl (K 3, 60, .inr (.inl (fun j => lI (t_6_2_3_c j))))), ((t_6_3_q 3), .inl (K 3, 60, .inr (.inl (fun j => lI (t_6_3_3_c j)))))] H := hP
    have hD : va_D A [(t, .inr (11, oX11 t_q)), ((t_q 6), .inl (K 6, 4, .inr (.inr (.inr (.inr t_6_c))))), ((t_6_r 2), .inr (4, oX4 t_6_2_q t_6_2_x0 t_6_2_x1 t_6_2_x2)), ((t_6_r 3), .inr (4, oX4 t_6_3_q t_6_3_x0 t_6_3_x1 t_6_3_x2)), ((t_6_2_q 3), .inl (K 3, 60, .inr (.inl (fun j => lI (t_6_2_3_c j))))), ((t_6_3_q 3), .inl (K 3, 60, .inr (.inl (fun j => lI (t_6_3_3_c j)))))] := hD
    refine g_if_eq (tgt := 17) hx hb (by omega) dX11_paste_11 (by decide) (fun c11 => ?_) (fun c11 => ?_)
    · refine lv_aload_n hx hb dX11_paste_17 rfl (lv_at hl 0 rfl) ?_
      refine va_get (D := D) (own := RX11) (ci := 11) (v := .ref (t_q 6)) (C := RX11) (T := TX11) (N := 13) hx hb hts inb_X11 hown hK.1 hP 0 rfl rfl 6 (by decide) (hts _ wd_428) (fun _ h9 => h9) rfl dX11_paste_18 ?_
      refine lv_iload_n hx hb dX11_paste_21 rfl (lv_at hl 1 rfl) ?_
      refine va_aldq hx hb hK.1 hP 1 6 rfl rfl (iI_in (by decide) (by decide) (by decide)) dX11_paste_22 ?_
      refine fn_topv (.ref (t_6_r 2)) (by rw [iI_cl (by decide)]; exact congrArg va_rf (hr_t_6 2 (by decide))) ?_
      refine lv_astore (lv' := [(6, .ref (t_6_r 2)), (0, .ref t), (1, .int (iI 2)), (2, .int (iI p2)), (3, .int (iI 3)), (4, .int (iI p4)), (5, .int (iI p5))]) hx hb dX11_paste_23 hl (by decide) rfl (fun ls hl => ?_)
      refine lv_aload_n hx hb dX11_paste_25 rfl (lv_at hl 1 rfl) ?_
      refine va_get (D := D) (own := RX11) (ci := 11) (v := .ref (t_q 6)) (C := RX11) (T := TX11) (N := 13) hx hb hts inb_X11 hown hK.1 hP 0 rfl rfl 6 (by decide) (hts _ wd_428) (fun _ h9 => h9) rfl dX11_paste_26 ?_
      refine lv_iload_n hx hb dX11_paste_29 rfl (lv_at hl 4 rfl) ?_
      refine va_aldq hx hb hK.1 hP 1 6 rfl rfl (iI_in (by decide) (by decide) (by decide)) dX11_paste_30 ?_
      refine fn_topv (.ref (t_6_r 3)) (by rw [iI_cl (by decide)]; exact congrArg va_rf (hr_t_6 3 (by decide))) ?_
      refine lv_astore (lv' := [(7, .ref (t_6_r 3)), (6, .ref (t_6_r 2)), (0, .ref t), (1, .int (iI 2)), (2, .int (iI p2)), (3, .int (iI 3)), (4, .int (iI p4)), (5, .int (iI p5))]) hx hb dX11_paste_31 hl (by decide) rfl (fun ls hl => ?_)
      refine lv_aload hx hb dX11_paste_33 (lv_at hl 1 rfl) ?_
      refine va_getN (D := D) (own := RX11) (ci := 4) (v := .int (iI t_6_2_x0)) (C := RX4) (T := TX4) (N := 4) hx hb hts inb_X4 hown hK.1 hP 2 rfl rfl 0 (by decide) (hK.nf 89 rfl) (fun _ h9 => h9) rfl dX11_paste_35 ?_
      have y35_1 : 0 ≤ t_6_2_x0 ∧ t_6_2_x0 ≤ 1 := hi_t_6_2.1
      refine g_if_eq (tgt := 49) hx hb (by omega) dX11_paste_38 (by decide) (fun c38 => ?_) (fun c38 => ?_)
      · refine fn_at 49 rfl ?_
        refine lv_bipush (v := iI (-6)) hx hb dX11_paste_49 (by decide) ?_
        rw [hQ]; exact fn_iret hx hb hr hlocks rfl hP hD hS ((fun _ => 0), (fun k => ([t_6_3_3_c] : List (Nat → Int)).getD k (fun _ => 0))) ⟨(-6), rfl, by omega, (hc_t_6_3_3), trivial⟩ [0, 1, 2, 3, 4, 5] (by decide) rfl dX11_paste_51
      · refine fn_at 41 rfl ?_
        refine lv_aload hx hb dX11_paste_41 (lv_at hl 0 rfl) ?_
        refine va_getN (D := D) (own := RX11) (ci := 4) (v := .int (iI t_6_3_x0)) (C := RX4) (T := TX4) (N := 4) hx hb hts inb_X4 hown hK.1 hP 3 rfl rfl 0 (by decide) (hK.nf 89 rfl) (fun _ h9 => h9) rfl dX11_paste_43 ?_
        have y43_2 : 0 ≤ t_6_3_x0 ∧ t_6_3_x0 ≤ 1 := hi_t_6_3.1
        refine g_if_ne (tgt := 52) hx hb (by omega) dX11_paste_46 (by decide) (fun c46 => ?_) (fun c46 => ?_)
        · refine lv_aload hx hb dX11_paste_52 (lv_at hl 1 rfl) ?_
          refine va_getN (D := D) (own := RX11) (ci := 4) (v := .int (iI t_6_2_x1)) (C := RX4) (T := TX4) (N := 4) hx hb hts inb_X4 hown hK.1 hP 2 rfl rfl 1 (by decide) (hK.nf 90 rfl) (fun _ h9 => h9) rfl dX11_paste_54 ?_
          have y54_3 : 0 ≤ t_6_2_x1 ∧ t_6_2_x1 ≤ 3 := hi_t_6_2.2.1
          refine lv_aload hx hb dX11_paste_57 (lv_at hl 0 rfl) ?_
          refine va_getN (D := D) (own := RX11) (ci := 4) (v := .int (iI t_6_3_x1)) (C := RX4) (T := TX4) (N := 4) hx hb hts inb_X4 hown hK.1 hP 3 rfl rfl 1 (by decide) (hK.nf 90 rfl) (fun _ h9 => h9) rfl dX11_paste_59 ?_
          have y59_4 : 0 ≤ t_6_3_x1 ∧ t_6_3_x1 ≤ 3 := hi_t_6_3.2.1
          refine g_icmp_eq (tgt := 68) hx hb (by omega) (by omega) dX11_paste_62 (by decide) (fun c62 => ?_) (fun c62 => ?_)
          · refine lv_aload hx hb dX11_paste_68 (lv_at hl 1 rfl) ?_
            refine lv_iload_n hx hb dX11_paste_70 rfl (lv_at hl 4 rfl) ?_
            refine lv_iload hx hb dX11_paste_71 (lv_at hl 7 rfl) ?_
            refine fn_goi (wc := [((t_6_r 2), .inr (4, oX4 t_6_2_q t_6_2_x0 t_6_2_x1 t_6_2_x2))]) (wr := [(t, .inr (11, oX11 t_q)), ((t_q 6), .inl (K 6, 4, .inr (.inr (.inr (.inr t_6_c))))), ((t_6_r 3), .inr (4, oX4 t_6_3_q t_6_3_x0 t_6_3_x1 t_6_3_x2)), ((t_6_2_q 3), .inl (K 3, 60, .inr (.inl (fun j => lI (t_6_2_3_c j))))), ((t_6_3_q 3), .inl (K 3, 60, .inr (.inl (fun j => lI (t_6_3_3_c j)))))]) hK hP hD hS hA [2] [0, 1, 3, 4, 5] rfl rfl (by decide) (fun hp => va_runVN (C := RX4) (As := [.int (iI p2), .int (iI p5)]) (rest := []) ⟨hx, hb, hml, hown, hts⟩ (k_X4_spans (l := l) (D := D) (K := K) (t := (t_6_r 2)) (p1 := p2) (p2 := p5) (t_q := t_6_2_q) (t_x0 := t_6_2_x0) (t_x1 := t_6_2_x1) (t_x2 := t_6_2_x2) (hp1 := (by omega)) (hp2 := (by omega)) (hi_t := hi_t_6_2) _) ⟨va_cnB (own := RX11) 2 hts (fn_gin wd_1226) rfl rfl rfl (hK.nw 155 rfl) (hts _ wd_12) (by decide +kernel) ⟨Nat.le_of_ble_eq_true rfl, Nat.le_of_ble_eq_true rfl⟩, hts _ wd_1225, hts _ wp_93⟩ ⟨fn_blind, va_recv hK.1 hP (ci := 4) (q0 := 2) rfl rfl, hp⟩ rfl rfl hl.1 rfl (lv_room (Nat.le_of_ble_eq_true rfl)) dX11_paste_73 ⟨Nat.le_of_ble_eq_true rfl, Nat.le_of_ble_eq_true rfl⟩) (fun r73 u73 H locs hwu73 hP hD hS => ?_)
            obtain ⟨u73a, u73b⟩ := u73
            obtain ⟨kr73, rfl, hkr73, hqu730, -⟩ := hwu73
            have hqu73 : (kr73 = 1 → 0 ≤ p2 ∧ 0 ≤ p5 ∧ p2 + p5 ≤ t_6_2_x2 ∧ p2 + p5 ≤ 60) := hqu730
            clear hqu730
            have hP : va_P D vwCl [(t, .inr (11, oX11 t_q)), ((t_q 6), .inl (K 6, 4, .inr (.inr (.inr (.inr t_6_c))))), ((t_6_r 3), .inr (4, oX4 t_6_3_q t_6_3_x0 t_6_3_x1 t_6_3_x2)), ((t_6_2_q 3), .inl (K 3, 60, .inr (.inl (fun j => lI (t_6_2_3_c j))))), ((t_6_3_q 3), .inl (K 3, 60, .inr (.inl (fun j => lI (t_6_3_3_c j))))), ((t_6_r 2), .inr (4, oX4 t_6_2_q t_6_2_x0 t_6_2_x1 t_6_2_x2))] H := hP
            have hD : va_D A [(t, .inr (11, oX11 t_q)), ((t_q 6), .inl (K 6, 4, .inr (.inr (.inr (.inr t_6_c))))), ((t_6_r 3), .inr (4, oX4 t_6_3_q t_6_3_x0 t_6_3_x1 t_6_3_x2)), ((t_6_2_q 3), .inl (K 3, 60, .inr (.inl (fun j => lI (t_6_2_3_c j))))), ((t_6_3_q 3), .inl (K 3, 60, .inr (.inl (fun j => lI (t_6_3_3_c j))))), ((t_6_r 2), .inr (4, oX4 t_6_2_q t_6_2_x0 t_6_2_x1 t_6_2_x2))] := hD
            refine g_if_eq (tgt := 91) hx hb (by omega) dX11_paste_76 (by decide) (fun c76 => ?_) (fun c76 => ?_)
            · refine lv_bipush (v := iI (-7)) hx hb dX11_paste_91 (by decide) ?_
              rw [hQ]; exact fn_iret hx hb hr hlocks rfl hP hD hS ((fun _ => 0), (fun k => ([t_6_3_3_c] : List (Nat → Int)).getD k (fun _ => 0))) ⟨(-7), rfl, by omega, (hc_t_6_3_3), trivial⟩ [0, 1, 5, 2, 3, 4] (by decide) rfl dX11_paste_93
            · refine lv_aload hx hb dX11_paste_79 (lv_at hl 0 rfl) ?_
              refine lv_iload hx hb dX11_paste_81 (lv_at hl 6 rfl) ?_
              refine lv_iload hx hb dX11_paste_83 (lv_at hl 7 rfl) ?_
              refine fn_goi (wc := [((t_6_r 3), .inr (4, oX4 t_6_3_q t_6_3_x0 t_6_3_x1 t_6_3_x2))]) (wr := [(t, .inr (11, oX11 t_q)), ((t_q 6), .inl (K 6, 4, .inr (.inr (.inr (.inr t_6_c))))), ((t_6_2_q 3), .inl (K 3, 60, .inr (.inl (fun j => lI (t_6_2_3_c j))))), ((t_6_3_q 3), .inl (K 3, 60, .inr (.inl (fun j => lI (t_6_3_3_c j))))), ((t_6_r 2), .inr (4, oX4 t_6_2_q t_6_2_x0 t_6_2_x1 t_6_2_x2))]) hK hP hD hS hA [2] [0, 1, 3, 4, 5] rfl rfl (by decide) (fun hp => va_runVN (C := RX4) (As := [.int (iI p4), .int (iI p5)]) (rest := []) ⟨hx, hb, hml, hown, hts⟩ (k_X4_spans (l := l) (D := D) (K := K) (t := (t_6_r 3)) (p1 := p4) (p2 := p5) (t_q := t_6_3_q) (t_x0 := t_6_3_x0) (t_x1 := t_6_3_x1) (t_x2 := t_6_3_x2) (hp1 := (by omega)) (hp2 := (by omega)) (hi_t := hi_t_6_3) _) ⟨va_cnB (own := RX11) 2 hts (fn_gin wd_1226) rfl rfl rfl (hK.nw 155 rfl) (hts _ wd_12) (by decide +kernel) ⟨Nat.le_of_ble_eq_true rfl, Nat.le_of_ble_eq_true rfl⟩, hts _ wd_1225, hts _ wp_93⟩ ⟨fn_blind, va_recv hK.1 hP (ci := 4) (q0 := 2) rfl rfl, hp⟩ rfl rfl hl.1 rfl (lv_room (Nat.le_of_ble_eq_true rfl)) dX11_paste_85 ⟨Nat.le_of_ble_eq_true rfl, Nat.le_of_ble_eq_true rfl⟩) (fun r85 u85 H locs hwu85 hP hD hS => ?_)
              obtain ⟨u85a, u85b⟩ := u85
              obtain ⟨kr85, rfl, hkr85, hqu850, -⟩ := hwu85
              have hqu85 : (kr85 = 1 → 0 ≤ p4 ∧ 0 ≤ p5 ∧ p4 + p5 ≤ t_6_3_x2 ∧ p4 + p5 ≤ 60) := hqu850
              clear hqu850
              have hP : va_P D vwCl [(t, .inr (11, oX11 t_q)), ((t_q 6), .inl (K 6, 4, .inr (.inr (.inr (.inr t_6_c))))), ((t_6_2_q 3), .inl (K 3, 60, .inr (.inl (fun j => lI (t_6_2_3_c j))))), ((t_6_3_q 3), .inl (K 3, 60, .inr (.inl (fun j => lI (t_6_3_3_c j))))), ((t_6_r 2), .inr (4, oX4 t_6_2_q t_6_2_x0 t_6_2_x1 t_6_2_x2)), ((t_6_r 3), .inr (4, oX4 t_6_3_q t_6_3_x0 t_6_3_x1 t_6_3_x2))] H := hP
              have hD : va_D A [(t, .inr (11, oX11 t_q)), ((t_q 6), .inl (K 6, 4, .inr (.inr (.inr (.inr t_6_c))))), ((t_6_2_q 3), .inl (K 3, 60, .inr (.inl (fun j => lI (t_6_2_3_c j))))), ((t_6_3_q 3), .inl (K 3, 60, .inr (.inl (fun j => lI (t_6_3_3_c j))))), ((t_6_r 2), .inr (4, oX4 t_6_2_q t_6_2_x0 t_6_2_x1 t_6_2_x2)), ((t_6_r 3), .inr (4, oX4 t_6_3_q t_6_3_x0 t_6_3_x1 t_6_3_x2))] := hD
              refine g_if_ne (tgt := 94) hx hb (by omega) dX11_paste_88 (by decide) (fun c88 => ?_) (fun c88 => ?_)
              · refine lv_aload hx hb dX11_paste_94 (lv_at hl 1 rfl) ?_
                refine va_getN (D := D) (own := RX11) (ci := 4) (v := .ref (t_6_2_q 3)) (C := RX4) (T := TX4) (N := 4) hx hb hts inb_X4 hown hK.1 hP 4 rfl rfl 3 (by decide) (hK.nf 92 rfl) (fun _ h9 => h9) rfl dX11_paste_96 ?_
                refine fn_at 99 rfl ?_
                refine lv_iload_n hx hb dX11_paste_99 rfl (lv_at hl 4 rfl) ?_
                refine lv_aload hx hb dX11_paste_100 (lv_at hl 0 rfl) ?_
                refine va_getN (D := D) (own := RX11) (ci := 4) (v := .ref (t_6_3_q 3)) (C := RX4) (T := TX4) (N := 4) hx hb hts inb_X4 hown hK.1 hP 5 rfl rfl 3 (by decide) (hK.nf 92 rfl) (fun _ h9 => h9) rfl dX11_paste_102 ?_
                refine lv_iload hx hb dX11_paste_105 (lv_at hl 6 rfl) ?_
                refine lv_iload hx hb dX11_paste_107 (lv_at hl 7 rfl) ?_
                refine g_cpyl (own := RX11) hx hb (hml.trans hl.1.symm) hown (hts _ wd_1227) (hts _ wd_622) (hts _ wd_621) (hts _ wd_19) hK.1 hP hD hS 2 3 3 3 rfl rfl rfl rfl (by omega) (by omega) (by omega) (Nat.le_of_ble_eq_true rfl) (Nat.le_of_ble_eq_true rfl) dX11_paste_109 (fun H locs g109 eg109 hP hD hS => ?_)
                have hg109 : ∀ j : Nat, (-9223372036854775808) ≤ g109 j ∧ g109 j ≤ 9223372036854775807 := by rw [eg109]; exact cI_all hc_t_6_2_3 hc_t_6_3_3
                have hP : va_P D vwCl [(t, .inr (11, oX11 t_q)), ((t_q 6), .inl (K 6, 4, .inr (.inr (.inr (.inr t_6_c))))), ((t_6_2_q 3), .inl (K 3, 60, .inr (.inl (fun j => lI (t_6_2_3_c j))))), ((t_6_3_q 3), .inl (K 3, 60, .inr (.inl (fun j => lI (g109 j))))), ((t_6_r 2), .inr (4, oX4 t_6_2_q t_6_2_x0 t_6_2_x1 t_6_2_x2)), ((t_6_r 3), .inr (4, oX4 t_6_3_q t_6_3_x0 t_6_3_x1 t_6_3_x2))] H := hP
                have hD : va_D A [(t, .inr (11, oX11 t_q)), ((t_q 6), .inl (K 6, 4, .inr (.inr (.inr (.inr t_6_c))))), ((t_6_2_q 3), .inl (K 3, 60, .inr (.inl (fun j => lI (t_6_2_3_c j))))), ((t_6_3_q 3), .inl (K 3, 60, .inr (.inl (fun j => lI (g109 j))))), ((t_6_r 2), .inr (4, oX4 t_6_2_q t_6_2_x0 t_6_2_x1 t_6_2_x2)), ((t_6_r 3), .inr (4, oX4 t_6_3_q t_6_3_x0 t_6_3_x1 t_6_3_x2))] := hD
                refine lv_iconst (v := iI 0) hx hb dX11_paste_112 rfl ?_
                rw [hQ]; exact fn_iret hx hb hr hlocks rfl hP hD hS ((fun _ => 0), (fun k => ([g109] : List (Nat → Int)).getD k (fun _ => 0))) ⟨0, rfl, by omega, (hg109), trivial⟩ [0, 1, 4, 5, 2, 3] (by decide) rfl dX11_paste_113
              · refine lv_bipush (v := iI (-7)) hx hb dX11_paste_91 (by decide) ?_
                rw [hQ]; exact fn_iret hx hb hr hlocks rfl hP hD hS ((fun _ => 0), (fun k => ([t_6_3_3_c] : List (Nat → Int)).getD k (fun _ => 0))) ⟨(-7), rfl, by omega, (hc_t_6_3_3), trivial⟩ [0, 1, 4, 5, 2, 3] (by decide) rfl dX11_paste_93
          · refine lv_bipush (v := iI (-8)) hx hb dX11_paste_65 (by decide) ?_
            rw [hQ]; exact fn_iret hx hb hr hlocks rfl hP hD hS ((fun _ => 0), (fun k => ([t_6_3_3_c] : List (Nat → Int)).getD k (fun _ => 0))) ⟨(-8), rfl, by omega, (hc_t_6_3_3), trivial⟩ [0, 1, 2, 3, 4, 5] (by decide) rfl dX11_paste_67
        · refine lv_bipush (v := iI (-6)) hx hb dX11_paste_49 (by decide) ?_
          rw [hQ]; exact fn_iret hx hb hr hlocks rfl hP hD hS ((fun _ => 0), (fun k => ([t_6_3_3_c] : List (Nat → Int)).getD k (fun _ => 0))) ⟨(-6), rfl, by omega, (hc_t_6_3_3), trivial⟩ [0, 1, 2, 3, 4, 5] (by decide) rfl dX11_paste_51
    · refine lv_bipush (v := iI (-2)) hx hb dX11_paste_14 (by decide) ?_
      rw [hQ]; exact fn_iret hx hb hr hlocks rfl hP hD hS ((fun _ => 0), (fun k => ([t_6_3_3_c] : List (Nat → Int)).getD k (fun _ => 0))) ⟨(-2), rfl, by omega, (hc_t_6_3_3), trivial⟩ [0, 1, 2, 3, 4, 5] (by decide) rfl dX11_paste_16
set_option maxHeartbeats 4000000 in
set_option maxRecDepth 100000 in
theorem k_X11_paste_30 (l : Launch) (D : va_G) (K : Nat → ClassId) (t : Nat) (t_q t_6_r t_6_3_q t_6_0_q : Nat → Nat) (p2 p4 p5 t_6_3_x0 t_6_3_x1 t_6_3_x2 t_6_0_x0 t_6_0_x1 t_6_0_x2 : Int) (t_6_c : Nat → Option Nat) (t_6_3_3_c : Nat → Int) (t_6_0_3_c : Nat → Int) (hp2 : (-2147483648) ≤ p2 ∧ p2 ≤ 2147483647) (hp4 : (-2147483648) ≤ p4 ∧ p4 ≤ 2147483647) (hp5 : (-2147483648) ≤ p5 ∧ p5 ≤ 2147483647) (hr_t_6 : ∀ j : Nat, j < 4 → t_6_c j = some (t_6_r j)) (hi_t_6_3 : bX4 t_6_3_x0 t_6_3_x1 t_6_3_x2) (hi_t_6_0 : bX4 t_6_0_x0 t_6_0_x1 t_6_0_x2) (hc_t_6_3_3 : ∀ j : Nat, (-9223372036854775808) ≤ t_6_3_3_c j ∧ t_6_3_3_c j ≤ 9223372036854775807) (hc_t_6_0_3 : ∀ j : Nat, (-9223372036854775808) ≤ t_6_0_3_c j ∧ t_6_0_3_c j ≤ 9223372036854775807) : fn_CI (S := (Nat → Int) × (Nat → Nat → Int)) l D K yX11_paste (fn_ws yX11_paste cX11_paste 8 (some .int)) ({ frames := 8, cells := 0, slots := 0, locals := 200 } : Room) [.ref t, .int (iI 3), .int (iI p2), .int (iI 0), .int (iI p4), .int (iI p5)] [(t, .inr (11, oX11 t_q)), ((t_q 6), .inl (K 6, 4, .inr (.inr (.inr (.inr t_6_c))))), ((t_6_r 3), .inr (4, oX4 t_6_3_q t_6_3_x0 t_6_3_x1 t_6_3_x2)), ((t_6_r 0), .inr (4, oX4 t_6_0_q t_6_0_x0 t_6_0_x1 t_6_0_x2)), ((t_6_3_q 3), .inl (K 3, 60, .inr (.inl (fun j => lI (t_6_3_3_c j))))), ((t_6_0_q 3), .inl (K 3, 60, .inr (.inl (fun j => lI (t_6_0_3_c j)))))] (fun r u => ∃ k : Int, r = iI k ∧ ((-8) ≤ k ∧ k ≤ 0) ∧ (∀ j : Nat, (-9223372036854775808) ≤ (u.2 0) j ∧ (u.2 0) j ≤ 9223372036854775807) ∧ True) (fun u => [(t, .inr (11, oX11 t_q)), ((t_q 6), .inl (K 6, 4, .inr (.inr (.inr (.inr t_6_c))))), ((t_6_r 3), .inr (4, oX4 t_6_3_q t_6_3_x0 t_6_3_x1 t_6_3_x2)), ((t_6_r 0), .inr (4, oX4 t_6_0_q t_6_0_x0 t_6_0_x1 t_6_0_x2)), ((t_6_3_q 3), .inl (K 3, 60, .inr (.inl (fun j => lI (t_6_3_3_c j))))), ((t_6_0_q 3), .inl (K 3, 60, .inr (.inl (fun j => lI ((u.2 0) j)))))]) 0 0 := by
  refine g_inI (cc := cX11_paste) (maxL := 8) (ret := (some .int)) (by decide) rfl (Nat.le_of_ble_eq_true rfl) ?_
  intro p e s m below meth c A ls ag Q B hA hP hD hS hl hQ
  obtain ⟨hx, hb, hr, hml, hts, hown, hlocks, hin, hK⟩ := B
  have hown : s.vm.findClass RX11 = some m.cls := hown
  have hts := fun w h => hts w (List.mem_cons_of_mem _ h)
  have hl : lv_has ls 8 [(0, .ref t), (1, .int (iI 3)), (2, .int (iI p2)), (3, .int (iI 0)), (4, .int (iI p4)), (5, .int (iI p5))] := hl
  refine lv_iload_n hx hb dX11_paste_0 rfl (lv_at hl 1 rfl) ?_
  refine fn_goi (wc := []) (wr := [(t, .inr (11, oX11 t_q)), ((t_q 6), .inl (K 6, 4, .inr (.inr (.inr (.inr t_6_c))))), ((t_6_r 3), .inr (4, oX4 t_6_3_q t_6_3_x0 t_6_3_x1 t_6_3_x2)), ((t_6_r 0), .inr (4, oX4 t_6_0_q t_6_0_x0 t_6_0_x1 t_6_0_x2)), ((t_6_3_q 3), .inl (K 3, 60, .inr (.inl (fun j => lI (t_6_3_3_c j))))), ((t_6_0_q 3), .inl (K 3, 60, .inr (.inl (fun j => lI (t_6_0_3_c j)))))]) hK hP hD hS hA [] [0, 1, 2, 3, 4, 5] rfl rfl (by decide) (fun hp => va_runS (As := [.int (iI 3)]) (rest := []) ⟨hx, hb, hml, hown, hts⟩ (k_X11_noSlot (l := l) (D := D) (K := K) (p1 := 3) (hp1 := (by omega)) _) (va_cwS 1 hts (fn_ginS (fn_gin wd_963) wd_961 wd_962 wd_1) rfl rfl rfl (by decide +kernel) ⟨Nat.le_of_ble_eq_true rfl, Nat.le_of_ble_eq_true rfl⟩) ⟨fn_blind, hp⟩ rfl rfl hl.1 rfl (lv_room (Nat.le_of_ble_eq_true rfl)) dX11_paste_1 ⟨Nat.le_of_ble_eq_true rfl, Nat.le_of_ble_eq_true rfl⟩) (fun r1 u1 H locs hwu1 hP hD hS => ?_)
  obtain ⟨u1a, u1b⟩ := u1
  obtain ⟨kr1, rfl, hkr1, hqu10, -⟩ := hwu1
  have hqu1 : (kr1 = 0 → 0 ≤ (3 : Int) ∧ (3 : Int) ≤ 3) ∧ (kr1 = 1 → (3 : Int) < 0 ∨ 3 < (3 : Int)) := hqu10
  clear hqu10
  have hP : va_P D vwCl [(t, .inr (11, oX11 t_q)), ((t_q 6), .inl (K 6, 4, .inr (.inr (.inr (.inr t_6_c))))), ((t_6_r 3), .inr (4, oX4 t_6_3_q t_6_3_x0 t_6_3_x1 t_6_3_x2)), ((t_6_r 0), .inr (4, oX4 t_6_0_q t_6_0_x0 t_6_0_x1 t_6_0_x2)), ((t_6_3_q 3), .inl (K 3, 60, .inr (.inl (fun j => lI (t_6_3_3_c j))))), ((t_6_0_q 3), .inl (K 3, 60, .inr (.inl (fun j => lI (t_6_0_3_c j)))))] H := hP
  have hD : va_D A [(t, .inr (11, oX11 t_q)), ((t_q 6), .inl (K 6, 4, .inr (.inr (.inr (.inr t_6_c))))), ((t_6_r 3), .inr (4, oX4 t_6_3_q t_6_3_x0 t_6_3_x1 t_6_3_x2)), ((t_6_r 0), .inr (4, oX4 t_6_0_q t_6_0_x0 t_6_0_x1 t_6_0_x2)), ((t_6_3_q 3), .inl (K 3, 60, .inr (.inl (fun j => lI (t_6_3_3_c j))))), ((t_6_0_q 3), .inl (K 3, 60, .inr (.inl (fun j => lI (t_6_0_3_c j)))))] := hD
  refine g_if_ne (tgt := 14) hx hb (by omega) dX11_paste_4 (by decide) (fun c4 => ?_) (fun c4 => ?_)
  · refine lv_bipush (v := iI (-2)) hx hb dX11_paste_14 (by decide) ?_
    rw [hQ]; exact fn_iret hx hb hr hlocks rfl hP hD hS ((fun _ => 0), (fun k => ([t_6_0_3_c] : List (Nat → Int)).getD k (fun _ => 0))) ⟨(-2), rfl, by omega, (hc_t_6_0_3), trivial⟩ [0, 1, 2, 3, 4, 5] (by decide) rfl dX11_paste_16
  · refine lv_iload_n hx hb dX11_paste_7 rfl (lv_at hl 3 rfl) ?_
    refine fn_goi (wc := []) (wr := [(t, .inr (11, oX11 t_q)), ((t_q 6), .inl (K 6, 4, .inr (.inr (.inr (.inr t_6_c))))), ((t_6_r 3), .inr (4, oX4 t_6_3_q t_6_3_x0 t_6_3_x1 t_6_3_x2)), ((t_6_r 0), .inr (4, oX4 t_6_0_q t_6_0_x0 t_6_0_x1 t_6_0_x2)), ((t_6_3_q 3), .inl (K 3, 60, .inr (.inl (fun j => lI (t_6_3_3_c j))))), ((t_6_0_q 3), .inl (K 3, 60, .inr (.inl (fun j => lI (t_6_0_3_c j)))))]) hK hP hD hS hA [] [0, 1, 2, 3, 4, 5] rfl rfl (by decide) (fun hp => va_runS (As := [.int (iI 0)]) (rest := []) ⟨hx, hb, hml, hown, hts⟩ (k_X11_noSlot (l := l) (D := D) (K := K) (p1 := 0) (hp1 := (by omega)) _) (va_cwS 1 hts (fn_ginS (fn_gin wd_963) wd_961 wd_962 wd_1) rfl rfl rfl (by decide +kernel) ⟨Nat.le_of_ble_eq_true rfl, Nat.le_of_ble_eq_true rfl⟩) ⟨fn_blind, hp⟩ rfl rfl hl.1 rfl (lv_room (Nat.le_of_ble_eq_true rfl)) dX11_paste_8 ⟨Nat.le_of_ble_eq_true rfl, Nat.le_of_ble_eq_true rfl⟩) (fun r8 u8 H locs hwu8 hP hD hS => ?_)
    obtain ⟨u8a, u8b⟩ := u8
    obtain ⟨kr8, rfl, hkr8, hqu80, -⟩ := hwu8
    have hqu8 : (kr8 = 0 → 0 ≤ (0 : Int) ∧ (0 : Int) ≤ 3) ∧ (kr8 = 1 → (0 : Int) < 0 ∨ 3 < (0 : Int)) := hqu80
    clear hqu80
    have hP : va_P D vwCl [(t, .inr (11, oX11 t_q)), ((t_q 6), .inl (K 6, 4, .inr (.inr (.inr (.inr t_6_c))))), ((t_6_r 3), .inr (4, oX4 t_6_3_q t_6_3_x0 t_6_3_x1 t_6_3_x2)), ((t_6_r 0), .inr (4, oX4 t_6_0_q t_6_0_x0 t_6_0_x1 t_6_0_x2)), ((t_6_3_q 3), .inl (K 3, 60, .inr (.inl (fun j => lI (t_6_3_3_c j))))), ((t_6_0_q 3), .inl (K 3, 60, .inr (.inl (fun j => lI (t_6_0_3_c j)))))] H := hP
    have hD : va_D A [(t, .inr (11, oX11 t_q)), ((t_q 6), .inl (K 6, 4, .inr (.inr (.inr (.inr t_6_c))))), ((t_6_r 3), .inr (4, oX4 t_6_3_q t_6_3_x0 t_6_3_x1 t_6_3_x2)), ((t_6_r 0), .inr (4, oX4 t_6_0_q t_6_0_x0 t_6_0_x1 t_6_0_x2)), ((t_6_3_q 3), .inl (K 3, 60, .inr (.inl (fun j => lI (t_6_3_3_c j))))), ((t_6_0_q 3), .inl (K 3, 60, .inr (.inl (fun j => lI (t_6_0_3_c j)))))] := hD
    refine g_if_eq (tgt := 17) hx hb (by omega) dX11_paste_11 (by decide) (fun c11 => ?_) (fun c11 => ?_)
    · refine lv_aload_n hx hb dX11_paste_17 rfl (lv_at hl 0 rfl) ?_
      refine va_get (D := D) (own := RX11) (ci := 11) (v := .ref (t_q 6)) (C := RX11) (T := TX11) (N := 13) hx hb hts inb_X11 hown hK.1 hP 0 rfl rfl 6 (by decide) (hts _ wd_428) (fun _ h9 => h9) rfl dX11_paste_18 ?_
      refine lv_iload_n hx hb dX11_paste_21 rfl (lv_at hl 1 rfl) ?_
      refine va_aldq hx hb hK.1 hP 1 6 rfl rfl (iI_in (by decide) (by decide) (by decide)) dX11_paste_22 ?_
      refine fn_topv (.ref (t_6_r 3)) (by rw [iI_cl (by decide)]; exact congrArg va_rf (hr_t_6 3 (by decide))) ?_
      refine lv_astore (lv' := [(6, .ref (t_6_r 3)), (0, .ref t), (1, .int (iI 3)), (2, .int (iI p2)), (3, .int (iI 0)), (4, .int (iI p4)), (5, .int (iI p5))]) hx hb dX11_paste_23 hl (by decide) rfl (fun ls hl => ?_)
      refine lv_aload_n hx hb dX11_paste_25 rfl (lv_at hl 1 rfl) ?_
      refine va_get (D := D) (own := RX11) (ci := 11) (v := .ref (t_q 6)) (C := RX11) (T := TX11) (N := 13) hx hb hts inb_X11 hown hK.1 hP 0 rfl rfl 6 (by decide) (hts _ wd_428) (fun _ h9 => h9) rfl dX11_paste_26 ?_
      refine lv_iload_n hx hb dX11_paste_29 rfl (lv_at hl 4 rfl) ?_
      refine va_aldq hx hb hK.1 hP 1 6 rfl rfl (iI_in (by decide) (by decide) (by decide)) dX11_paste_30 ?_
      refine fn_topv (.ref (t_6_r 0)) (by rw [iI_cl (by decide)]; exact congrArg va_rf (hr_t_6 0 (by decide))) ?_
      refine lv_astore (lv' := [(7, .ref (t_6_r 0)), (6, .ref (t_6_r 3)), (0, .ref t), (1, .int (iI 3)), (2, .int (iI p2)), (3, .int (iI 0)), (4, .int (iI p4)), (5, .int (iI p5))]) hx hb dX11_paste_31 hl (by decide) rfl (fun ls hl => ?_)
      refine lv_aload hx hb dX11_paste_33 (lv_at hl 1 rfl) ?_
      refine va_getN (D := D) (own := RX11) (ci := 4) (v := .int (iI t_6_3_x0)) (C := RX4) (T := TX4) (N := 4) hx hb hts inb_X4 hown hK.1 hP 2 rfl rfl 0 (by decide) (hK.nf 89 rfl) (fun _ h9 => h9) rfl dX11_paste_35 ?_
      have y35_1 : 0 ≤ t_6_3_x0 ∧ t_6_3_x0 ≤ 1 := hi_t_6_3.1
      refine g_if_eq (tgt := 49) hx hb (by omega) dX11_paste_38 (by decide) (fun c38 => ?_) (fun c38 => ?_)
      · refine fn_at 49 rfl ?_
        refine lv_bipush (v := iI (-6)) hx hb dX11_paste_49 (by decide) ?_
        rw [hQ]; exact fn_iret hx hb hr hlocks rfl hP hD hS ((fun _ => 0), (fun k => ([t_6_0_3_c] : List (Nat → Int)).getD k (fun _ => 0))) ⟨(-6), rfl, by omega, (hc_t_6_0_3), trivial⟩ [0, 1, 2, 3, 4, 5] (by decide) rfl dX11_paste_51
      · refine fn_at 41 rfl ?_
        refine lv_aload hx hb dX11_paste_41 (lv_at hl 0 rfl) ?_
        refine va_getN (D := D) (own := RX11) (ci := 4) (v := .int (iI t_6_0_x0)) (C := RX4) (T := TX4) (N := 4) hx hb hts inb_X4 hown hK.1 hP 3 rfl rfl 0 (by decide) (hK.nf 89 rfl) (fun _ h9 => h9) rfl dX11_paste_43 ?_
        have y43_2 : 0 ≤ t_6_0_x0 ∧ t_6_0_x0 ≤ 1 := hi_t_6_0.1
        refine g_if_ne (tgt := 52) hx hb (by omega) dX11_paste_46 (by decide) (fun c46 => ?_) (fun c46 => ?_)
        · refine lv_aload hx hb dX11_paste_52 (lv_at hl 1 rfl) ?_
          refine va_getN (D := D) (own := RX11) (ci := 4) (v := .int (iI t_6_3_x1)) (C := RX4) (T := TX4) (N := 4) hx hb hts inb_X4 hown hK.1 hP 2 rfl rfl 1 (by decide) (hK.nf 90 rfl) (fun _ h9 => h9) rfl dX11_paste_54 ?_
          have y54_3 : 0 ≤ t_6_3_x1 ∧ t_6_3_x1 ≤ 3 := hi_t_6_3.2.1
          refine lv_aload hx hb dX11_paste_57 (lv_at hl 0 rfl) ?_
          refine va_getN (D := D) (own := RX11) (ci := 4) (v := .int (iI t_6_0_x1)) (C := RX4) (T := TX4) (N := 4) hx hb hts inb_X4 hown hK.1 hP 3 rfl rfl 1 (by decide) (hK.nf 90 rfl) (fun _ h9 => h9) rfl dX11_paste_59 ?_
          have y59_4 : 0 ≤ t_6_0_x1 ∧ t_6_0_x1 ≤ 3 := hi_t_6_0.2.1
          refine g_icmp_eq (tgt := 68) hx hb (by omega) (by omega) dX11_paste_62 (by decide) (fun c62 => ?_) (fun c62 => ?_)
          · refine lv_aload hx hb dX11_paste_68 (lv_at hl 1 rfl) ?_
            refine lv_iload_n hx hb dX11_paste_70 rfl (lv_at hl 4 rfl) ?_
            refine lv_iload hx hb dX11_paste_71 (lv_at hl 7 rfl) ?_
            refine fn_goi (wc := [((t_6_r 3), .inr (4, oX4 t_6_3_q t_6_3_x0 t_6_3_x1 t_6_3_x2))]) (wr := [(t, .inr (11, oX11 t_q)), ((t_q 6), .inl (K 6, 4, .inr (.inr (.inr (.inr t_6_c))))), ((t_6_r 0), .inr (4, oX4 t_6_0_q t_6_0_x0 t_6_0_x1 t_6_0_x2)), ((t_6_3_q 3), .inl (K 3, 60, .inr (.inl (fun j => lI (t_6_3_3_c j))))), ((t_6_0_q 3), .inl (K 3, 60, .inr (.inl (fun j => lI (t_6_0_3_c j)))))]) hK hP hD hS hA [2] [0, 1, 3, 4, 5] rfl rfl (by decide) (fun hp => va_runVN (C := RX4) (As := [.int (iI p2), .int (iI p5)]) (rest := []) ⟨hx, hb, hml, hown, hts⟩ (k_X4_spans (l := l) (D := D) (K := K) (t := (t_6_r 3)) (p1 := p2) (p2 := p5) (t_q := t_6_3_q) (t_x0 := t_6_3_x0) (t_x1 := t_6_3_x1) (t_x2 := t_6_3_x2) (hp1 := (by omega)) (hp2 := (by omega)) (hi_t := hi_t_6_3) _) ⟨va_cnB (own := RX11) 2 hts (fn_gin wd_1226) rfl rfl rfl (hK.nw 155 rfl) (hts _ wd_12) (by decide +kernel) ⟨Nat.le_of_ble_eq_true rfl, Nat.le_of_ble_eq_true rfl⟩, hts _ wd_1225, hts _ wp_93⟩ ⟨fn_blind, va_recv hK.1 hP (ci := 4) (q0 := 2) rfl rfl, hp⟩ rfl rfl hl.1 rfl (lv_room (Nat.le_of_ble_eq_true rfl)) dX11_paste_73 ⟨Nat.le_of_ble_eq_true rfl, Nat.le_of_ble_eq_true rfl⟩) (fun r73 u73 H locs hwu73 hP hD hS => ?_)
            obtain ⟨u73a, u73b⟩ := u73
            obtain ⟨kr73, rfl, hkr73, hqu730, -⟩ := hwu73
            have hqu73 : (kr73 = 1 → 0 ≤ p2 ∧ 0 ≤ p5 ∧ p2 + p5 ≤ t_6_3_x2 ∧ p2 + p5 ≤ 60) := hqu730
            clear hqu730
            have hP : va_P D vwCl [(t, .inr (11, oX11 t_q)), ((t_q 6), .inl (K 6, 4, .inr (.inr (.inr (.inr t_6_c))))), ((t_6_r 0), .inr (4, oX4 t_6_0_q t_6_0_x0 t_6_0_x1 t_6_0_x2)), ((t_6_3_q 3), .inl (K 3, 60, .inr (.inl (fun j => lI (t_6_3_3_c j))))), ((t_6_0_q 3), .inl (K 3, 60, .inr (.inl (fun j => lI (t_6_0_3_c j))))), ((t_6_r 3), .inr (4, oX4 t_6_3_q t_6_3_x0 t_6_3_x1 t_6_3_x2))] H := hP
            have hD : va_D A [(t, .inr (11, oX11 t_q)), ((t_q 6), .inl (K 6, 4, .inr (.inr (.inr (.inr t_6_c))))), ((t_6_r 0), .inr (4, oX4 t_6_0_q t_6_0_x0 t_6_0_x1 t_6_0_x2)), ((t_6_3_q 3), .inl (K 3, 60, .inr (.inl (fun j => lI (t_6_3_3_c j))))), ((t_6_0_q 3), .inl (K 3, 60, .inr (.inl (fun j => lI (t_6_0_3_c j))))), ((t_6_r 3), .inr (4, oX4 t_6_3_q t_6_3_x0 t_6_3_x1 t_6_3_x2))] := hD
            refine g_if_eq (tgt := 91) hx hb (by omega) dX11_paste_76 (by decide) (fun c76 => ?_) (fun c76 => ?_)
            · refine lv_bipush (v := iI (-7)) hx hb dX11_paste_91 (by decide) ?_
              rw [hQ]; exact fn_iret hx hb hr hlocks rfl hP hD hS ((fun _ => 0), (fun k => ([t_6_0_3_c] : List (Nat → Int)).getD k (fun _ => 0))) ⟨(-7), rfl, by omega, (hc_t_6_0_3), trivial⟩ [0, 1, 5, 2, 3, 4] (by decide) rfl dX11_paste_93
            · refine lv_aload hx hb dX11_paste_79 (lv_at hl 0 rfl) ?_
              refine lv_iload hx hb dX11_paste_81 (lv_at hl 6 rfl) ?_
              refine lv_iload hx hb dX11_paste_83 (lv_at hl 7 rfl) ?_
              refine fn_goi (wc := [((t_6_r 0), .inr (4, oX4 t_6_0_q t_6_0_x0 t_6_0_x1 t_6_0_x2))]) (wr := [(t, .inr (11, oX11 t_q)), ((t_q 6), .inl (K 6, 4, .inr (.inr (.inr (.inr t_6_c))))), ((t_6_3_q 3), .inl (K 3, 60, .inr (.inl (fun j => lI (t_6_3_3_c j))))), ((t_6_0_q 3), .inl (K 3, 60, .inr (.inl (fun j => lI (t_6_0_3_c j))))), ((t_6_r 3), .inr (4, oX4 t_6_3_q t_6_3_x0 t_6_3_x1 t_6_3_x2))]) hK hP hD hS hA [2] [0, 1, 3, 4, 5] rfl rfl (by decide) (fun hp => va_runVN (C := RX4) (As := [.int (iI p4), .int (iI p5)]) (rest := []) ⟨hx, hb, hml, hown, hts⟩ (k_X4_spans (l := l) (D := D) (K := K) (t := (t_6_r 0)) (p1 := p4) (p2 := p5) (t_q := t_6_0_q) (t_x0 := t_6_0_x0) (t_x1 := t_6_0_x1) (t_x2 := t_6_0_x2) (hp1 := (by omega)) (hp2 := (by omega)) (hi_t := hi_t_6_0) _) ⟨va_cnB (own := RX11) 2 hts (fn_gin wd_1226) rfl rfl rfl (hK.nw 155 rfl) (hts _ wd_12) (by decide +kernel) ⟨Nat.le_of_ble_eq_true rfl, Nat.le_of_ble_eq_true rfl⟩, hts _ wd_1225, hts _ wp_93⟩ ⟨fn_blind, va_recv hK.1 hP (ci := 4) (q0 := 2) rfl rfl, hp⟩ rfl rfl hl.1 rfl (lv_room (Nat.le_of_ble_eq_true rfl)) dX11_paste_85 ⟨Nat.le_of_ble_eq_true rfl, Nat.le_of_ble_eq_true rfl⟩) (fun r85 u85 H locs hwu85 hP hD hS => ?_)
              obtain ⟨u85a, u85b⟩ := u85
              obtain ⟨kr85, rfl, hkr85, hqu850, -⟩ := hwu85
              have hqu85 : (kr85 = 1 → 0 ≤ p4 ∧ 0 ≤ p5 ∧ p4 + p5 ≤ t_6_0_x2 ∧ p4 + p5 ≤ 60) := hqu850
              clear hqu850
              have hP : va_P D vwCl [(t, .inr (11, oX11 t_q)), ((t_q 6), .inl (K 6, 4, .inr (.inr (.inr (.inr t_6_c))))), ((t_6_3_q 3), .inl (K 3, 60, .inr (.inl (fun j => lI (t_6_3_3_c j))))), ((t_6_0_q 3), .inl (K 3, 60, .inr (.inl (fun j => lI (t_6_0_3_c j))))), ((t_6_r 3), .inr (4, oX4 t_6_3_q t_6_3_x0 t_6_3_x1 t_6_3_x2)), ((t_6_r 0), .inr (4, oX4 t_6_0_q t_6_0_x0 t_6_0_x1 t_6_0_x2))] H := hP
              have hD : va_D A [(t, .inr (11, oX11 t_q)), ((t_q 6), .inl (K 6, 4, .inr (.inr (.inr (.inr t_6_c))))), ((t_6_3_q 3), .inl (K 3, 60, .inr (.inl (fun j => lI (t_6_3_3_c j))))), ((t_6_0_q 3), .inl (K 3, 60, .inr (.inl (fun j => lI (t_6_0_3_c j))))), ((t_6_r 3), .inr (4, oX4 t_6_3_q t_6_3_x0 t_6_3_x1 t_6_3_x2)), ((t_6_r 0), .inr (4, oX4 t_6_0_q t_6_0_x0 t_6_0_x1 t_6_0_x2))] := hD
              refine g_if_ne (tgt := 94) hx hb (by omega) dX11_paste_88 (by decide) (fun c88 => ?_) (fun c88 => ?_)
              · refine lv_aload hx hb dX11_paste_94 (lv_at hl 1 rfl) ?_
                refine va_getN (D := D) (own := RX11) (ci := 4) (v := .ref (t_6_3_q 3)) (C := RX4) (T := TX4) (N := 4) hx hb hts inb_X4 hown hK.1 hP 4 rfl rfl 3 (by decide) (hK.nf 92 rfl) (fun _ h9 => h9) rfl dX11_paste_96 ?_
                refine fn_at 99 rfl ?_
                refine lv_iload_n hx hb dX11_paste_99 rfl (lv_at hl 4 rfl) ?_
                refine lv_aload hx hb dX11_paste_100 (lv_at hl 0 rfl) ?_
                refine va_getN (D := D) (own := RX11) (ci := 4) (v := .ref (t_6_0_q 3)) (C := RX4) (T := TX4) (N := 4) hx hb hts inb_X4 hown hK.1 hP 5 rfl rfl 3 (by decide) (hK.nf 92 rfl) (fun _ h9 => h9) rfl dX11_paste_102 ?_
                refine lv_iload hx hb dX11_paste_105 (lv_at hl 6 rfl) ?_
                refine lv_iload hx hb dX11_paste_107 (lv_at hl 7 rfl) ?_
                refine g_cpyl (own := RX11) hx hb (hml.trans hl.1.symm) hown (hts _ wd_1227) (hts _ wd_622) (hts _ wd_621) (hts _ wd_19) hK.1 hP hD hS 2 3 3 3 rfl rfl rfl rfl (by omega) (by omega) (by omega) (Nat.le_of_ble_eq_true rfl) (Nat.le_of_ble_eq_true rfl) dX11_paste_109 (fun H locs g109 eg109 hP hD hS => ?_)
                have hg109 : ∀ j : Nat, (-9223372036854775808) ≤ g109 j ∧ g109 j ≤ 9223372036854775807 := by rw [eg109]; exact cI_all hc_t_6_3_3 hc_t_6_0_3
                have hP : va_P D vwCl [(t, .inr (11, oX11 t_q)), ((t_q 6), .inl (K 6, 4, .inr (.inr (.inr (.inr t_6_c))))), ((t_6_3_q 3), .inl (K 3, 60, .inr (.inl (fun j => lI (t_6_3_3_c j))))), ((t_6_0_q 3), .inl (K 3, 60, .inr (.inl (fun j => lI (g109 j))))), ((t_6_r 3), .inr (4, oX4 t_6_3_q t_6_3_x0 t_6_3_x1 t_6_3_x2)), ((t_6_r 0), .inr (4, oX4 t_6_0_q t_6_0_x0 t_6_0_x1 t_6_0_x2))] H := hP
                have hD : va_D A [(t, .inr (11, oX11 t_q)), ((t_q 6), .inl (K 6, 4, .inr (.inr (.inr (.inr t_6_c))))), ((t_6_3_q 3), .inl (K 3, 60, .inr (.inl (fun j => lI (t_6_3_3_c j))))), ((t_6_0_q 3), .inl (K 3, 60, .inr (.inl (fun j => lI (g109 j))))), ((t_6_r 3), .inr (4, oX4 t_6_3_q t_6_3_x0 t_6_3_x1 t_6_3_x2)), ((t_6_r 0), .inr (4, oX4 t_6_0_q t_6_0_x0 t_6_0_x1 t_6_0_x2))] := hD
                refine lv_iconst (v := iI 0) hx hb dX11_paste_112 rfl ?_
                rw [hQ]; exact fn_iret hx hb hr hlocks rfl hP hD hS ((fun _ => 0), (fun k => ([g109] : List (Nat → Int)).getD k (fun _ => 0))) ⟨0, rfl, by omega, (hg109), trivial⟩ [0, 1, 4, 5, 2, 3] (by decide) rfl dX11_paste_113
              · refine lv_bipush (v := iI (-7)) hx hb dX11_paste_91 (by decide) ?_
                rw [hQ]; exact fn_iret hx hb hr hlocks rfl hP hD hS ((fun _ => 0), (fun k => ([t_6_0_3_c] : List (Nat → Int)).getD k (fun _ => 0))) ⟨(-7), rfl, by omega, (hc_t_6_0_3), trivial⟩ [0, 1, 4, 5, 2, 3] (by decide) rfl dX11_paste_93
          · refine lv_bipush (v := iI (-8)) hx hb dX11_paste_65 (by decide) ?_
            rw [hQ]; exact fn_iret hx hb hr hlocks rfl hP hD hS ((fun _ => 0), (fun k => ([t_6_0_3_c] : List (Nat → Int)).getD k (fun _ => 0))) ⟨(-8), rfl, by omega, (hc_t_6_0_3), trivial⟩ [0, 1, 2, 3, 4, 5] (by decide) rfl dX11_paste_67
        · refine lv_bipush (v := iI (-6)) hx hb dX11_paste_49 (by decide) ?_
          rw [hQ]; exact fn_iret hx hb hr hlocks rfl hP hD hS ((fun _ => 0), (fun k => ([t_6_0_3_c] : List (Nat → Int)).getD k (fun _ => 0))) ⟨(-6), rfl, by omega, (hc_t_6_0_3), trivial⟩ [0, 1, 2, 3, 4, 5] (by decide) rfl dX11_paste_51
    · refine lv_bipush (v := iI (-2)) hx hb dX11_paste_14 (by decide) ?_
      rw [hQ]; exact fn_iret hx hb hr hlocks rfl hP hD hS ((fun _ => 0), (fun k => ([t_6_0_3_c] : List (Nat → Int)).getD k (fun _ => 0))) ⟨(-2), rfl, by omega, (hc_t_6_0_3), trivial⟩ [0, 1, 2, 3, 4, 5] (by decide) rfl dX11_paste_16
set_option maxHeartbeats 4000000 in
set_option maxRecDepth 100000 in
theorem k_X11_paste_31 (l : Launch) (D : va_G) (K : Nat → ClassId) (t : Nat) (t_q t_6_r t_6_3_q t_6_1_q : Nat → Nat) (p2 p4 p5 t_6_3_x0 t_6_3_x1 t_6_3_x2 t_6_1_x0 t_6_1_x1 t_6_1_x2 : Int) (t_6_c : Nat → Option Nat) (t_6_3_3_c : Nat → Int) (t_6_1_3_c : Nat → Int) (hp2 : (-2147483648) ≤ p2 ∧ p2 ≤ 2147483647) (hp4 : (-2147483648) ≤ p4 ∧ p4 ≤ 2147483647) (hp5 : (-2147483648) ≤ p5 ∧ p5 ≤ 2147483647) (hr_t_6 : ∀ j : Nat, j < 4 → t_6_c j = some (t_6_r j)) (hi_t_6_3 : bX4 t_6_3_x0 t_6_3_x1 t_6_3_x2) (hi_t_6_1 : bX4 t_6_1_x0 t_6_1_x1 t_6_1_x2) (hc_t_6_3_3 : ∀ j : Nat, (-9223372036854775808) ≤ t_6_3_3_c j ∧ t_6_3_3_c j ≤ 9223372036854775807) (hc_t_6_1_3 : ∀ j : Nat, (-9223372036854775808) ≤ t_6_1_3_c j ∧ t_6_1_3_c j ≤ 9223372036854775807) : fn_CI (S := (Nat → Int) × (Nat → Nat → Int)) l D K yX11_paste (fn_ws yX11_paste cX11_paste 8 (some .int)) ({ frames := 8, cells := 0, slots := 0, locals := 200 } : Room) [.ref t, .int (iI 3), .int (iI p2), .int (iI 1), .int (iI p4), .int (iI p5)] [(t, .inr (11, oX11 t_q)), ((t_q 6), .inl (K 6, 4, .inr (.inr (.inr (.inr t_6_c))))), ((t_6_r 3), .inr (4, oX4 t_6_3_q t_6_3_x0 t_6_3_x1 t_6_3_x2)), ((t_6_r 1), .inr (4, oX4 t_6_1_q t_6_1_x0 t_6_1_x1 t_6_1_x2)), ((t_6_3_q 3), .inl (K 3, 60, .inr (.inl (fun j => lI (t_6_3_3_c j))))), ((t_6_1_q 3), .inl (K 3, 60, .inr (.inl (fun j => lI (t_6_1_3_c j)))))] (fun r u => ∃ k : Int, r = iI k ∧ ((-8) ≤ k ∧ k ≤ 0) ∧ (∀ j : Nat, (-9223372036854775808) ≤ (u.2 0) j ∧ (u.2 0) j ≤ 9223372036854775807) ∧ True) (fun u => [(t, .inr (11, oX11 t_q)), ((t_q 6), .inl (K 6, 4, .inr (.inr (.inr (.inr t_6_c))))), ((t_6_r 3), .inr (4, oX4 t_6_3_q t_6_3_x0 t_6_3_x1 t_6_3_x2)), ((t_6_r 1), .inr (4, oX4 t_6_1_q t_6_1_x0 t_6_1_x1 t_6_1_x2)), ((t_6_3_q 3), .inl (K 3, 60, .inr (.inl (fun j => lI (t_6_3_3_c j))))), ((t_6_1_q 3), .inl (K 3, 60, .inr (.inl (fun j => lI ((u.2 0) j)))))]) 0 0 := by
  refine g_inI (cc := cX11_paste) (maxL := 8) (ret := (some .int)) (by decide) rfl (Nat.le_of_ble_eq_true rfl) ?_
  intro p e s m below meth c A ls ag Q B hA hP hD hS hl hQ
  obtain ⟨hx, hb, hr, hml, hts, hown, hlocks, hin, hK⟩ := B
  have hown : s.vm.findClass RX11 = some m.cls := hown
  have hts := fun w h => hts w (List.mem_cons_of_mem _ h)
  have hl : lv_has ls 8 [(0, .ref t), (1, .int (iI 3)), (2, .int (iI p2)), (3, .int (iI 1)), (4, .int (iI p4)), (5, .int (iI p5))] := hl
  refine lv_iload_n hx hb dX11_paste_0 rfl (lv_at hl 1 rfl) ?_
  refine fn_goi (wc := []) (wr := [(t, .inr (11, oX11 t_q)), ((t_q 6), .inl (K 6, 4, .inr (.inr (.inr (.inr t_6_c))))), ((t_6_r 3), .inr (4, oX4 t_6_3_q t_6_3_x0 t_6_3_x1 t_6_3_x2)), ((t_6_r 1), .inr (4, oX4 t_6_1_q t_6_1_x0 t_6_1_x1 t_6_1_x2)), ((t_6_3_q 3), .inl (K 3, 60, .inr (.inl (fun j => lI (t_6_3_3_c j))))), ((t_6_1_q 3), .inl (K 3, 60, .inr (.inl (fun j => lI (t_6_1_3_c j)))))]) hK hP hD hS hA [] [0, 1, 2, 3, 4, 5] rfl rfl (by decide) (fun hp => va_runS (As := [.int (iI 3)]) (rest := []) ⟨hx, hb, hml, hown, hts⟩ (k_X11_noSlot (l := l) (D := D) (K := K) (p1 := 3) (hp1 := (by omega)) _) (va_cwS 1 hts (fn_ginS (fn_gin wd_963) wd_961 wd_962 wd_1) rfl rfl rfl (by decide +kernel) ⟨Nat.le_of_ble_eq_true rfl, Nat.le_of_ble_eq_true rfl⟩) ⟨fn_blind, hp⟩ rfl rfl hl.1 rfl (lv_room (Nat.le_of_ble_eq_true rfl)) dX11_paste_1 ⟨Nat.le_of_ble_eq_true rfl, Nat.le_of_ble_eq_true rfl⟩) (fun r1 u1 H locs hwu1 hP hD hS => ?_)
  obtain ⟨u1a, u1b⟩ := u1
  obtain ⟨kr1, rfl, hkr1, hqu10, -⟩ := hwu1
  have hqu1 : (kr1 = 0 → 0 ≤ (3 : Int) ∧ (3 : Int) ≤ 3) ∧ (kr1 = 1 → (3 : Int) < 0 ∨ 3 < (3 : Int)) := hqu10
  clear hqu10
  have hP : va_P D vwCl [(t, .inr (11, oX11 t_q)), ((t_q 6), .inl (K 6, 4, .inr (.inr (.inr (.inr t_6_c))))), ((t_6_r 3), .inr (4, oX4 t_6_3_q t_6_3_x0 t_6_3_x1 t_6_3_x2)), ((t_6_r 1), .inr (4, oX4 t_6_1_q t_6_1_x0 t_6_1_x1 t_6_1_x2)), ((t_6_3_q 3), .inl (K 3, 60, .inr (.inl (fun j => lI (t_6_3_3_c j))))), ((t_6_1_q 3), .inl (K 3, 60, .inr (.inl (fun j => lI (t_6_1_3_c j)))))] H := hP
  have hD : va_D A [(t, .inr (11, oX11 t_q)), ((t_q 6), .inl (K 6, 4, .inr (.inr (.inr (.inr t_6_c))))), ((t_6_r 3), .inr (4, oX4 t_6_3_q t_6_3_x0 t_6_3_x1 t_6_3_x2)), ((t_6_r 1), .inr (4, oX4 t_6_1_q t_6_1_x0 t_6_1_x1 t_6_1_x2)), ((t_6_3_q 3), .inl (K 3, 60, .inr (.inl (fun j => lI (t_6_3_3_c j))))), ((t_6_1_q 3), .inl (K 3, 60, .inr (.inl (fun j => lI (t_6_1_3_c j)))))] := hD
  refine g_if_ne (tgt := 14) hx hb (by omega) dX11_paste_4 (by decide) (fun c4 => ?_) (fun c4 => ?_)
  · refine lv_bipush (v := iI (-2)) hx hb dX11_paste_14 (by decide) ?_
    rw [hQ]; exact fn_iret hx hb hr hlocks rfl hP hD hS ((fun _ => 0), (fun k => ([t_6_1_3_c] : List (Nat → Int)).getD k (fun _ => 0))) ⟨(-2), rfl, by omega, (hc_t_6_1_3), trivial⟩ [0, 1, 2, 3, 4, 5] (by decide) rfl dX11_paste_16
  · refine lv_iload_n hx hb dX11_paste_7 rfl (lv_at hl 3 rfl) ?_
    refine fn_goi (wc := []) (wr := [(t, .inr (11, oX11 t_q)), ((t_q 6), .inl (K 6, 4, .inr (.inr (.inr (.inr t_6_c))))), ((t_6_r 3), .inr (4, oX4 t_6_3_q t_6_3_x0 t_6_3_x1 t_6_3_x2)), ((t_6_r 1), .inr (4, oX4 t_6_1_q t_6_1_x0 t_6_1_x1 t_6_1_x2)), ((t_6_3_q 3), .inl (K 3, 60, .inr (.inl (fun j => lI (t_6_3_3_c j))))), ((t_6_1_q 3), .inl (K 3, 60, .inr (.inl (fun j => lI (t_6_1_3_c j)))))]) hK hP hD hS hA [] [0, 1, 2, 3, 4, 5] rfl rfl (by decide) (fun hp => va_runS (As := [.int (iI 1)]) (rest := []) ⟨hx, hb, hml, hown, hts⟩ (k_X11_noSlot (l := l) (D := D) (K := K) (p1 := 1) (hp1 := (by omega)) _) (va_cwS 1 hts (fn_ginS (fn_gin wd_963) wd_961 wd_962 wd_1) rfl rfl rfl (by decide +kernel) ⟨Nat.le_of_ble_eq_true rfl, Nat.le_of_ble_eq_true rfl⟩) ⟨fn_blind, hp⟩ rfl rfl hl.1 rfl (lv_room (Nat.le_of_ble_eq_true rfl)) dX11_paste_8 ⟨Nat.le_of_ble_eq_true rfl, Nat.le_of_ble_eq_true rfl⟩) (fun r8 u8 H locs hwu8 hP hD hS => ?_)
    obtain ⟨u8a, u8b⟩ := u8
    obtain ⟨kr8, rfl, hkr8, hqu80, -⟩ := hwu8
    have hqu8 : (kr8 = 0 → 0 ≤ (1 : Int) ∧ (1 : Int) ≤ 3) ∧ (kr8 = 1 → (1 : Int) < 0 ∨ 3 < (1 : Int)) := hqu80
    clear hqu80
    have hP : va_P D vwCl [(t, .inr (11, oX11 t_q)), ((t_q 6), .inl (K 6, 4, .inr (.inr (.inr (.inr t_6_c))))), ((t_6_r 3), .inr (4, oX4 t_6_3_q t_6_3_x0 t_6_3_x1 t_6_3_x2)), ((t_6_r 1), .inr (4, oX4 t_6_1_q t_6_1_x0 t_6_1_x1 t_6_1_x2)), ((t_6_3_q 3), .inl (K 3, 60, .inr (.inl (fun j => lI (t_6_3_3_c j))))), ((t_6_1_q 3), .inl (K 3, 60, .inr (.inl (fun j => lI (t_6_1_3_c j)))))] H := hP
    have hD : va_D A [(t, .inr (11, oX11 t_q)), ((t_q 6), .inl (K 6, 4, .inr (.inr (.inr (.inr t_6_c))))), ((t_6_r 3), .inr (4, oX4 t_6_3_q t_6_3_x0 t_6_3_x1 t_6_3_x2)), ((t_6_r 1), .inr (4, oX4 t_6_1_q t_6_1_x0 t_6_1_x1 t_6_1_x2)), ((t_6_3_q 3), .inl (K 3, 60, .inr (.inl (fun j => lI (t_6_3_3_c j))))), ((t_6_1_q 3), .inl (K 3, 60, .inr (.inl (fun j => lI (t_6_1_3_c j)))))] := hD
    refine g_if_eq (tgt := 17) hx hb (by omega) dX11_paste_11 (by decide) (fun c11 => ?_) (fun c11 => ?_)
    · refine lv_aload_n hx hb dX11_paste_17 rfl (lv_at hl 0 rfl) ?_
      refine va_get (D := D) (own := RX11) (ci := 11) (v := .ref (t_q 6)) (C := RX11) (T := TX11) (N := 13) hx hb hts inb_X11 hown hK.1 hP 0 rfl rfl 6 (by decide) (hts _ wd_428) (fun _ h9 => h9) rfl dX11_paste_18 ?_
      refine lv_iload_n hx hb dX11_paste_21 rfl (lv_at hl 1 rfl) ?_
      refine va_aldq hx hb hK.1 hP 1 6 rfl rfl (iI_in (by decide) (by decide) (by decide)) dX11_paste_22 ?_
      refine fn_topv (.ref (t_6_r 3)) (by rw [iI_cl (by decide)]; exact congrArg va_rf (hr_t_6 3 (by decide))) ?_
      refine lv_astore (lv' := [(6, .ref (t_6_r 3)), (0, .ref t), (1, .int (iI 3)), (2, .int (iI p2)), (3, .int (iI 1)), (4, .int (iI p4)), (5, .int (iI p5))]) hx hb dX11_paste_23 hl (by decide) rfl (fun ls hl => ?_)
      refine lv_aload_n hx hb dX11_paste_25 rfl (lv_at hl 1 rfl) ?_
      refine va_get (D := D) (own := RX11) (ci := 11) (v := .ref (t_q 6)) (C := RX11) (T := TX11) (N := 13) hx hb hts inb_X11 hown hK.1 hP 0 rfl rfl 6 (by decide) (hts _ wd_428) (fun _ h9 => h9) rfl dX11_paste_26 ?_
      refine lv_iload_n hx hb dX11_paste_29 rfl (lv_at hl 4 rfl) ?_
      refine va_aldq hx hb hK.1 hP 1 6 rfl rfl (iI_in (by decide) (by decide) (by decide)) dX11_paste_30 ?_
      refine fn_topv (.ref (t_6_r 1)) (by rw [iI_cl (by decide)]; exact congrArg va_rf (hr_t_6 1 (by decide))) ?_
      refine lv_astore (lv' := [(7, .ref (t_6_r 1)), (6, .ref (t_6_r 3)), (0, .ref t), (1, .int (iI 3)), (2, .int (iI p2)), (3, .int (iI 1)), (4, .int (iI p4)), (5, .int (iI p5))]) hx hb dX11_paste_31 hl (by decide) rfl (fun ls hl => ?_)
      refine lv_aload hx hb dX11_paste_33 (lv_at hl 1 rfl) ?_
      refine va_getN (D := D) (own := RX11) (ci := 4) (v := .int (iI t_6_3_x0)) (C := RX4) (T := TX4) (N := 4) hx hb hts inb_X4 hown hK.1 hP 2 rfl rfl 0 (by decide) (hK.nf 89 rfl) (fun _ h9 => h9) rfl dX11_paste_35 ?_
      have y35_1 : 0 ≤ t_6_3_x0 ∧ t_6_3_x0 ≤ 1 := hi_t_6_3.1
      refine g_if_eq (tgt := 49) hx hb (by omega) dX11_paste_38 (by decide) (fun c38 => ?_) (fun c38 => ?_)
      · refine fn_at 49 rfl ?_
        refine lv_bipush (v := iI (-6)) hx hb dX11_paste_49 (by decide) ?_
        rw [hQ]; exact fn_iret hx hb hr hlocks rfl hP hD hS ((fun _ => 0), (fun k => ([t_6_1_3_c] : List (Nat → Int)).getD k (fun _ => 0))) ⟨(-6), rfl, by omega, (hc_t_6_1_3), trivial⟩ [0, 1, 2, 3, 4, 5] (by decide) rfl dX11_paste_51
      · refine fn_at 41 rfl ?_
        refine lv_aload hx hb dX11_paste_41 (lv_at hl 0 rfl) ?_
        refine va_getN (D := D) (own := RX11) (ci := 4) (v := .int (iI t_6_1_x0)) (C := RX4) (T := TX4) (N := 4) hx hb hts inb_X4 hown hK.1 hP 3 rfl rfl 0 (by decide) (hK.nf 89 rfl) (fun _ h9 => h9) rfl dX11_paste_43 ?_
        have y43_2 : 0 ≤ t_6_1_x0 ∧ t_6_1_x0 ≤ 1 := hi_t_6_1.1
        refine g_if_ne (tgt := 52) hx hb (by omega) dX11_paste_46 (by decide) (fun c46 => ?_) (fun c46 => ?_)
        · refine lv_aload hx hb dX11_paste_52 (lv_at hl 1 rfl) ?_
          refine va_getN (D := D) (own := RX11) (ci := 4) (v := .int (iI t_6_3_x1)) (C := RX4) (T := TX4) (N := 4) hx hb hts inb_X4 hown hK.1 hP 2 rfl rfl 1 (by decide) (hK.nf 90 rfl) (fun _ h9 => h9) rfl dX11_paste_54 ?_
          have y54_3 : 0 ≤ t_6_3_x1 ∧ t_6_3_x1 ≤ 3 := hi_t_6_3.2.1
          refine lv_aload hx hb dX11_paste_57 (lv_at hl 0 rfl) ?_
          refine va_getN (D := D) (own := RX11) (ci := 4) (v := .int (iI t_6_1_x1)) (C := RX4) (T := TX4) (N := 4) hx hb hts inb_X4 hown hK.1 hP 3 rfl rfl 1 (by decide) (hK.nf 90 rfl) (fun _ h9 => h9) rfl dX11_paste_59 ?_
          have y59_4 : 0 ≤ t_6_1_x1 ∧ t_6_1_x1 ≤ 3 := hi_t_6_1.2.1
          refine g_icmp_eq (tgt := 68) hx hb (by omega) (by omega) dX11_paste_62 (by decide) (fun c62 => ?_) (fun c62 => ?_)
          · refine lv_aload hx hb dX11_paste_68 (lv_at hl 1 rfl) ?_
            refine lv_iload_n hx hb dX11_paste_70 rfl (lv_at hl 4 rfl) ?_
            refine lv_iload hx hb dX11_paste_71 (lv_at hl 7 rfl) ?_
            refine fn_goi (wc := [((t_6_r 3), .inr (4, oX4 t_6_3_q t_6_3_x0 t_6_3_x1 t_6_3_x2))]) (wr := [(t, .inr (11, oX11 t_q)), ((t_q 6), .inl (K 6, 4, .inr (.inr (.inr (.inr t_6_c))))), ((t_6_r 1), .inr (4, oX4 t_6_1_q t_6_1_x0 t_6_1_x1 t_6_1_x2)), ((t_6_3_q 3), .inl (K 3, 60, .inr (.inl (fun j => lI (t_6_3_3_c j))))), ((t_6_1_q 3), .inl (K 3, 60, .inr (.inl (fun j => lI (t_6_1_3_c j)))))]) hK hP hD hS hA [2] [0, 1, 3, 4, 5] rfl rfl (by decide) (fun hp => va_runVN (C := RX4) (As := [.int (iI p2), .int (iI p5)]) (rest := []) ⟨hx, hb, hml, hown, hts⟩ (k_X4_spans (l := l) (D := D) (K := K) (t := (t_6_r 3)) (p1 := p2) (p2 := p5) (t_q := t_6_3_q) (t_x0 := t_6_3_x0) (t_x1 := t_6_3_x1) (t_x2 := t_6_3_x2) (hp1 := (by omega)) (hp2 := (by omega)) (hi_t := hi_t_6_3) _) ⟨va_cnB (own := RX11) 2 hts (fn_gin wd_1226) rfl rfl rfl (hK.nw 155 rfl) (hts _ wd_12) (by decide +kernel) ⟨Nat.le_of_ble_eq_true rfl, Nat.le_of_ble_eq_true rfl⟩, hts _ wd_1225, hts _ wp_93⟩ ⟨fn_blind, va_recv hK.1 hP (ci := 4) (q0 := 2) rfl rfl, hp⟩ rfl rfl hl.1 rfl (lv_room (Nat.le_of_ble_eq_true rfl)) dX11_paste_73 ⟨Nat.le_of_ble_eq_true rfl, Nat.le_of_ble_eq_true rfl⟩) (fun r73 u73 H locs hwu73 hP hD hS => ?_)
            obtain ⟨u73a, u73b⟩ := u73
            obtain ⟨kr73, rfl, hkr73, hqu730, -⟩ := hwu73
            have hqu73 : (kr73 = 1 → 0 ≤ p2 ∧ 0 ≤ p5 ∧ p2 + p5 ≤ t_6_3_x2 ∧ p2 + p5 ≤ 60) := hqu730
            clear hqu730
            have hP : va_P D vwCl [(t, .inr (11, oX11 t_q)), ((t_q 6), .inl (K 6, 4, .inr (.inr (.inr (.inr t_6_c))))), ((t_6_r 1), .inr (4, oX4 t_6_1_q t_6_1_x0 t_6_1_x1 t_6_1_x2)), ((t_6_3_q 3), .inl (K 3, 60, .inr (.inl (fun j => lI (t_6_3_3_c j))))), ((t_6_1_q 3), .inl (K 3, 60, .inr (.inl (fun j => lI (t_6_1_3_c j))))), ((t_6_r 3), .inr (4, oX4 t_6_3_q t_6_3_x0 t_6_3_x1 t_6_3_x2))] H := hP
            have hD : va_D A [(t, .inr (11, oX11 t_q)), ((t_q 6), .inl (K 6, 4, .inr (.inr (.inr (.inr t_6_c))))), ((t_6_r 1), .inr (4, oX4 t_6_1_q t_6_1_x0 t_6_1_x1 t_6_1_x2)), ((t_6_3_q 3), .inl (K 3, 60, .inr (.inl (fun j => lI (t_6_3_3_c j))))), ((t_6_1_q 3), .inl (K 3, 60, .inr (.inl (fun j => lI (t_6_1_3_c j))))), ((t_6_r 3), .inr (4, oX4 t_6_3_q t_6_3_x0 t_6_3_x1 t_6_3_x2))] := hD
            refine g_if_eq (tgt := 91) hx hb (by omega) dX11_paste_76 (by decide) (fun c76 => ?_) (fun c76 => ?_)
            · refine lv_bipush (v := iI (-7)) hx hb dX11_paste_91 (by decide) ?_
              rw [hQ]; exact fn_iret hx hb hr hlocks rfl hP hD hS ((fun _ => 0), (fun k => ([t_6_1_3_c] : List (Nat → Int)).getD k (fun _ => 0))) ⟨(-7), rfl, by omega, (hc_t_6_1_3), trivial⟩ [0, 1, 5, 2, 3, 4] (by decide) rfl dX11_paste_93
            · refine lv_aload hx hb dX11_paste_79 (lv_at hl 0 rfl) ?_
              refine lv_iload hx hb dX11_paste_81 (lv_at hl 6 rfl) ?_
              refine lv_iload hx hb dX11_paste_83 (lv_at hl 7 rfl) ?_
              refine fn_goi (wc := [((t_6_r 1), .inr (4, oX4 t_6_1_q t_6_1_x0 t_6_1_x1 t_6_1_x2))]) (wr := [(t, .inr (11, oX11 t_q)), ((t_q 6), .inl (K 6, 4, .inr (.inr (.inr (.inr t_6_c))))), ((t_6_3_q 3), .inl (K 3, 60, .inr (.inl (fun j => lI (t_6_3_3_c j))))), ((t_6_1_q 3), .inl (K 3, 60, .inr (.inl (fun j => lI (t_6_1_3_c j))))), ((t_6_r 3), .inr (4, oX4 t_6_3_q t_6_3_x0 t_6_3_x1 t_6_3_x2))]) hK hP hD hS hA [2] [0, 1, 3, 4, 5] rfl rfl (by decide) (fun hp => va_runVN (C := RX4) (As := [.int (iI p4), .int (iI p5)]) (rest := []) ⟨hx, hb, hml, hown, hts⟩ (k_X4_spans (l := l) (D := D) (K := K) (t := (t_6_r 1)) (p1 := p4) (p2 := p5) (t_q := t_6_1_q) (t_x0 := t_6_1_x0) (t_x1 := t_6_1_x1) (t_x2 := t_6_1_x2) (hp1 := (by omega)) (hp2 := (by omega)) (hi_t := hi_t_6_1) _) ⟨va_cnB (own := RX11) 2 hts (fn_gin wd_1226) rfl rfl rfl (hK.nw 155 rfl) (hts _ wd_12) (by decide +kernel) ⟨Nat.le_of_ble_eq_true rfl, Nat.le_of_ble_eq_true rfl⟩, hts _ wd_1225, hts _ wp_93⟩ ⟨fn_blind, va_recv hK.1 hP (ci := 4) (q0 := 2) rfl rfl, hp⟩ rfl rfl hl.1 rfl (lv_room (Nat.le_of_ble_eq_true rfl)) dX11_paste_85 ⟨Nat.le_of_ble_eq_true rfl, Nat.le_of_ble_eq_true rfl⟩) (fun r85 u85 H locs hwu85 hP hD hS => ?_)
              obtain ⟨u85a, u85b⟩ := u85
              obtain ⟨kr85, rfl, hkr85, hqu850, -⟩ := hwu85
              have hqu85 : (kr85 = 1 → 0 ≤ p4 ∧ 0 ≤ p5 ∧ p4 + p5 ≤ t_6_1_x2 ∧ p4 + p5 ≤ 60) := hqu850
              clear hqu850
              have hP : va_P D vwCl [(t, .inr (11, oX11 t_q)), ((t_q 6), .inl (K 6, 4, .inr (.inr (.inr (.inr t_6_c))))), ((t_6_3_q 3), .inl (K 3, 60, .inr (.inl (fun j => lI (t_6_3_3_c j))))), ((t_6_1_q 3), .inl (K 3, 60, .inr (.inl (fun j => lI (t_6_1_3_c j))))), ((t_6_r 3), .inr (4, oX4 t_6_3_q t_6_3_x0 t_6_3_x1 t_6_3_x2)), ((t_6_r 1), .inr (4, oX4 t_6_1_q t_6_1_x0 t_6_1_x1 t_6_1_x2))] H := hP
              have hD : va_D A [(t, .inr (11, oX11 t_q)), ((t_q 6), .inl (K 6, 4, .inr (.inr (.inr (.inr t_6_c))))), ((t_6_3_q 3), .inl (K 3, 60, .inr (.inl (fun j => lI (t_6_3_3_c j))))), ((t_6_1_q 3), .inl (K 3, 60, .inr (.inl (fun j => lI (t_6_1_3_c j))))), ((t_6_r 3), .inr (4, oX4 t_6_3_q t_6_3_x0 t_6_3_x1 t_6_3_x2)), ((t_6_r 1), .inr (4, oX4 t_6_1_q t_6_1_x0 t_6_1_x1 t_6_1_x2))] := hD
              refine g_if_ne (tgt := 94) hx hb (by omega) dX11_paste_88 (by decide) (fun c88 => ?_) (fun c88 => ?_)
              · refine lv_aload hx hb dX11_paste_94 (lv_at hl 1 rfl) ?_
                refine va_getN (D := D) (own := RX11) (ci := 4) (v := .ref (t_6_3_q 3)) (C := RX4) (T := TX4) (N := 4) hx hb hts inb_X4 hown hK.1 hP 4 rfl rfl 3 (by decide) (hK.nf 92 rfl) (fun _ h9 => h9) rfl dX11_paste_96 ?_
                refine fn_at 99 rfl ?_
                refine lv_iload_n hx hb dX11_paste_99 rfl (lv_at hl 4 rfl) ?_
                refine lv_aload hx hb dX11_paste_100 (lv_at hl 0 rfl) ?_
                refine va_getN (D := D) (own := RX11) (ci := 4) (v := .ref (t_6_1_q 3)) (C := RX4) (T := TX4) (N := 4) hx hb hts inb_X4 hown hK.1 hP 5 rfl rfl 3 (by decide) (hK.nf 92 rfl) (fun _ h9 => h9) rfl dX11_paste_102 ?_
                refine lv_iload hx hb dX11_paste_105 (lv_at hl 6 rfl) ?_
                refine lv_iload hx hb dX11_paste_107 (lv_at hl 7 rfl) ?_
                refine g_cpyl (own := RX11) hx hb (hml.trans hl.1.symm) hown (hts _ wd_1227) (hts _ wd_622) (hts _ wd_621) (hts _ wd_19) hK.1 hP hD hS 2 3 3 3 rfl rfl rfl rfl (by omega) (by omega) (by omega) (Nat.le_of_ble_eq_true rfl) (Nat.le_of_ble_eq_true rfl) dX11_paste_109 (fun H locs g109 eg109 hP hD hS => ?_)
                have hg109 : ∀ j : Nat, (-9223372036854775808) ≤ g109 j ∧ g109 j ≤ 9223372036854775807 := by rw [eg109]; exact cI_all hc_t_6_3_3 hc_t_6_1_3
                have hP : va_P D vwCl [(t, .inr (11, oX11 t_q)), ((t_q 6), .inl (K 6, 4, .inr (.inr (.inr (.inr t_6_c))))), ((t_6_3_q 3), .inl (K 3, 60, .inr (.inl (fun j => lI (t_6_3_3_c j))))), ((t_6_1_q 3), .inl (K 3, 60, .inr (.inl (fun j => lI (g109 j))))), ((t_6_r 3), .inr (4, oX4 t_6_3_q t_6_3_x0 t_6_3_x1 t_6_3_x2)), ((t_6_r 1), .inr (4, oX4 t_6_1_q t_6_1_x0 t_6_1_x1 t_6_1_x2))] H := hP
                have hD : va_D A [(t, .inr (11, oX11 t_q)), ((t_q 6), .inl (K 6, 4, .inr (.inr (.inr (.inr t_6_c))))), ((t_6_3_q 3), .inl (K 3, 60, .inr (.inl (fun j => lI (t_6_3_3_c j))))), ((t_6_1_q 3), .inl (K 3, 60, .inr (.inl (fun j => lI (g109 j))))), ((t_6_r 3), .inr (4, oX4 t_6_3_q t_6_3_x0 t_6_3_x1 t_6_3_x2)), ((t_6_r 1), .inr (4, oX4 t_6_1_q t_6_1_x0 t_6_1_x1 t_6_1_x2))] := hD
                refine lv_iconst (v := iI 0) hx hb dX11_paste_112 rfl ?_
                rw [hQ]; exact fn_iret hx hb hr hlocks rfl hP hD hS ((fun _ => 0), (fun k => ([g109] : List (Nat → Int)).getD k (fun _ => 0))) ⟨0, rfl, by omega, (hg109), trivial⟩ [0, 1, 4, 5, 2, 3] (by decide) rfl dX11_paste_113
              · refine lv_bipush (v := iI (-7)) hx hb dX11_paste_91 (by decide) ?_
                rw [hQ]; exact fn_iret hx hb hr hlocks rfl hP hD hS ((fun _ => 0), (fun k => ([t_6_1_3_c] : List (Nat → Int)).getD k (fun _ => 0))) ⟨(-7), rfl, by omega, (hc_t_6_1_3), trivial⟩ [0, 1, 4, 5, 2, 3] (by decide) rfl dX11_paste_93
          · refine lv_bipush (v := iI (-8)) hx hb dX11_paste_65 (by decide) ?_
            rw [hQ]; exact fn_iret hx hb hr hlocks rfl hP hD hS ((fun _ => 0), (fun k => ([t_6_1_3_c] : List (Nat → Int)).getD k (fun _ => 0))) ⟨(-8), rfl, by omega, (hc_t_6_1_3), trivial⟩ [0, 1, 2, 3, 4, 5] (by decide) rfl dX11_paste_67
        · refine lv_bipush (v := iI (-6)) hx hb dX11_paste_49 (by decide) ?_
          rw [hQ]; exact fn_iret hx hb hr hlocks rfl hP hD hS ((fun _ => 0), (fun k => ([t_6_1_3_c] : List (Nat → Int)).getD k (fun _ => 0))) ⟨(-6), rfl, by omega, (hc_t_6_1_3), trivial⟩ [0, 1, 2, 3, 4, 5] (by decide) rfl dX11_paste_51
    · refine lv_bipush (v := iI (-2)) hx hb dX11_paste_14 (by decide) ?_
      rw [hQ]; exact fn_iret hx hb hr hlocks rfl hP hD hS ((fun _ => 0), (fun k => ([t_6_1_3_c] : List (Nat → Int)).getD k (fun _ => 0))) ⟨(-2), rfl, by omega, (hc_t_6_1_3), trivial⟩ [0, 1, 2, 3, 4, 5] (by decide) rfl dX11_paste_16
set_option maxHeartbeats 4000000 in
set_option maxRecDepth 100000 in
theorem k_X11_paste_32 (l : Launch) (D : va_G) (K : Nat → ClassId) (t : Nat) (t_q t_6_r t_6_3_q t_6_2_q : Nat → Nat) (p2 p4 p5 t_6_3_x0 t_6_3_x1 t_6_3_x2 t_6_2_x0 t_6_2_x1 t_6_2_x2 : Int) (t_6_c : Nat → Option Nat) (t_6_3_3_c : Nat → Int) (t_6_2_3_c : Nat → Int) (hp2 : (-2147483648) ≤ p2 ∧ p2 ≤ 2147483647) (hp4 : (-2147483648) ≤ p4 ∧ p4 ≤ 2147483647) (hp5 : (-2147483648) ≤ p5 ∧ p5 ≤ 2147483647) (hr_t_6 : ∀ j : Nat, j < 4 → t_6_c j = some (t_6_r j)) (hi_t_6_3 : bX4 t_6_3_x0 t_6_3_x1 t_6_3_x2) (hi_t_6_2 : bX4 t_6_2_x0 t_6_2_x1 t_6_2_x2) (hc_t_6_3_3 : ∀ j : Nat, (-9223372036854775808) ≤ t_6_3_3_c j ∧ t_6_3_3_c j ≤ 9223372036854775807) (hc_t_6_2_3 : ∀ j : Nat, (-9223372036854775808) ≤ t_6_2_3_c j ∧ t_6_2_3_c j ≤ 9223372036854775807) : fn_CI (S := (Nat → Int) × (Nat → Nat → Int)) l D K yX11_paste (fn_ws yX11_paste cX11_paste 8 (some .int)) ({ frames := 8, cells := 0, slots := 0, locals := 200 } : Room) [.ref t, .int (iI 3), .int (iI p2), .int (iI 2), .int (iI p4), .int (iI p5)] [(t, .inr (11, oX11 t_q)), ((t_q 6), .inl (K 6, 4, .inr (.inr (.inr (.inr t_6_c))))), ((t_6_r 3), .inr (4, oX4 t_6_3_q t_6_3_x0 t_6_3_x1 t_6_3_x2)), ((t_6_r 2), .inr (4, oX4 t_6_2_q t_6_2_x0 t_6_2_x1 t_6_2_x2)), ((t_6_3_q 3), .inl (K 3, 60, .inr (.inl (fun j => lI (t_6_3_3_c j))))), ((t_6_2_q 3), .inl (K 3, 60, .inr (.inl (fun j => lI (t_6_2_3_c j)))))] (fun r u => ∃ k : Int, r = iI k ∧ ((-8) ≤ k ∧ k ≤ 0) ∧ (∀ j : Nat, (-9223372036854775808) ≤ (u.2 0) j ∧ (u.2 0) j ≤ 9223372036854775807) ∧ True) (fun u => [(t, .inr (11, oX11 t_q)), ((t_q 6), .inl (K 6, 4, .inr (.inr (.inr (.inr t_6_c))))), ((t_6_r 3), .inr (4, oX4 t_6_3_q t_6_3_x0 t_6_3_x1 t_6_3_x2)), ((t_6_r 2), .inr (4, oX4 t_6_2_q t_6_2_x0 t_6_2_x1 t_6_2_x2)), ((t_6_3_q 3), .inl (K 3, 60, .inr (.inl (fun j => lI (t_6_3_3_c j))))), ((t_6_2_q 3), .inl (K 3, 60, .inr (.inl (fun j => lI ((u.2 0) j)))))]) 0 0 := by
  refine g_inI (cc := cX11_paste) (maxL := 8) (ret := (some .int)) (by decide) rfl (Nat.le_of_ble_eq_true rfl) ?_
  intro p e s m below meth c A ls ag Q B hA hP hD hS hl hQ
  obtain ⟨hx, hb, hr, hml, hts, hown, hlocks, hin, hK⟩ := B
  have hown : s.vm.findClass RX11 = some m.cls := hown
  have hts := fun w h => hts w (List.mem_cons_of_mem _ h)
  have hl : lv_has ls 8 [(0, .ref t), (1, .int (iI 3)), (2, .int (iI p2)), (3, .int (iI 2)), (4, .int (iI p4)), (5, .int (iI p5))] := hl
  refine lv_iload_n hx hb dX11_paste_0 rfl (lv_at hl 1 rfl) ?_
  refine fn_goi (wc := []) (wr := [(t, .inr (11, oX11 t_q)), ((t_q 6), .inl (K 6, 4, .inr (.inr (.inr (.inr t_6_c))))), ((t_6_r 3), .inr (4, oX4 t_6_3_q t_6_3_x0 t_6_3_x1 t_6_3_x2)), ((t_6_r 2), .inr (4, oX4 t_6_2_q t_6_2_x0 t_6_2_x1 t_6_2_x2)), ((t_6_3_q 3), .inl (K 3, 60, .inr (.inl (fun j => lI (t_6_3_3_c j))))), ((t_6_2_q 3), .inl (K 3, 60, .inr (.inl (fun j => lI (t_6_2_3_c j)))))]) hK hP hD hS hA [] [0, 1, 2, 3, 4, 5] rfl rfl (by decide) (fun hp => va_runS (As := [.int (iI 3)]) (rest := []) ⟨hx, hb, hml, hown, hts⟩ (k_X11_noSlot (l := l) (D := D) (K := K) (p1 := 3) (hp1 := (by omega)) _) (va_cwS 1 hts (fn_ginS (fn_gin wd_963) wd_961 wd_962 wd_1) rfl rfl rfl (by decide +kernel) ⟨Nat.le_of_ble_eq_true rfl, Nat.le_of_ble_eq_true rfl⟩) ⟨fn_blind, hp⟩ rfl rfl hl.1 rfl (lv_room (Nat.le_of_ble_eq_true rfl)) dX11_paste_1 ⟨Nat.le_of_ble_eq_true rfl, Nat.le_of_ble_eq_true rfl⟩) (fun r1 u1 H locs hwu1 hP hD hS => ?_)
  obtain ⟨u1a, u1b⟩ := u1
  obtain ⟨kr1, rfl, hkr1, hqu10, -⟩ := hwu1
  have hqu1 : (kr1 = 0 → 0 ≤ (3 : Int) ∧ (3 : Int) ≤ 3) ∧ (kr1 = 1 → (3 : Int) < 0 ∨ 3 < (3 : Int)) := hqu10
  clear hqu10
  have hP : va_P D vwCl [(t, .inr (11, oX11 t_q)), ((t_q 6), .inl (K 6, 4, .inr (.inr (.inr (.inr t_6_c))))), ((t_6_r 3), .inr (4, oX4 t_6_3_q t_6_3_x0 t_6_3_x1 t_6_3_x2)), ((t_6_r 2), .inr (4, oX4 t_6_2_q t_6_2_x0 t_6_2_x1 t_6_2_x2)), ((t_6_3_q 3), .inl (K 3, 60, .inr (.inl (fun j => lI (t_6_3_3_c j))))), ((t_6_2_q 3), .inl (K 3, 60, .inr (.inl (fun j => lI (t_6_2_3_c j)))))] H := hP
  have hD : va_D A [(t, .inr (11, oX11 t_q)), ((t_q 6), .inl (K 6, 4, .inr (.inr (.inr (.inr t_6_c))))), ((t_6_r 3), .inr (4, oX4 t_6_3_q t_6_3_x0 t_6_3_x1 t_6_3_x2)), ((t_6_r 2), .inr (4, oX4 t_6_2_q t_6_2_x0 t_6_2_x1 t_6_2_x2)), ((t_6_3_q 3), .inl (K 3, 60, .inr (.inl (fun j => lI (t_6_3_3_c j))))), ((t_6_2_q 3), .inl (K 3, 60, .inr (.inl (fun j => lI (t_6_2_3_c j)))))] := hD
  refine g_if_ne (tgt := 14) hx hb (by omega) dX11_paste_4 (by decide) (fun c4 => ?_) (fun c4 => ?_)
  · refine lv_bipush (v := iI (-2)) hx hb dX11_paste_14 (by decide) ?_
    rw [hQ]; exact fn_iret hx hb hr hlocks rfl hP hD hS ((fun _ => 0), (fun k => ([t_6_2_3_c] : List (Nat → Int)).getD k (fun _ => 0))) ⟨(-2), rfl, by omega, (hc_t_6_2_3), trivial⟩ [0, 1, 2, 3, 4, 5] (by decide) rfl dX11_paste_16
  · refine lv_iload_n hx hb dX11_paste_7 rfl (lv_at hl 3 rfl) ?_
    refine fn_goi (wc := []) (wr := [(t, .inr (11, oX11 t_q)), ((t_q 6), .inl (K 6, 4, .inr (.inr (.inr (.inr t_6_c))))), ((t_6_r 3), .inr (4, oX4 t_6_3_q t_6_3_x0 t_6_3_x1 t_6_3_x2)), ((t_6_r 2), .inr (4, oX4 t_6_2_q t_6_2_x0 t_6_2_x1 t_6_2_x2)), ((t_6_3_q 3), .inl (K 3, 60, .inr (.inl (fun j => lI (t_6_3_3_c j))))), ((t_6_2_q 3), .inl (K 3, 60, .inr (.inl (fun j => lI (t_6_2_3_c j)))))]) hK hP hD hS hA [] [0, 1, 2, 3, 4, 5] rfl rfl (by decide) (fun hp => va_runS (As := [.int (iI 2)]) (rest := []) ⟨hx, hb, hml, hown, hts⟩ (k_X11_noSlot (l := l) (D := D) (K := K) (p1 := 2) (hp1 := (by omega)) _) (va_cwS 1 hts (fn_ginS (fn_gin wd_963) wd_961 wd_962 wd_1) rfl rfl rfl (by decide +kernel) ⟨Nat.le_of_ble_eq_true rfl, Nat.le_of_ble_eq_true rfl⟩) ⟨fn_blind, hp⟩ rfl rfl hl.1 rfl (lv_room (Nat.le_of_ble_eq_true rfl)) dX11_paste_8 ⟨Nat.le_of_ble_eq_true rfl, Nat.le_of_ble_eq_true rfl⟩) (fun r8 u8 H locs hwu8 hP hD hS => ?_)
    obtain ⟨u8a, u8b⟩ := u8
    obtain ⟨kr8, rfl, hkr8, hqu80, -⟩ := hwu8
    have hqu8 : (kr8 = 0 → 0 ≤ (2 : Int) ∧ (2 : Int) ≤ 3) ∧ (kr8 = 1 → (2 : Int) < 0 ∨ 3 < (2 : Int)) := hqu80
    clear hqu80
    have hP : va_P D vwCl [(t, .inr (11, oX11 t_q)), ((t_q 6), .inl (K 6, 4, .inr (.inr (.inr (.inr t_6_c))))), ((t_6_r 3), .inr (4, oX4 t_6_3_q t_6_3_x0 t_6_3_x1 t_6_3_x2)), ((t_6_r 2), .inr (4, oX4 t_6_2_q t_6_2_x0 t_6_2_x1 t_6_2_x2)), ((t_6_3_q 3), .inl (K 3, 60, .inr (.inl (fun j => lI (t_6_3_3_c j))))), ((t_6_2_q 3), .inl (K 3, 60, .inr (.inl (fun j => lI (t_6_2_3_c j)))))] H := hP
    have hD : va_D A [(t, .inr (11, oX11 t_q)), ((t_q 6), .inl (K 6, 4, .inr (.inr (.inr (.inr t_6_c))))), ((t_6_r 3), .inr (4, oX4 t_6_3_q t_6_3_x0 t_6_3_x1 t_6_3_x2)), ((t_6_r 2), .inr (4, oX4 t_6_2_q t_6_2_x0 t_6_2_x1 t_6_2_x2)), ((t_6_3_q 3), .inl (K 3, 60, .inr (.inl (fun j => lI (t_6_3_3_c j))))), ((t_6_2_q 3), .inl (K 3, 60, .inr (.inl (fun j => lI (t_6_2_3_c j)))))] := hD
    refine g_if_eq (tgt := 17) hx hb (by omega) dX11_paste_11 (by decide) (fun c11 => ?_) (fun c11 => ?_)
    · refine lv_aload_n hx hb dX11_paste_17 rfl (lv_at hl 0 rfl) ?_
      refine va_get (D := D) (own := RX11) (ci := 11) (v := .ref (t_q 6)) (C := RX11) (T := TX11) (N := 13) hx hb hts inb_X11 hown hK.1 hP 0 rfl rfl 6 (by decide) (hts _ wd_428) (fun _ h9 => h9) rfl dX11_paste_18 ?_
      refine lv_iload_n hx hb dX11_paste_21 rfl (lv_at hl 1 rfl) ?_
      refine va_aldq hx hb hK.1 hP 1 6 rfl rfl (iI_in (by decide) (by decide) (by decide)) dX11_paste_22 ?_
      refine fn_topv (.ref (t_6_r 3)) (by rw [iI_cl (by decide)]; exact congrArg va_rf (hr_t_6 3 (by decide))) ?_
      refine lv_astore (lv' := [(6, .ref (t_6_r 3)), (0, .ref t), (1, .int (iI 3)), (2, .int (iI p2)), (3, .int (iI 2)), (4, .int (iI p4)), (5, .int (iI p5))]) hx hb dX11_paste_23 hl (by decide) rfl (fun ls hl => ?_)
      refine lv_aload_n hx hb dX11_paste_25 rfl (lv_at hl 1 rfl) ?_
      refine va_get (D := D) (own := RX11) (ci := 11) (v := .ref (t_q 6)) (C := RX11) (T := TX11) (N := 13) hx hb hts inb_X11 hown hK.1 hP 0 rfl rfl 6 (by decide) (hts _ wd_428) (fun _ h9 => h9) rfl dX11_paste_26 ?_
      refine lv_iload_n hx hb dX11_paste_29 rfl (lv_at hl 4 rfl) ?_
      refine va_aldq hx hb hK.1 hP 1 6 rfl rfl (iI_in (by decide) (by decide) (by decide)) dX11_paste_30 ?_
      refine fn_topv (.ref (t_6_r 2)) (by rw [iI_cl (by decide)]; exact congrArg va_rf (hr_t_6 2 (by decide))) ?_
      refine lv_astore (lv' := [(7, .ref (t_6_r 2)), (6, .ref (t_6_r 3)), (0, .ref t), (1, .int (iI 3)), (2, .int (iI p2)), (3, .int (iI 2)), (4, .int (iI p4)), (5, .int (iI p5))]) hx hb dX11_paste_31 hl (by decide) rfl (fun ls hl => ?_)
      refine lv_aload hx hb dX11_paste_33 (lv_at hl 1 rfl) ?_
      refine va_getN (D := D) (own := RX11) (ci := 4) (v := .int (iI t_6_3_x0)) (C := RX4) (T := TX4) (N := 4) hx hb hts inb_X4 hown hK.1 hP 2 rfl rfl 0 (by decide) (hK.nf 89 rfl) (fun _ h9 => h9) rfl dX11_paste_35 ?_
      have y35_1 : 0 ≤ t_6_3_x0 ∧ t_6_3_x0 ≤ 1 := hi_t_6_3.1
      refine g_if_eq (tgt := 49) hx hb (by omega) dX11_paste_38 (by decide) (fun c38 => ?_) (fun c38 => ?_)
      · refine fn_at 49 rfl ?_
        refine lv_bipush (v := iI (-6)) hx hb dX11_paste_49 (by decide) ?_
        rw [hQ]; exact fn_iret hx hb hr hlocks rfl hP hD hS ((fun _ => 0), (fun k => ([t_6_2_3_c] : List (Nat → Int)).getD k (fun _ => 0))) ⟨(-6), rfl, by omega, (hc_t_6_2_3), trivial⟩ [0, 1, 2, 3, 4, 5] (by decide) rfl dX11_paste_51
      · refine fn_at 41 rfl ?_
        refine lv_aload hx hb dX11_paste_41 (lv_at hl 0 rfl) ?_
        refine va_getN (D := D) (own := RX11) (ci := 4) (v := .int (iI t_6_2_x0)) (C := RX4) (T := TX4) (N := 4) hx hb hts inb_X4 hown hK.1 hP 3 rfl rfl 0 (by decide) (hK.nf 89 rfl) (fun _ h9 => h9) rfl dX11_paste_43 ?_
        have y43_2 : 0 ≤ t_6_2_x0 ∧ t_6_2_x0 ≤ 1 := hi_t_6_2.1
        refine g_if_ne (tgt := 52) hx hb (by omega) dX11_paste_46 (by decide) (fun c46 => ?_) (fun c46 => ?_)
        · refine lv_aload hx hb dX11_paste_52 (lv_at hl 1 rfl) ?_
          refine va_getN (D := D) (own := RX11) (ci := 4) (v := .int (iI t_6_3_x1)) (C := RX4) (T := TX4) (N := 4) hx hb hts inb_X4 hown hK.1 hP 2 rfl rfl 1 (by decide) (hK.nf 90 rfl) (fun _ h9 => h9) rfl dX11_paste_54 ?_
          have y54_3 : 0 ≤ t_6_3_x1 ∧ t_6_3_x1 ≤ 3 := hi_t_6_3.2.1
          refine lv_aload hx hb dX11_paste_57 (lv_at hl 0 rfl) ?_
          refine va_getN (D := D) (own := RX11) (ci := 4) (v := .int (iI t_6_2_x1)) (C := RX4) (T := TX4) (N := 4) hx hb hts inb_X4 hown hK.1 hP 3 rfl rfl 1 (by decide) (hK.nf 90 rfl) (fun _ h9 => h9) rfl dX11_paste_59 ?_
          have y59_4 : 0 ≤ t_6_2_x1 ∧ t_6_2_x1 ≤ 3 := hi_t_6_2.2.1
          refine g_icmp_eq (tgt := 68) hx hb (by omega) (by omega) dX11_paste_62 (by decide) (fun c62 => ?_) (fun c62 => ?_)
          · refine lv_aload hx hb dX11_paste_68 (lv_at hl 1 rfl) ?_
            refine lv_iload_n hx hb dX11_paste_70 rfl (lv_at hl 4 rfl) ?_
            refine lv_iload hx hb dX11_paste_71 (lv_at hl 7 rfl) ?_
            refine fn_goi (wc := [((t_6_r 3), .inr (4, oX4 t_6_3_q t_6_3_x0 t_6_3_x1 t_6_3_x2))]) (wr := [(t, .inr (11, oX11 t_q)), ((t_q 6), .inl (K 6, 4, .inr (.inr (.inr (.inr t_6_c))))), ((t_6_r 2), .inr (4, oX4 t_6_2_q t_6_2_x0 t_6_2_x1 t_6_2_x2)), ((t_6_3_q 3), .inl (K 3, 60, .inr (.inl (fun j => lI (t_6_3_3_c j))))), ((t_6_2_q 3), .inl (K 3, 60, .inr (.inl (fun j => lI (t_6_2_3_c j)))))]) hK hP hD hS hA [2] [0, 1, 3, 4, 5] rfl rfl (by decide) (fun hp => va_runVN (C := RX4) (As := [.int (iI p2), .int (iI p5)]) (rest := []) ⟨hx, hb, hml, hown, hts⟩ (k_X4_spans (l := l) (D := D) (K := K) (t := (t_6_r 3)) (p1 := p2) (p2 := p5) (t_q := t_6_3_q) (t_x0 := t_6_3_x0) (t_x1 := t_6_3_x1) (t_x2 := t_6_3_x2) (hp1 := (by omega)) (hp2 := (by omega)) (hi_t := hi_t_6_3) _) ⟨va_cnB (own := RX11) 2 hts (fn_gin wd_1226) rfl rfl rfl (hK.nw 155 rfl) (hts _ wd_12) (by decide +kernel) ⟨Nat.le_of_ble_eq_true rfl, Nat.le_of_ble_eq_true rfl⟩, hts _ wd_1225, hts _ wp_93⟩ ⟨fn_blind, va_recv hK.1 hP (ci := 4) (q0 := 2) rfl rfl, hp⟩ rfl rfl hl.1 rfl (lv_room (Nat.le_of_ble_eq_true rfl)) dX11_paste_73 ⟨Nat.le_of_ble_eq_true rfl, Nat.le_of_ble_eq_true rfl⟩) (fun r73 u73 H locs hwu73 hP hD hS => ?_)
            obtain ⟨u73a, u73b⟩ := u73
            obtain ⟨kr73, rfl, hkr73, hqu730, -⟩ := hwu73
            have hqu73 : (kr73 = 1 → 0 ≤ p2 ∧ 0 ≤ p5 ∧ p2 + p5 ≤ t_6_3_x2 ∧ p2 + p5 ≤ 60) := hqu730
            clear hqu730
            have hP : va_P D vwCl [(t, .inr (11, oX11 t_q)), ((t_q 6), .inl (K 6, 4, .inr (.inr (.inr (.inr t_6_c))))), ((t_6_r 2), .inr (4, oX4 t_6_2_q t_6_2_x0 t_6_2_x1 t_6_2_x2)), ((t_6_3_q 3), .inl (K 3, 60, .inr (.inl (fun j => lI (t_6_3_3_c j))))), ((t_6_2_q 3), .inl (K 3, 60, .inr (.inl (fun j => lI (t_6_2_3_c j))))), ((t_6_r 3), .inr (4, oX4 t_6_3_q t_6_3_x0 t_6_3_x1 t_6_3_x2))] H := hP
            have hD : va_D A [(t, .inr (11, oX11 t_q)), ((t_q 6), .inl (K 6, 4, .inr (.inr (.inr (.inr t_6_c))))), ((t_6_r 2), .inr (4, oX4 t_6_2_q t_6_2_x0 t_6_2_x1 t_6_2_x2)), ((t_6_3_q 3), .inl (K 3, 60, .inr (.inl (fun j => lI (t_6_3_3_c j))))), ((t_6_2_q 3), .inl (K 3, 60, .inr (.inl (fun j => lI (t_6_2_3_c j))))), ((t_6_r 3), .inr (4, oX4 t_6_3_q t_6_3_x0 t_6_3_x1 t_6_3_x2))] := hD
            refine g_if_eq (tgt := 91) hx hb (by omega) dX11_paste_76 (by decide) (fun c76 => ?_) (fun c76 => ?_)
            · refine lv_bipush (v := iI (-7)) hx hb dX11_paste_91 (by decide) ?_
              rw [hQ]; exact fn_iret hx hb hr hlocks rfl hP hD hS ((fun _ => 0), (fun k => ([t_6_2_3_c] : List (Nat → Int)).getD k (fun _ => 0))) ⟨(-7), rfl, by omega, (hc_t_6_2_3), trivial⟩ [0, 1, 5, 2, 3, 4] (by decide) rfl dX11_paste_93
            · refine lv_aload hx hb dX11_paste_79 (lv_at hl 0 rfl) ?_
              refine lv_iload hx hb dX11_paste_81 (lv_at hl 6 rfl) ?_
              refine lv_iload hx hb dX11_paste_83 (lv_at hl 7 rfl) ?_
              refine fn_goi (wc := [((t_6_r 2), .inr (4, oX4 t_6_2_q t_6_2_x0 t_6_2_x1 t_6_2_x2))]) (wr := [(t, .inr (11, oX11 t_q)), ((t_q 6), .inl (K 6, 4, .inr (.inr (.inr (.inr t_6_c))))), ((t_6_3_q 3), .inl (K 3, 60, .inr (.inl (fun j => lI (t_6_3_3_c j))))), ((t_6_2_q 3), .inl (K 3, 60, .inr (.inl (fun j => lI (t_6_2_3_c j))))), ((t_6_r 3), .inr (4, oX4 t_6_3_q t_6_3_x0 t_6_3_x1 t_6_3_x2))]) hK hP hD hS hA [2] [0, 1, 3, 4, 5] rfl rfl (by decide) (fun hp => va_runVN (C := RX4) (As := [.int (iI p4), .int (iI p5)]) (rest := []) ⟨hx, hb, hml, hown, hts⟩ (k_X4_spans (l := l) (D := D) (K := K) (t := (t_6_r 2)) (p1 := p4) (p2 := p5) (t_q := t_6_2_q) (t_x0 := t_6_2_x0) (t_x1 := t_6_2_x1) (t_x2 := t_6_2_x2) (hp1 := (by omega)) (hp2 := (by omega)) (hi_t := hi_t_6_2) _) ⟨va_cnB (own := RX11) 2 hts (fn_gin wd_1226) rfl rfl rfl (hK.nw 155 rfl) (hts _ wd_12) (by decide +kernel) ⟨Nat.le_of_ble_eq_true rfl, Nat.le_of_ble_eq_true rfl⟩, hts _ wd_1225, hts _ wp_93⟩ ⟨fn_blind, va_recv hK.1 hP (ci := 4) (q0 := 2) rfl rfl, hp⟩ rfl rfl hl.1 rfl (lv_room (Nat.le_of_ble_eq_true rfl)) dX11_paste_85 ⟨Nat.le_of_ble_eq_true rfl, Nat.le_of_ble_eq_true rfl⟩) (fun r85 u85 H locs hwu85 hP hD hS => ?_)
              obtain ⟨u85a, u85b⟩ := u85
              obtain ⟨kr85, rfl, hkr85, hqu850, -⟩ := hwu85
              have hqu85 : (kr85 = 1 → 0 ≤ p4 ∧ 0 ≤ p5 ∧ p4 + p5 ≤ t_6_2_x2 ∧ p4 + p5 ≤ 60) := hqu850
              clear hqu850
              have hP : va_P D vwCl [(t, .inr (11, oX11 t_q)), ((t_q 6), .inl (K 6, 4, .inr (.inr (.inr (.inr t_6_c))))), ((t_6_3_q 3), .inl (K 3, 60, .inr (.inl (fun j => lI (t_6_3_3_c j))))), ((t_6_2_q 3), .inl (K 3, 60, .inr (.inl (fun j => lI (t_6_2_3_c j))))), ((t_6_r 3), .inr (4, oX4 t_6_3_q t_6_3_x0 t_6_3_x1 t_6_3_x2)), ((t_6_r 2), .inr (4, oX4 t_6_2_q t_6_2_x0 t_6_2_x1 t_6_2_x2))] H := hP
              have hD : va_D A [(t, .inr (11, oX11 t_q)), ((t_q 6), .inl (K 6, 4, .inr (.inr (.inr (.inr t_6_c))))), ((t_6_3_q 3), .inl (K 3, 60, .inr (.inl (fun j => lI (t_6_3_3_c j))))), ((t_6_2_q 3), .inl (K 3, 60, .inr (.inl (fun j => lI (t_6_2_3_c j))))), ((t_6_r 3), .inr (4, oX4 t_6_3_q t_6_3_x0 t_6_3_x1 t_6_3_x2)), ((t_6_r 2), .inr (4, oX4 t_6_2_q t_6_2_x0 t_6_2_x1 t_6_2_x2))] := hD
              refine g_if_ne (tgt := 94) hx hb (by omega) dX11_paste_88 (by decide) (fun c88 => ?_) (fun c88 => ?_)
              · refine lv_aload hx hb dX11_paste_94 (lv_at hl 1 rfl) ?_
                refine va_getN (D := D) (own := RX11) (ci := 4) (v := .ref (t_6_3_q 3)) (C := RX4) (T := TX4) (N := 4) hx hb hts inb_X4 hown hK.1 hP 4 rfl rfl 3 (by decide) (hK.nf 92 rfl) (fun _ h9 => h9) rfl dX11_paste_96 ?_
                refine fn_at 99 rfl ?_
                refine lv_iload_n hx hb dX11_paste_99 rfl (lv_at hl 4 rfl) ?_
                refine lv_aload hx hb dX11_paste_100 (lv_at hl 0 rfl) ?_
                refine va_getN (D := D) (own := RX11) (ci := 4) (v := .ref (t_6_2_q 3)) (C := RX4) (T := TX4) (N := 4) hx hb hts inb_X4 hown hK.1 hP 5 rfl rfl 3 (by decide) (hK.nf 92 rfl) (fun _ h9 => h9) rfl dX11_paste_102 ?_
                refine lv_iload hx hb dX11_paste_105 (lv_at hl 6 rfl) ?_
                refine lv_iload hx hb dX11_paste_107 (lv_at hl 7 rfl) ?_
                refine g_cpyl (own := RX11) hx hb (hml.trans hl.1.symm) hown (hts _ wd_1227) (hts _ wd_622) (hts _ wd_621) (hts _ wd_19) hK.1 hP hD hS 2 3 3 3 rfl rfl rfl rfl (by omega) (by omega) (by omega) (Nat.le_of_ble_eq_true rfl) (Nat.le_of_ble_eq_true rfl) dX11_paste_109 (fun H locs g109 eg109 hP hD hS => ?_)
                have hg109 : ∀ j : Nat, (-9223372036854775808) ≤ g109 j ∧ g109 j ≤ 9223372036854775807 := by rw [eg109]; exact cI_all hc_t_6_3_3 hc_t_6_2_3
                have hP : va_P D vwCl [(t, .inr (11, oX11 t_q)), ((t_q 6), .inl (K 6, 4, .inr (.inr (.inr (.inr t_6_c))))), ((t_6_3_q 3), .inl (K 3, 60, .inr (.inl (fun j => lI (t_6_3_3_c j))))), ((t_6_2_q 3), .inl (K 3, 60, .inr (.inl (fun j => lI (g109 j))))), ((t_6_r 3), .inr (4, oX4 t_6_3_q t_6_3_x0 t_6_3_x1 t_6_3_x2)), ((t_6_r 2), .inr (4, oX4 t_6_2_q t_6_2_x0 t_6_2_x1 t_6_2_x2))] H := hP
                have hD : va_D A [(t, .inr (11, oX11 t_q)), ((t_q 6), .inl (K 6, 4, .inr (.inr (.inr (.inr t_6_c))))), ((t_6_3_q 3), .inl (K 3, 60, .inr (.inl (fun j => lI (t_6_3_3_c j))))), ((t_6_2_q 3), .inl (K 3, 60, .inr (.inl (fun j => lI (g109 j))))), ((t_6_r 3), .inr (4, oX4 t_6_3_q t_6_3_x0 t_6_3_x1 t_6_3_x2)), ((t_6_r 2), .inr (4, oX4 t_6_2_q t_6_2_x0 t_6_2_x1 t_6_2_x2))] := hD
                refine lv_iconst (v := iI 0) hx hb dX11_paste_112 rfl ?_
                rw [hQ]; exact fn_iret hx hb hr hlocks rfl hP hD hS ((fun _ => 0), (fun k => ([g109] : List (Nat → Int)).getD k (fun _ => 0))) ⟨0, rfl, by omega, (hg109), trivial⟩ [0, 1, 4, 5, 2, 3] (by decide) rfl dX11_paste_113
              · refine lv_bipush (v := iI (-7)) hx hb dX11_paste_91 (by decide) ?_
                rw [hQ]; exact fn_iret hx hb hr hlocks rfl hP hD hS ((fun _ => 0), (fun k => ([t_6_2_3_c] : List (Nat → Int)).getD k (fun _ => 0))) ⟨(-7), rfl, by omega, (hc_t_6_2_3), trivial⟩ [0, 1, 4, 5, 2, 3] (by decide) rfl dX11_paste_93
          · refine lv_bipush (v := iI (-8)) hx hb dX11_paste_65 (by decide) ?_
            rw [hQ]; exact fn_iret hx hb hr hlocks rfl hP hD hS ((fun _ => 0), (fun k => ([t_6_2_3_c] : List (Nat → Int)).getD k (fun _ => 0))) ⟨(-8), rfl, by omega, (hc_t_6_2_3), trivial⟩ [0, 1, 2, 3, 4, 5] (by decide) rfl dX11_paste_67
        · refine lv_bipush (v := iI (-6)) hx hb dX11_paste_49 (by decide) ?_
          rw [hQ]; exact fn_iret hx hb hr hlocks rfl hP hD hS ((fun _ => 0), (fun k => ([t_6_2_3_c] : List (Nat → Int)).getD k (fun _ => 0))) ⟨(-6), rfl, by omega, (hc_t_6_2_3), trivial⟩ [0, 1, 2, 3, 4, 5] (by decide) rfl dX11_paste_51
    · refine lv_bipush (v := iI (-2)) hx hb dX11_paste_14 (by decide) ?_
      rw [hQ]; exact fn_iret hx hb hr hlocks rfl hP hD hS ((fun _ => 0), (fun k => ([t_6_2_3_c] : List (Nat → Int)).getD k (fun _ => 0))) ⟨(-2), rfl, by omega, (hc_t_6_2_3), trivial⟩ [0, 1, 2, 3, 4, 5] (by decide) rfl dX11_paste_16
set_option maxHeartbeats 4000000 in
set_option maxRecDepth 100000 in
theorem k_X11_paste_33 (l : Launch) (D : va_G) (K : Nat → ClassId) (t : Nat) (t_q t_6_r t_6_3_q : Nat → Nat) (p2 p4 p5 t_6_3_x0 t_6_3_x1 t_6_3_x2 : Int) (t_6_c : Nat → Option Nat) (t_6_3_3_c : Nat → Int) (hp2 : (-2147483648) ≤ p2 ∧ p2 ≤ 2147483647) (hp4 : (-2147483648) ≤ p4 ∧ p4 ≤ 2147483647) (hp5 : (-2147483648) ≤ p5 ∧ p5 ≤ 2147483647) (hr_t_6 : ∀ j : Nat, j < 4 → t_6_c j = some (t_6_r j)) (hi_t_6_3 : bX4 t_6_3_x0 t_6_3_x1 t_6_3_x2) (hc_t_6_3_3 : ∀ j : Nat, (-9223372036854775808) ≤ t_6_3_3_c j ∧ t_6_3_3_c j ≤ 9223372036854775807) : fn_CI (S := (Nat → Int) × (Nat → Nat → Int)) l D K yX11_paste (fn_ws yX11_paste cX11_paste 8 (some .int)) ({ frames := 8, cells := 0, slots := 0, locals := 200 } : Room) [.ref t, .int (iI 3), .int (iI p2), .int (iI 3), .int (iI p4), .int (iI p5)] [(t, .inr (11, oX11 t_q)), ((t_q 6), .inl (K 6, 4, .inr (.inr (.inr (.inr t_6_c))))), ((t_6_r 3), .inr (4, oX4 t_6_3_q t_6_3_x0 t_6_3_x1 t_6_3_x2)), ((t_6_3_q 3), .inl (K 3, 60, .inr (.inl (fun j => lI (t_6_3_3_c j)))))] (fun r u => ∃ k : Int, r = iI k ∧ ((-8) ≤ k ∧ k ≤ 0) ∧ (∀ j : Nat, (-9223372036854775808) ≤ (u.2 0) j ∧ (u.2 0) j ≤ 9223372036854775807) ∧ True) (fun u => [(t, .inr (11, oX11 t_q)), ((t_q 6), .inl (K 6, 4, .inr (.inr (.inr (.inr t_6_c))))), ((t_6_r 3), .inr (4, oX4 t_6_3_q t_6_3_x0 t_6_3_x1 t_6_3_x2)), ((t_6_3_q 3), .inl (K 3, 60, .inr (.inl (fun j => lI ((u.2 0) j)))))]) 0 0 := by
  refine g_inI (cc := cX11_paste) (maxL := 8) (ret := (some .int)) (by decide) rfl (Nat.le_of_ble_eq_true rfl) ?_
  intro p e s m below meth c A ls ag Q B hA hP hD hS hl hQ
  obtain ⟨hx, hb, hr, hml, hts, hown, hlocks, hin, hK⟩ := B
  have hown : s.vm.findClass RX11 = some m.cls := hown
  have hts := fun w h => hts w (List.mem_cons_of_mem _ h)
  have hl : lv_has ls 8 [(0, .ref t), (1, .int (iI 3)), (2, .int (iI p2)), (3, .int (iI 3)), (4, .int (iI p4)), (5, .int (iI p5))] := hl
  refine lv_iload_n hx hb dX11_paste_0 rfl (lv_at hl 1 rfl) ?_
  refine fn_goi (wc := []) (wr := [(t, .inr (11, oX11 t_q)), ((t_q 6), .inl (K 6, 4, .inr (.inr (.inr (.inr t_6_c))))), ((t_6_r 3), .inr (4, oX4 t_6_3_q t_6_3_x0 t_6_3_x1 t_6_3_x2)), ((t_6_3_q 3), .inl (K 3, 60, .inr (.inl (fun j => lI (t_6_3_3_c j)))))]) hK hP hD hS hA [] [0, 1, 2, 3] rfl rfl (by decide) (fun hp => va_runS (As := [.int (iI 3)]) (rest := []) ⟨hx, hb, hml, hown, hts⟩ (k_X11_noSlot (l := l) (D := D) (K := K) (p1 := 3) (hp1 := (by omega)) _) (va_cwS 1 hts (fn_ginS (fn_gin wd_963) wd_961 wd_962 wd_1) rfl rfl rfl (by decide +kernel) ⟨Nat.le_of_ble_eq_true rfl, Nat.le_of_ble_eq_true rfl⟩) ⟨fn_blind, hp⟩ rfl rfl hl.1 rfl (lv_room (Nat.le_of_ble_eq_true rfl)) dX11_paste_1 ⟨Nat.le_of_ble_eq_true rfl, Nat.le_of_ble_eq_true rfl⟩) (fun r1 u1 H locs hwu1 hP hD hS => ?_)
  obtain ⟨u1a, u1b⟩ := u1
  obtain ⟨kr1, rfl, hkr1, hqu10, -⟩ := hwu1
  have hqu1 : (kr1 = 0 → 0 ≤ (3 : Int) ∧ (3 : Int) ≤ 3) ∧ (kr1 = 1 → (3 : Int) < 0 ∨ 3 < (3 : Int)) := hqu10
  clear hqu10
  have hP : va_P D vwCl [(t, .inr (11, oX11 t_q)), ((t_q 6), .inl (K 6, 4, .inr (.inr (.inr (.inr t_6_c))))), ((t_6_r 3), .inr (4, oX4 t_6_3_q t_6_3_x0 t_6_3_x1 t_6_3_x2)), ((t_6_3_q 3), .inl (K 3, 60, .inr (.inl (fun j => lI (t_6_3_3_c j)))))] H := hP
  have hD : va_D A [(t, .inr (11, oX11 t_q)), ((t_q 6), .inl (K 6, 4, .inr (.inr (.inr (.inr t_6_c))))), ((t_6_r 3), .inr (4, oX4 t_6_3_q t_6_3_x0 t_6_3_x1 t_6_3_x2)), ((t_6_3_q 3), .inl (K 3, 60, .inr (.inl (fun j => lI (t_6_3_3_c j)))))] := hD
  refine g_if_ne (tgt := 14) hx hb (by omega) dX11_paste_4 (by decide) (fun c4 => ?_) (fun c4 => ?_)
  · refine lv_bipush (v := iI (-2)) hx hb dX11_paste_14 (by decide) ?_
    rw [hQ]; exact fn_iret hx hb hr hlocks rfl hP hD hS ((fun _ => 0), (fun k => ([t_6_3_3_c] : List (Nat → Int)).getD k (fun _ => 0))) ⟨(-2), rfl, by omega, (hc_t_6_3_3), trivial⟩ [0, 1, 2, 3] (by decide) rfl dX11_paste_16
  · refine lv_iload_n hx hb dX11_paste_7 rfl (lv_at hl 3 rfl) ?_
    refine fn_goi (wc := []) (wr := [(t, .inr (11, oX11 t_q)), ((t_q 6), .inl (K 6, 4, .inr (.inr (.inr (.inr t_6_c))))), ((t_6_r 3), .inr (4, oX4 t_6_3_q t_6_3_x0 t_6_3_x1 t_6_3_x2)), ((t_6_3_q 3), .inl (K 3, 60, .inr (.inl (fun j => lI (t_6_3_3_c j)))))]) hK hP hD hS hA [] [0, 1, 2, 3] rfl rfl (by decide) (fun hp => va_runS (As := [.int (iI 3)]) (rest := []) ⟨hx, hb, hml, hown, hts⟩ (k_X11_noSlot (l := l) (D := D) (K := K) (p1 := 3) (hp1 := (by omega)) _) (va_cwS 1 hts (fn_ginS (fn_gin wd_963) wd_961 wd_962 wd_1) rfl rfl rfl (by decide +kernel) ⟨Nat.le_of_ble_eq_true rfl, Nat.le_of_ble_eq_true rfl⟩) ⟨fn_blind, hp⟩ rfl rfl hl.1 rfl (lv_room (Nat.le_of_ble_eq_true rfl)) dX11_paste_8 ⟨Nat.le_of_ble_eq_true rfl, Nat.le_of_ble_eq_true rfl⟩) (fun r8 u8 H locs hwu8 hP hD hS => ?_)
    obtain ⟨u8a, u8b⟩ := u8
    obtain ⟨kr8, rfl, hkr8, hqu80, -⟩ := hwu8
    have hqu8 : (kr8 = 0 → 0 ≤ (3 : Int) ∧ (3 : Int) ≤ 3) ∧ (kr8 = 1 → (3 : Int) < 0 ∨ 3 < (3 : Int)) := hqu80
    clear hqu80
    have hP : va_P D vwCl [(t, .inr (11, oX11 t_q)), ((t_q 6), .inl (K 6, 4, .inr (.inr (.inr (.inr t_6_c))))), ((t_6_r 3), .inr (4, oX4 t_6_3_q t_6_3_x0 t_6_3_x1 t_6_3_x2)), ((t_6_3_q 3), .inl (K 3, 60, .inr (.inl (fun j => lI (t_6_3_3_c j)))))] H := hP
    have hD : va_D A [(t, .inr (11, oX11 t_q)), ((t_q 6), .inl (K 6, 4, .inr (.inr (.inr (.inr t_6_c))))), ((t_6_r 3), .inr (4, oX4 t_6_3_q t_6_3_x0 t_6_3_x1 t_6_3_x2)), ((t_6_3_q 3), .inl (K 3, 60, .inr (.inl (fun j => lI (t_6_3_3_c j)))))] := hD
    refine g_if_eq (tgt := 17) hx hb (by omega) dX11_paste_11 (by decide) (fun c11 => ?_) (fun c11 => ?_)
    · refine lv_aload_n hx hb dX11_paste_17 rfl (lv_at hl 0 rfl) ?_
      refine va_get (D := D) (own := RX11) (ci := 11) (v := .ref (t_q 6)) (C := RX11) (T := TX11) (N := 13) hx hb hts inb_X11 hown hK.1 hP 0 rfl rfl 6 (by decide) (hts _ wd_428) (fun _ h9 => h9) rfl dX11_paste_18 ?_
      refine lv_iload_n hx hb dX11_paste_21 rfl (lv_at hl 1 rfl) ?_
      refine va_aldq hx hb hK.1 hP 1 6 rfl rfl (iI_in (by decide) (by decide) (by decide)) dX11_paste_22 ?_
      refine fn_topv (.ref (t_6_r 3)) (by rw [iI_cl (by decide)]; exact congrArg va_rf (hr_t_6 3 (by decide))) ?_
      refine lv_astore (lv' := [(6, .ref (t_6_r 3)), (0, .ref t), (1, .int (iI 3)), (2, .int (iI p2)), (3, .int (iI 3)), (4, .int (iI p4)), (5, .int (iI p5))]) hx hb dX11_paste_23 hl (by decide) rfl (fun ls hl => ?_)
      refine lv_aload_n hx hb dX11_paste_25 rfl (lv_at hl 1 rfl) ?_
      refine va_get (D := D) (own := RX11) (ci := 11) (v := .ref (t_q 6)) (C := RX11) (T := TX11) (N := 13) hx hb hts inb_X11 hown hK.1 hP 0 rfl rfl 6 (by decide) (hts _ wd_428) (fun _ h9 => h9) rfl dX11_paste_26 ?_
      refine lv_iload_n hx hb dX11_paste_29 rfl (lv_at hl 4 rfl) ?_
      refine va_aldq hx hb hK.1 hP 1 6 rfl rfl (iI_in (by decide) (by decide) (by decide)) dX11_paste_30 ?_
      refine fn_topv (.ref (t_6_r 3)) (by rw [iI_cl (by decide)]; exact congrArg va_rf (hr_t_6 3 (by decide))) ?_
      refine lv_astore (lv' := [(7, .ref (t_6_r 3)), (6, .ref (t_6_r 3)), (0, .ref t), (1, .int (iI 3)), (2, .int (iI p2)), (3, .int (iI 3)), (4, .int (iI p4)), (5, .int (iI p5))]) hx hb dX11_paste_31 hl (by decide) rfl (fun ls hl => ?_)
      refine lv_aload hx hb dX11_paste_33 (lv_at hl 1 rfl) ?_
      refine va_getN (D := D) (own := RX11) (ci := 4) (v := .int (iI t_6_3_x0)) (C := RX4) (T := TX4) (N := 4) hx hb hts inb_X4 hown hK.1 hP 2 rfl rfl 0 (by decide) (hK.nf 89 rfl) (fun _ h9 => h9) rfl dX11_paste_35 ?_
      have y35_1 : 0 ≤ t_6_3_x0 ∧ t_6_3_x0 ≤ 1 := hi_t_6_3.1
      refine g_if_eq (tgt := 49) hx hb (by omega) dX11_paste_38 (by decide) (fun c38 => ?_) (fun c38 => ?_)
      · refine fn_at 49 rfl ?_
        refine lv_bipush (v := iI (-6)) hx hb dX11_paste_49 (by decide) ?_
        rw [hQ]; exact fn_iret hx hb hr hlocks rfl hP hD hS ((fun _ => 0), (fun k => ([t_6_3_3_c] : List (Nat → Int)).getD k (fun _ => 0))) ⟨(-6), rfl, by omega, (hc_t_6_3_3), trivial⟩ [0, 1, 2, 3] (by decide) rfl dX11_paste_51
      · refine fn_at 41 rfl ?_
        refine lv_aload hx hb dX11_paste_41 (lv_at hl 0 rfl) ?_
        refine va_getN (D := D) (own := RX11) (ci := 4) (v := .int (iI t_6_3_x0)) (C := RX4) (T := TX4) (N := 4) hx hb hts inb_X4 hown hK.1 hP 2 rfl rfl 0 (by decide) (hK.nf 89 rfl) (fun _ h9 => h9) rfl dX11_paste_43 ?_
        refine g_if_ne (tgt := 52) hx hb (by omega) dX11_paste_46 (by decide) (fun c46 => ?_) (fun c46 => ?_)
        · refine lv_aload hx hb dX11_paste_52 (lv_at hl 1 rfl) ?_
          refine va_getN (D := D) (own := RX11) (ci := 4) (v := .int (iI t_6_3_x1)) (C := RX4) (T := TX4) (N := 4) hx hb hts inb_X4 hown hK.1 hP 2 rfl rfl 1 (by decide) (hK.nf 90 rfl) (fun _ h9 => h9) rfl dX11_paste_54 ?_
          have y54_2 : 0 ≤ t_6_3_x1 ∧ t_6_3_x1 ≤ 3 := hi_t_6_3.2.1
          refine lv_aload hx hb dX11_paste_57 (lv_at hl 0 rfl) ?_
          refine va_getN (D := D) (own := RX11) (ci := 4) (v := .int (iI t_6_3_x1)) (C := RX4) (T := TX4) (N := 4) hx hb hts inb_X4 hown hK.1 hP 2 rfl rfl 1 (by decide) (hK.nf 90 rfl) (fun _ h9 => h9) rfl dX11_paste_59 ?_
          refine g_icmp_eq (tgt := 68) hx hb (by omega) (by omega) dX11_paste_62 (by decide) (fun c62 => ?_) (fun c62 => ?_)
          · refine lv_aload hx hb dX11_paste_68 (lv_at hl 1 rfl) ?_
            refine lv_iload_n hx hb dX11_paste_70 rfl (lv_at hl 4 rfl) ?_
            refine lv_iload hx hb dX11_paste_71 (lv_at hl 7 rfl) ?_
            refine fn_goi (wc := [((t_6_r 3), .inr (4, oX4 t_6_3_q t_6_3_x0 t_6_3_x1 t_6_3_x2))]) (wr := [(t, .inr (11, oX11 t_q)), ((t_q 6), .inl (K 6, 4, .inr (.inr (.inr (.inr t_6_c))))), ((t_6_3_q 3), .inl (K 3, 60, .inr (.inl (fun j => lI (t_6_3_3_c j)))))]) hK hP hD hS hA [2] [0, 1, 3] rfl rfl (by decide) (fun hp => va_runVN (C := RX4) (As := [.int (iI p2), .int (iI p5)]) (rest := []) ⟨hx, hb, hml, hown, hts⟩ (k_X4_spans (l := l) (D := D) (K := K) (t := (t_6_r 3)) (p1 := p2) (p2 := p5) (t_q := t_6_3_q) (t_x0 := t_6_3_x0) (t_x1 := t_6_3_x1) (t_x2 := t_6_3_x2) (hp1 := (by omega)) (hp2 := (by omega)) (hi_t := hi_t_6_3) _) ⟨va_cnB (own := RX11) 2 hts (fn_gin wd_1226) rfl rfl rfl (hK.nw 155 rfl) (hts _ wd_12) (by decide +kernel) ⟨Nat.le_of_ble_eq_true rfl, Nat.le_of_ble_eq_true rfl⟩, hts _ wd_1225, hts _ wp_93⟩ ⟨fn_blind, va_recv hK.1 hP (ci := 4) (q0 := 2) rfl rfl, hp⟩ rfl rfl hl.1 rfl (lv_room (Nat.le_of_ble_eq_true rfl)) dX11_paste_73 ⟨Nat.le_of_ble_eq_true rfl, Nat.le_of_ble_eq_true rfl⟩) (fun r73 u73 H locs hwu73 hP hD hS => ?_)
            obtain ⟨u73a, u73b⟩ := u73
            obtain ⟨kr73, rfl, hkr73, hqu730, -⟩ := hwu73
            have hqu73 : (kr73 = 1 → 0 ≤ p2 ∧ 0 ≤ p5 ∧ p2 + p5 ≤ t_6_3_x2 ∧ p2 + p5 ≤ 60) := hqu730
            clear hqu730
            have hP : va_P D vwCl [(t, .inr (11, oX11 t_q)), ((t_q 6), .inl (K 6, 4, .inr (.inr (.inr (.inr t_6_c))))), ((t_6_3_q 3), .inl (K 3, 60, .inr (.inl (fun j => lI (t_6_3_3_c j))))), ((t_6_r 3), .inr (4, oX4 t_6_3_q t_6_3_x0 t_6_3_x1 t_6_3_x2))] H := hP
            have hD : va_D A [(t, .inr (11, oX11 t_q)), ((t_q 6), .inl (K 6, 4, .inr (.inr (.inr (.inr t_6_c))))), ((t_6_3_q 3), .inl (K 3, 60, .inr (.inl (fun j => lI (t_6_3_3_c j))))), ((t_6_r 3), .inr (4, oX4 t_6_3_q t_6_3_x0 t_6_3_x1 t_6_3_x2))] := hD
            refine g_if_eq (tgt := 91) hx hb (by omega) dX11_paste_76 (by decide) (fun c76 => ?_) (fun c76 => ?_)
            · refine lv_bipush (v := iI (-7)) hx hb dX11_paste_91 (by decide) ?_
              rw [hQ]; exact fn_iret hx hb hr hlocks rfl hP hD hS ((fun _ => 0), (fun k => ([t_6_3_3_c] : List (Nat → Int)).getD k (fun _ => 0))) ⟨(-7), rfl, by omega, (hc_t_6_3_3), trivial⟩ [0, 1, 3, 2] (by decide) rfl dX11_paste_93
            · refine lv_aload hx hb dX11_paste_79 (lv_at hl 0 rfl) ?_
              refine lv_iload hx hb dX11_paste_81 (lv_at hl 6 rfl) ?_
              refine lv_iload hx hb dX11_paste_83 (lv_at hl 7 rfl) ?_
              refine fn_goi (wc := [((t_6_r 3), .inr (4, oX4 t_6_3_q t_6_3_x0 t_6_3_x1 t_6_3_x2))]) (wr := [(t, .inr (11, oX11 t_q)), ((t_q 6), .inl (K 6, 4, .inr (.inr (.inr (.inr t_6_c))))), ((t_6_3_q 3), .inl (K 3, 60, .inr (.inl (fun j => lI (t_6_3_3_c j)))))]) hK hP hD hS hA [3] [0, 1, 2] rfl rfl (by decide) (fun hp => va_runVN (C := RX4) (As := [.int (iI p4), .int (iI p5)]) (rest := []) ⟨hx, hb, hml, hown, hts⟩ (k_X4_spans (l := l) (D := D) (K := K) (t := (t_6_r 3)) (p1 := p4) (p2 := p5) (t_q := t_6_3_q) (t_x0 := t_6_3_x0) (t_x1 := t_6_3_x1) (t_x2 := t_6_3_x2) (hp1 := (by omega)) (hp2 := (by omega)) (hi_t := hi_t_6_3) _) ⟨va_cnB (own := RX11) 2 hts (fn_gin wd_1226) rfl rfl rfl (hK.nw 155 rfl) (hts _ wd_12) (by decide +kernel) ⟨Nat.le_of_ble_eq_true rfl, Nat.le_of_ble_eq_true rfl⟩, hts _ wd_1225, hts _ wp_93⟩ ⟨fn_blind, va_recv hK.1 hP (ci := 4) (q0 := 3) rfl rfl, hp⟩ rfl rfl hl.1 rfl (lv_room (Nat.le_of_ble_eq_true rfl)) dX11_paste_85 ⟨Nat.le_of_ble_eq_true rfl, Nat.le_of_ble_eq_true rfl⟩) (fun r85 u85 H locs hwu85 hP hD hS => ?_)
              obtain ⟨u85a, u85b⟩ := u85
              obtain ⟨kr85, rfl, hkr85, hqu850, -⟩ := hwu85
              have hqu85 : (kr85 = 1 → 0 ≤ p4 ∧ 0 ≤ p5 ∧ p4 + p5 ≤ t_6_3_x2 ∧ p4 + p5 ≤ 60) := hqu850
              clear hqu850
              have hP : va_P D vwCl [(t, .inr (11, oX11 t_q)), ((t_q 6), .inl (K 6, 4, .inr (.inr (.inr (.inr t_6_c))))), ((t_6_3_q 3), .inl (K 3, 60, .inr (.inl (fun j => lI (t_6_3_3_c j))))), ((t_6_r 3), .inr (4, oX4 t_6_3_q t_6_3_x0 t_6_3_x1 t_6_3_x2))] H := hP
              have hD : va_D A [(t, .inr (11, oX11 t_q)), ((t_q 6), .inl (K 6, 4, .inr (.inr (.inr (.inr t_6_c))))), ((t_6_3_q 3), .inl (K 3, 60, .inr (.inl (fun j => lI (t_6_3_3_c j))))), ((t_6_r 3), .inr (4, oX4 t_6_3_q t_6_3_x0 t_6_3_x1 t_6_3_x2))] := hD
              refine g_if_ne (tgt := 94) hx hb (by omega) dX11_paste_88 (by decide) (fun c88 => ?_) (fun c88 => ?_)
              · refine lv_aload hx hb dX11_paste_94 (lv_at hl 1 rfl) ?_
                refine va_getN (D := D) (own := RX11) (ci := 4) (v := .ref (t_6_3_q 3)) (C := RX4) (T := TX4) (N := 4) hx hb hts inb_X4 hown hK.1 hP 3 rfl rfl 3 (by decide) (hK.nf 92 rfl) (fun _ h9 => h9) rfl dX11_paste_96 ?_
                refine fn_at 99 rfl ?_
                refine lv_iload_n hx hb dX11_paste_99 rfl (lv_at hl 4 rfl) ?_
                refine lv_aload hx hb dX11_paste_100 (lv_at hl 0 rfl) ?_
                refine va_getN (D := D) (own := RX11) (ci := 4) (v := .ref (t_6_3_q 3)) (C := RX4) (T := TX4) (N := 4) hx hb hts inb_X4 hown hK.1 hP 3 rfl rfl 3 (by decide) (hK.nf 92 rfl) (fun _ h9 => h9) rfl dX11_paste_102 ?_
                refine lv_iload hx hb dX11_paste_105 (lv_at hl 6 rfl) ?_
                refine lv_iload hx hb dX11_paste_107 (lv_at hl 7 rfl) ?_
                refine g_cpyl (own := RX11) hx hb (hml.trans hl.1.symm) hown (hts _ wd_1227) (hts _ wd_622) (hts _ wd_621) (hts _ wd_19) hK.1 hP hD hS 2 2 3 3 rfl rfl rfl rfl (by omega) (by omega) (by omega) (Nat.le_of_ble_eq_true rfl) (Nat.le_of_ble_eq_true rfl) dX11_paste_109 (fun H locs g109 eg109 hP hD hS => ?_)
                have hg109 : ∀ j : Nat, (-9223372036854775808) ≤ g109 j ∧ g109 j ≤ 9223372036854775807 := by rw [eg109]; exact cI_all hc_t_6_3_3 hc_t_6_3_3
                have hP : va_P D vwCl [(t, .inr (11, oX11 t_q)), ((t_q 6), .inl (K 6, 4, .inr (.inr (.inr (.inr t_6_c))))), ((t_6_3_q 3), .inl (K 3, 60, .inr (.inl (fun j => lI (g109 j))))), ((t_6_r 3), .inr (4, oX4 t_6_3_q t_6_3_x0 t_6_3_x1 t_6_3_x2))] H := hP
                have hD : va_D A [(t, .inr (11, oX11 t_q)), ((t_q 6), .inl (K 6, 4, .inr (.inr (.inr (.inr t_6_c))))), ((t_6_3_q 3), .inl (K 3, 60, .inr (.inl (fun j => lI (g109 j))))), ((t_6_r 3), .inr (4, oX4 t_6_3_q t_6_3_x0 t_6_3_x1 t_6_3_x2))] := hD
                refine lv_iconst (v := iI 0) hx hb dX11_paste_112 rfl ?_
                rw [hQ]; exact fn_iret hx hb hr hlocks rfl hP hD hS ((fun _ => 0), (fun k => ([g109] : List (Nat → Int)).getD k (fun _ => 0))) ⟨0, rfl, by omega, (hg109), trivial⟩ [0, 1, 3, 2] (by decide) rfl dX11_paste_113
              · refine lv_bipush (v := iI (-7)) hx hb dX11_paste_91 (by decide) ?_
                rw [hQ]; exact fn_iret hx hb hr hlocks rfl hP hD hS ((fun _ => 0), (fun k => ([t_6_3_3_c] : List (Nat → Int)).getD k (fun _ => 0))) ⟨(-7), rfl, by omega, (hc_t_6_3_3), trivial⟩ [0, 1, 3, 2] (by decide) rfl dX11_paste_93
          · refine lv_bipush (v := iI (-8)) hx hb dX11_paste_65 (by decide) ?_
            rw [hQ]; exact fn_iret hx hb hr hlocks rfl hP hD hS ((fun _ => 0), (fun k => ([t_6_3_3_c] : List (Nat → Int)).getD k (fun _ => 0))) ⟨(-8), rfl, by omega, (hc_t_6_3_3), trivial⟩ [0, 1, 2, 3] (by decide) rfl dX11_paste_67
        · exfalso; omega
    · refine lv_bipush (v := iI (-2)) hx hb dX11_paste_14 (by decide) ?_
      rw [hQ]; exact fn_iret hx hb hr hlocks rfl hP hD hS ((fun _ => 0), (fun k => ([t_6_3_3_c] : List (Nat → Int)).getD k (fun _ => 0))) ⟨(-2), rfl, by omega, (hc_t_6_3_3), trivial⟩ [0, 1, 2, 3] (by decide) rfl dX11_paste_16
set_option maxHeartbeats 4000000 in
set_option maxRecDepth 100000 in
theorem k_X11_paste_o (l : Launch) (D : va_G) (K : Nat → ClassId) (t : Nat) (p1 p2 p3 p4 p5 : Int) (hp1 : (-2147483648) ≤ p1 ∧ p1 ≤ 2147483647) (hp2 : (-2147483648) ≤ p2 ∧ p2 ≤ 2147483647) (hp3 : (-2147483648) ≤ p3 ∧ p3 ≤ 2147483647) (hp4 : (-2147483648) ≤ p4 ∧ p4 ≤ 2147483647) (hp5 : (-2147483648) ≤ p5 ∧ p5 ≤ 2147483647) (po : (p1 < 0 ∨ 3 < p1) ∨ p3 < 0 ∨ 3 < p3) : fn_CI (S := (Nat → Int) × (Nat → Nat → Int)) l D K yX11_paste (fn_ws yX11_paste cX11_paste 8 (some .int)) ({ frames := 8, cells := 0, slots := 0, locals := 200 } : Room) [.ref t, .int (iI p1), .int (iI p2), .int (iI p3), .int (iI p4), .int (iI p5)] [] (fun r u => ∃ k : Int, r = iI k ∧ ((-2) ≤ k ∧ k ≤ (-2)) ∧ True) (fun u => []) 0 0 := by
  refine g_inI (cc := cX11_paste) (maxL := 8) (ret := (some .int)) (by decide) rfl (Nat.le_of_ble_eq_true rfl) ?_
  intro p e s m below meth c A ls ag Q B hA hP hD hS hl hQ
  obtain ⟨hx, hb, hr, hml, hts, hown, hlocks, hin, hK⟩ := B
  have hown : s.vm.findClass RX11 = some m.cls := hown
  have hts := fun w h => hts w (List.mem_cons_of_mem _ h)
  have hl : lv_has ls 8 [(0, .ref t), (1, .int (iI p1)), (2, .int (iI p2)), (3, .int (iI p3)), (4, .int (iI p4)), (5, .int (iI p5))] := hl
  refine lv_iload_n hx hb dX11_paste_0 rfl (lv_at hl 1 rfl) ?_
  refine fn_goi (wc := []) (wr := []) hK hP hD hS hA [] [] rfl rfl (by decide) (fun hp => va_runS (As := [.int (iI p1)]) (rest := []) ⟨hx, hb, hml, hown, hts⟩ (k_X11_noSlot (l := l) (D := D) (K := K) (p1 := p1) (hp1 := (by omega)) _) (va_cwS 1 hts (fn_ginS (fn_gin wd_963) wd_961 wd_962 wd_1) rfl rfl rfl (by decide +kernel) ⟨Nat.le_of_ble_eq_true rfl, Nat.le_of_ble_eq_true rfl⟩) ⟨fn_blind, hp⟩ rfl rfl hl.1 rfl (lv_room (Nat.le_of_ble_eq_true rfl)) dX11_paste_1 ⟨Nat.le_of_ble_eq_true rfl, Nat.le_of_ble_eq_true rfl⟩) (fun r1 u1 H locs hwu1 hP hD hS => ?_)
  obtain ⟨u1a, u1b⟩ := u1
  obtain ⟨kr1, rfl, hkr1, hqu10, -⟩ := hwu1
  have hqu1 : (kr1 = 0 → 0 ≤ p1 ∧ p1 ≤ 3) ∧ (kr1 = 1 → p1 < 0 ∨ 3 < p1) := hqu10
  clear hqu10
  have hP : va_P D vwCl [] H := hP
  have hD : va_D A [] := hD
  refine g_if_ne (tgt := 14) hx hb (by omega) dX11_paste_4 (by decide) (fun c4 => ?_) (fun c4 => ?_)
  · refine lv_bipush (v := iI (-2)) hx hb dX11_paste_14 (by decide) ?_
    rw [hQ]; exact fn_iret hx hb hr hlocks rfl hP hD hS ((fun _ => 0), (fun _ _ => 0)) ⟨(-2), rfl, by omega, trivial⟩ [] (by decide) rfl dX11_paste_16
  · refine lv_iload_n hx hb dX11_paste_7 rfl (lv_at hl 3 rfl) ?_
    refine fn_goi (wc := []) (wr := []) hK hP hD hS hA [] [] rfl rfl (by decide) (fun hp => va_runS (As := [.int (iI p3)]) (rest := []) ⟨hx, hb, hml, hown, hts⟩ (k_X11_noSlot (l := l) (D := D) (K := K) (p1 := p3) (hp1 := (by omega)) _) (va_cwS 1 hts (fn_ginS (fn_gin wd_963) wd_961 wd_962 wd_1) rfl rfl rfl (by decide +kernel) ⟨Nat.le_of_ble_eq_true rfl, Nat.le_of_ble_eq_true rfl⟩) ⟨fn_blind, hp⟩ rfl rfl hl.1 rfl (lv_room (Nat.le_of_ble_eq_true rfl)) dX11_paste_8 ⟨Nat.le_of_ble_eq_true rfl, Nat.le_of_ble_eq_true rfl⟩) (fun r8 u8 H locs hwu8 hP hD hS => ?_)
    obtain ⟨u8a, u8b⟩ := u8
    obtain ⟨kr8, rfl, hkr8, hqu80, -⟩ := hwu8
    have hqu8 : (kr8 = 0 → 0 ≤ p3 ∧ p3 ≤ 3) ∧ (kr8 = 1 → p3 < 0 ∨ 3 < p3) := hqu80
    clear hqu80
    have hP : va_P D vwCl [] H := hP
    have hD : va_D A [] := hD
    refine g_if_eq (tgt := 17) hx hb (by omega) dX11_paste_11 (by decide) (fun c11 => ?_) (fun c11 => ?_)
    · exfalso; omega
    · refine lv_bipush (v := iI (-2)) hx hb dX11_paste_14 (by decide) ?_
      rw [hQ]; exact fn_iret hx hb hr hlocks rfl hP hD hS ((fun _ => 0), (fun _ _ => 0)) ⟨(-2), rfl, by omega, trivial⟩ [] (by decide) rfl dX11_paste_16
