theorem dL_law_0 : decode cL_law 0 = .ok (.new 7, 3) := by decide +kernel
theorem dL_law_3 : decode cL_law 3 = .ok (.dup, 1) := by decide +kernel
theorem dL_law_4 : decode cL_law 4 = .ok (.invokespecial 9, 3) := by decide +kernel
theorem dL_law_7 : decode cL_law 7 = .ok (.astore_n 1, 1) := by decide +kernel
theorem dL_law_8 : decode cL_law 8 = .ok (.new 10, 3) := by decide +kernel
theorem dL_law_11 : decode cL_law 11 = .ok (.dup, 1) := by decide +kernel
theorem dL_law_12 : decode cL_law 12 = .ok (.invokespecial 12, 3) := by decide +kernel
theorem dL_law_15 : decode cL_law 15 = .ok (.astore_n 2, 1) := by decide +kernel
theorem dL_law_16 : decode cL_law 16 = .ok (.iconst 0, 1) := by decide +kernel
theorem dL_law_17 : decode cL_law 17 = .ok (.istore_n 3, 1) := by decide +kernel
theorem dL_law_18 : decode cL_law 18 = .ok (.iload_n 3, 1) := by decide +kernel
theorem dL_law_19 : decode cL_law 19 = .ok (.aload_n 0, 1) := by decide +kernel
theorem dL_law_20 : decode cL_law 20 = .ok (.arraylength, 1) := by decide +kernel
theorem dL_law_21 : decode cL_law 21 = .ok (.bipush 6, 2) := by decide +kernel
theorem dL_law_23 : decode cL_law 23 = .ok (.isub, 1) := by decide +kernel
theorem dL_law_24 : decode cL_law 24 = .ok (.if_icmp .gt 1978, 3) := by decide +kernel
theorem dL_law_2002 : decode cL_law 2002 = .ok (.iconst 1, 1) := by decide +kernel
theorem dL_law_2003 : decode cL_law 2003 = .ok (.ireturn, 1) := by decide +kernel
theorem dL_law_27 : decode cL_law 27 = .ok (.aload_n 0, 1) := by decide +kernel
theorem dL_law_28 : decode cL_law 28 = .ok (.iload_n 3, 1) := by decide +kernel
theorem dL_law_29 : decode cL_law 29 = .ok (.iaload, 1) := by decide +kernel
theorem dL_law_30 : decode cL_law 30 = .ok (.bipush 63, 2) := by decide +kernel
theorem dL_law_32 : decode cL_law 32 = .ok (.iand, 1) := by decide +kernel
theorem dL_law_1996 : decode cL_law 1996 = .ok (.iinc 3 6, 3) := by decide +kernel
theorem dL_law_1999 : decode cL_law 1999 = .ok (.goto (-1981), 3) := by decide +kernel
theorem dL_law_33 : decode cL_law 33 = .ok (.tableswitch 1963 0 63 #[271, 334, 357, 370, 393, 426, 459, 492, 525, 548, 571, 584, 617, 650, 683, 696, 709, 732, 755, 768, 791, 814, 837, 870, 893, 906, 919, 942, 965, 978, 1001, 1024, 1047, 1060, 1073, 1086, 1109, 1132, 1155, 1188, 1221, 1264, 1297, 1330, 1343, 1356, 1379, 1412, 1425, 1448, 1481, 1514, 1547, 1570, 1593, 1626, 1649, 1672, 1715, 1738, 1761, 1784, 1827, 1900], 271) := by decide +kernel
set_option maxHeartbeats 8000000 in
set_option maxRecDepth 100000 in
theorem law_loop {p : Program} {l : Launch} {e : Env} {s : State} {m : MethodId} {below : List Frame} {meth : Method} {c : Code} {b L : Nat} {xs : Nat → Int32} (hL : L ≤ 3072) (hx : p.tables.exec = Jvm.exec) (hb : c.code = cL_law) (hr : meth.sig.returnType = ret) (hml : c.maxLocals = 4) (hown : s.vm.findClass RL = some m.cls) (hts : ∀ w ∈ fn_big, w.before #[Value.ref b] s = true) (hX : va_X b L xs s s.heap) (hbl : b < s.heap.size) (hlocks : meth.locks = false) {D : va_G} {K : Nat → ClassId} (hK : fn_KK D K s) {A : Nat → Prop} (hA : ∀ q, s.heap.size ≤ q → A q) (hbA : ¬ A b) {adK adV : Nat → Nat} (hO : fn_O adK adV A s s.heap) {x mo : Nat} {Q : Nat → Nat → Nat} {R4 R5 R6 : Nat → Nat} {rc4 rc5 rc6 : Nat → Option Nat} (hr4 : ∀ j : Nat, j < 3 → rc4 j = some (R4 j)) (hr5 : ∀ j : Nat, j < 3 → rc5 j = some (R5 j)) (hr6 : ∀ j : Nat, j < 4 → rc6 j = some (R6 j)) : ∀ (n : Nat) (T i : Int) (f : Nat → Int) (g : Nat → Nat → Int) (H : Heap) (locs : List Loc) (ls : Array Slot), ((L : Int) + 6 - i).toNat < n → 0 ≤ T → 6 * T = i → i ≤ (L : Int) + 5 → LInv T f g → va_P D vwCl (LW K x mo Q R4 R5 R6 rc4 rc5 rc6 f g) H → va_D A (LW K x mo Q R4 R5 R6 rc4 rc5 rc6 f g) → va_S A s.heap H locs → lv_has ls 4 [(3, .int (iI i)), (2, .ref mo), (1, .ref x), (0, .ref b)] → (∀ q : Nat, A q → s.heap.size ≤ q) → W p l e room_1 s m #[Value.ref b] below meth c H locs 144 12710 (lw_Z below #[Value.ref b] s) (F0 m 18 ls []) := by
  intro n
  induction n with
  | zero =>
    intro T i f g H locs ls hn
    exact absurd hn (Nat.not_lt_zero _)
  | succ n ih =>
    intro T i f g H locs ls hn hT0 hTi hiL hI hP hD hS hl hfg
    refine lv_iload_n hx hb dL_law_18 rfl (lv_at hl 0 rfl) ?_
    refine lv_aload_n hx hb dL_law_19 rfl (lv_at hl 3 rfl) ?_
    refine va_slen hx hb hX hbl hbA hS dL_law_20 ?_
    refine fn_top (iI (L : Int)) (iI_nat (by omega)) ?_
    refine lv_bipush (v := iI 6) hx hb dL_law_21 (by decide) ?_
    refine g_isub hx hb dL_law_23 ?_
    refine g_icmp_gt (tgt := 2002) hx hb (by omega) (by omega) dL_law_24 (by decide) (fun c24 => ?_) (fun c24 => ?_)
    · refine lv_iconst (v := iI 1) hx hb dL_law_2002 rfl ?_
      refine fn_top 1 (by decide) ?_
      refine va_forget (fun q hq => hfg _ (hS.2.2 q hq)) ?_
      refine W.widen (k := 600000) (n := 7302250) (Nat.le_of_ble_eq_true rfl) (Nat.le_of_ble_eq_true rfl) ?_
      exact lw_ret hx hb hr hlocks dL_law_2003
    · refine lv_aload_n hx hb dL_law_27 rfl (lv_at hl 3 rfl) ?_
      refine lv_iload_n hx hb dL_law_28 rfl (lv_at hl 0 rfl) ?_
      refine g_sld hx hb hX hbl hbA hS (by omega) (by omega) (by omega) dL_law_29 ?_
      refine lv_bipush (v := iI 63) hx hb dL_law_30 (by decide) ?_
      refine lv_iand hx hb dL_law_32 ?_
      obtain ⟨w32, ew32, hw32⟩ := iI_and ((xs i.toNat).toInt) 63 (by omega)
      refine fn_top (iI w32) ew32 ?_
      have kk : ∀ (f' : Nat → Int) (g' : Nat → Nat → Int) (H : Heap) (locs : List Loc) (ls : Array Slot), LInv (T + 1) f' g' → va_P D vwCl (LW K x mo Q R4 R5 R6 rc4 rc5 rc6 f' g') H → va_D A (LW K x mo Q R4 R5 R6 rc4 rc5 rc6 f' g') → va_S A s.heap H locs → lv_has ls 4 [(3, .int (iI i)), (2, .ref mo), (1, .ref x), (0, .ref b)] → W p l e room_1 s m #[Value.ref b] below meth c H locs 144 12710 (lw_Z below #[Value.ref b] s) (F0 m 1996 ls []) := by
        intro f' g' H locs ls hI hP hD hS hl
        refine lv_iinc (v := iI (i + 6)) (lv' := [(3, .int (iI (i + 6))), (2, .ref mo), (1, .ref x), (0, .ref b)]) hx hb dL_law_1996 hl (k := 0) rfl (iI_add _ _) (by decide) rfl (fun ls hl => ?_)
        refine lv_goto (tgt := 18) hx hb dL_law_1999 (by decide) ?_
        exact ih (T + 1) (i + 6) f' g' H locs ls (by omega) (by omega) (by omega) (by omega) hI hP hD hS hl hfg
      rcases (show (w32 < 0 ∨ 63 < w32) ∨ w32 = 0 ∨ w32 = 1 ∨ w32 = 2 ∨ w32 = 3 ∨ w32 = 4 ∨ w32 = 5 ∨ w32 = 6 ∨ w32 = 7 ∨ w32 = 8 ∨ w32 = 9 ∨ w32 = 10 ∨ w32 = 11 ∨ w32 = 12 ∨ w32 = 13 ∨ w32 = 14 ∨ w32 = 15 ∨ w32 = 16 ∨ w32 = 17 ∨ w32 = 18 ∨ w32 = 19 ∨ w32 = 20 ∨ w32 = 21 ∨ w32 = 22 ∨ w32 = 23 ∨ w32 = 24 ∨ w32 = 25 ∨ w32 = 26 ∨ w32 = 27 ∨ w32 = 28 ∨ w32 = 29 ∨ w32 = 30 ∨ w32 = 31 ∨ w32 = 32 ∨ w32 = 33 ∨ w32 = 34 ∨ w32 = 35 ∨ w32 = 36 ∨ w32 = 37 ∨ w32 = 38 ∨ w32 = 39 ∨ w32 = 40 ∨ w32 = 41 ∨ w32 = 42 ∨ w32 = 43 ∨ w32 = 44 ∨ w32 = 45 ∨ w32 = 46 ∨ w32 = 47 ∨ w32 = 48 ∨ w32 = 49 ∨ w32 = 50 ∨ w32 = 51 ∨ w32 = 52 ∨ w32 = 53 ∨ w32 = 54 ∨ w32 = 55 ∨ w32 = 56 ∨ w32 = 57 ∨ w32 = 58 ∨ w32 = 59 ∨ w32 = 60 ∨ w32 = 61 ∨ w32 = 62 ∨ w32 = 63 by omega) with c33 | c33 | c33 | c33 | c33 | c33 | c33 | c33 | c33 | c33 | c33 | c33 | c33 | c33 | c33 | c33 | c33 | c33 | c33 | c33 | c33 | c33 | c33 | c33 | c33 | c33 | c33 | c33 | c33 | c33 | c33 | c33 | c33 | c33 | c33 | c33 | c33 | c33 | c33 | c33 | c33 | c33 | c33 | c33 | c33 | c33 | c33 | c33 | c33 | c33 | c33 | c33 | c33 | c33 | c33 | c33 | c33 | c33 | c33 | c33 | c33 | c33 | c33 | c33 | c33
      · exfalso; omega
      · refine lv_tableIn (tgt := 304) (off := 271) hx hb dL_law_33 (by rw [iI_toInt (by omega)]; omega) (by rw [iI_toInt (by omega)]; omega) (by rw [iI_toInt (by omega), c33]; decide) (by decide) ?_
        exact law_0 hL hx hb hr hml hown hts hX hbl hlocks hK hA hbA hO hr4 hr5 hr6 T i f g H locs ls (by omega) (by omega) (by omega) (by omega) hI hP hD hS hl kk
      · refine lv_tableIn (tgt := 367) (off := 334) hx hb dL_law_33 (by rw [iI_toInt (by omega)]; omega) (by rw [iI_toInt (by omega)]; omega) (by rw [iI_toInt (by omega), c33]; decide) (by decide) ?_
        exact law_1 hL hx hb hr hml hown hts hX hbl hlocks hK hA hbA hO hr4 hr5 hr6 T i f g H locs ls (by omega) (by omega) (by omega) (by omega) hI hP hD hS hl kk
      · refine lv_tableIn (tgt := 390) (off := 357) hx hb dL_law_33 (by rw [iI_toInt (by omega)]; omega) (by rw [iI_toInt (by omega)]; omega) (by rw [iI_toInt (by omega), c33]; decide) (by decide) ?_
        exact law_2 hL hx hb hr hml hown hts hX hbl hlocks hK hA hbA hO hr4 hr5 hr6 T i f g H locs ls (by omega) (by omega) (by omega) (by omega) hI hP hD hS hl kk
      · refine lv_tableIn (tgt := 403) (off := 370) hx hb dL_law_33 (by rw [iI_toInt (by omega)]; omega) (by rw [iI_toInt (by omega)]; omega) (by rw [iI_toInt (by omega), c33]; decide) (by decide) ?_
        exact law_3 hL hx hb hr hml hown hts hX hbl hlocks hK hA hbA hO hr4 hr5 hr6 T i f g H locs ls (by omega) (by omega) (by omega) (by omega) hI hP hD hS hl kk
      · refine lv_tableIn (tgt := 426) (off := 393) hx hb dL_law_33 (by rw [iI_toInt (by omega)]; omega) (by rw [iI_toInt (by omega)]; omega) (by rw [iI_toInt (by omega), c33]; decide) (by decide) ?_
        exact law_4 hL hx hb hr hml hown hts hX hbl hlocks hK hA hbA hO hr4 hr5 hr6 T i f g H locs ls (by omega) (by omega) (by omega) (by omega) hI hP hD hS hl kk
      · refine lv_tableIn (tgt := 459) (off := 426) hx hb dL_law_33 (by rw [iI_toInt (by omega)]; omega) (by rw [iI_toInt (by omega)]; omega) (by rw [iI_toInt (by omega), c33]; decide) (by decide) ?_
        exact law_5 hL hx hb hr hml hown hts hX hbl hlocks hK hA hbA hO hr4 hr5 hr6 T i f g H locs ls (by omega) (by omega) (by omega) (by omega) hI hP hD hS hl kk
      · refine lv_tableIn (tgt := 492) (off := 459) hx hb dL_law_33 (by rw [iI_toInt (by omega)]; omega) (by rw [iI_toInt (by omega)]; omega) (by rw [iI_toInt (by omega), c33]; decide) (by decide) ?_
        exact law_6 hL hx hb hr hml hown hts hX hbl hlocks hK hA hbA hO hr4 hr5 hr6 T i f g H locs ls (by omega) (by omega) (by omega) (by omega) hI hP hD hS hl kk
      · refine lv_tableIn (tgt := 525) (off := 492) hx hb dL_law_33 (by rw [iI_toInt (by omega)]; omega) (by rw [iI_toInt (by omega)]; omega) (by rw [iI_toInt (by omega), c33]; decide) (by decide) ?_
        exact law_7 hL hx hb hr hml hown hts hX hbl hlocks hK hA hbA hO hr4 hr5 hr6 T i f g H locs ls (by omega) (by omega) (by omega) (by omega) hI hP hD hS hl kk
      · refine lv_tableIn (tgt := 558) (off := 525) hx hb dL_law_33 (by rw [iI_toInt (by omega)]; omega) (by rw [iI_toInt (by omega)]; omega) (by rw [iI_toInt (by omega), c33]; decide) (by decide) ?_
        exact law_8 hL hx hb hr hml hown hts hX hbl hlocks hK hA hbA hO hr4 hr5 hr6 T i f g H locs ls (by omega) (by omega) (by omega) (by omega) hI hP hD hS hl kk
      · refine lv_tableIn (tgt := 581) (off := 548) hx hb dL_law_33 (by rw [iI_toInt (by omega)]; omega) (by rw [iI_toInt (by omega)]; omega) (by rw [iI_toInt (by omega), c33]; decide) (by decide) ?_
        exact law_9 hL hx hb hr hml hown hts hX hbl hlocks hK hA hbA hO hr4 hr5 hr6 T i f g H locs ls (by omega) (by omega) (by omega) (by omega) hI hP hD hS hl kk
      · refine lv_tableIn (tgt := 604) (off := 571) hx hb dL_law_33 (by rw [iI_toInt (by omega)]; omega) (by rw [iI_toInt (by omega)]; omega) (by rw [iI_toInt (by omega), c33]; decide) (by decide) ?_
        exact law_10 hL hx hb hr hml hown hts hX hbl hlocks hK hA hbA hO hr4 hr5 hr6 T i f g H locs ls (by omega) (by omega) (by omega) (by omega) hI hP hD hS hl kk
      · refine lv_tableIn (tgt := 617) (off := 584) hx hb dL_law_33 (by rw [iI_toInt (by omega)]; omega) (by rw [iI_toInt (by omega)]; omega) (by rw [iI_toInt (by omega), c33]; decide) (by decide) ?_
        exact law_11 hL hx hb hr hml hown hts hX hbl hlocks hK hA hbA hO hr4 hr5 hr6 T i f g H locs ls (by omega) (by omega) (by omega) (by omega) hI hP hD hS hl kk
      · refine lv_tableIn (tgt := 650) (off := 617) hx hb dL_law_33 (by rw [iI_toInt (by omega)]; omega) (by rw [iI_toInt (by omega)]; omega) (by rw [iI_toInt (by omega), c33]; decide) (by decide) ?_
        exact law_12 hL hx hb hr hml hown hts hX hbl hlocks hK hA hbA hO hr4 hr5 hr6 T i f g H locs ls (by omega) (by omega) (by omega) (by omega) hI hP hD hS hl kk
      · refine lv_tableIn (tgt := 683) (off := 650) hx hb dL_law_33 (by rw [iI_toInt (by omega)]; omega) (by rw [iI_toInt (by omega)]; omega) (by rw [iI_toInt (by omega), c33]; decide) (by decide) ?_
        exact law_13 hL hx hb hr hml hown hts hX hbl hlocks hK hA hbA hO hr4 hr5 hr6 T i f g H locs ls (by omega) (by omega) (by omega) (by omega) hI hP hD hS hl kk
      · refine lv_tableIn (tgt := 716) (off := 683) hx hb dL_law_33 (by rw [iI_toInt (by omega)]; omega) (by rw [iI_toInt (by omega)]; omega) (by rw [iI_toInt (by omega), c33]; decide) (by decide) ?_
        exact law_14 hL hx hb hr hml hown hts hX hbl hlocks hK hA hbA hO hr4 hr5 hr6 T i f g H locs ls (by omega) (by omega) (by omega) (by omega) hI hP hD hS hl kk
      · refine lv_tableIn (tgt := 729) (off := 696) hx hb dL_law_33 (by rw [iI_toInt (by omega)]; omega) (by rw [iI_toInt (by omega)]; omega) (by rw [iI_toInt (by omega), c33]; decide) (by decide) ?_
        exact law_15 hL hx hb hr hml hown hts hX hbl hlocks hK hA hbA hO hr4 hr5 hr6 T i f g H locs ls (by omega) (by omega) (by omega) (by omega) hI hP hD hS hl kk
      · refine lv_tableIn (tgt := 742) (off := 709) hx hb dL_law_33 (by rw [iI_toInt (by omega)]; omega) (by rw [iI_toInt (by omega)]; omega) (by rw [iI_toInt (by omega), c33]; decide) (by decide) ?_
        exact law_16 hL hx hb hr hml hown hts hX hbl hlocks hK hA hbA hO hr4 hr5 hr6 T i f g H locs ls (by omega) (by omega) (by omega) (by omega) hI hP hD hS hl kk
      · refine lv_tableIn (tgt := 765) (off := 732) hx hb dL_law_33 (by rw [iI_toInt (by omega)]; omega) (by rw [iI_toInt (by omega)]; omega) (by rw [iI_toInt (by omega), c33]; decide) (by decide) ?_
        exact law_17 hL hx hb hr hml hown hts hX hbl hlocks hK hA hbA hO hr4 hr5 hr6 T i f g H locs ls (by omega) (by omega) (by omega) (by omega) hI hP hD hS hl kk
      · refine lv_tableIn (tgt := 788) (off := 755) hx hb dL_law_33 (by rw [iI_toInt (by omega)]; omega) (by rw [iI_toInt (by omega)]; omega) (by rw [iI_toInt (by omega), c33]; decide) (by decide) ?_
        exact law_18 hL hx hb hr hml hown hts hX hbl hlocks hK hA hbA hO hr4 hr5 hr6 T i f g H locs ls (by omega) (by omega) (by omega) (by omega) hI hP hD hS hl kk
      · refine lv_tableIn (tgt := 801) (off := 768) hx hb dL_law_33 (by rw [iI_toInt (by omega)]; omega) (by rw [iI_toInt (by omega)]; omega) (by rw [iI_toInt (by omega), c33]; decide) (by decide) ?_
        exact law_19 hL hx hb hr hml hown hts hX hbl hlocks hK hA hbA hO hr4 hr5 hr6 T i f g H locs ls (by omega) (by omega) (by omega) (by omega) hI hP hD hS hl kk
      · refine lv_tableIn (tgt := 824) (off := 791) hx hb dL_law_33 (by rw [iI_toInt (by omega)]; omega) (by rw [iI_toInt (by omega)]; omega) (by rw [iI_toInt (by omega), c33]; decide) (by decide) ?_
        exact law_20 hL hx hb hr hml hown hts hX hbl hlocks hK hA hbA hO hr4 hr5 hr6 T i f g H locs ls (by omega) (by omega) (by omega) (by omega) hI hP hD hS hl kk
      · refine lv_tableIn (tgt := 847) (off := 814) hx hb dL_law_33 (by rw [iI_toInt (by omega)]; omega) (by rw [iI_toInt (by omega)]; omega) (by rw [iI_toInt (by omega), c33]; decide) (by decide) ?_
        exact law_21 hL hx hb hr hml hown hts hX hbl hlocks hK hA hbA hO hr4 hr5 hr6 T i f g H locs ls (by omega) (by omega) (by omega) (by omega) hI hP hD hS hl kk
      · refine lv_tableIn (tgt := 870) (off := 837) hx hb dL_law_33 (by rw [iI_toInt (by omega)]; omega) (by rw [iI_toInt (by omega)]; omega) (by rw [iI_toInt (by omega), c33]; decide) (by decide) ?_
        exact law_22 hL hx hb hr hml hown hts hX hbl hlocks hK hA hbA hO hr4 hr5 hr6 T i f g H locs ls (by omega) (by omega) (by omega) (by omega) hI hP hD hS hl kk
      · refine lv_tableIn (tgt := 903) (off := 870) hx hb dL_law_33 (by rw [iI_toInt (by omega)]; omega) (by rw [iI_toInt (by omega)]; omega) (by rw [iI_toInt (by omega), c33]; decide) (by decide) ?_
        exact law_23 hL hx hb hr hml hown hts hX hbl hlocks hK hA hbA hO hr4 hr5 hr6 T i f g H locs ls (by omega) (by omega) (by omega) (by omega) hI hP hD hS hl kk
      · refine lv_tableIn (tgt := 926) (off := 893) hx hb dL_law_33 (by rw [iI_toInt (by omega)]; omega) (by rw [iI_toInt (by omega)]; omega) (by rw [iI_toInt (by omega), c33]; decide) (by decide) ?_
        exact law_24 hL hx hb hr hml hown hts hX hbl hlocks hK hA hbA hO hr4 hr5 hr6 T i f g H locs ls (by omega) (by omega) (by omega) (by omega) hI hP hD hS hl kk
      · refine lv_tableIn (tgt := 939) (off := 906) hx hb dL_law_33 (by rw [iI_toInt (by omega)]; omega) (by rw [iI_toInt (by omega)]; omega) (by rw [iI_toInt (by omega), c33]; decide) (by decide) ?_
        exact law_25 hL hx hb hr hml hown hts hX hbl hlocks hK hA hbA hO hr4 hr5 hr6 T i f g H locs ls (by omega) (by omega) (by omega) (by omega) hI hP hD hS hl kk
      · refine lv_tableIn (tgt := 952) (off := 919) hx hb dL_law_33 (by rw [iI_toInt (by omega)]; omega) (by rw [iI_toInt (by omega)]; omega) (by rw [iI_toInt (by omega), c33]; decide) (by decide) ?_
        exact law_26 hL hx hb hr hml hown hts hX hbl hlocks hK hA hbA hO hr4 hr5 hr6 T i f g H locs ls (by omega) (by omega) (by omega) (by omega) hI hP hD hS hl kk
      · refine lv_tableIn (tgt := 975) (off := 942) hx hb dL_law_33 (by rw [iI_toInt (by omega)]; omega) (by rw [iI_toInt (by omega)]; omega) (by rw [iI_toInt (by omega), c33]; decide) (by decide) ?_
        exact law_27 hL hx hb hr hml hown hts hX hbl hlocks hK hA hbA hO hr4 hr5 hr6 T i f g H locs ls (by omega) (by omega) (by omega) (by omega) hI hP hD hS hl kk
      · refine lv_tableIn (tgt := 998) (off := 965) hx hb dL_law_33 (by rw [iI_toInt (by omega)]; omega) (by rw [iI_toInt (by omega)]; omega) (by rw [iI_toInt (by omega), c33]; decide) (by decide) ?_
        exact law_28 hL hx hb hr hml hown hts hX hbl hlocks hK hA hbA hO hr4 hr5 hr6 T i f g H locs ls (by omega) (by omega) (by omega) (by omega) hI hP hD hS hl kk
      · refine lv_tableIn (tgt := 1011) (off := 978) hx hb dL_law_33 (by rw [iI_toInt (by omega)]; omega) (by rw [iI_toInt (by omega)]; omega) (by rw [iI_toInt (by omega), c33]; decide) (by decide) ?_
        exact law_29 hL hx hb hr hml hown hts hX hbl hlocks hK hA hbA hO hr4 hr5 hr6 T i f g H locs ls (by omega) (by omega) (by omega) (by omega) hI hP hD hS hl kk
      · refine lv_tableIn (tgt := 1034) (off := 1001) hx hb dL_law_33 (by rw [iI_toInt (by omega)]; omega) (by rw [iI_toInt (by omega)]; omega) (by rw [iI_toInt (by omega), c33]; decide) (by decide) ?_
        exact law_30 hL hx hb hr hml hown hts hX hbl hlocks hK hA hbA hO hr4 hr5 hr6 T i f g H locs ls (by omega) (by omega) (by omega) (by omega) hI hP hD hS hl kk
      · refine lv_tableIn (tgt := 1057) (off := 1024) hx hb dL_law_33 (by rw [iI_toInt (by omega)]; omega) (by rw [iI_toInt (by omega)]; omega) (by rw [iI_toInt (by omega), c33]; decide) (by decide) ?_
        exact law_31 hL hx hb hr hml hown hts hX hbl hlocks hK hA hbA hO hr4 hr5 hr6 T i f g H locs ls (by omega) (by omega) (by omega) (by omega) hI hP hD hS hl kk
      · refine lv_tableIn (tgt := 1080) (off := 1047) hx hb dL_law_33 (by rw [iI_toInt (by omega)]; omega) (by rw [iI_toInt (by omega)]; omega) (by rw [iI_toInt (by omega), c33]; decide) (by decide) ?_
        exact law_32 hL hx hb hr hml hown hts hX hbl hlocks hK hA hbA hO hr4 hr5 hr6 T i f g H locs ls (by omega) (by omega) (by omega) (by omega) hI hP hD hS hl kk
      · refine lv_tableIn (tgt := 1093) (off := 1060) hx hb dL_law_33 (by rw [iI_toInt (by omega)]; omega) (by rw [iI_toInt (by omega)]; omega) (by rw [iI_toInt (by omega), c33]; decide) (by decide) ?_
        exact law_33 hL hx hb hr hml hown hts hX hbl hlocks hK hA hbA hO hr4 hr5 hr6 T i f g H locs ls (by omega) (by omega) (by omega) (by omega) hI hP hD hS hl kk
      · refine lv_tableIn (tgt := 1106) (off := 1073) hx hb dL_law_33 (by rw [iI_toInt (by omega)]; omega) (by rw [iI_toInt (by omega)]; omega) (by rw [iI_toInt (by omega), c33]; decide) (by decide) ?_
        exact law_34 hL hx hb hr hml hown hts hX hbl hlocks hK hA hbA hO hr4 hr5 hr6 T i f g H locs ls (by omega) (by omega) (by omega) (by omega) hI hP hD hS hl kk
      · refine lv_tableIn (tgt := 1119) (off := 1086) hx hb dL_law_33 (by rw [iI_toInt (by omega)]; omega) (by rw [iI_toInt (by omega)]; omega) (by rw [iI_toInt (by omega), c33]; decide) (by decide) ?_
        exact law_35 hL hx hb hr hml hown hts hX hbl hlocks hK hA hbA hO hr4 hr5 hr6 T i f g H locs ls (by omega) (by omega) (by omega) (by omega) hI hP hD hS hl kk
      · refine lv_tableIn (tgt := 1142) (off := 1109) hx hb dL_law_33 (by rw [iI_toInt (by omega)]; omega) (by rw [iI_toInt (by omega)]; omega) (by rw [iI_toInt (by omega), c33]; decide) (by decide) ?_
        exact law_36 hL hx hb hr hml hown hts hX hbl hlocks hK hA hbA hO hr4 hr5 hr6 T i f g H locs ls (by omega) (by omega) (by omega) (by omega) hI hP hD hS hl kk
      · refine lv_tableIn (tgt := 1165) (off := 1132) hx hb dL_law_33 (by rw [iI_toInt (by omega)]; omega) (by rw [iI_toInt (by omega)]; omega) (by rw [iI_toInt (by omega), c33]; decide) (by decide) ?_
        exact law_37 hL hx hb hr hml hown hts hX hbl hlocks hK hA hbA hO hr4 hr5 hr6 T i f g H locs ls (by omega) (by omega) (by omega) (by omega) hI hP hD hS hl kk
      · refine lv_tableIn (tgt := 1188) (off := 1155) hx hb dL_law_33 (by rw [iI_toInt (by omega)]; omega) (by rw [iI_toInt (by omega)]; omega) (by rw [iI_toInt (by omega), c33]; decide) (by decide) ?_
        exact law_38 hL hx hb hr hml hown hts hX hbl hlocks hK hA hbA hO hr4 hr5 hr6 T i f g H locs ls (by omega) (by omega) (by omega) (by omega) hI hP hD hS hl kk
      · refine lv_tableIn (tgt := 1221) (off := 1188) hx hb dL_law_33 (by rw [iI_toInt (by omega)]; omega) (by rw [iI_toInt (by omega)]; omega) (by rw [iI_toInt (by omega), c33]; decide) (by decide) ?_
        exact law_39 hL hx hb hr hml hown hts hX hbl hlocks hK hA hbA hO hr4 hr5 hr6 T i f g H locs ls (by omega) (by omega) (by omega) (by omega) hI hP hD hS hl kk
      · refine lv_tableIn (tgt := 1254) (off := 1221) hx hb dL_law_33 (by rw [iI_toInt (by omega)]; omega) (by rw [iI_toInt (by omega)]; omega) (by rw [iI_toInt (by omega), c33]; decide) (by decide) ?_
        exact law_40 hL hx hb hr hml hown hts hX hbl hlocks hK hA hbA hO hr4 hr5 hr6 T i f g H locs ls (by omega) (by omega) (by omega) (by omega) hI hP hD hS hl kk
      · refine lv_tableIn (tgt := 1297) (off := 1264) hx hb dL_law_33 (by rw [iI_toInt (by omega)]; omega) (by rw [iI_toInt (by omega)]; omega) (by rw [iI_toInt (by omega), c33]; decide) (by decide) ?_
        exact law_41 hL hx hb hr hml hown hts hX hbl hlocks hK hA hbA hO hr4 hr5 hr6 T i f g H locs ls (by omega) (by omega) (by omega) (by omega) hI hP hD hS hl kk
      · refine lv_tableIn (tgt := 1330) (off := 1297) hx hb dL_law_33 (by rw [iI_toInt (by omega)]; omega) (by rw [iI_toInt (by omega)]; omega) (by rw [iI_toInt (by omega), c33]; decide) (by decide) ?_
        exact law_42 hL hx hb hr hml hown hts hX hbl hlocks hK hA hbA hO hr4 hr5 hr6 T i f g H locs ls (by omega) (by omega) (by omega) (by omega) hI hP hD hS hl kk
      · refine lv_tableIn (tgt := 1363) (off := 1330) hx hb dL_law_33 (by rw [iI_toInt (by omega)]; omega) (by rw [iI_toInt (by omega)]; omega) (by rw [iI_toInt (by omega), c33]; decide) (by decide) ?_
        exact law_43 hL hx hb hr hml hown hts hX hbl hlocks hK hA hbA hO hr4 hr5 hr6 T i f g H locs ls (by omega) (by omega) (by omega) (by omega) hI hP hD hS hl kk
      · refine lv_tableIn (tgt := 1376) (off := 1343) hx hb dL_law_33 (by rw [iI_toInt (by omega)]; omega) (by rw [iI_toInt (by omega)]; omega) (by rw [iI_toInt (by omega), c33]; decide) (by decide) ?_
        exact law_44 hL hx hb hr hml hown hts hX hbl hlocks hK hA hbA hO hr4 hr5 hr6 T i f g H locs ls (by omega) (by omega) (by omega) (by omega) hI hP hD hS hl kk
      · refine lv_tableIn (tgt := 1389) (off := 1356) hx hb dL_law_33 (by rw [iI_toInt (by omega)]; omega) (by rw [iI_toInt (by omega)]; omega) (by rw [iI_toInt (by omega), c33]; decide) (by decide) ?_
        exact law_45 hL hx hb hr hml hown hts hX hbl hlocks hK hA hbA hO hr4 hr5 hr6 T i f g H locs ls (by omega) (by omega) (by omega) (by omega) hI hP hD hS hl kk
      · refine lv_tableIn (tgt := 1412) (off := 1379) hx hb dL_law_33 (by rw [iI_toInt (by omega)]; omega) (by rw [iI_toInt (by omega)]; omega) (by rw [iI_toInt (by omega), c33]; decide) (by decide) ?_
        exact law_46 hL hx hb hr hml hown hts hX hbl hlocks hK hA hbA hO hr4 hr5 hr6 T i f g H locs ls (by omega) (by omega) (by omega) (by omega) hI hP hD hS hl kk
      · refine lv_tableIn (tgt := 1445) (off := 1412) hx hb dL_law_33 (by rw [iI_toInt (by omega)]; omega) (by rw [iI_toInt (by omega)]; omega) (by rw [iI_toInt (by omega), c33]; decide) (by decide) ?_
        exact law_47 hL hx hb hr hml hown hts hX hbl hlocks hK hA hbA hO hr4 hr5 hr6 T i f g H locs ls (by omega) (by omega) (by omega) (by omega) hI hP hD hS hl kk
      · refine lv_tableIn (tgt := 1458) (off := 1425) hx hb dL_law_33 (by rw [iI_toInt (by omega)]; omega) (by rw [iI_toInt (by omega)]; omega) (by rw [iI_toInt (by omega), c33]; decide) (by decide) ?_
        exact law_48 hL hx hb hr hml hown hts hX hbl hlocks hK hA hbA hO hr4 hr5 hr6 T i f g H locs ls (by omega) (by omega) (by omega) (by omega) hI hP hD hS hl kk
      · refine lv_tableIn (tgt := 1481) (off := 1448) hx hb dL_law_33 (by rw [iI_toInt (by omega)]; omega) (by rw [iI_toInt (by omega)]; omega) (by rw [iI_toInt (by omega), c33]; decide) (by decide) ?_
        exact law_49 hL hx hb hr hml hown hts hX hbl hlocks hK hA hbA hO hr4 hr5 hr6 T i f g H locs ls (by omega) (by omega) (by omega) (by omega) hI hP hD hS hl kk
      · refine lv_tableIn (tgt := 1514) (off := 1481) hx hb dL_law_33 (by rw [iI_toInt (by omega)]; omega) (by rw [iI_toInt (by omega)]; omega) (by rw [iI_toInt (by omega), c33]; decide) (by decide) ?_
        exact law_50 hL hx hb hr hml hown hts hX hbl hlocks hK hA hbA hO hr4 hr5 hr6 T i f g H locs ls (by omega) (by omega) (by omega) (by omega) hI hP hD hS hl kk
      · refine lv_tableIn (tgt := 1547) (off := 1514) hx hb dL_law_33 (by rw [iI_toInt (by omega)]; omega) (by rw [iI_toInt (by omega)]; omega) (by rw [iI_toInt (by omega), c33]; decide) (by decide) ?_
        exact law_51 hL hx hb hr hml hown hts hX hbl hlocks hK hA hbA hO hr4 hr5 hr6 T i f g H locs ls (by omega) (by omega) (by omega) (by omega) hI hP hD hS hl kk
      · refine lv_tableIn (tgt := 1580) (off := 1547) hx hb dL_law_33 (by rw [iI_toInt (by omega)]; omega) (by rw [iI_toInt (by omega)]; omega) (by rw [iI_toInt (by omega), c33]; decide) (by decide) ?_
        exact law_52 hL hx hb hr hml hown hts hX hbl hlocks hK hA hbA hO hr4 hr5 hr6 T i f g H locs ls (by omega) (by omega) (by omega) (by omega) hI hP hD hS hl kk
      · refine lv_tableIn (tgt := 1603) (off := 1570) hx hb dL_law_33 (by rw [iI_toInt (by omega)]; omega) (by rw [iI_toInt (by omega)]; omega) (by rw [iI_toInt (by omega), c33]; decide) (by decide) ?_
        exact law_53 hL hx hb hr hml hown hts hX hbl hlocks hK hA hbA hO hr4 hr5 hr6 T i f g H locs ls (by omega) (by omega) (by omega) (by omega) hI hP hD hS hl kk
      · refine lv_tableIn (tgt := 1626) (off := 1593) hx hb dL_law_33 (by rw [iI_toInt (by omega)]; omega) (by rw [iI_toInt (by omega)]; omega) (by rw [iI_toInt (by omega), c33]; decide) (by decide) ?_
        exact law_54 hL hx hb hr hml hown hts hX hbl hlocks hK hA hbA hO hr4 hr5 hr6 T i f g H locs ls (by omega) (by omega) (by omega) (by omega) hI hP hD hS hl kk
      · refine lv_tableIn (tgt := 1659) (off := 1626) hx hb dL_law_33 (by rw [iI_toInt (by omega)]; omega) (by rw [iI_toInt (by omega)]; omega) (by rw [iI_toInt (by omega), c33]; decide) (by decide) ?_
        exact law_55 hL hx hb hr hml hown hts hX hbl hlocks hK hA hbA hO hr4 hr5 hr6 T i f g H locs ls (by omega) (by omega) (by omega) (by omega) hI hP hD hS hl kk
      · refine lv_tableIn (tgt := 1682) (off := 1649) hx hb dL_law_33 (by rw [iI_toInt (by omega)]; omega) (by rw [iI_toInt (by omega)]; omega) (by rw [iI_toInt (by omega), c33]; decide) (by decide) ?_
        exact law_56 hL hx hb hr hml hown hts hX hbl hlocks hK hA hbA hO hr4 hr5 hr6 T i f g H locs ls (by omega) (by omega) (by omega) (by omega) hI hP hD hS hl kk
      · refine lv_tableIn (tgt := 1705) (off := 1672) hx hb dL_law_33 (by rw [iI_toInt (by omega)]; omega) (by rw [iI_toInt (by omega)]; omega) (by rw [iI_toInt (by omega), c33]; decide) (by decide) ?_
        exact law_57 hL hx hb hr hml hown hts hX hbl hlocks hK hA hbA hO hr4 hr5 hr6 T i f g H locs ls (by omega) (by omega) (by omega) (by omega) hI hP hD hS hl kk
      · refine lv_tableIn (tgt := 1748) (off := 1715) hx hb dL_law_33 (by rw [iI_toInt (by omega)]; omega) (by rw [iI_toInt (by omega)]; omega) (by rw [iI_toInt (by omega), c33]; decide) (by decide) ?_
        exact law_58 hL hx hb hr hml hown hts hX hbl hlocks hK hA hbA hO hr4 hr5 hr6 T i f g H locs ls (by omega) (by omega) (by omega) (by omega) hI hP hD hS hl kk
      · refine lv_tableIn (tgt := 1771) (off := 1738) hx hb dL_law_33 (by rw [iI_toInt (by omega)]; omega) (by rw [iI_toInt (by omega)]; omega) (by rw [iI_toInt (by omega), c33]; decide) (by decide) ?_
        exact law_59 hL hx hb hr hml hown hts hX hbl hlocks hK hA hbA hO hr4 hr5 hr6 T i f g H locs ls (by omega) (by omega) (by omega) (by omega) hI hP hD hS hl kk
      · refine lv_tableIn (tgt := 1794) (off := 1761) hx hb dL_law_33 (by rw [iI_toInt (by omega)]; omega) (by rw [iI_toInt (by omega)]; omega) (by rw [iI_toInt (by omega), c33]; decide) (by decide) ?_
        exact law_60 hL hx hb hr hml hown hts hX hbl hlocks hK hA hbA hO hr4 hr5 hr6 T i f g H locs ls (by omega) (by omega) (by omega) (by omega) hI hP hD hS hl kk
      · refine lv_tableIn (tgt := 1817) (off := 1784) hx hb dL_law_33 (by rw [iI_toInt (by omega)]; omega) (by rw [iI_toInt (by omega)]; omega) (by rw [iI_toInt (by omega), c33]; decide) (by decide) ?_
        exact law_61 hL hx hb hr hml hown hts hX hbl hlocks hK hA hbA hO hr4 hr5 hr6 T i f g H locs ls (by omega) (by omega) (by omega) (by omega) hI hP hD hS hl kk
      · refine lv_tableIn (tgt := 1860) (off := 1827) hx hb dL_law_33 (by rw [iI_toInt (by omega)]; omega) (by rw [iI_toInt (by omega)]; omega) (by rw [iI_toInt (by omega), c33]; decide) (by decide) ?_
        exact law_62 hL hx hb hr hml hown hts hX hbl hlocks hK hA hbA hO hr4 hr5 hr6 T i f g H locs ls (by omega) (by omega) (by omega) (by omega) hI hP hD hS hl kk
      · refine lv_tableIn (tgt := 1933) (off := 1900) hx hb dL_law_33 (by rw [iI_toInt (by omega)]; omega) (by rw [iI_toInt (by omega)]; omega) (by rw [iI_toInt (by omega), c33]; decide) (by decide) ?_
        exact law_63 hL hx hb hr hml hown hts hX hbl hlocks hK hA hbA hO hr4 hr5 hr6 T i f g H locs ls (by omega) (by omega) (by omega) (by omega) hI hP hD hS hl kk
