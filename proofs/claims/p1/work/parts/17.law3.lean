theorem dL_law_1458 : decode cL_law 1458 = .ok (.aload_n 1, 1) := by decide +kernel
theorem dL_law_1459 : decode cL_law 1459 = .ok (.aload_n 0, 1) := by decide +kernel
theorem dL_law_1460 : decode cL_law 1460 = .ok (.iload_n 3, 1) := by decide +kernel
theorem dL_law_1461 : decode cL_law 1461 = .ok (.iconst 1, 1) := by decide +kernel
theorem dL_law_1462 : decode cL_law 1462 = .ok (.iadd, 1) := by decide +kernel
theorem dL_law_1463 : decode cL_law 1463 = .ok (.iaload, 1) := by decide +kernel
theorem dL_law_1464 : decode cL_law 1464 = .ok (.invokevirtual 210, 3) := by decide +kernel
theorem dL_law_1467 : decode cL_law 1467 = .ok (.aload_n 2, 1) := by decide +kernel
theorem dL_law_1468 : decode cL_law 1468 = .ok (.aload_n 0, 1) := by decide +kernel
theorem dL_law_1469 : decode cL_law 1469 = .ok (.iload_n 3, 1) := by decide +kernel
theorem dL_law_1470 : decode cL_law 1470 = .ok (.iconst 1, 1) := by decide +kernel
theorem dL_law_1471 : decode cL_law 1471 = .ok (.iadd, 1) := by decide +kernel
theorem dL_law_1472 : decode cL_law 1472 = .ok (.iaload, 1) := by decide +kernel
theorem dL_law_1473 : decode cL_law 1473 = .ok (.invokevirtual 213, 3) := by decide +kernel
theorem dL_law_1476 : decode cL_law 1476 = .ok (.if_icmp .eq 520, 3) := by decide +kernel
set_option maxHeartbeats 4000000 in
set_option maxRecDepth 100000 in
theorem law_48 {p : Program} {l : Launch} {e : Env} {s : State} {m : MethodId} {below : List Frame} {meth : Method} {c : Code} {b : Nat} {xs : Nat → Int32} (hx : p.tables.exec = Jvm.exec) (hb : c.code = cL_law) (hr : meth.sig.returnType = ret) (hml : c.maxLocals = 4) (hown : s.vm.findClass RL = some m.cls) (hts : ∀ w ∈ fn_big, w.before #[Value.ref b] s = true) (hX : va_X b 6 xs s s.heap) (hbl : b < s.heap.size) (hlocks : meth.locks = false) {D : va_G} {K : Nat → ClassId} (hK : fn_KK D K s) {x0 m0 : Nat} {u v : Nat → Nat} {fw : Nat → Int32} (hfw : ∀ j, j < 4 → fw j = -1) {A : Nat → Prop} (hAe : (fun q : Nat => s.heap.size ≤ q) = A) : ∀ (H : Heap) (locs : List Loc) (ls : Array Slot), va_P D vwCl (fn_world K x0 m0 u v fw) H → va_D A (fn_world K x0 m0 u v fw) → va_S A s.heap H locs → lv_has ls 4 [(3, .int 0), (2, .ref m0), (1, .ref x0), (0, .ref b)] → W p l e room_1 s m #[Value.ref b] below meth c H locs 144 12710 (lw_Z below #[Value.ref b] s) (F0 m 1458 ls []) := by
  intro H locs ls hP hD hS hl
  have hA : ∀ q : Nat, s.heap.size ≤ q → A q := fun q h => by rw [← hAe]; exact h
  have hbA : ¬ A b := by rw [← hAe]; exact Nat.not_le.mpr hbl
  refine lv_aload_n hx hb dL_law_1458 rfl (lv_at hl 2 rfl) ?_
  refine lv_aload_n hx hb dL_law_1459 rfl (lv_at hl 3 rfl) ?_
  refine lv_iload_n hx hb dL_law_1460 rfl (lv_at hl 0 rfl) ?_
  refine lv_iconst (v := 1) hx hb dL_law_1461 (by decide) ?_
  refine lv_iadd hx hb dL_law_1462 ?_
  refine fn_top 1 (by decide) ?_
  refine va_sld hx hb hX hbl hbA hS (by unfold vp_in; decide) dL_law_1463 ?_
  refine fn_top (xs 1) (congrArg xs (by decide)) ?_
  refine fn_goi (wc := [(x0, .inr (11, [.ref (u 0), .ref (u 10), .ref (u 17), .ref (u 25), .ref (u 26), .ref (u 27), .ref (u 28), .ref (u 29), .ref (u 34), .ref (u 39), .ref (u 43), .ref (u 51), .ref (u 55)])), ((u 10), .inr (7, [.int 0, .int 0, .int 0, .int 0, .int 0, .int 0, .int 0, .int 0, .int 0, .ref (u 11), .ref (u 12), .ref (u 13), .ref (u 14), .ref (u 15), .ref (u 16)]))]) (wr := [(m0, .inr (12, [.int 0, .ref (v 0), .ref (v 1), .ref (v 2), .ref (v 3), .ref (v 4), .int 0, .int 0, .int 0, .int 0, .int 0, .long 0, .int 0, .int 0, .int 0, .int (-1), .ref (v 5), .ref (v 6), .ref (v 7), .ref (v 8), .ref (v 9), .ref (v 10), .ref (v 11), .ref (v 12), .ref (v 13), .ref (v 14), .ref (v 15), .ref (v 16), .ref (v 17), .ref (v 18), .ref (v 19), .ref (v 20), .int 0, .int 0, .int 0, .int 0, .ref (v 21), .ref (v 22), .ref (v 23), .int 0, .int 0, .ref (v 24), .ref (v 25), .int 0, .int 0, .ref (v 26), .ref (v 27), .ref (v 28), .int 0, .int 0, .int 0])), ((v 0), .inl (K 0, 4, .inl fw)), ((v 1), .inl (K 0, 4, .inl (fun _ => 0))), ((v 2), .inl (K 3, 240, .inr (.inl (fun _ => 0)))), ((v 4), .inl (K 1, 1400, .inl (fun _ => 0))), ((v 5), .inl (K 0, 5, .inl (fun _ => 0))), ((v 6), .inl (K 0, 40, .inl (fun _ => 0))), ((v 7), .inl (K 0, 50, .inl (fun _ => 0))), ((v 8), .inl (K 0, 60, .inl (fun _ => 0))), ((v 9), .inl (K 0, 480, .inl (fun _ => 0))), ((v 10), .inl (K 0, 600, .inl (fun _ => 0))), ((v 11), .inl (K 2, 3, .inl (fun _ => 0)))]) hK hP hD hS hA [0, 11] [88, 89, 90, 91, 92, 93, 94, 95, 96, 97, 98, 99] rfl rfl (by decide) (fun hp => va_runV (C := RX11) (As := [.int (xs 1)]) (rest := []) ⟨hx, hb, hml, hown, hts⟩ (c_X11_saint (l := l) (D := D) (K := K) (x0 := (x0)) (p0 := ((xs 1))) (fx := ([.ref (u 0), .ref (u 10), .ref (u 17), .ref (u 25), .ref (u 26), .ref (u 27), .ref (u 28), .ref (u 29), .ref (u 34), .ref (u 39), .ref (u 43), .ref (u 51), .ref (u 55)])) (t0 := ((u 10))) (hx1 := rfl) (ft := ([.int 0, .int 0, .int 0, .int 0, .int 0, .int 0, .int 0, .int 0, .int 0, .ref (u 11), .ref (u 12), .ref (u 13), .ref (u 14), .ref (u 15), .ref (u 16)])) (ht0 := rfl) (ht3 := rfl) (ht4 := rfl) (ht5 := rfl) _) (cwV 1 hts (fn_ginV (fn_gin wd_1092) wd_1089 wd_1090 wd_1091 wd_1) rfl rfl rfl (by decide +kernel) ⟨Nat.le_of_ble_eq_true rfl, Nat.le_of_ble_eq_true rfl⟩) ⟨fn_blind, va_recv hK.1 hP (ci := 11) (q0 := 0) rfl rfl, hp⟩ rfl rfl hl.1 rfl (lv_room (Nat.le_of_ble_eq_true rfl)) dL_law_1464 ⟨Nat.le_of_ble_eq_true rfl, Nat.le_of_ble_eq_true rfl⟩) (fun r2 u1 H locs hwu1 hP hD hS => ?_)
  have r2_e : r2 = (-2) := hwu1
  subst r2_e
  have hP : va_P D vwCl [(m0, .inr (12, [.int 0, .ref (v 0), .ref (v 1), .ref (v 2), .ref (v 3), .ref (v 4), .int 0, .int 0, .int 0, .int 0, .int 0, .long 0, .int 0, .int 0, .int 0, .int (-1), .ref (v 5), .ref (v 6), .ref (v 7), .ref (v 8), .ref (v 9), .ref (v 10), .ref (v 11), .ref (v 12), .ref (v 13), .ref (v 14), .ref (v 15), .ref (v 16), .ref (v 17), .ref (v 18), .ref (v 19), .ref (v 20), .int 0, .int 0, .int 0, .int 0, .ref (v 21), .ref (v 22), .ref (v 23), .int 0, .int 0, .ref (v 24), .ref (v 25), .int 0, .int 0, .ref (v 26), .ref (v 27), .ref (v 28), .int 0, .int 0, .int 0])), ((v 0), .inl (K 0, 4, .inl fw)), ((v 1), .inl (K 0, 4, .inl (fun _ => 0))), ((v 2), .inl (K 3, 240, .inr (.inl (fun _ => 0)))), ((v 4), .inl (K 1, 1400, .inl (fun _ => 0))), ((v 5), .inl (K 0, 5, .inl (fun _ => 0))), ((v 6), .inl (K 0, 40, .inl (fun _ => 0))), ((v 7), .inl (K 0, 50, .inl (fun _ => 0))), ((v 8), .inl (K 0, 60, .inl (fun _ => 0))), ((v 9), .inl (K 0, 480, .inl (fun _ => 0))), ((v 10), .inl (K 0, 600, .inl (fun _ => 0))), ((v 11), .inl (K 2, 3, .inl (fun _ => 0)))] H := hP
  have hD : va_D A [(m0, .inr (12, [.int 0, .ref (v 0), .ref (v 1), .ref (v 2), .ref (v 3), .ref (v 4), .int 0, .int 0, .int 0, .int 0, .int 0, .long 0, .int 0, .int 0, .int 0, .int (-1), .ref (v 5), .ref (v 6), .ref (v 7), .ref (v 8), .ref (v 9), .ref (v 10), .ref (v 11), .ref (v 12), .ref (v 13), .ref (v 14), .ref (v 15), .ref (v 16), .ref (v 17), .ref (v 18), .ref (v 19), .ref (v 20), .int 0, .int 0, .int 0, .int 0, .ref (v 21), .ref (v 22), .ref (v 23), .int 0, .int 0, .ref (v 24), .ref (v 25), .int 0, .int 0, .ref (v 26), .ref (v 27), .ref (v 28), .int 0, .int 0, .int 0])), ((v 0), .inl (K 0, 4, .inl fw)), ((v 1), .inl (K 0, 4, .inl (fun _ => 0))), ((v 2), .inl (K 3, 240, .inr (.inl (fun _ => 0)))), ((v 4), .inl (K 1, 1400, .inl (fun _ => 0))), ((v 5), .inl (K 0, 5, .inl (fun _ => 0))), ((v 6), .inl (K 0, 40, .inl (fun _ => 0))), ((v 7), .inl (K 0, 50, .inl (fun _ => 0))), ((v 8), .inl (K 0, 60, .inl (fun _ => 0))), ((v 9), .inl (K 0, 480, .inl (fun _ => 0))), ((v 10), .inl (K 0, 600, .inl (fun _ => 0))), ((v 11), .inl (K 2, 3, .inl (fun _ => 0)))] := hD
  refine lv_aload_n hx hb dL_law_1467 rfl (lv_at hl 1 rfl) ?_
  refine lv_aload_n hx hb dL_law_1468 rfl (lv_at hl 3 rfl) ?_
  refine lv_iload_n hx hb dL_law_1469 rfl (lv_at hl 0 rfl) ?_
  refine lv_iconst (v := 1) hx hb dL_law_1470 (by decide) ?_
  refine lv_iadd hx hb dL_law_1471 ?_
  refine fn_top 1 (by decide) ?_
  refine va_sld hx hb hX hbl hbA hS (by unfold vp_in; decide) dL_law_1472 ?_
  refine fn_top (xs 1) (congrArg xs (by decide)) ?_
  refine fn_goi (wc := [(m0, .inr (12, [.int 0, .ref (v 0), .ref (v 1), .ref (v 2), .ref (v 3), .ref (v 4), .int 0, .int 0, .int 0, .int 0, .int 0, .long 0, .int 0, .int 0, .int 0, .int (-1), .ref (v 5), .ref (v 6), .ref (v 7), .ref (v 8), .ref (v 9), .ref (v 10), .ref (v 11), .ref (v 12), .ref (v 13), .ref (v 14), .ref (v 15), .ref (v 16), .ref (v 17), .ref (v 18), .ref (v 19), .ref (v 20), .int 0, .int 0, .int 0, .int 0, .ref (v 21), .ref (v 22), .ref (v 23), .int 0, .int 0, .ref (v 24), .ref (v 25), .int 0, .int 0, .ref (v 26), .ref (v 27), .ref (v 28), .int 0, .int 0, .int 0])), ((v 5), .inl (K 0, 5, .inl (fun _ => 0))), ((v 6), .inl (K 0, 40, .inl (fun _ => 0)))]) (wr := []) hK hP hD hS hA [0, 5, 6] [] rfl rfl (by decide) (fun hp => va_runV (C := RX12) (As := [.int (xs 1)]) (rest := [.int (-2)]) ⟨hx, hb, hml, hown, hts⟩ (c_X12_saint (l := l) (D := D) (K := K) (m0 := (m0)) (p0 := ((xs 1))) (fm := ([.int 0, .ref (v 0), .ref (v 1), .ref (v 2), .ref (v 3), .ref (v 4), .int 0, .int 0, .int 0, .int 0, .int 0, .long 0, .int 0, .int 0, .int 0, .int (-1), .ref (v 5), .ref (v 6), .ref (v 7), .ref (v 8), .ref (v 9), .ref (v 10), .ref (v 11), .ref (v 12), .ref (v 13), .ref (v 14), .ref (v 15), .ref (v 16), .ref (v 17), .ref (v 18), .ref (v 19), .ref (v 20), .int 0, .int 0, .int 0, .int 0, .ref (v 21), .ref (v 22), .ref (v 23), .int 0, .int 0, .ref (v 24), .ref (v 25), .int 0, .int 0, .ref (v 26), .ref (v 27), .ref (v 28), .int 0, .int 0, .int 0])) (hmn := rfl) (al := ((v 5))) (hm16 := rfl) (ah := ((v 6))) (hm17 := rfl) (fl := (fun _ => 0)) (hfl := (fun _ => rfl)) (fh := (fun _ => 0)) (hfh := (fun _ => rfl)) _) (cwV 1 hts (fn_ginV (fn_gin wd_1868) wd_1865 wd_1866 wd_1867 wd_13) rfl rfl rfl (by decide +kernel) ⟨Nat.le_of_ble_eq_true rfl, Nat.le_of_ble_eq_true rfl⟩) ⟨fn_blind, va_recv hK.1 hP (ci := 12) (q0 := 0) rfl rfl, hp⟩ rfl rfl hl.1 rfl (lv_room (Nat.le_of_ble_eq_true rfl)) dL_law_1473 ⟨Nat.le_of_ble_eq_true rfl, Nat.le_of_ble_eq_true rfl⟩) (fun r4 u3 H locs hwu3 hP hD hS => ?_)
  have r4_e : r4 = (-2) := hwu3
  subst r4_e
  have hP : va_P D vwCl [] H := hP
  have hD : va_D A [] := hD
  refine lv_icmp_eq (tgt := 1996) hx hb dL_law_1476 (by decide) (fun _ => ?_) (fun h9 => absurd (by decide) h9)
  refine lv_iinc (v := 6) (lv' := [(3, .int 6), (2, .ref m0), (1, .ref x0), (0, .ref b)]) hx hb dL_law_1996 hl (k := 0) rfl (by decide) (by decide) rfl (fun ls hl => ?_)
  refine lv_goto (tgt := 18) hx hb dL_law_1999 (by decide) ?_
  refine lv_iload_n hx hb dL_law_18 rfl (lv_at hl 0 rfl) ?_
  refine lv_aload_n hx hb dL_law_19 rfl (lv_at hl 3 rfl) ?_
  refine fn_at 20 rfl ?_
  refine va_slen hx hb hX hbl hbA hS dL_law_20 ?_
  refine fn_top 6 (by decide) ?_
  refine lv_bipush (v := 6) hx hb dL_law_21 (by decide) ?_
  refine lv_isub hx hb dL_law_23 ?_
  refine fn_top 0 (by decide) ?_
  refine lv_icmp_gt (tgt := 2002) hx hb dL_law_24 (by decide) (fun _ => ?_) (fun h9 => absurd (by decide) h9)
  refine lv_iconst (v := 1) hx hb dL_law_2002 (by decide) ?_
  refine va_forget (fun q hq => by have h9 := hS.2.2 q hq; rw [← hAe] at h9; exact h9) ?_
  refine W.widen (k := 600000) (n := 7302250) (Nat.le_of_ble_eq_true rfl) (Nat.le_of_ble_eq_true rfl) ?_
  exact lw_ret hx hb hr hlocks dL_law_2003
theorem dL_law_1481 : decode cL_law 1481 = .ok (.aload_n 1, 1) := by decide +kernel
theorem dL_law_1482 : decode cL_law 1482 = .ok (.aload_n 0, 1) := by decide +kernel
theorem dL_law_1483 : decode cL_law 1483 = .ok (.iload_n 3, 1) := by decide +kernel
theorem dL_law_1484 : decode cL_law 1484 = .ok (.iconst 1, 1) := by decide +kernel
theorem dL_law_1485 : decode cL_law 1485 = .ok (.iadd, 1) := by decide +kernel
theorem dL_law_1486 : decode cL_law 1486 = .ok (.iaload, 1) := by decide +kernel
theorem dL_law_1487 : decode cL_law 1487 = .ok (.aload_n 0, 1) := by decide +kernel
theorem dL_law_1488 : decode cL_law 1488 = .ok (.iload_n 3, 1) := by decide +kernel
theorem dL_law_1489 : decode cL_law 1489 = .ok (.iconst 2, 1) := by decide +kernel
theorem dL_law_1490 : decode cL_law 1490 = .ok (.iadd, 1) := by decide +kernel
theorem dL_law_1491 : decode cL_law 1491 = .ok (.iaload, 1) := by decide +kernel
theorem dL_law_1492 : decode cL_law 1492 = .ok (.invokevirtual 214, 3) := by decide +kernel
theorem dL_law_1495 : decode cL_law 1495 = .ok (.aload_n 2, 1) := by decide +kernel
theorem dL_law_1496 : decode cL_law 1496 = .ok (.aload_n 0, 1) := by decide +kernel
theorem dL_law_1497 : decode cL_law 1497 = .ok (.iload_n 3, 1) := by decide +kernel
theorem dL_law_1498 : decode cL_law 1498 = .ok (.iconst 1, 1) := by decide +kernel
theorem dL_law_1499 : decode cL_law 1499 = .ok (.iadd, 1) := by decide +kernel
theorem dL_law_1500 : decode cL_law 1500 = .ok (.iaload, 1) := by decide +kernel
theorem dL_law_1501 : decode cL_law 1501 = .ok (.aload_n 0, 1) := by decide +kernel
theorem dL_law_1502 : decode cL_law 1502 = .ok (.iload_n 3, 1) := by decide +kernel
theorem dL_law_1503 : decode cL_law 1503 = .ok (.iconst 2, 1) := by decide +kernel
theorem dL_law_1504 : decode cL_law 1504 = .ok (.iadd, 1) := by decide +kernel
theorem dL_law_1505 : decode cL_law 1505 = .ok (.iaload, 1) := by decide +kernel
theorem dL_law_1506 : decode cL_law 1506 = .ok (.invokevirtual 217, 3) := by decide +kernel
theorem dL_law_1509 : decode cL_law 1509 = .ok (.if_icmp .eq 487, 3) := by decide +kernel
set_option maxHeartbeats 4000000 in
set_option maxRecDepth 100000 in
theorem law_49 {p : Program} {l : Launch} {e : Env} {s : State} {m : MethodId} {below : List Frame} {meth : Method} {c : Code} {b : Nat} {xs : Nat → Int32} (hx : p.tables.exec = Jvm.exec) (hb : c.code = cL_law) (hr : meth.sig.returnType = ret) (hml : c.maxLocals = 4) (hown : s.vm.findClass RL = some m.cls) (hts : ∀ w ∈ fn_big, w.before #[Value.ref b] s = true) (hX : va_X b 6 xs s s.heap) (hbl : b < s.heap.size) (hlocks : meth.locks = false) {D : va_G} {K : Nat → ClassId} (hK : fn_KK D K s) {x0 m0 : Nat} {u v : Nat → Nat} {fw : Nat → Int32} (hfw : ∀ j, j < 4 → fw j = -1) {A : Nat → Prop} (hAe : (fun q : Nat => s.heap.size ≤ q) = A) : ∀ (H : Heap) (locs : List Loc) (ls : Array Slot), va_P D vwCl (fn_world K x0 m0 u v fw) H → va_D A (fn_world K x0 m0 u v fw) → va_S A s.heap H locs → lv_has ls 4 [(3, .int 0), (2, .ref m0), (1, .ref x0), (0, .ref b)] → W p l e room_1 s m #[Value.ref b] below meth c H locs 144 12710 (lw_Z below #[Value.ref b] s) (F0 m 1481 ls []) := by
  intro H locs ls hP hD hS hl
  have hA : ∀ q : Nat, s.heap.size ≤ q → A q := fun q h => by rw [← hAe]; exact h
  have hbA : ¬ A b := by rw [← hAe]; exact Nat.not_le.mpr hbl
  refine lv_aload_n hx hb dL_law_1481 rfl (lv_at hl 2 rfl) ?_
  refine lv_aload_n hx hb dL_law_1482 rfl (lv_at hl 3 rfl) ?_
  refine lv_iload_n hx hb dL_law_1483 rfl (lv_at hl 0 rfl) ?_
  refine lv_iconst (v := 1) hx hb dL_law_1484 (by decide) ?_
  refine lv_iadd hx hb dL_law_1485 ?_
  refine fn_top 1 (by decide) ?_
  refine va_sld hx hb hX hbl hbA hS (by unfold vp_in; decide) dL_law_1486 ?_
  refine fn_top (xs 1) (congrArg xs (by decide)) ?_
  refine lv_aload_n hx hb dL_law_1487 rfl (lv_at hl 3 rfl) ?_
  refine lv_iload_n hx hb dL_law_1488 rfl (lv_at hl 0 rfl) ?_
  refine lv_iconst (v := 2) hx hb dL_law_1489 (by decide) ?_
  refine lv_iadd hx hb dL_law_1490 ?_
  refine fn_top 2 (by decide) ?_
  refine va_sld hx hb hX hbl hbA hS (by unfold vp_in; decide) dL_law_1491 ?_
  refine fn_top (xs 2) (congrArg xs (by decide)) ?_
  refine fn_goi (wc := [(x0, .inr (11, [.ref (u 0), .ref (u 10), .ref (u 17), .ref (u 25), .ref (u 26), .ref (u 27), .ref (u 28), .ref (u 29), .ref (u 34), .ref (u 39), .ref (u 43), .ref (u 51), .ref (u 55)])), ((u 10), .inr (7, [.int 0, .int 0, .int 0, .int 0, .int 0, .int 0, .int 0, .int 0, .int 0, .ref (u 11), .ref (u 12), .ref (u 13), .ref (u 14), .ref (u 15), .ref (u 16)]))]) (wr := [(m0, .inr (12, [.int 0, .ref (v 0), .ref (v 1), .ref (v 2), .ref (v 3), .ref (v 4), .int 0, .int 0, .int 0, .int 0, .int 0, .long 0, .int 0, .int 0, .int 0, .int (-1), .ref (v 5), .ref (v 6), .ref (v 7), .ref (v 8), .ref (v 9), .ref (v 10), .ref (v 11), .ref (v 12), .ref (v 13), .ref (v 14), .ref (v 15), .ref (v 16), .ref (v 17), .ref (v 18), .ref (v 19), .ref (v 20), .int 0, .int 0, .int 0, .int 0, .ref (v 21), .ref (v 22), .ref (v 23), .int 0, .int 0, .ref (v 24), .ref (v 25), .int 0, .int 0, .ref (v 26), .ref (v 27), .ref (v 28), .int 0, .int 0, .int 0])), ((v 0), .inl (K 0, 4, .inl fw)), ((v 1), .inl (K 0, 4, .inl (fun _ => 0))), ((v 2), .inl (K 3, 240, .inr (.inl (fun _ => 0)))), ((v 4), .inl (K 1, 1400, .inl (fun _ => 0))), ((v 5), .inl (K 0, 5, .inl (fun _ => 0))), ((v 6), .inl (K 0, 40, .inl (fun _ => 0))), ((v 7), .inl (K 0, 50, .inl (fun _ => 0))), ((v 8), .inl (K 0, 60, .inl (fun _ => 0))), ((v 9), .inl (K 0, 480, .inl (fun _ => 0))), ((v 10), .inl (K 0, 600, .inl (fun _ => 0))), ((v 11), .inl (K 2, 3, .inl (fun _ => 0)))]) hK hP hD hS hA [0, 11] [88, 89, 90, 91, 92, 93, 94, 95, 96, 97, 98, 99] rfl rfl (by decide) (fun hp => va_runV (C := RX11) (As := [.int (xs 1), .int (xs 2)]) (rest := []) ⟨hx, hb, hml, hown, hts⟩ (c_X11_meets (l := l) (D := D) (K := K) (x0 := (x0)) (p0 := ((xs 1))) (p1 := ((xs 2))) (fx := ([.ref (u 0), .ref (u 10), .ref (u 17), .ref (u 25), .ref (u 26), .ref (u 27), .ref (u 28), .ref (u 29), .ref (u 34), .ref (u 39), .ref (u 43), .ref (u 51), .ref (u 55)])) (t0 := ((u 10))) (hx1 := rfl) (ft := ([.int 0, .int 0, .int 0, .int 0, .int 0, .int 0, .int 0, .int 0, .int 0, .ref (u 11), .ref (u 12), .ref (u 13), .ref (u 14), .ref (u 15), .ref (u 16)])) (ht0 := rfl) (ht3 := rfl) (ht4 := rfl) (ht5 := rfl) _) (cwV 2 hts (fn_ginV (fn_gin wd_1096) wd_1093 wd_1094 wd_1095 wd_1) rfl rfl rfl (by decide +kernel) ⟨Nat.le_of_ble_eq_true rfl, Nat.le_of_ble_eq_true rfl⟩) ⟨fn_blind, va_recv hK.1 hP (ci := 11) (q0 := 0) rfl rfl, hp⟩ rfl rfl hl.1 rfl (lv_room (Nat.le_of_ble_eq_true rfl)) dL_law_1492 ⟨Nat.le_of_ble_eq_true rfl, Nat.le_of_ble_eq_true rfl⟩) (fun r2 u1 H locs hwu1 hP hD hS => ?_)
  have r2_e : r2 = (-2) := hwu1
  subst r2_e
  have hP : va_P D vwCl [(m0, .inr (12, [.int 0, .ref (v 0), .ref (v 1), .ref (v 2), .ref (v 3), .ref (v 4), .int 0, .int 0, .int 0, .int 0, .int 0, .long 0, .int 0, .int 0, .int 0, .int (-1), .ref (v 5), .ref (v 6), .ref (v 7), .ref (v 8), .ref (v 9), .ref (v 10), .ref (v 11), .ref (v 12), .ref (v 13), .ref (v 14), .ref (v 15), .ref (v 16), .ref (v 17), .ref (v 18), .ref (v 19), .ref (v 20), .int 0, .int 0, .int 0, .int 0, .ref (v 21), .ref (v 22), .ref (v 23), .int 0, .int 0, .ref (v 24), .ref (v 25), .int 0, .int 0, .ref (v 26), .ref (v 27), .ref (v 28), .int 0, .int 0, .int 0])), ((v 0), .inl (K 0, 4, .inl fw)), ((v 1), .inl (K 0, 4, .inl (fun _ => 0))), ((v 2), .inl (K 3, 240, .inr (.inl (fun _ => 0)))), ((v 4), .inl (K 1, 1400, .inl (fun _ => 0))), ((v 5), .inl (K 0, 5, .inl (fun _ => 0))), ((v 6), .inl (K 0, 40, .inl (fun _ => 0))), ((v 7), .inl (K 0, 50, .inl (fun _ => 0))), ((v 8), .inl (K 0, 60, .inl (fun _ => 0))), ((v 9), .inl (K 0, 480, .inl (fun _ => 0))), ((v 10), .inl (K 0, 600, .inl (fun _ => 0))), ((v 11), .inl (K 2, 3, .inl (fun _ => 0)))] H := hP
  have hD : va_D A [(m0, .inr (12, [.int 0, .ref (v 0), .ref (v 1), .ref (v 2), .ref (v 3), .ref (v 4), .int 0, .int 0, .int 0, .int 0, .int 0, .long 0, .int 0, .int 0, .int 0, .int (-1), .ref (v 5), .ref (v 6), .ref (v 7), .ref (v 8), .ref (v 9), .ref (v 10), .ref (v 11), .ref (v 12), .ref (v 13), .ref (v 14), .ref (v 15), .ref (v 16), .ref (v 17), .ref (v 18), .ref (v 19), .ref (v 20), .int 0, .int 0, .int 0, .int 0, .ref (v 21), .ref (v 22), .ref (v 23), .int 0, .int 0, .ref (v 24), .ref (v 25), .int 0, .int 0, .ref (v 26), .ref (v 27), .ref (v 28), .int 0, .int 0, .int 0])), ((v 0), .inl (K 0, 4, .inl fw)), ((v 1), .inl (K 0, 4, .inl (fun _ => 0))), ((v 2), .inl (K 3, 240, .inr (.inl (fun _ => 0)))), ((v 4), .inl (K 1, 1400, .inl (fun _ => 0))), ((v 5), .inl (K 0, 5, .inl (fun _ => 0))), ((v 6), .inl (K 0, 40, .inl (fun _ => 0))), ((v 7), .inl (K 0, 50, .inl (fun _ => 0))), ((v 8), .inl (K 0, 60, .inl (fun _ => 0))), ((v 9), .inl (K 0, 480, .inl (fun _ => 0))), ((v 10), .inl (K 0, 600, .inl (fun _ => 0))), ((v 11), .inl (K 2, 3, .inl (fun _ => 0)))] := hD
  refine lv_aload_n hx hb dL_law_1495 rfl (lv_at hl 1 rfl) ?_
  refine lv_aload_n hx hb dL_law_1496 rfl (lv_at hl 3 rfl) ?_
  refine lv_iload_n hx hb dL_law_1497 rfl (lv_at hl 0 rfl) ?_
  refine lv_iconst (v := 1) hx hb dL_law_1498 (by decide) ?_
  refine lv_iadd hx hb dL_law_1499 ?_
  refine fn_top 1 (by decide) ?_
  refine va_sld hx hb hX hbl hbA hS (by unfold vp_in; decide) dL_law_1500 ?_
  refine fn_top (xs 1) (congrArg xs (by decide)) ?_
  refine lv_aload_n hx hb dL_law_1501 rfl (lv_at hl 3 rfl) ?_
  refine fn_at 1502 rfl ?_
  refine lv_iload_n hx hb dL_law_1502 rfl (lv_at hl 0 rfl) ?_
  refine lv_iconst (v := 2) hx hb dL_law_1503 (by decide) ?_
  refine lv_iadd hx hb dL_law_1504 ?_
  refine fn_top 2 (by decide) ?_
  refine va_sld hx hb hX hbl hbA hS (by unfold vp_in; decide) dL_law_1505 ?_
  refine fn_top (xs 2) (congrArg xs (by decide)) ?_
  refine fn_goi (wc := [(m0, .inr (12, [.int 0, .ref (v 0), .ref (v 1), .ref (v 2), .ref (v 3), .ref (v 4), .int 0, .int 0, .int 0, .int 0, .int 0, .long 0, .int 0, .int 0, .int 0, .int (-1), .ref (v 5), .ref (v 6), .ref (v 7), .ref (v 8), .ref (v 9), .ref (v 10), .ref (v 11), .ref (v 12), .ref (v 13), .ref (v 14), .ref (v 15), .ref (v 16), .ref (v 17), .ref (v 18), .ref (v 19), .ref (v 20), .int 0, .int 0, .int 0, .int 0, .ref (v 21), .ref (v 22), .ref (v 23), .int 0, .int 0, .ref (v 24), .ref (v 25), .int 0, .int 0, .ref (v 26), .ref (v 27), .ref (v 28), .int 0, .int 0, .int 0])), ((v 5), .inl (K 0, 5, .inl (fun _ => 0))), ((v 6), .inl (K 0, 40, .inl (fun _ => 0)))]) (wr := []) hK hP hD hS hA [0, 5, 6] [] rfl rfl (by decide) (fun hp => va_runV (C := RX12) (As := [.int (xs 1), .int (xs 2)]) (rest := [.int (-2)]) ⟨hx, hb, hml, hown, hts⟩ (c_X12_meets (l := l) (D := D) (K := K) (m0 := (m0)) (p0 := ((xs 1))) (p1 := ((xs 2))) (fm := ([.int 0, .ref (v 0), .ref (v 1), .ref (v 2), .ref (v 3), .ref (v 4), .int 0, .int 0, .int 0, .int 0, .int 0, .long 0, .int 0, .int 0, .int 0, .int (-1), .ref (v 5), .ref (v 6), .ref (v 7), .ref (v 8), .ref (v 9), .ref (v 10), .ref (v 11), .ref (v 12), .ref (v 13), .ref (v 14), .ref (v 15), .ref (v 16), .ref (v 17), .ref (v 18), .ref (v 19), .ref (v 20), .int 0, .int 0, .int 0, .int 0, .ref (v 21), .ref (v 22), .ref (v 23), .int 0, .int 0, .ref (v 24), .ref (v 25), .int 0, .int 0, .ref (v 26), .ref (v 27), .ref (v 28), .int 0, .int 0, .int 0])) (hmn := rfl) (al := ((v 5))) (hm16 := rfl) (ah := ((v 6))) (hm17 := rfl) (fl := (fun _ => 0)) (hfl := (fun _ => rfl)) (fh := (fun _ => 0)) (hfh := (fun _ => rfl)) _) (cwV 2 hts (fn_ginV (fn_gin wd_1872) wd_1869 wd_1870 wd_1871 wd_13) rfl rfl rfl (by decide +kernel) ⟨Nat.le_of_ble_eq_true rfl, Nat.le_of_ble_eq_true rfl⟩) ⟨fn_blind, va_recv hK.1 hP (ci := 12) (q0 := 0) rfl rfl, hp⟩ rfl rfl hl.1 rfl (lv_room (Nat.le_of_ble_eq_true rfl)) dL_law_1506 ⟨Nat.le_of_ble_eq_true rfl, Nat.le_of_ble_eq_true rfl⟩) (fun r4 u3 H locs hwu3 hP hD hS => ?_)
  have r4_e : r4 = (-2) := hwu3
  subst r4_e
  have hP : va_P D vwCl [] H := hP
  have hD : va_D A [] := hD
  refine lv_icmp_eq (tgt := 1996) hx hb dL_law_1509 (by decide) (fun _ => ?_) (fun h9 => absurd (by decide) h9)
  refine lv_iinc (v := 6) (lv' := [(3, .int 6), (2, .ref m0), (1, .ref x0), (0, .ref b)]) hx hb dL_law_1996 hl (k := 0) rfl (by decide) (by decide) rfl (fun ls hl => ?_)
  refine lv_goto (tgt := 18) hx hb dL_law_1999 (by decide) ?_
  refine lv_iload_n hx hb dL_law_18 rfl (lv_at hl 0 rfl) ?_
  refine lv_aload_n hx hb dL_law_19 rfl (lv_at hl 3 rfl) ?_
  refine va_slen hx hb hX hbl hbA hS dL_law_20 ?_
  refine fn_top 6 (by decide) ?_
  refine lv_bipush (v := 6) hx hb dL_law_21 (by decide) ?_
  refine lv_isub hx hb dL_law_23 ?_
  refine fn_top 0 (by decide) ?_
  refine lv_icmp_gt (tgt := 2002) hx hb dL_law_24 (by decide) (fun _ => ?_) (fun h9 => absurd (by decide) h9)
  refine lv_iconst (v := 1) hx hb dL_law_2002 (by decide) ?_
  refine va_forget (fun q hq => by have h9 := hS.2.2 q hq; rw [← hAe] at h9; exact h9) ?_
  refine W.widen (k := 600000) (n := 7302250) (Nat.le_of_ble_eq_true rfl) (Nat.le_of_ble_eq_true rfl) ?_
  exact lw_ret hx hb hr hlocks dL_law_2003
theorem dL_law_1514 : decode cL_law 1514 = .ok (.aload_n 1, 1) := by decide +kernel
theorem dL_law_1515 : decode cL_law 1515 = .ok (.aload_n 0, 1) := by decide +kernel
theorem dL_law_1516 : decode cL_law 1516 = .ok (.iload_n 3, 1) := by decide +kernel
theorem dL_law_1517 : decode cL_law 1517 = .ok (.iconst 1, 1) := by decide +kernel
theorem dL_law_1518 : decode cL_law 1518 = .ok (.iadd, 1) := by decide +kernel
theorem dL_law_1519 : decode cL_law 1519 = .ok (.iaload, 1) := by decide +kernel
theorem dL_law_1520 : decode cL_law 1520 = .ok (.aload_n 0, 1) := by decide +kernel
theorem dL_law_1521 : decode cL_law 1521 = .ok (.iload_n 3, 1) := by decide +kernel
theorem dL_law_1522 : decode cL_law 1522 = .ok (.iconst 2, 1) := by decide +kernel
theorem dL_law_1523 : decode cL_law 1523 = .ok (.iadd, 1) := by decide +kernel
theorem dL_law_1524 : decode cL_law 1524 = .ok (.iaload, 1) := by decide +kernel
theorem dL_law_1525 : decode cL_law 1525 = .ok (.invokevirtual 218, 3) := by decide +kernel
theorem dL_law_1528 : decode cL_law 1528 = .ok (.aload_n 2, 1) := by decide +kernel
theorem dL_law_1529 : decode cL_law 1529 = .ok (.aload_n 0, 1) := by decide +kernel
theorem dL_law_1530 : decode cL_law 1530 = .ok (.iload_n 3, 1) := by decide +kernel
theorem dL_law_1531 : decode cL_law 1531 = .ok (.iconst 1, 1) := by decide +kernel
theorem dL_law_1532 : decode cL_law 1532 = .ok (.iadd, 1) := by decide +kernel
theorem dL_law_1533 : decode cL_law 1533 = .ok (.iaload, 1) := by decide +kernel
theorem dL_law_1534 : decode cL_law 1534 = .ok (.aload_n 0, 1) := by decide +kernel
theorem dL_law_1535 : decode cL_law 1535 = .ok (.iload_n 3, 1) := by decide +kernel
theorem dL_law_1536 : decode cL_law 1536 = .ok (.iconst 2, 1) := by decide +kernel
theorem dL_law_1537 : decode cL_law 1537 = .ok (.iadd, 1) := by decide +kernel
theorem dL_law_1538 : decode cL_law 1538 = .ok (.iaload, 1) := by decide +kernel
theorem dL_law_1539 : decode cL_law 1539 = .ok (.invokevirtual 221, 3) := by decide +kernel
theorem dL_law_1542 : decode cL_law 1542 = .ok (.if_icmp .eq 454, 3) := by decide +kernel
set_option maxHeartbeats 4000000 in
set_option maxRecDepth 100000 in
theorem law_50 {p : Program} {l : Launch} {e : Env} {s : State} {m : MethodId} {below : List Frame} {meth : Method} {c : Code} {b : Nat} {xs : Nat → Int32} (hx : p.tables.exec = Jvm.exec) (hb : c.code = cL_law) (hr : meth.sig.returnType = ret) (hml : c.maxLocals = 4) (hown : s.vm.findClass RL = some m.cls) (hts : ∀ w ∈ fn_big, w.before #[Value.ref b] s = true) (hX : va_X b 6 xs s s.heap) (hbl : b < s.heap.size) (hlocks : meth.locks = false) {D : va_G} {K : Nat → ClassId} (hK : fn_KK D K s) {x0 m0 : Nat} {u v : Nat → Nat} {fw : Nat → Int32} (hfw : ∀ j, j < 4 → fw j = -1) {A : Nat → Prop} (hAe : (fun q : Nat => s.heap.size ≤ q) = A) : ∀ (H : Heap) (locs : List Loc) (ls : Array Slot), va_P D vwCl (fn_world K x0 m0 u v fw) H → va_D A (fn_world K x0 m0 u v fw) → va_S A s.heap H locs → lv_has ls 4 [(3, .int 0), (2, .ref m0), (1, .ref x0), (0, .ref b)] → W p l e room_1 s m #[Value.ref b] below meth c H locs 144 12710 (lw_Z below #[Value.ref b] s) (F0 m 1514 ls []) := by
  intro H locs ls hP hD hS hl
  have hA : ∀ q : Nat, s.heap.size ≤ q → A q := fun q h => by rw [← hAe]; exact h
  have hbA : ¬ A b := by rw [← hAe]; exact Nat.not_le.mpr hbl
  refine lv_aload_n hx hb dL_law_1514 rfl (lv_at hl 2 rfl) ?_
  refine lv_aload_n hx hb dL_law_1515 rfl (lv_at hl 3 rfl) ?_
  refine lv_iload_n hx hb dL_law_1516 rfl (lv_at hl 0 rfl) ?_
  refine lv_iconst (v := 1) hx hb dL_law_1517 (by decide) ?_
  refine lv_iadd hx hb dL_law_1518 ?_
  refine fn_top 1 (by decide) ?_
  refine va_sld hx hb hX hbl hbA hS (by unfold vp_in; decide) dL_law_1519 ?_
  refine fn_top (xs 1) (congrArg xs (by decide)) ?_
  refine lv_aload_n hx hb dL_law_1520 rfl (lv_at hl 3 rfl) ?_
  refine lv_iload_n hx hb dL_law_1521 rfl (lv_at hl 0 rfl) ?_
  refine lv_iconst (v := 2) hx hb dL_law_1522 (by decide) ?_
  refine lv_iadd hx hb dL_law_1523 ?_
  refine fn_top 2 (by decide) ?_
  refine va_sld hx hb hX hbl hbA hS (by unfold vp_in; decide) dL_law_1524 ?_
  refine fn_top (xs 2) (congrArg xs (by decide)) ?_
  refine fn_goi (wc := [(x0, .inr (11, [.ref (u 0), .ref (u 10), .ref (u 17), .ref (u 25), .ref (u 26), .ref (u 27), .ref (u 28), .ref (u 29), .ref (u 34), .ref (u 39), .ref (u 43), .ref (u 51), .ref (u 55)])), ((u 10), .inr (7, [.int 0, .int 0, .int 0, .int 0, .int 0, .int 0, .int 0, .int 0, .int 0, .ref (u 11), .ref (u 12), .ref (u 13), .ref (u 14), .ref (u 15), .ref (u 16)]))]) (wr := [(m0, .inr (12, [.int 0, .ref (v 0), .ref (v 1), .ref (v 2), .ref (v 3), .ref (v 4), .int 0, .int 0, .int 0, .int 0, .int 0, .long 0, .int 0, .int 0, .int 0, .int (-1), .ref (v 5), .ref (v 6), .ref (v 7), .ref (v 8), .ref (v 9), .ref (v 10), .ref (v 11), .ref (v 12), .ref (v 13), .ref (v 14), .ref (v 15), .ref (v 16), .ref (v 17), .ref (v 18), .ref (v 19), .ref (v 20), .int 0, .int 0, .int 0, .int 0, .ref (v 21), .ref (v 22), .ref (v 23), .int 0, .int 0, .ref (v 24), .ref (v 25), .int 0, .int 0, .ref (v 26), .ref (v 27), .ref (v 28), .int 0, .int 0, .int 0])), ((v 0), .inl (K 0, 4, .inl fw)), ((v 1), .inl (K 0, 4, .inl (fun _ => 0))), ((v 2), .inl (K 3, 240, .inr (.inl (fun _ => 0)))), ((v 4), .inl (K 1, 1400, .inl (fun _ => 0))), ((v 5), .inl (K 0, 5, .inl (fun _ => 0))), ((v 6), .inl (K 0, 40, .inl (fun _ => 0))), ((v 7), .inl (K 0, 50, .inl (fun _ => 0))), ((v 8), .inl (K 0, 60, .inl (fun _ => 0))), ((v 9), .inl (K 0, 480, .inl (fun _ => 0))), ((v 10), .inl (K 0, 600, .inl (fun _ => 0))), ((v 11), .inl (K 2, 3, .inl (fun _ => 0)))]) hK hP hD hS hA [0, 11] [88, 89, 90, 91, 92, 93, 94, 95, 96, 97, 98, 99] rfl rfl (by decide) (fun hp => va_runV (C := RX11) (As := [.int (xs 1), .int (xs 2)]) (rest := []) ⟨hx, hb, hml, hown, hts⟩ (c_X11_nearest (l := l) (D := D) (K := K) (x0 := (x0)) (p0 := ((xs 1))) (p1 := ((xs 2))) (fx := ([.ref (u 0), .ref (u 10), .ref (u 17), .ref (u 25), .ref (u 26), .ref (u 27), .ref (u 28), .ref (u 29), .ref (u 34), .ref (u 39), .ref (u 43), .ref (u 51), .ref (u 55)])) (t0 := ((u 10))) (hx1 := rfl) (ft := ([.int 0, .int 0, .int 0, .int 0, .int 0, .int 0, .int 0, .int 0, .int 0, .ref (u 11), .ref (u 12), .ref (u 13), .ref (u 14), .ref (u 15), .ref (u 16)])) (ht0 := rfl) (ht3 := rfl) (ht4 := rfl) (ht5 := rfl) _) (cwV 2 hts (fn_ginV (fn_gin wd_1104) wd_1101 wd_1102 wd_1103 wd_1) rfl rfl rfl (by decide +kernel) ⟨Nat.le_of_ble_eq_true rfl, Nat.le_of_ble_eq_true rfl⟩) ⟨fn_blind, va_recv hK.1 hP (ci := 11) (q0 := 0) rfl rfl, hp⟩ rfl rfl hl.1 rfl (lv_room (Nat.le_of_ble_eq_true rfl)) dL_law_1525 ⟨Nat.le_of_ble_eq_true rfl, Nat.le_of_ble_eq_true rfl⟩) (fun r2 u1 H locs hwu1 hP hD hS => ?_)
  have r2_e : r2 = (-2) := hwu1
  subst r2_e
  have hP : va_P D vwCl [(m0, .inr (12, [.int 0, .ref (v 0), .ref (v 1), .ref (v 2), .ref (v 3), .ref (v 4), .int 0, .int 0, .int 0, .int 0, .int 0, .long 0, .int 0, .int 0, .int 0, .int (-1), .ref (v 5), .ref (v 6), .ref (v 7), .ref (v 8), .ref (v 9), .ref (v 10), .ref (v 11), .ref (v 12), .ref (v 13), .ref (v 14), .ref (v 15), .ref (v 16), .ref (v 17), .ref (v 18), .ref (v 19), .ref (v 20), .int 0, .int 0, .int 0, .int 0, .ref (v 21), .ref (v 22), .ref (v 23), .int 0, .int 0, .ref (v 24), .ref (v 25), .int 0, .int 0, .ref (v 26), .ref (v 27), .ref (v 28), .int 0, .int 0, .int 0])), ((v 0), .inl (K 0, 4, .inl fw)), ((v 1), .inl (K 0, 4, .inl (fun _ => 0))), ((v 2), .inl (K 3, 240, .inr (.inl (fun _ => 0)))), ((v 4), .inl (K 1, 1400, .inl (fun _ => 0))), ((v 5), .inl (K 0, 5, .inl (fun _ => 0))), ((v 6), .inl (K 0, 40, .inl (fun _ => 0))), ((v 7), .inl (K 0, 50, .inl (fun _ => 0))), ((v 8), .inl (K 0, 60, .inl (fun _ => 0))), ((v 9), .inl (K 0, 480, .inl (fun _ => 0))), ((v 10), .inl (K 0, 600, .inl (fun _ => 0))), ((v 11), .inl (K 2, 3, .inl (fun _ => 0)))] H := hP
  have hD : va_D A [(m0, .inr (12, [.int 0, .ref (v 0), .ref (v 1), .ref (v 2), .ref (v 3), .ref (v 4), .int 0, .int 0, .int 0, .int 0, .int 0, .long 0, .int 0, .int 0, .int 0, .int (-1), .ref (v 5), .ref (v 6), .ref (v 7), .ref (v 8), .ref (v 9), .ref (v 10), .ref (v 11), .ref (v 12), .ref (v 13), .ref (v 14), .ref (v 15), .ref (v 16), .ref (v 17), .ref (v 18), .ref (v 19), .ref (v 20), .int 0, .int 0, .int 0, .int 0, .ref (v 21), .ref (v 22), .ref (v 23), .int 0, .int 0, .ref (v 24), .ref (v 25), .int 0, .int 0, .ref (v 26), .ref (v 27), .ref (v 28), .int 0, .int 0, .int 0])), ((v 0), .inl (K 0, 4, .inl fw)), ((v 1), .inl (K 0, 4, .inl (fun _ => 0))), ((v 2), .inl (K 3, 240, .inr (.inl (fun _ => 0)))), ((v 4), .inl (K 1, 1400, .inl (fun _ => 0))), ((v 5), .inl (K 0, 5, .inl (fun _ => 0))), ((v 6), .inl (K 0, 40, .inl (fun _ => 0))), ((v 7), .inl (K 0, 50, .inl (fun _ => 0))), ((v 8), .inl (K 0, 60, .inl (fun _ => 0))), ((v 9), .inl (K 0, 480, .inl (fun _ => 0))), ((v 10), .inl (K 0, 600, .inl (fun _ => 0))), ((v 11), .inl (K 2, 3, .inl (fun _ => 0)))] := hD
  refine lv_aload_n hx hb dL_law_1528 rfl (lv_at hl 1 rfl) ?_
  refine lv_aload_n hx hb dL_law_1529 rfl (lv_at hl 3 rfl) ?_
  refine lv_iload_n hx hb dL_law_1530 rfl (lv_at hl 0 rfl) ?_
  refine lv_iconst (v := 1) hx hb dL_law_1531 (by decide) ?_
  refine lv_iadd hx hb dL_law_1532 ?_
  refine fn_top 1 (by decide) ?_
  refine va_sld hx hb hX hbl hbA hS (by unfold vp_in; decide) dL_law_1533 ?_
  refine fn_top (xs 1) (congrArg xs (by decide)) ?_
  refine lv_aload_n hx hb dL_law_1534 rfl (lv_at hl 3 rfl) ?_
  refine fn_at 1535 rfl ?_
  refine lv_iload_n hx hb dL_law_1535 rfl (lv_at hl 0 rfl) ?_
  refine lv_iconst (v := 2) hx hb dL_law_1536 (by decide) ?_
  refine lv_iadd hx hb dL_law_1537 ?_
  refine fn_top 2 (by decide) ?_
  refine va_sld hx hb hX hbl hbA hS (by unfold vp_in; decide) dL_law_1538 ?_
  refine fn_top (xs 2) (congrArg xs (by decide)) ?_
  refine fn_goi (wc := [(m0, .inr (12, [.int 0, .ref (v 0), .ref (v 1), .ref (v 2), .ref (v 3), .ref (v 4), .int 0, .int 0, .int 0, .int 0, .int 0, .long 0, .int 0, .int 0, .int 0, .int (-1), .ref (v 5), .ref (v 6), .ref (v 7), .ref (v 8), .ref (v 9), .ref (v 10), .ref (v 11), .ref (v 12), .ref (v 13), .ref (v 14), .ref (v 15), .ref (v 16), .ref (v 17), .ref (v 18), .ref (v 19), .ref (v 20), .int 0, .int 0, .int 0, .int 0, .ref (v 21), .ref (v 22), .ref (v 23), .int 0, .int 0, .ref (v 24), .ref (v 25), .int 0, .int 0, .ref (v 26), .ref (v 27), .ref (v 28), .int 0, .int 0, .int 0])), ((v 5), .inl (K 0, 5, .inl (fun _ => 0))), ((v 6), .inl (K 0, 40, .inl (fun _ => 0)))]) (wr := []) hK hP hD hS hA [0, 5, 6] [] rfl rfl (by decide) (fun hp => va_runV (C := RX12) (As := [.int (xs 1), .int (xs 2)]) (rest := [.int (-2)]) ⟨hx, hb, hml, hown, hts⟩ (c_X12_nearest (l := l) (D := D) (K := K) (m0 := (m0)) (p0 := ((xs 1))) (p1 := ((xs 2))) (fm := ([.int 0, .ref (v 0), .ref (v 1), .ref (v 2), .ref (v 3), .ref (v 4), .int 0, .int 0, .int 0, .int 0, .int 0, .long 0, .int 0, .int 0, .int 0, .int (-1), .ref (v 5), .ref (v 6), .ref (v 7), .ref (v 8), .ref (v 9), .ref (v 10), .ref (v 11), .ref (v 12), .ref (v 13), .ref (v 14), .ref (v 15), .ref (v 16), .ref (v 17), .ref (v 18), .ref (v 19), .ref (v 20), .int 0, .int 0, .int 0, .int 0, .ref (v 21), .ref (v 22), .ref (v 23), .int 0, .int 0, .ref (v 24), .ref (v 25), .int 0, .int 0, .ref (v 26), .ref (v 27), .ref (v 28), .int 0, .int 0, .int 0])) (hmn := rfl) (al := ((v 5))) (hm16 := rfl) (ah := ((v 6))) (hm17 := rfl) (fl := (fun _ => 0)) (hfl := (fun _ => rfl)) (fh := (fun _ => 0)) (hfh := (fun _ => rfl)) _) (cwV 2 hts (fn_ginV (fn_gin wd_1884) wd_1881 wd_1882 wd_1883 wd_13) rfl rfl rfl (by decide +kernel) ⟨Nat.le_of_ble_eq_true rfl, Nat.le_of_ble_eq_true rfl⟩) ⟨fn_blind, va_recv hK.1 hP (ci := 12) (q0 := 0) rfl rfl, hp⟩ rfl rfl hl.1 rfl (lv_room (Nat.le_of_ble_eq_true rfl)) dL_law_1539 ⟨Nat.le_of_ble_eq_true rfl, Nat.le_of_ble_eq_true rfl⟩) (fun r4 u3 H locs hwu3 hP hD hS => ?_)
  have r4_e : r4 = (-2) := hwu3
  subst r4_e
  have hP : va_P D vwCl [] H := hP
  have hD : va_D A [] := hD
  refine lv_icmp_eq (tgt := 1996) hx hb dL_law_1542 (by decide) (fun _ => ?_) (fun h9 => absurd (by decide) h9)
  refine lv_iinc (v := 6) (lv' := [(3, .int 6), (2, .ref m0), (1, .ref x0), (0, .ref b)]) hx hb dL_law_1996 hl (k := 0) rfl (by decide) (by decide) rfl (fun ls hl => ?_)
  refine lv_goto (tgt := 18) hx hb dL_law_1999 (by decide) ?_
  refine lv_iload_n hx hb dL_law_18 rfl (lv_at hl 0 rfl) ?_
  refine lv_aload_n hx hb dL_law_19 rfl (lv_at hl 3 rfl) ?_
  refine va_slen hx hb hX hbl hbA hS dL_law_20 ?_
  refine fn_top 6 (by decide) ?_
  refine lv_bipush (v := 6) hx hb dL_law_21 (by decide) ?_
  refine lv_isub hx hb dL_law_23 ?_
  refine fn_top 0 (by decide) ?_
  refine lv_icmp_gt (tgt := 2002) hx hb dL_law_24 (by decide) (fun _ => ?_) (fun h9 => absurd (by decide) h9)
  refine lv_iconst (v := 1) hx hb dL_law_2002 (by decide) ?_
  refine va_forget (fun q hq => by have h9 := hS.2.2 q hq; rw [← hAe] at h9; exact h9) ?_
  refine W.widen (k := 600000) (n := 7302250) (Nat.le_of_ble_eq_true rfl) (Nat.le_of_ble_eq_true rfl) ?_
  exact lw_ret hx hb hr hlocks dL_law_2003
theorem dL_law_1547 : decode cL_law 1547 = .ok (.aload_n 1, 1) := by decide +kernel
theorem dL_law_1548 : decode cL_law 1548 = .ok (.aload_n 0, 1) := by decide +kernel
theorem dL_law_1549 : decode cL_law 1549 = .ok (.iload_n 3, 1) := by decide +kernel
theorem dL_law_1550 : decode cL_law 1550 = .ok (.iconst 1, 1) := by decide +kernel
theorem dL_law_1551 : decode cL_law 1551 = .ok (.iadd, 1) := by decide +kernel
theorem dL_law_1552 : decode cL_law 1552 = .ok (.iaload, 1) := by decide +kernel
theorem dL_law_1553 : decode cL_law 1553 = .ok (.aload_n 0, 1) := by decide +kernel
theorem dL_law_1554 : decode cL_law 1554 = .ok (.iload_n 3, 1) := by decide +kernel
theorem dL_law_1555 : decode cL_law 1555 = .ok (.iconst 2, 1) := by decide +kernel
theorem dL_law_1556 : decode cL_law 1556 = .ok (.iadd, 1) := by decide +kernel
theorem dL_law_1557 : decode cL_law 1557 = .ok (.iaload, 1) := by decide +kernel
theorem dL_law_1558 : decode cL_law 1558 = .ok (.invokevirtual 222, 3) := by decide +kernel
theorem dL_law_1561 : decode cL_law 1561 = .ok (.aload_n 2, 1) := by decide +kernel
theorem dL_law_1562 : decode cL_law 1562 = .ok (.aload_n 0, 1) := by decide +kernel
theorem dL_law_1563 : decode cL_law 1563 = .ok (.iload_n 3, 1) := by decide +kernel
theorem dL_law_1564 : decode cL_law 1564 = .ok (.iconst 1, 1) := by decide +kernel
theorem dL_law_1565 : decode cL_law 1565 = .ok (.iadd, 1) := by decide +kernel
theorem dL_law_1566 : decode cL_law 1566 = .ok (.iaload, 1) := by decide +kernel
theorem dL_law_1567 : decode cL_law 1567 = .ok (.aload_n 0, 1) := by decide +kernel
theorem dL_law_1568 : decode cL_law 1568 = .ok (.iload_n 3, 1) := by decide +kernel
theorem dL_law_1569 : decode cL_law 1569 = .ok (.iconst 2, 1) := by decide +kernel
theorem dL_law_1570 : decode cL_law 1570 = .ok (.iadd, 1) := by decide +kernel
theorem dL_law_1571 : decode cL_law 1571 = .ok (.iaload, 1) := by decide +kernel
theorem dL_law_1572 : decode cL_law 1572 = .ok (.invokevirtual 225, 3) := by decide +kernel
theorem dL_law_1575 : decode cL_law 1575 = .ok (.if_icmp .eq 421, 3) := by decide +kernel
set_option maxHeartbeats 4000000 in
set_option maxRecDepth 100000 in
theorem law_51 {p : Program} {l : Launch} {e : Env} {s : State} {m : MethodId} {below : List Frame} {meth : Method} {c : Code} {b : Nat} {xs : Nat → Int32} (hx : p.tables.exec = Jvm.exec) (hb : c.code = cL_law) (hr : meth.sig.returnType = ret) (hml : c.maxLocals = 4) (hown : s.vm.findClass RL = some m.cls) (hts : ∀ w ∈ fn_big, w.before #[Value.ref b] s = true) (hX : va_X b 6 xs s s.heap) (hbl : b < s.heap.size) (hlocks : meth.locks = false) {D : va_G} {K : Nat → ClassId} (hK : fn_KK D K s) {x0 m0 : Nat} {u v : Nat → Nat} {fw : Nat → Int32} (hfw : ∀ j, j < 4 → fw j = -1) {A : Nat → Prop} (hAe : (fun q : Nat => s.heap.size ≤ q) = A) : ∀ (H : Heap) (locs : List Loc) (ls : Array Slot), va_P D vwCl (fn_world K x0 m0 u v fw) H → va_D A (fn_world K x0 m0 u v fw) → va_S A s.heap H locs → lv_has ls 4 [(3, .int 0), (2, .ref m0), (1, .ref x0), (0, .ref b)] → W p l e room_1 s m #[Value.ref b] below meth c H locs 144 12710 (lw_Z below #[Value.ref b] s) (F0 m 1547 ls []) := by
  intro H locs ls hP hD hS hl
  have hA : ∀ q : Nat, s.heap.size ≤ q → A q := fun q h => by rw [← hAe]; exact h
  have hbA : ¬ A b := by rw [← hAe]; exact Nat.not_le.mpr hbl
  refine lv_aload_n hx hb dL_law_1547 rfl (lv_at hl 2 rfl) ?_
  refine lv_aload_n hx hb dL_law_1548 rfl (lv_at hl 3 rfl) ?_
  refine lv_iload_n hx hb dL_law_1549 rfl (lv_at hl 0 rfl) ?_
  refine lv_iconst (v := 1) hx hb dL_law_1550 (by decide) ?_
  refine lv_iadd hx hb dL_law_1551 ?_
  refine fn_top 1 (by decide) ?_
  refine va_sld hx hb hX hbl hbA hS (by unfold vp_in; decide) dL_law_1552 ?_
  refine fn_top (xs 1) (congrArg xs (by decide)) ?_
  refine lv_aload_n hx hb dL_law_1553 rfl (lv_at hl 3 rfl) ?_
  refine lv_iload_n hx hb dL_law_1554 rfl (lv_at hl 0 rfl) ?_
  refine lv_iconst (v := 2) hx hb dL_law_1555 (by decide) ?_
  refine lv_iadd hx hb dL_law_1556 ?_
  refine fn_top 2 (by decide) ?_
  refine va_sld hx hb hX hbl hbA hS (by unfold vp_in; decide) dL_law_1557 ?_
  refine fn_top (xs 2) (congrArg xs (by decide)) ?_
  refine fn_goi (wc := [(x0, .inr (11, [.ref (u 0), .ref (u 10), .ref (u 17), .ref (u 25), .ref (u 26), .ref (u 27), .ref (u 28), .ref (u 29), .ref (u 34), .ref (u 39), .ref (u 43), .ref (u 51), .ref (u 55)])), ((u 10), .inr (7, [.int 0, .int 0, .int 0, .int 0, .int 0, .int 0, .int 0, .int 0, .int 0, .ref (u 11), .ref (u 12), .ref (u 13), .ref (u 14), .ref (u 15), .ref (u 16)]))]) (wr := [(m0, .inr (12, [.int 0, .ref (v 0), .ref (v 1), .ref (v 2), .ref (v 3), .ref (v 4), .int 0, .int 0, .int 0, .int 0, .int 0, .long 0, .int 0, .int 0, .int 0, .int (-1), .ref (v 5), .ref (v 6), .ref (v 7), .ref (v 8), .ref (v 9), .ref (v 10), .ref (v 11), .ref (v 12), .ref (v 13), .ref (v 14), .ref (v 15), .ref (v 16), .ref (v 17), .ref (v 18), .ref (v 19), .ref (v 20), .int 0, .int 0, .int 0, .int 0, .ref (v 21), .ref (v 22), .ref (v 23), .int 0, .int 0, .ref (v 24), .ref (v 25), .int 0, .int 0, .ref (v 26), .ref (v 27), .ref (v 28), .int 0, .int 0, .int 0])), ((v 0), .inl (K 0, 4, .inl fw)), ((v 1), .inl (K 0, 4, .inl (fun _ => 0))), ((v 2), .inl (K 3, 240, .inr (.inl (fun _ => 0)))), ((v 4), .inl (K 1, 1400, .inl (fun _ => 0))), ((v 5), .inl (K 0, 5, .inl (fun _ => 0))), ((v 6), .inl (K 0, 40, .inl (fun _ => 0))), ((v 7), .inl (K 0, 50, .inl (fun _ => 0))), ((v 8), .inl (K 0, 60, .inl (fun _ => 0))), ((v 9), .inl (K 0, 480, .inl (fun _ => 0))), ((v 10), .inl (K 0, 600, .inl (fun _ => 0))), ((v 11), .inl (K 2, 3, .inl (fun _ => 0)))]) hK hP hD hS hA [0, 11] [88, 89, 90, 91, 92, 93, 94, 95, 96, 97, 98, 99] rfl rfl (by decide) (fun hp => va_runV (C := RX11) (As := [.int (xs 1), .int (xs 2)]) (rest := []) ⟨hx, hb, hml, hown, hts⟩ (c_X11_third (l := l) (D := D) (K := K) (x0 := (x0)) (p0 := ((xs 1))) (p1 := ((xs 2))) (fx := ([.ref (u 0), .ref (u 10), .ref (u 17), .ref (u 25), .ref (u 26), .ref (u 27), .ref (u 28), .ref (u 29), .ref (u 34), .ref (u 39), .ref (u 43), .ref (u 51), .ref (u 55)])) (t0 := ((u 10))) (hx1 := rfl) (ft := ([.int 0, .int 0, .int 0, .int 0, .int 0, .int 0, .int 0, .int 0, .int 0, .ref (u 11), .ref (u 12), .ref (u 13), .ref (u 14), .ref (u 15), .ref (u 16)])) (ht0 := rfl) (ht3 := rfl) (ht4 := rfl) (ht5 := rfl) _) (cwV 2 hts (fn_ginV (fn_gin wd_1108) wd_1118 wd_1106 wd_1107 wd_1) rfl rfl rfl (by decide +kernel) ⟨Nat.le_of_ble_eq_true rfl, Nat.le_of_ble_eq_true rfl⟩) ⟨fn_blind, va_recv hK.1 hP (ci := 11) (q0 := 0) rfl rfl, hp⟩ rfl rfl hl.1 rfl (lv_room (Nat.le_of_ble_eq_true rfl)) dL_law_1558 ⟨Nat.le_of_ble_eq_true rfl, Nat.le_of_ble_eq_true rfl⟩) (fun r2 u1 H locs hwu1 hP hD hS => ?_)
  have r2_e : r2 = (-2) := hwu1
  subst r2_e
  have hP : va_P D vwCl [(m0, .inr (12, [.int 0, .ref (v 0), .ref (v 1), .ref (v 2), .ref (v 3), .ref (v 4), .int 0, .int 0, .int 0, .int 0, .int 0, .long 0, .int 0, .int 0, .int 0, .int (-1), .ref (v 5), .ref (v 6), .ref (v 7), .ref (v 8), .ref (v 9), .ref (v 10), .ref (v 11), .ref (v 12), .ref (v 13), .ref (v 14), .ref (v 15), .ref (v 16), .ref (v 17), .ref (v 18), .ref (v 19), .ref (v 20), .int 0, .int 0, .int 0, .int 0, .ref (v 21), .ref (v 22), .ref (v 23), .int 0, .int 0, .ref (v 24), .ref (v 25), .int 0, .int 0, .ref (v 26), .ref (v 27), .ref (v 28), .int 0, .int 0, .int 0])), ((v 0), .inl (K 0, 4, .inl fw)), ((v 1), .inl (K 0, 4, .inl (fun _ => 0))), ((v 2), .inl (K 3, 240, .inr (.inl (fun _ => 0)))), ((v 4), .inl (K 1, 1400, .inl (fun _ => 0))), ((v 5), .inl (K 0, 5, .inl (fun _ => 0))), ((v 6), .inl (K 0, 40, .inl (fun _ => 0))), ((v 7), .inl (K 0, 50, .inl (fun _ => 0))), ((v 8), .inl (K 0, 60, .inl (fun _ => 0))), ((v 9), .inl (K 0, 480, .inl (fun _ => 0))), ((v 10), .inl (K 0, 600, .inl (fun _ => 0))), ((v 11), .inl (K 2, 3, .inl (fun _ => 0)))] H := hP
  have hD : va_D A [(m0, .inr (12, [.int 0, .ref (v 0), .ref (v 1), .ref (v 2), .ref (v 3), .ref (v 4), .int 0, .int 0, .int 0, .int 0, .int 0, .long 0, .int 0, .int 0, .int 0, .int (-1), .ref (v 5), .ref (v 6), .ref (v 7), .ref (v 8), .ref (v 9), .ref (v 10), .ref (v 11), .ref (v 12), .ref (v 13), .ref (v 14), .ref (v 15), .ref (v 16), .ref (v 17), .ref (v 18), .ref (v 19), .ref (v 20), .int 0, .int 0, .int 0, .int 0, .ref (v 21), .ref (v 22), .ref (v 23), .int 0, .int 0, .ref (v 24), .ref (v 25), .int 0, .int 0, .ref (v 26), .ref (v 27), .ref (v 28), .int 0, .int 0, .int 0])), ((v 0), .inl (K 0, 4, .inl fw)), ((v 1), .inl (K 0, 4, .inl (fun _ => 0))), ((v 2), .inl (K 3, 240, .inr (.inl (fun _ => 0)))), ((v 4), .inl (K 1, 1400, .inl (fun _ => 0))), ((v 5), .inl (K 0, 5, .inl (fun _ => 0))), ((v 6), .inl (K 0, 40, .inl (fun _ => 0))), ((v 7), .inl (K 0, 50, .inl (fun _ => 0))), ((v 8), .inl (K 0, 60, .inl (fun _ => 0))), ((v 9), .inl (K 0, 480, .inl (fun _ => 0))), ((v 10), .inl (K 0, 600, .inl (fun _ => 0))), ((v 11), .inl (K 2, 3, .inl (fun _ => 0)))] := hD
  refine lv_aload_n hx hb dL_law_1561 rfl (lv_at hl 1 rfl) ?_
  refine lv_aload_n hx hb dL_law_1562 rfl (lv_at hl 3 rfl) ?_
  refine lv_iload_n hx hb dL_law_1563 rfl (lv_at hl 0 rfl) ?_
  refine lv_iconst (v := 1) hx hb dL_law_1564 (by decide) ?_
  refine lv_iadd hx hb dL_law_1565 ?_
  refine fn_top 1 (by decide) ?_
  refine va_sld hx hb hX hbl hbA hS (by unfold vp_in; decide) dL_law_1566 ?_
  refine fn_top (xs 1) (congrArg xs (by decide)) ?_
  refine lv_aload_n hx hb dL_law_1567 rfl (lv_at hl 3 rfl) ?_
  refine fn_at 1568 rfl ?_
  refine lv_iload_n hx hb dL_law_1568 rfl (lv_at hl 0 rfl) ?_
  refine lv_iconst (v := 2) hx hb dL_law_1569 (by decide) ?_
  refine lv_iadd hx hb dL_law_1570 ?_
  refine fn_top 2 (by decide) ?_
  refine va_sld hx hb hX hbl hbA hS (by unfold vp_in; decide) dL_law_1571 ?_
  refine fn_top (xs 2) (congrArg xs (by decide)) ?_
  refine fn_goi (wc := [(m0, .inr (12, [.int 0, .ref (v 0), .ref (v 1), .ref (v 2), .ref (v 3), .ref (v 4), .int 0, .int 0, .int 0, .int 0, .int 0, .long 0, .int 0, .int 0, .int 0, .int (-1), .ref (v 5), .ref (v 6), .ref (v 7), .ref (v 8), .ref (v 9), .ref (v 10), .ref (v 11), .ref (v 12), .ref (v 13), .ref (v 14), .ref (v 15), .ref (v 16), .ref (v 17), .ref (v 18), .ref (v 19), .ref (v 20), .int 0, .int 0, .int 0, .int 0, .ref (v 21), .ref (v 22), .ref (v 23), .int 0, .int 0, .ref (v 24), .ref (v 25), .int 0, .int 0, .ref (v 26), .ref (v 27), .ref (v 28), .int 0, .int 0, .int 0])), ((v 5), .inl (K 0, 5, .inl (fun _ => 0))), ((v 6), .inl (K 0, 40, .inl (fun _ => 0)))]) (wr := []) hK hP hD hS hA [0, 5, 6] [] rfl rfl (by decide) (fun hp => va_runV (C := RX12) (As := [.int (xs 1), .int (xs 2)]) (rest := [.int (-2)]) ⟨hx, hb, hml, hown, hts⟩ (c_X12_third (l := l) (D := D) (K := K) (m0 := (m0)) (p0 := ((xs 1))) (p1 := ((xs 2))) (fm := ([.int 0, .ref (v 0), .ref (v 1), .ref (v 2), .ref (v 3), .ref (v 4), .int 0, .int 0, .int 0, .int 0, .int 0, .long 0, .int 0, .int 0, .int 0, .int (-1), .ref (v 5), .ref (v 6), .ref (v 7), .ref (v 8), .ref (v 9), .ref (v 10), .ref (v 11), .ref (v 12), .ref (v 13), .ref (v 14), .ref (v 15), .ref (v 16), .ref (v 17), .ref (v 18), .ref (v 19), .ref (v 20), .int 0, .int 0, .int 0, .int 0, .ref (v 21), .ref (v 22), .ref (v 23), .int 0, .int 0, .ref (v 24), .ref (v 25), .int 0, .int 0, .ref (v 26), .ref (v 27), .ref (v 28), .int 0, .int 0, .int 0])) (hmn := rfl) (al := ((v 5))) (hm16 := rfl) (ah := ((v 6))) (hm17 := rfl) (fl := (fun _ => 0)) (hfl := (fun _ => rfl)) (fh := (fun _ => 0)) (hfh := (fun _ => rfl)) _) (cwV 2 hts (fn_ginV (fn_gin wd_1888) wd_1885 wd_1886 wd_1887 wd_13) rfl rfl rfl (by decide +kernel) ⟨Nat.le_of_ble_eq_true rfl, Nat.le_of_ble_eq_true rfl⟩) ⟨fn_blind, va_recv hK.1 hP (ci := 12) (q0 := 0) rfl rfl, hp⟩ rfl rfl hl.1 rfl (lv_room (Nat.le_of_ble_eq_true rfl)) dL_law_1572 ⟨Nat.le_of_ble_eq_true rfl, Nat.le_of_ble_eq_true rfl⟩) (fun r4 u3 H locs hwu3 hP hD hS => ?_)
  have r4_e : r4 = (-2) := hwu3
  subst r4_e
  have hP : va_P D vwCl [] H := hP
  have hD : va_D A [] := hD
  refine lv_icmp_eq (tgt := 1996) hx hb dL_law_1575 (by decide) (fun _ => ?_) (fun h9 => absurd (by decide) h9)
  refine lv_iinc (v := 6) (lv' := [(3, .int 6), (2, .ref m0), (1, .ref x0), (0, .ref b)]) hx hb dL_law_1996 hl (k := 0) rfl (by decide) (by decide) rfl (fun ls hl => ?_)
  refine lv_goto (tgt := 18) hx hb dL_law_1999 (by decide) ?_
  refine lv_iload_n hx hb dL_law_18 rfl (lv_at hl 0 rfl) ?_
  refine lv_aload_n hx hb dL_law_19 rfl (lv_at hl 3 rfl) ?_
  refine va_slen hx hb hX hbl hbA hS dL_law_20 ?_
  refine fn_top 6 (by decide) ?_
  refine lv_bipush (v := 6) hx hb dL_law_21 (by decide) ?_
  refine lv_isub hx hb dL_law_23 ?_
  refine fn_top 0 (by decide) ?_
  refine lv_icmp_gt (tgt := 2002) hx hb dL_law_24 (by decide) (fun _ => ?_) (fun h9 => absurd (by decide) h9)
  refine lv_iconst (v := 1) hx hb dL_law_2002 (by decide) ?_
  refine va_forget (fun q hq => by have h9 := hS.2.2 q hq; rw [← hAe] at h9; exact h9) ?_
  refine W.widen (k := 600000) (n := 7302250) (Nat.le_of_ble_eq_true rfl) (Nat.le_of_ble_eq_true rfl) ?_
  exact lw_ret hx hb hr hlocks dL_law_2003
theorem dL_law_1580 : decode cL_law 1580 = .ok (.aload_n 1, 1) := by decide +kernel
theorem dL_law_1581 : decode cL_law 1581 = .ok (.aload_n 0, 1) := by decide +kernel
theorem dL_law_1582 : decode cL_law 1582 = .ok (.iload_n 3, 1) := by decide +kernel
theorem dL_law_1583 : decode cL_law 1583 = .ok (.iconst 1, 1) := by decide +kernel
theorem dL_law_1584 : decode cL_law 1584 = .ok (.iadd, 1) := by decide +kernel
theorem dL_law_1585 : decode cL_law 1585 = .ok (.iaload, 1) := by decide +kernel
theorem dL_law_1586 : decode cL_law 1586 = .ok (.invokevirtual 226, 3) := by decide +kernel
theorem dL_law_1589 : decode cL_law 1589 = .ok (.aload_n 2, 1) := by decide +kernel
theorem dL_law_1590 : decode cL_law 1590 = .ok (.aload_n 0, 1) := by decide +kernel
theorem dL_law_1591 : decode cL_law 1591 = .ok (.iload_n 3, 1) := by decide +kernel
theorem dL_law_1592 : decode cL_law 1592 = .ok (.iconst 1, 1) := by decide +kernel
theorem dL_law_1593 : decode cL_law 1593 = .ok (.iadd, 1) := by decide +kernel
theorem dL_law_1594 : decode cL_law 1594 = .ok (.iaload, 1) := by decide +kernel
theorem dL_law_1595 : decode cL_law 1595 = .ok (.invokevirtual 229, 3) := by decide +kernel
theorem dL_law_1598 : decode cL_law 1598 = .ok (.if_icmp .eq 398, 3) := by decide +kernel
set_option maxHeartbeats 4000000 in
set_option maxRecDepth 100000 in
theorem law_52 {p : Program} {l : Launch} {e : Env} {s : State} {m : MethodId} {below : List Frame} {meth : Method} {c : Code} {b : Nat} {xs : Nat → Int32} (hx : p.tables.exec = Jvm.exec) (hb : c.code = cL_law) (hr : meth.sig.returnType = ret) (hml : c.maxLocals = 4) (hown : s.vm.findClass RL = some m.cls) (hts : ∀ w ∈ fn_big, w.before #[Value.ref b] s = true) (hX : va_X b 6 xs s s.heap) (hbl : b < s.heap.size) (hlocks : meth.locks = false) {D : va_G} {K : Nat → ClassId} (hK : fn_KK D K s) {x0 m0 : Nat} {u v : Nat → Nat} {fw : Nat → Int32} (hfw : ∀ j, j < 4 → fw j = -1) {A : Nat → Prop} (hAe : (fun q : Nat => s.heap.size ≤ q) = A) : ∀ (H : Heap) (locs : List Loc) (ls : Array Slot), va_P D vwCl (fn_world K x0 m0 u v fw) H → va_D A (fn_world K x0 m0 u v fw) → va_S A s.heap H locs → lv_has ls 4 [(3, .int 0), (2, .ref m0), (1, .ref x0), (0, .ref b)] → W p l e room_1 s m #[Value.ref b] below meth c H locs 144 12710 (lw_Z below #[Value.ref b] s) (F0 m 1580 ls []) := by
  intro H locs ls hP hD hS hl
  have hA : ∀ q : Nat, s.heap.size ≤ q → A q := fun q h => by rw [← hAe]; exact h
  have hbA : ¬ A b := by rw [← hAe]; exact Nat.not_le.mpr hbl
  refine lv_aload_n hx hb dL_law_1580 rfl (lv_at hl 2 rfl) ?_
  refine lv_aload_n hx hb dL_law_1581 rfl (lv_at hl 3 rfl) ?_
  refine lv_iload_n hx hb dL_law_1582 rfl (lv_at hl 0 rfl) ?_
  refine lv_iconst (v := 1) hx hb dL_law_1583 (by decide) ?_
  refine lv_iadd hx hb dL_law_1584 ?_
  refine fn_top 1 (by decide) ?_
  refine va_sld hx hb hX hbl hbA hS (by unfold vp_in; decide) dL_law_1585 ?_
  refine fn_top (xs 1) (congrArg xs (by decide)) ?_
  refine fn_goi (wc := [(x0, .inr (11, [.ref (u 0), .ref (u 10), .ref (u 17), .ref (u 25), .ref (u 26), .ref (u 27), .ref (u 28), .ref (u 29), .ref (u 34), .ref (u 39), .ref (u 43), .ref (u 51), .ref (u 55)])), ((u 10), .inr (7, [.int 0, .int 0, .int 0, .int 0, .int 0, .int 0, .int 0, .int 0, .int 0, .ref (u 11), .ref (u 12), .ref (u 13), .ref (u 14), .ref (u 15), .ref (u 16)]))]) (wr := [(m0, .inr (12, [.int 0, .ref (v 0), .ref (v 1), .ref (v 2), .ref (v 3), .ref (v 4), .int 0, .int 0, .int 0, .int 0, .int 0, .long 0, .int 0, .int 0, .int 0, .int (-1), .ref (v 5), .ref (v 6), .ref (v 7), .ref (v 8), .ref (v 9), .ref (v 10), .ref (v 11), .ref (v 12), .ref (v 13), .ref (v 14), .ref (v 15), .ref (v 16), .ref (v 17), .ref (v 18), .ref (v 19), .ref (v 20), .int 0, .int 0, .int 0, .int 0, .ref (v 21), .ref (v 22), .ref (v 23), .int 0, .int 0, .ref (v 24), .ref (v 25), .int 0, .int 0, .ref (v 26), .ref (v 27), .ref (v 28), .int 0, .int 0, .int 0])), ((v 0), .inl (K 0, 4, .inl fw)), ((v 1), .inl (K 0, 4, .inl (fun _ => 0))), ((v 2), .inl (K 3, 240, .inr (.inl (fun _ => 0)))), ((v 4), .inl (K 1, 1400, .inl (fun _ => 0))), ((v 5), .inl (K 0, 5, .inl (fun _ => 0))), ((v 6), .inl (K 0, 40, .inl (fun _ => 0))), ((v 7), .inl (K 0, 50, .inl (fun _ => 0))), ((v 8), .inl (K 0, 60, .inl (fun _ => 0))), ((v 9), .inl (K 0, 480, .inl (fun _ => 0))), ((v 10), .inl (K 0, 600, .inl (fun _ => 0))), ((v 11), .inl (K 2, 3, .inl (fun _ => 0)))]) hK hP hD hS hA [0, 11] [88, 89, 90, 91, 92, 93, 94, 95, 96, 97, 98, 99] rfl rfl (by decide) (fun hp => va_runV (C := RX11) (As := [.int (xs 1)]) (rest := []) ⟨hx, hb, hml, hown, hts⟩ (c_X11_cited (l := l) (D := D) (K := K) (x0 := (x0)) (p0 := ((xs 1))) (fx := ([.ref (u 0), .ref (u 10), .ref (u 17), .ref (u 25), .ref (u 26), .ref (u 27), .ref (u 28), .ref (u 29), .ref (u 34), .ref (u 39), .ref (u 43), .ref (u 51), .ref (u 55)])) (t0 := ((u 10))) (hx1 := rfl) (ft := ([.int 0, .int 0, .int 0, .int 0, .int 0, .int 0, .int 0, .int 0, .int 0, .ref (u 11), .ref (u 12), .ref (u 13), .ref (u 14), .ref (u 15), .ref (u 16)])) (ht0 := rfl) (ht3 := rfl) (ht4 := rfl) (ht5 := rfl) _) (cwV 1 hts (fn_ginV (fn_gin wd_1122) wd_1119 wd_1120 wd_1121 wd_1) rfl rfl rfl (by decide +kernel) ⟨Nat.le_of_ble_eq_true rfl, Nat.le_of_ble_eq_true rfl⟩) ⟨fn_blind, va_recv hK.1 hP (ci := 11) (q0 := 0) rfl rfl, hp⟩ rfl rfl hl.1 rfl (lv_room (Nat.le_of_ble_eq_true rfl)) dL_law_1586 ⟨Nat.le_of_ble_eq_true rfl, Nat.le_of_ble_eq_true rfl⟩) (fun r2 u1 H locs hwu1 hP hD hS => ?_)
  have r2_e : r2 = (-2) := hwu1
  subst r2_e
  have hP : va_P D vwCl [(m0, .inr (12, [.int 0, .ref (v 0), .ref (v 1), .ref (v 2), .ref (v 3), .ref (v 4), .int 0, .int 0, .int 0, .int 0, .int 0, .long 0, .int 0, .int 0, .int 0, .int (-1), .ref (v 5), .ref (v 6), .ref (v 7), .ref (v 8), .ref (v 9), .ref (v 10), .ref (v 11), .ref (v 12), .ref (v 13), .ref (v 14), .ref (v 15), .ref (v 16), .ref (v 17), .ref (v 18), .ref (v 19), .ref (v 20), .int 0, .int 0, .int 0, .int 0, .ref (v 21), .ref (v 22), .ref (v 23), .int 0, .int 0, .ref (v 24), .ref (v 25), .int 0, .int 0, .ref (v 26), .ref (v 27), .ref (v 28), .int 0, .int 0, .int 0])), ((v 0), .inl (K 0, 4, .inl fw)), ((v 1), .inl (K 0, 4, .inl (fun _ => 0))), ((v 2), .inl (K 3, 240, .inr (.inl (fun _ => 0)))), ((v 4), .inl (K 1, 1400, .inl (fun _ => 0))), ((v 5), .inl (K 0, 5, .inl (fun _ => 0))), ((v 6), .inl (K 0, 40, .inl (fun _ => 0))), ((v 7), .inl (K 0, 50, .inl (fun _ => 0))), ((v 8), .inl (K 0, 60, .inl (fun _ => 0))), ((v 9), .inl (K 0, 480, .inl (fun _ => 0))), ((v 10), .inl (K 0, 600, .inl (fun _ => 0))), ((v 11), .inl (K 2, 3, .inl (fun _ => 0)))] H := hP
  have hD : va_D A [(m0, .inr (12, [.int 0, .ref (v 0), .ref (v 1), .ref (v 2), .ref (v 3), .ref (v 4), .int 0, .int 0, .int 0, .int 0, .int 0, .long 0, .int 0, .int 0, .int 0, .int (-1), .ref (v 5), .ref (v 6), .ref (v 7), .ref (v 8), .ref (v 9), .ref (v 10), .ref (v 11), .ref (v 12), .ref (v 13), .ref (v 14), .ref (v 15), .ref (v 16), .ref (v 17), .ref (v 18), .ref (v 19), .ref (v 20), .int 0, .int 0, .int 0, .int 0, .ref (v 21), .ref (v 22), .ref (v 23), .int 0, .int 0, .ref (v 24), .ref (v 25), .int 0, .int 0, .ref (v 26), .ref (v 27), .ref (v 28), .int 0, .int 0, .int 0])), ((v 0), .inl (K 0, 4, .inl fw)), ((v 1), .inl (K 0, 4, .inl (fun _ => 0))), ((v 2), .inl (K 3, 240, .inr (.inl (fun _ => 0)))), ((v 4), .inl (K 1, 1400, .inl (fun _ => 0))), ((v 5), .inl (K 0, 5, .inl (fun _ => 0))), ((v 6), .inl (K 0, 40, .inl (fun _ => 0))), ((v 7), .inl (K 0, 50, .inl (fun _ => 0))), ((v 8), .inl (K 0, 60, .inl (fun _ => 0))), ((v 9), .inl (K 0, 480, .inl (fun _ => 0))), ((v 10), .inl (K 0, 600, .inl (fun _ => 0))), ((v 11), .inl (K 2, 3, .inl (fun _ => 0)))] := hD
  refine lv_aload_n hx hb dL_law_1589 rfl (lv_at hl 1 rfl) ?_
  refine lv_aload_n hx hb dL_law_1590 rfl (lv_at hl 3 rfl) ?_
  refine lv_iload_n hx hb dL_law_1591 rfl (lv_at hl 0 rfl) ?_
  refine lv_iconst (v := 1) hx hb dL_law_1592 (by decide) ?_
  refine lv_iadd hx hb dL_law_1593 ?_
  refine fn_top 1 (by decide) ?_
  refine va_sld hx hb hX hbl hbA hS (by unfold vp_in; decide) dL_law_1594 ?_
  refine fn_top (xs 1) (congrArg xs (by decide)) ?_
  refine fn_goi (wc := [(m0, .inr (12, [.int 0, .ref (v 0), .ref (v 1), .ref (v 2), .ref (v 3), .ref (v 4), .int 0, .int 0, .int 0, .int 0, .int 0, .long 0, .int 0, .int 0, .int 0, .int (-1), .ref (v 5), .ref (v 6), .ref (v 7), .ref (v 8), .ref (v 9), .ref (v 10), .ref (v 11), .ref (v 12), .ref (v 13), .ref (v 14), .ref (v 15), .ref (v 16), .ref (v 17), .ref (v 18), .ref (v 19), .ref (v 20), .int 0, .int 0, .int 0, .int 0, .ref (v 21), .ref (v 22), .ref (v 23), .int 0, .int 0, .ref (v 24), .ref (v 25), .int 0, .int 0, .ref (v 26), .ref (v 27), .ref (v 28), .int 0, .int 0, .int 0])), ((v 5), .inl (K 0, 5, .inl (fun _ => 0))), ((v 6), .inl (K 0, 40, .inl (fun _ => 0)))]) (wr := []) hK hP hD hS hA [0, 5, 6] [] rfl rfl (by decide) (fun hp => va_runV (C := RX12) (As := [.int (xs 1)]) (rest := [.int (-2)]) ⟨hx, hb, hml, hown, hts⟩ (c_X12_cited (l := l) (D := D) (K := K) (m0 := (m0)) (p0 := ((xs 1))) (fm := ([.int 0, .ref (v 0), .ref (v 1), .ref (v 2), .ref (v 3), .ref (v 4), .int 0, .int 0, .int 0, .int 0, .int 0, .long 0, .int 0, .int 0, .int 0, .int (-1), .ref (v 5), .ref (v 6), .ref (v 7), .ref (v 8), .ref (v 9), .ref (v 10), .ref (v 11), .ref (v 12), .ref (v 13), .ref (v 14), .ref (v 15), .ref (v 16), .ref (v 17), .ref (v 18), .ref (v 19), .ref (v 20), .int 0, .int 0, .int 0, .int 0, .ref (v 21), .ref (v 22), .ref (v 23), .int 0, .int 0, .ref (v 24), .ref (v 25), .int 0, .int 0, .ref (v 26), .ref (v 27), .ref (v 28), .int 0, .int 0, .int 0])) (hmn := rfl) (al := ((v 5))) (hm16 := rfl) (ah := ((v 6))) (hm17 := rfl) (fl := (fun _ => 0)) (hfl := (fun _ => rfl)) (fh := (fun _ => 0)) (hfh := (fun _ => rfl)) _) (cwV 1 hts (fn_ginV (fn_gin wd_1892) wd_1889 wd_1890 wd_1891 wd_13) rfl rfl rfl (by decide +kernel) ⟨Nat.le_of_ble_eq_true rfl, Nat.le_of_ble_eq_true rfl⟩) ⟨fn_blind, va_recv hK.1 hP (ci := 12) (q0 := 0) rfl rfl, hp⟩ rfl rfl hl.1 rfl (lv_room (Nat.le_of_ble_eq_true rfl)) dL_law_1595 ⟨Nat.le_of_ble_eq_true rfl, Nat.le_of_ble_eq_true rfl⟩) (fun r4 u3 H locs hwu3 hP hD hS => ?_)
  have r4_e : r4 = (-2) := hwu3
  subst r4_e
  have hP : va_P D vwCl [] H := hP
  have hD : va_D A [] := hD
  refine lv_icmp_eq (tgt := 1996) hx hb dL_law_1598 (by decide) (fun _ => ?_) (fun h9 => absurd (by decide) h9)
  refine lv_iinc (v := 6) (lv' := [(3, .int 6), (2, .ref m0), (1, .ref x0), (0, .ref b)]) hx hb dL_law_1996 hl (k := 0) rfl (by decide) (by decide) rfl (fun ls hl => ?_)
  refine lv_goto (tgt := 18) hx hb dL_law_1999 (by decide) ?_
  refine lv_iload_n hx hb dL_law_18 rfl (lv_at hl 0 rfl) ?_
  refine lv_aload_n hx hb dL_law_19 rfl (lv_at hl 3 rfl) ?_
  refine fn_at 20 rfl ?_
  refine va_slen hx hb hX hbl hbA hS dL_law_20 ?_
  refine fn_top 6 (by decide) ?_
  refine lv_bipush (v := 6) hx hb dL_law_21 (by decide) ?_
  refine lv_isub hx hb dL_law_23 ?_
  refine fn_top 0 (by decide) ?_
  refine lv_icmp_gt (tgt := 2002) hx hb dL_law_24 (by decide) (fun _ => ?_) (fun h9 => absurd (by decide) h9)
  refine lv_iconst (v := 1) hx hb dL_law_2002 (by decide) ?_
  refine va_forget (fun q hq => by have h9 := hS.2.2 q hq; rw [← hAe] at h9; exact h9) ?_
  refine W.widen (k := 600000) (n := 7302250) (Nat.le_of_ble_eq_true rfl) (Nat.le_of_ble_eq_true rfl) ?_
  exact lw_ret hx hb hr hlocks dL_law_2003
theorem dL_law_1603 : decode cL_law 1603 = .ok (.aload_n 1, 1) := by decide +kernel
theorem dL_law_1604 : decode cL_law 1604 = .ok (.aload_n 0, 1) := by decide +kernel
theorem dL_law_1605 : decode cL_law 1605 = .ok (.iload_n 3, 1) := by decide +kernel
theorem dL_law_1606 : decode cL_law 1606 = .ok (.iconst 1, 1) := by decide +kernel
theorem dL_law_1607 : decode cL_law 1607 = .ok (.iadd, 1) := by decide +kernel
theorem dL_law_1608 : decode cL_law 1608 = .ok (.iaload, 1) := by decide +kernel
theorem dL_law_1609 : decode cL_law 1609 = .ok (.invokevirtual 230, 3) := by decide +kernel
theorem dL_law_1612 : decode cL_law 1612 = .ok (.aload_n 2, 1) := by decide +kernel
theorem dL_law_1613 : decode cL_law 1613 = .ok (.aload_n 0, 1) := by decide +kernel
theorem dL_law_1614 : decode cL_law 1614 = .ok (.iload_n 3, 1) := by decide +kernel
theorem dL_law_1615 : decode cL_law 1615 = .ok (.iconst 1, 1) := by decide +kernel
theorem dL_law_1616 : decode cL_law 1616 = .ok (.iadd, 1) := by decide +kernel
theorem dL_law_1617 : decode cL_law 1617 = .ok (.iaload, 1) := by decide +kernel
theorem dL_law_1618 : decode cL_law 1618 = .ok (.invokevirtual 233, 3) := by decide +kernel
theorem dL_law_1621 : decode cL_law 1621 = .ok (.if_icmp .eq 375, 3) := by decide +kernel
set_option maxHeartbeats 4000000 in
set_option maxRecDepth 100000 in
theorem law_53 {p : Program} {l : Launch} {e : Env} {s : State} {m : MethodId} {below : List Frame} {meth : Method} {c : Code} {b : Nat} {xs : Nat → Int32} (hx : p.tables.exec = Jvm.exec) (hb : c.code = cL_law) (hr : meth.sig.returnType = ret) (hml : c.maxLocals = 4) (hown : s.vm.findClass RL = some m.cls) (hts : ∀ w ∈ fn_big, w.before #[Value.ref b] s = true) (hX : va_X b 6 xs s s.heap) (hbl : b < s.heap.size) (hlocks : meth.locks = false) {D : va_G} {K : Nat → ClassId} (hK : fn_KK D K s) {x0 m0 : Nat} {u v : Nat → Nat} {fw : Nat → Int32} (hfw : ∀ j, j < 4 → fw j = -1) {A : Nat → Prop} (hAe : (fun q : Nat => s.heap.size ≤ q) = A) : ∀ (H : Heap) (locs : List Loc) (ls : Array Slot), va_P D vwCl (fn_world K x0 m0 u v fw) H → va_D A (fn_world K x0 m0 u v fw) → va_S A s.heap H locs → lv_has ls 4 [(3, .int 0), (2, .ref m0), (1, .ref x0), (0, .ref b)] → W p l e room_1 s m #[Value.ref b] below meth c H locs 144 12710 (lw_Z below #[Value.ref b] s) (F0 m 1603 ls []) := by
  intro H locs ls hP hD hS hl
  have hA : ∀ q : Nat, s.heap.size ≤ q → A q := fun q h => by rw [← hAe]; exact h
  have hbA : ¬ A b := by rw [← hAe]; exact Nat.not_le.mpr hbl
  refine lv_aload_n hx hb dL_law_1603 rfl (lv_at hl 2 rfl) ?_
  refine lv_aload_n hx hb dL_law_1604 rfl (lv_at hl 3 rfl) ?_
  refine lv_iload_n hx hb dL_law_1605 rfl (lv_at hl 0 rfl) ?_
  refine lv_iconst (v := 1) hx hb dL_law_1606 (by decide) ?_
  refine lv_iadd hx hb dL_law_1607 ?_
  refine fn_top 1 (by decide) ?_
  refine va_sld hx hb hX hbl hbA hS (by unfold vp_in; decide) dL_law_1608 ?_
  refine fn_top (xs 1) (congrArg xs (by decide)) ?_
  refine fn_goi (wc := [(x0, .inr (11, [.ref (u 0), .ref (u 10), .ref (u 17), .ref (u 25), .ref (u 26), .ref (u 27), .ref (u 28), .ref (u 29), .ref (u 34), .ref (u 39), .ref (u 43), .ref (u 51), .ref (u 55)])), ((u 10), .inr (7, [.int 0, .int 0, .int 0, .int 0, .int 0, .int 0, .int 0, .int 0, .int 0, .ref (u 11), .ref (u 12), .ref (u 13), .ref (u 14), .ref (u 15), .ref (u 16)]))]) (wr := [(m0, .inr (12, [.int 0, .ref (v 0), .ref (v 1), .ref (v 2), .ref (v 3), .ref (v 4), .int 0, .int 0, .int 0, .int 0, .int 0, .long 0, .int 0, .int 0, .int 0, .int (-1), .ref (v 5), .ref (v 6), .ref (v 7), .ref (v 8), .ref (v 9), .ref (v 10), .ref (v 11), .ref (v 12), .ref (v 13), .ref (v 14), .ref (v 15), .ref (v 16), .ref (v 17), .ref (v 18), .ref (v 19), .ref (v 20), .int 0, .int 0, .int 0, .int 0, .ref (v 21), .ref (v 22), .ref (v 23), .int 0, .int 0, .ref (v 24), .ref (v 25), .int 0, .int 0, .ref (v 26), .ref (v 27), .ref (v 28), .int 0, .int 0, .int 0])), ((v 0), .inl (K 0, 4, .inl fw)), ((v 1), .inl (K 0, 4, .inl (fun _ => 0))), ((v 2), .inl (K 3, 240, .inr (.inl (fun _ => 0)))), ((v 4), .inl (K 1, 1400, .inl (fun _ => 0))), ((v 5), .inl (K 0, 5, .inl (fun _ => 0))), ((v 6), .inl (K 0, 40, .inl (fun _ => 0))), ((v 7), .inl (K 0, 50, .inl (fun _ => 0))), ((v 8), .inl (K 0, 60, .inl (fun _ => 0))), ((v 9), .inl (K 0, 480, .inl (fun _ => 0))), ((v 10), .inl (K 0, 600, .inl (fun _ => 0))), ((v 11), .inl (K 2, 3, .inl (fun _ => 0)))]) hK hP hD hS hA [0, 11] [88, 89, 90, 91, 92, 93, 94, 95, 96, 97, 98, 99] rfl rfl (by decide) (fun hp => va_runV (C := RX11) (As := [.int (xs 1)]) (rest := []) ⟨hx, hb, hml, hown, hts⟩ (c_X11_famous (l := l) (D := D) (K := K) (x0 := (x0)) (p0 := ((xs 1))) (fx := ([.ref (u 0), .ref (u 10), .ref (u 17), .ref (u 25), .ref (u 26), .ref (u 27), .ref (u 28), .ref (u 29), .ref (u 34), .ref (u 39), .ref (u 43), .ref (u 51), .ref (u 55)])) (t0 := ((u 10))) (hx1 := rfl) (ft := ([.int 0, .int 0, .int 0, .int 0, .int 0, .int 0, .int 0, .int 0, .int 0, .ref (u 11), .ref (u 12), .ref (u 13), .ref (u 14), .ref (u 15), .ref (u 16)])) (ht0 := rfl) (ht3 := rfl) (ht4 := rfl) (ht5 := rfl) _) (cwV 1 hts (fn_ginV (fn_gin wd_1142) wd_1139 wd_1140 wd_1141 wd_1) rfl rfl rfl (by decide +kernel) ⟨Nat.le_of_ble_eq_true rfl, Nat.le_of_ble_eq_true rfl⟩) ⟨fn_blind, va_recv hK.1 hP (ci := 11) (q0 := 0) rfl rfl, hp⟩ rfl rfl hl.1 rfl (lv_room (Nat.le_of_ble_eq_true rfl)) dL_law_1609 ⟨Nat.le_of_ble_eq_true rfl, Nat.le_of_ble_eq_true rfl⟩) (fun r2 u1 H locs hwu1 hP hD hS => ?_)
  have r2_e : r2 = (-2) := hwu1
  subst r2_e
  have hP : va_P D vwCl [(m0, .inr (12, [.int 0, .ref (v 0), .ref (v 1), .ref (v 2), .ref (v 3), .ref (v 4), .int 0, .int 0, .int 0, .int 0, .int 0, .long 0, .int 0, .int 0, .int 0, .int (-1), .ref (v 5), .ref (v 6), .ref (v 7), .ref (v 8), .ref (v 9), .ref (v 10), .ref (v 11), .ref (v 12), .ref (v 13), .ref (v 14), .ref (v 15), .ref (v 16), .ref (v 17), .ref (v 18), .ref (v 19), .ref (v 20), .int 0, .int 0, .int 0, .int 0, .ref (v 21), .ref (v 22), .ref (v 23), .int 0, .int 0, .ref (v 24), .ref (v 25), .int 0, .int 0, .ref (v 26), .ref (v 27), .ref (v 28), .int 0, .int 0, .int 0])), ((v 0), .inl (K 0, 4, .inl fw)), ((v 1), .inl (K 0, 4, .inl (fun _ => 0))), ((v 2), .inl (K 3, 240, .inr (.inl (fun _ => 0)))), ((v 4), .inl (K 1, 1400, .inl (fun _ => 0))), ((v 5), .inl (K 0, 5, .inl (fun _ => 0))), ((v 6), .inl (K 0, 40, .inl (fun _ => 0))), ((v 7), .inl (K 0, 50, .inl (fun _ => 0))), ((v 8), .inl (K 0, 60, .inl (fun _ => 0))), ((v 9), .inl (K 0, 480, .inl (fun _ => 0))), ((v 10), .inl (K 0, 600, .inl (fun _ => 0))), ((v 11), .inl (K 2, 3, .inl (fun _ => 0)))] H := hP
  have hD : va_D A [(m0, .inr (12, [.int 0, .ref (v 0), .ref (v 1), .ref (v 2), .ref (v 3), .ref (v 4), .int 0, .int 0, .int 0, .int 0, .int 0, .long 0, .int 0, .int 0, .int 0, .int (-1), .ref (v 5), .ref (v 6), .ref (v 7), .ref (v 8), .ref (v 9), .ref (v 10), .ref (v 11), .ref (v 12), .ref (v 13), .ref (v 14), .ref (v 15), .ref (v 16), .ref (v 17), .ref (v 18), .ref (v 19), .ref (v 20), .int 0, .int 0, .int 0, .int 0, .ref (v 21), .ref (v 22), .ref (v 23), .int 0, .int 0, .ref (v 24), .ref (v 25), .int 0, .int 0, .ref (v 26), .ref (v 27), .ref (v 28), .int 0, .int 0, .int 0])), ((v 0), .inl (K 0, 4, .inl fw)), ((v 1), .inl (K 0, 4, .inl (fun _ => 0))), ((v 2), .inl (K 3, 240, .inr (.inl (fun _ => 0)))), ((v 4), .inl (K 1, 1400, .inl (fun _ => 0))), ((v 5), .inl (K 0, 5, .inl (fun _ => 0))), ((v 6), .inl (K 0, 40, .inl (fun _ => 0))), ((v 7), .inl (K 0, 50, .inl (fun _ => 0))), ((v 8), .inl (K 0, 60, .inl (fun _ => 0))), ((v 9), .inl (K 0, 480, .inl (fun _ => 0))), ((v 10), .inl (K 0, 600, .inl (fun _ => 0))), ((v 11), .inl (K 2, 3, .inl (fun _ => 0)))] := hD
  refine lv_aload_n hx hb dL_law_1612 rfl (lv_at hl 1 rfl) ?_
  refine lv_aload_n hx hb dL_law_1613 rfl (lv_at hl 3 rfl) ?_
  refine lv_iload_n hx hb dL_law_1614 rfl (lv_at hl 0 rfl) ?_
  refine lv_iconst (v := 1) hx hb dL_law_1615 (by decide) ?_
  refine lv_iadd hx hb dL_law_1616 ?_
  refine fn_top 1 (by decide) ?_
  refine va_sld hx hb hX hbl hbA hS (by unfold vp_in; decide) dL_law_1617 ?_
  refine fn_top (xs 1) (congrArg xs (by decide)) ?_
  refine fn_goi (wc := [(m0, .inr (12, [.int 0, .ref (v 0), .ref (v 1), .ref (v 2), .ref (v 3), .ref (v 4), .int 0, .int 0, .int 0, .int 0, .int 0, .long 0, .int 0, .int 0, .int 0, .int (-1), .ref (v 5), .ref (v 6), .ref (v 7), .ref (v 8), .ref (v 9), .ref (v 10), .ref (v 11), .ref (v 12), .ref (v 13), .ref (v 14), .ref (v 15), .ref (v 16), .ref (v 17), .ref (v 18), .ref (v 19), .ref (v 20), .int 0, .int 0, .int 0, .int 0, .ref (v 21), .ref (v 22), .ref (v 23), .int 0, .int 0, .ref (v 24), .ref (v 25), .int 0, .int 0, .ref (v 26), .ref (v 27), .ref (v 28), .int 0, .int 0, .int 0])), ((v 5), .inl (K 0, 5, .inl (fun _ => 0))), ((v 6), .inl (K 0, 40, .inl (fun _ => 0)))]) (wr := []) hK hP hD hS hA [0, 5, 6] [] rfl rfl (by decide) (fun hp => va_runV (C := RX12) (As := [.int (xs 1)]) (rest := [.int (-2)]) ⟨hx, hb, hml, hown, hts⟩ (c_X12_famous (l := l) (D := D) (K := K) (m0 := (m0)) (p0 := ((xs 1))) (fm := ([.int 0, .ref (v 0), .ref (v 1), .ref (v 2), .ref (v 3), .ref (v 4), .int 0, .int 0, .int 0, .int 0, .int 0, .long 0, .int 0, .int 0, .int 0, .int (-1), .ref (v 5), .ref (v 6), .ref (v 7), .ref (v 8), .ref (v 9), .ref (v 10), .ref (v 11), .ref (v 12), .ref (v 13), .ref (v 14), .ref (v 15), .ref (v 16), .ref (v 17), .ref (v 18), .ref (v 19), .ref (v 20), .int 0, .int 0, .int 0, .int 0, .ref (v 21), .ref (v 22), .ref (v 23), .int 0, .int 0, .ref (v 24), .ref (v 25), .int 0, .int 0, .ref (v 26), .ref (v 27), .ref (v 28), .int 0, .int 0, .int 0])) (hmn := rfl) (al := ((v 5))) (hm16 := rfl) (ah := ((v 6))) (hm17 := rfl) (fl := (fun _ => 0)) (hfl := (fun _ => rfl)) (fh := (fun _ => 0)) (hfh := (fun _ => rfl)) _) (cwV 1 hts (fn_ginV (fn_gin wd_1908) wd_1905 wd_1906 wd_1907 wd_13) rfl rfl rfl (by decide +kernel) ⟨Nat.le_of_ble_eq_true rfl, Nat.le_of_ble_eq_true rfl⟩) ⟨fn_blind, va_recv hK.1 hP (ci := 12) (q0 := 0) rfl rfl, hp⟩ rfl rfl hl.1 rfl (lv_room (Nat.le_of_ble_eq_true rfl)) dL_law_1618 ⟨Nat.le_of_ble_eq_true rfl, Nat.le_of_ble_eq_true rfl⟩) (fun r4 u3 H locs hwu3 hP hD hS => ?_)
  have r4_e : r4 = (-2) := hwu3
  subst r4_e
  have hP : va_P D vwCl [] H := hP
  have hD : va_D A [] := hD
  refine lv_icmp_eq (tgt := 1996) hx hb dL_law_1621 (by decide) (fun _ => ?_) (fun h9 => absurd (by decide) h9)
  refine lv_iinc (v := 6) (lv' := [(3, .int 6), (2, .ref m0), (1, .ref x0), (0, .ref b)]) hx hb dL_law_1996 hl (k := 0) rfl (by decide) (by decide) rfl (fun ls hl => ?_)
  refine lv_goto (tgt := 18) hx hb dL_law_1999 (by decide) ?_
  refine lv_iload_n hx hb dL_law_18 rfl (lv_at hl 0 rfl) ?_
  refine lv_aload_n hx hb dL_law_19 rfl (lv_at hl 3 rfl) ?_
  refine fn_at 20 rfl ?_
  refine va_slen hx hb hX hbl hbA hS dL_law_20 ?_
  refine fn_top 6 (by decide) ?_
  refine lv_bipush (v := 6) hx hb dL_law_21 (by decide) ?_
  refine lv_isub hx hb dL_law_23 ?_
  refine fn_top 0 (by decide) ?_
  refine lv_icmp_gt (tgt := 2002) hx hb dL_law_24 (by decide) (fun _ => ?_) (fun h9 => absurd (by decide) h9)
  refine lv_iconst (v := 1) hx hb dL_law_2002 (by decide) ?_
  refine va_forget (fun q hq => by have h9 := hS.2.2 q hq; rw [← hAe] at h9; exact h9) ?_
  refine W.widen (k := 600000) (n := 7302250) (Nat.le_of_ble_eq_true rfl) (Nat.le_of_ble_eq_true rfl) ?_
  exact lw_ret hx hb hr hlocks dL_law_2003
theorem dL_law_1626 : decode cL_law 1626 = .ok (.aload_n 1, 1) := by decide +kernel
theorem dL_law_1627 : decode cL_law 1627 = .ok (.aload_n 0, 1) := by decide +kernel
theorem dL_law_1628 : decode cL_law 1628 = .ok (.iload_n 3, 1) := by decide +kernel
theorem dL_law_1629 : decode cL_law 1629 = .ok (.iconst 1, 1) := by decide +kernel
theorem dL_law_1630 : decode cL_law 1630 = .ok (.iadd, 1) := by decide +kernel
theorem dL_law_1631 : decode cL_law 1631 = .ok (.iaload, 1) := by decide +kernel
theorem dL_law_1632 : decode cL_law 1632 = .ok (.aload_n 0, 1) := by decide +kernel
theorem dL_law_1633 : decode cL_law 1633 = .ok (.iload_n 3, 1) := by decide +kernel
theorem dL_law_1634 : decode cL_law 1634 = .ok (.iconst 2, 1) := by decide +kernel
theorem dL_law_1635 : decode cL_law 1635 = .ok (.iadd, 1) := by decide +kernel
theorem dL_law_1636 : decode cL_law 1636 = .ok (.iaload, 1) := by decide +kernel
theorem dL_law_1637 : decode cL_law 1637 = .ok (.invokevirtual 234, 3) := by decide +kernel
theorem dL_law_1640 : decode cL_law 1640 = .ok (.aload_n 2, 1) := by decide +kernel
theorem dL_law_1641 : decode cL_law 1641 = .ok (.aload_n 0, 1) := by decide +kernel
theorem dL_law_1642 : decode cL_law 1642 = .ok (.iload_n 3, 1) := by decide +kernel
theorem dL_law_1643 : decode cL_law 1643 = .ok (.iconst 1, 1) := by decide +kernel
theorem dL_law_1644 : decode cL_law 1644 = .ok (.iadd, 1) := by decide +kernel
theorem dL_law_1645 : decode cL_law 1645 = .ok (.iaload, 1) := by decide +kernel
theorem dL_law_1646 : decode cL_law 1646 = .ok (.aload_n 0, 1) := by decide +kernel
theorem dL_law_1647 : decode cL_law 1647 = .ok (.iload_n 3, 1) := by decide +kernel
theorem dL_law_1648 : decode cL_law 1648 = .ok (.iconst 2, 1) := by decide +kernel
theorem dL_law_1649 : decode cL_law 1649 = .ok (.iadd, 1) := by decide +kernel
theorem dL_law_1650 : decode cL_law 1650 = .ok (.iaload, 1) := by decide +kernel
theorem dL_law_1651 : decode cL_law 1651 = .ok (.invokevirtual 237, 3) := by decide +kernel
theorem dL_law_1654 : decode cL_law 1654 = .ok (.if_icmp .eq 342, 3) := by decide +kernel
set_option maxHeartbeats 4000000 in
set_option maxRecDepth 100000 in
theorem law_54 {p : Program} {l : Launch} {e : Env} {s : State} {m : MethodId} {below : List Frame} {meth : Method} {c : Code} {b : Nat} {xs : Nat → Int32} (hx : p.tables.exec = Jvm.exec) (hb : c.code = cL_law) (hr : meth.sig.returnType = ret) (hml : c.maxLocals = 4) (hown : s.vm.findClass RL = some m.cls) (hts : ∀ w ∈ fn_big, w.before #[Value.ref b] s = true) (hX : va_X b 6 xs s s.heap) (hbl : b < s.heap.size) (hlocks : meth.locks = false) {D : va_G} {K : Nat → ClassId} (hK : fn_KK D K s) {x0 m0 : Nat} {u v : Nat → Nat} {fw : Nat → Int32} (hfw : ∀ j, j < 4 → fw j = -1) {A : Nat → Prop} (hAe : (fun q : Nat => s.heap.size ≤ q) = A) : ∀ (H : Heap) (locs : List Loc) (ls : Array Slot), va_P D vwCl (fn_world K x0 m0 u v fw) H → va_D A (fn_world K x0 m0 u v fw) → va_S A s.heap H locs → lv_has ls 4 [(3, .int 0), (2, .ref m0), (1, .ref x0), (0, .ref b)] → W p l e room_1 s m #[Value.ref b] below meth c H locs 144 12710 (lw_Z below #[Value.ref b] s) (F0 m 1626 ls []) := by
  intro H locs ls hP hD hS hl
  have hA : ∀ q : Nat, s.heap.size ≤ q → A q := fun q h => by rw [← hAe]; exact h
  have hbA : ¬ A b := by rw [← hAe]; exact Nat.not_le.mpr hbl
  refine lv_aload_n hx hb dL_law_1626 rfl (lv_at hl 2 rfl) ?_
  refine lv_aload_n hx hb dL_law_1627 rfl (lv_at hl 3 rfl) ?_
  refine lv_iload_n hx hb dL_law_1628 rfl (lv_at hl 0 rfl) ?_
  refine lv_iconst (v := 1) hx hb dL_law_1629 (by decide) ?_
  refine lv_iadd hx hb dL_law_1630 ?_
  refine fn_top 1 (by decide) ?_
  refine va_sld hx hb hX hbl hbA hS (by unfold vp_in; decide) dL_law_1631 ?_
  refine fn_top (xs 1) (congrArg xs (by decide)) ?_
  refine lv_aload_n hx hb dL_law_1632 rfl (lv_at hl 3 rfl) ?_
  refine lv_iload_n hx hb dL_law_1633 rfl (lv_at hl 0 rfl) ?_
  refine lv_iconst (v := 2) hx hb dL_law_1634 (by decide) ?_
  refine lv_iadd hx hb dL_law_1635 ?_
  refine fn_top 2 (by decide) ?_
  refine va_sld hx hb hX hbl hbA hS (by unfold vp_in; decide) dL_law_1636 ?_
  refine fn_top (xs 2) (congrArg xs (by decide)) ?_
  refine fn_goi (wc := [(x0, .inr (11, [.ref (u 0), .ref (u 10), .ref (u 17), .ref (u 25), .ref (u 26), .ref (u 27), .ref (u 28), .ref (u 29), .ref (u 34), .ref (u 39), .ref (u 43), .ref (u 51), .ref (u 55)])), ((u 10), .inr (7, [.int 0, .int 0, .int 0, .int 0, .int 0, .int 0, .int 0, .int 0, .int 0, .ref (u 11), .ref (u 12), .ref (u 13), .ref (u 14), .ref (u 15), .ref (u 16)]))]) (wr := [(m0, .inr (12, [.int 0, .ref (v 0), .ref (v 1), .ref (v 2), .ref (v 3), .ref (v 4), .int 0, .int 0, .int 0, .int 0, .int 0, .long 0, .int 0, .int 0, .int 0, .int (-1), .ref (v 5), .ref (v 6), .ref (v 7), .ref (v 8), .ref (v 9), .ref (v 10), .ref (v 11), .ref (v 12), .ref (v 13), .ref (v 14), .ref (v 15), .ref (v 16), .ref (v 17), .ref (v 18), .ref (v 19), .ref (v 20), .int 0, .int 0, .int 0, .int 0, .ref (v 21), .ref (v 22), .ref (v 23), .int 0, .int 0, .ref (v 24), .ref (v 25), .int 0, .int 0, .ref (v 26), .ref (v 27), .ref (v 28), .int 0, .int 0, .int 0])), ((v 0), .inl (K 0, 4, .inl fw)), ((v 1), .inl (K 0, 4, .inl (fun _ => 0))), ((v 2), .inl (K 3, 240, .inr (.inl (fun _ => 0)))), ((v 4), .inl (K 1, 1400, .inl (fun _ => 0))), ((v 5), .inl (K 0, 5, .inl (fun _ => 0))), ((v 6), .inl (K 0, 40, .inl (fun _ => 0))), ((v 7), .inl (K 0, 50, .inl (fun _ => 0))), ((v 8), .inl (K 0, 60, .inl (fun _ => 0))), ((v 9), .inl (K 0, 480, .inl (fun _ => 0))), ((v 10), .inl (K 0, 600, .inl (fun _ => 0))), ((v 11), .inl (K 2, 3, .inl (fun _ => 0)))]) hK hP hD hS hA [0, 11] [88, 89, 90, 91, 92, 93, 94, 95, 96, 97, 98, 99] rfl rfl (by decide) (fun hp => va_runV (C := RX11) (As := [.int (xs 1), .int (xs 2)]) (rest := []) ⟨hx, hb, hml, hown, hts⟩ (c_X11_quotes (l := l) (D := D) (K := K) (x0 := (x0)) (p0 := ((xs 1))) (p1 := ((xs 2))) (fx := ([.ref (u 0), .ref (u 10), .ref (u 17), .ref (u 25), .ref (u 26), .ref (u 27), .ref (u 28), .ref (u 29), .ref (u 34), .ref (u 39), .ref (u 43), .ref (u 51), .ref (u 55)])) (t0 := ((u 10))) (hx1 := rfl) (ft := ([.int 0, .int 0, .int 0, .int 0, .int 0, .int 0, .int 0, .int 0, .int 0, .ref (u 11), .ref (u 12), .ref (u 13), .ref (u 14), .ref (u 15), .ref (u 16)])) (ht0 := rfl) (ht3 := rfl) (ht4 := rfl) (ht5 := rfl) _) (cwV 2 hts (fn_ginV (fn_gin wd_1146) wd_1143 wd_1144 wd_1145 wd_1) rfl rfl rfl (by decide +kernel) ⟨Nat.le_of_ble_eq_true rfl, Nat.le_of_ble_eq_true rfl⟩) ⟨fn_blind, va_recv hK.1 hP (ci := 11) (q0 := 0) rfl rfl, hp⟩ rfl rfl hl.1 rfl (lv_room (Nat.le_of_ble_eq_true rfl)) dL_law_1637 ⟨Nat.le_of_ble_eq_true rfl, Nat.le_of_ble_eq_true rfl⟩) (fun r2 u1 H locs hwu1 hP hD hS => ?_)
  have r2_e : r2 = (-2) := hwu1
  subst r2_e
  have hP : va_P D vwCl [(m0, .inr (12, [.int 0, .ref (v 0), .ref (v 1), .ref (v 2), .ref (v 3), .ref (v 4), .int 0, .int 0, .int 0, .int 0, .int 0, .long 0, .int 0, .int 0, .int 0, .int (-1), .ref (v 5), .ref (v 6), .ref (v 7), .ref (v 8), .ref (v 9), .ref (v 10), .ref (v 11), .ref (v 12), .ref (v 13), .ref (v 14), .ref (v 15), .ref (v 16), .ref (v 17), .ref (v 18), .ref (v 19), .ref (v 20), .int 0, .int 0, .int 0, .int 0, .ref (v 21), .ref (v 22), .ref (v 23), .int 0, .int 0, .ref (v 24), .ref (v 25), .int 0, .int 0, .ref (v 26), .ref (v 27), .ref (v 28), .int 0, .int 0, .int 0])), ((v 0), .inl (K 0, 4, .inl fw)), ((v 1), .inl (K 0, 4, .inl (fun _ => 0))), ((v 2), .inl (K 3, 240, .inr (.inl (fun _ => 0)))), ((v 4), .inl (K 1, 1400, .inl (fun _ => 0))), ((v 5), .inl (K 0, 5, .inl (fun _ => 0))), ((v 6), .inl (K 0, 40, .inl (fun _ => 0))), ((v 7), .inl (K 0, 50, .inl (fun _ => 0))), ((v 8), .inl (K 0, 60, .inl (fun _ => 0))), ((v 9), .inl (K 0, 480, .inl (fun _ => 0))), ((v 10), .inl (K 0, 600, .inl (fun _ => 0))), ((v 11), .inl (K 2, 3, .inl (fun _ => 0)))] H := hP
  have hD : va_D A [(m0, .inr (12, [.int 0, .ref (v 0), .ref (v 1), .ref (v 2), .ref (v 3), .ref (v 4), .int 0, .int 0, .int 0, .int 0, .int 0, .long 0, .int 0, .int 0, .int 0, .int (-1), .ref (v 5), .ref (v 6), .ref (v 7), .ref (v 8), .ref (v 9), .ref (v 10), .ref (v 11), .ref (v 12), .ref (v 13), .ref (v 14), .ref (v 15), .ref (v 16), .ref (v 17), .ref (v 18), .ref (v 19), .ref (v 20), .int 0, .int 0, .int 0, .int 0, .ref (v 21), .ref (v 22), .ref (v 23), .int 0, .int 0, .ref (v 24), .ref (v 25), .int 0, .int 0, .ref (v 26), .ref (v 27), .ref (v 28), .int 0, .int 0, .int 0])), ((v 0), .inl (K 0, 4, .inl fw)), ((v 1), .inl (K 0, 4, .inl (fun _ => 0))), ((v 2), .inl (K 3, 240, .inr (.inl (fun _ => 0)))), ((v 4), .inl (K 1, 1400, .inl (fun _ => 0))), ((v 5), .inl (K 0, 5, .inl (fun _ => 0))), ((v 6), .inl (K 0, 40, .inl (fun _ => 0))), ((v 7), .inl (K 0, 50, .inl (fun _ => 0))), ((v 8), .inl (K 0, 60, .inl (fun _ => 0))), ((v 9), .inl (K 0, 480, .inl (fun _ => 0))), ((v 10), .inl (K 0, 600, .inl (fun _ => 0))), ((v 11), .inl (K 2, 3, .inl (fun _ => 0)))] := hD
  refine lv_aload_n hx hb dL_law_1640 rfl (lv_at hl 1 rfl) ?_
  refine lv_aload_n hx hb dL_law_1641 rfl (lv_at hl 3 rfl) ?_
  refine lv_iload_n hx hb dL_law_1642 rfl (lv_at hl 0 rfl) ?_
  refine lv_iconst (v := 1) hx hb dL_law_1643 (by decide) ?_
  refine lv_iadd hx hb dL_law_1644 ?_
  refine fn_top 1 (by decide) ?_
  refine va_sld hx hb hX hbl hbA hS (by unfold vp_in; decide) dL_law_1645 ?_
  refine fn_top (xs 1) (congrArg xs (by decide)) ?_
  refine lv_aload_n hx hb dL_law_1646 rfl (lv_at hl 3 rfl) ?_
  refine fn_at 1647 rfl ?_
  refine lv_iload_n hx hb dL_law_1647 rfl (lv_at hl 0 rfl) ?_
  refine lv_iconst (v := 2) hx hb dL_law_1648 (by decide) ?_
  refine lv_iadd hx hb dL_law_1649 ?_
  refine fn_top 2 (by decide) ?_
  refine va_sld hx hb hX hbl hbA hS (by unfold vp_in; decide) dL_law_1650 ?_
  refine fn_top (xs 2) (congrArg xs (by decide)) ?_
  refine fn_goi (wc := [(m0, .inr (12, [.int 0, .ref (v 0), .ref (v 1), .ref (v 2), .ref (v 3), .ref (v 4), .int 0, .int 0, .int 0, .int 0, .int 0, .long 0, .int 0, .int 0, .int 0, .int (-1), .ref (v 5), .ref (v 6), .ref (v 7), .ref (v 8), .ref (v 9), .ref (v 10), .ref (v 11), .ref (v 12), .ref (v 13), .ref (v 14), .ref (v 15), .ref (v 16), .ref (v 17), .ref (v 18), .ref (v 19), .ref (v 20), .int 0, .int 0, .int 0, .int 0, .ref (v 21), .ref (v 22), .ref (v 23), .int 0, .int 0, .ref (v 24), .ref (v 25), .int 0, .int 0, .ref (v 26), .ref (v 27), .ref (v 28), .int 0, .int 0, .int 0])), ((v 5), .inl (K 0, 5, .inl (fun _ => 0))), ((v 6), .inl (K 0, 40, .inl (fun _ => 0)))]) (wr := []) hK hP hD hS hA [0, 5, 6] [] rfl rfl (by decide) (fun hp => va_runV (C := RX12) (As := [.int (xs 1), .int (xs 2)]) (rest := [.int (-2)]) ⟨hx, hb, hml, hown, hts⟩ (c_X12_quotes (l := l) (D := D) (K := K) (m0 := (m0)) (p0 := ((xs 1))) (p1 := ((xs 2))) (fm := ([.int 0, .ref (v 0), .ref (v 1), .ref (v 2), .ref (v 3), .ref (v 4), .int 0, .int 0, .int 0, .int 0, .int 0, .long 0, .int 0, .int 0, .int 0, .int (-1), .ref (v 5), .ref (v 6), .ref (v 7), .ref (v 8), .ref (v 9), .ref (v 10), .ref (v 11), .ref (v 12), .ref (v 13), .ref (v 14), .ref (v 15), .ref (v 16), .ref (v 17), .ref (v 18), .ref (v 19), .ref (v 20), .int 0, .int 0, .int 0, .int 0, .ref (v 21), .ref (v 22), .ref (v 23), .int 0, .int 0, .ref (v 24), .ref (v 25), .int 0, .int 0, .ref (v 26), .ref (v 27), .ref (v 28), .int 0, .int 0, .int 0])) (hmn := rfl) (al := ((v 5))) (hm16 := rfl) (ah := ((v 6))) (hm17 := rfl) (fl := (fun _ => 0)) (hfl := (fun _ => rfl)) (fh := (fun _ => 0)) (hfh := (fun _ => rfl)) _) (cwV 2 hts (fn_ginV (fn_gin wd_1912) wd_1909 wd_1910 wd_1911 wd_13) rfl rfl rfl (by decide +kernel) ⟨Nat.le_of_ble_eq_true rfl, Nat.le_of_ble_eq_true rfl⟩) ⟨fn_blind, va_recv hK.1 hP (ci := 12) (q0 := 0) rfl rfl, hp⟩ rfl rfl hl.1 rfl (lv_room (Nat.le_of_ble_eq_true rfl)) dL_law_1651 ⟨Nat.le_of_ble_eq_true rfl, Nat.le_of_ble_eq_true rfl⟩) (fun r4 u3 H locs hwu3 hP hD hS => ?_)
  have r4_e : r4 = (-2) := hwu3
  subst r4_e
  have hP : va_P D vwCl [] H := hP
  have hD : va_D A [] := hD
  refine lv_icmp_eq (tgt := 1996) hx hb dL_law_1654 (by decide) (fun _ => ?_) (fun h9 => absurd (by decide) h9)
  refine lv_iinc (v := 6) (lv' := [(3, .int 6), (2, .ref m0), (1, .ref x0), (0, .ref b)]) hx hb dL_law_1996 hl (k := 0) rfl (by decide) (by decide) rfl (fun ls hl => ?_)
  refine lv_goto (tgt := 18) hx hb dL_law_1999 (by decide) ?_
  refine lv_iload_n hx hb dL_law_18 rfl (lv_at hl 0 rfl) ?_
  refine lv_aload_n hx hb dL_law_19 rfl (lv_at hl 3 rfl) ?_
  refine va_slen hx hb hX hbl hbA hS dL_law_20 ?_
  refine fn_top 6 (by decide) ?_
  refine lv_bipush (v := 6) hx hb dL_law_21 (by decide) ?_
  refine lv_isub hx hb dL_law_23 ?_
  refine fn_top 0 (by decide) ?_
  refine lv_icmp_gt (tgt := 2002) hx hb dL_law_24 (by decide) (fun _ => ?_) (fun h9 => absurd (by decide) h9)
  refine lv_iconst (v := 1) hx hb dL_law_2002 (by decide) ?_
  refine va_forget (fun q hq => by have h9 := hS.2.2 q hq; rw [← hAe] at h9; exact h9) ?_
  refine W.widen (k := 600000) (n := 7302250) (Nat.le_of_ble_eq_true rfl) (Nat.le_of_ble_eq_true rfl) ?_
  exact lw_ret hx hb hr hlocks dL_law_2003
theorem dL_law_1659 : decode cL_law 1659 = .ok (.aload_n 1, 1) := by decide +kernel
theorem dL_law_1660 : decode cL_law 1660 = .ok (.aload_n 0, 1) := by decide +kernel
theorem dL_law_1661 : decode cL_law 1661 = .ok (.iload_n 3, 1) := by decide +kernel
theorem dL_law_1662 : decode cL_law 1662 = .ok (.iconst 1, 1) := by decide +kernel
theorem dL_law_1663 : decode cL_law 1663 = .ok (.iadd, 1) := by decide +kernel
theorem dL_law_1664 : decode cL_law 1664 = .ok (.iaload, 1) := by decide +kernel
theorem dL_law_1665 : decode cL_law 1665 = .ok (.invokevirtual 238, 3) := by decide +kernel
theorem dL_law_1668 : decode cL_law 1668 = .ok (.aload_n 2, 1) := by decide +kernel
theorem dL_law_1669 : decode cL_law 1669 = .ok (.aload_n 0, 1) := by decide +kernel
theorem dL_law_1670 : decode cL_law 1670 = .ok (.iload_n 3, 1) := by decide +kernel
theorem dL_law_1671 : decode cL_law 1671 = .ok (.iconst 1, 1) := by decide +kernel
theorem dL_law_1672 : decode cL_law 1672 = .ok (.iadd, 1) := by decide +kernel
theorem dL_law_1673 : decode cL_law 1673 = .ok (.iaload, 1) := by decide +kernel
theorem dL_law_1674 : decode cL_law 1674 = .ok (.invokevirtual 241, 3) := by decide +kernel
theorem dL_law_1677 : decode cL_law 1677 = .ok (.if_icmp .eq 319, 3) := by decide +kernel
set_option maxHeartbeats 4000000 in
set_option maxRecDepth 100000 in
theorem law_55 {p : Program} {l : Launch} {e : Env} {s : State} {m : MethodId} {below : List Frame} {meth : Method} {c : Code} {b : Nat} {xs : Nat → Int32} (hx : p.tables.exec = Jvm.exec) (hb : c.code = cL_law) (hr : meth.sig.returnType = ret) (hml : c.maxLocals = 4) (hown : s.vm.findClass RL = some m.cls) (hts : ∀ w ∈ fn_big, w.before #[Value.ref b] s = true) (hX : va_X b 6 xs s s.heap) (hbl : b < s.heap.size) (hlocks : meth.locks = false) {D : va_G} {K : Nat → ClassId} (hK : fn_KK D K s) {x0 m0 : Nat} {u v : Nat → Nat} {fw : Nat → Int32} (hfw : ∀ j, j < 4 → fw j = -1) {A : Nat → Prop} (hAe : (fun q : Nat => s.heap.size ≤ q) = A) : ∀ (H : Heap) (locs : List Loc) (ls : Array Slot), va_P D vwCl (fn_world K x0 m0 u v fw) H → va_D A (fn_world K x0 m0 u v fw) → va_S A s.heap H locs → lv_has ls 4 [(3, .int 0), (2, .ref m0), (1, .ref x0), (0, .ref b)] → W p l e room_1 s m #[Value.ref b] below meth c H locs 144 12710 (lw_Z below #[Value.ref b] s) (F0 m 1659 ls []) := by
  intro H locs ls hP hD hS hl
  have hA : ∀ q : Nat, s.heap.size ≤ q → A q := fun q h => by rw [← hAe]; exact h
  have hbA : ¬ A b := by rw [← hAe]; exact Nat.not_le.mpr hbl
  refine lv_aload_n hx hb dL_law_1659 rfl (lv_at hl 2 rfl) ?_
  refine lv_aload_n hx hb dL_law_1660 rfl (lv_at hl 3 rfl) ?_
  refine lv_iload_n hx hb dL_law_1661 rfl (lv_at hl 0 rfl) ?_
  refine lv_iconst (v := 1) hx hb dL_law_1662 (by decide) ?_
  refine lv_iadd hx hb dL_law_1663 ?_
  refine fn_top 1 (by decide) ?_
  refine va_sld hx hb hX hbl hbA hS (by unfold vp_in; decide) dL_law_1664 ?_
  refine fn_top (xs 1) (congrArg xs (by decide)) ?_
  refine fn_goi (wc := [(x0, .inr (11, [.ref (u 0), .ref (u 10), .ref (u 17), .ref (u 25), .ref (u 26), .ref (u 27), .ref (u 28), .ref (u 29), .ref (u 34), .ref (u 39), .ref (u 43), .ref (u 51), .ref (u 55)])), ((u 10), .inr (7, [.int 0, .int 0, .int 0, .int 0, .int 0, .int 0, .int 0, .int 0, .int 0, .ref (u 11), .ref (u 12), .ref (u 13), .ref (u 14), .ref (u 15), .ref (u 16)]))]) (wr := [(m0, .inr (12, [.int 0, .ref (v 0), .ref (v 1), .ref (v 2), .ref (v 3), .ref (v 4), .int 0, .int 0, .int 0, .int 0, .int 0, .long 0, .int 0, .int 0, .int 0, .int (-1), .ref (v 5), .ref (v 6), .ref (v 7), .ref (v 8), .ref (v 9), .ref (v 10), .ref (v 11), .ref (v 12), .ref (v 13), .ref (v 14), .ref (v 15), .ref (v 16), .ref (v 17), .ref (v 18), .ref (v 19), .ref (v 20), .int 0, .int 0, .int 0, .int 0, .ref (v 21), .ref (v 22), .ref (v 23), .int 0, .int 0, .ref (v 24), .ref (v 25), .int 0, .int 0, .ref (v 26), .ref (v 27), .ref (v 28), .int 0, .int 0, .int 0])), ((v 0), .inl (K 0, 4, .inl fw)), ((v 1), .inl (K 0, 4, .inl (fun _ => 0))), ((v 2), .inl (K 3, 240, .inr (.inl (fun _ => 0)))), ((v 4), .inl (K 1, 1400, .inl (fun _ => 0))), ((v 5), .inl (K 0, 5, .inl (fun _ => 0))), ((v 6), .inl (K 0, 40, .inl (fun _ => 0))), ((v 7), .inl (K 0, 50, .inl (fun _ => 0))), ((v 8), .inl (K 0, 60, .inl (fun _ => 0))), ((v 9), .inl (K 0, 480, .inl (fun _ => 0))), ((v 10), .inl (K 0, 600, .inl (fun _ => 0))), ((v 11), .inl (K 2, 3, .inl (fun _ => 0)))]) hK hP hD hS hA [0, 11] [88, 89, 90, 91, 92, 93, 94, 95, 96, 97, 98, 99] rfl rfl (by decide) (fun hp => va_runV (C := RX11) (As := [.int (xs 1)]) (rest := []) ⟨hx, hb, hml, hown, hts⟩ (c_X11_drawn (l := l) (D := D) (K := K) (x0 := (x0)) (p0 := ((xs 1))) (fx := ([.ref (u 0), .ref (u 10), .ref (u 17), .ref (u 25), .ref (u 26), .ref (u 27), .ref (u 28), .ref (u 29), .ref (u 34), .ref (u 39), .ref (u 43), .ref (u 51), .ref (u 55)])) (t0 := ((u 10))) (hx1 := rfl) (ft := ([.int 0, .int 0, .int 0, .int 0, .int 0, .int 0, .int 0, .int 0, .int 0, .ref (u 11), .ref (u 12), .ref (u 13), .ref (u 14), .ref (u 15), .ref (u 16)])) (ht0 := rfl) (ht3 := rfl) (ht4 := rfl) (ht5 := rfl) _) (cwV 1 hts (fn_ginV (fn_gin wd_1150) wd_1147 wd_1148 wd_1149 wd_1) rfl rfl rfl (by decide +kernel) ⟨Nat.le_of_ble_eq_true rfl, Nat.le_of_ble_eq_true rfl⟩) ⟨fn_blind, va_recv hK.1 hP (ci := 11) (q0 := 0) rfl rfl, hp⟩ rfl rfl hl.1 rfl (lv_room (Nat.le_of_ble_eq_true rfl)) dL_law_1665 ⟨Nat.le_of_ble_eq_true rfl, Nat.le_of_ble_eq_true rfl⟩) (fun r2 u1 H locs hwu1 hP hD hS => ?_)
  have r2_e : r2 = (-2) := hwu1
  subst r2_e
  have hP : va_P D vwCl [(m0, .inr (12, [.int 0, .ref (v 0), .ref (v 1), .ref (v 2), .ref (v 3), .ref (v 4), .int 0, .int 0, .int 0, .int 0, .int 0, .long 0, .int 0, .int 0, .int 0, .int (-1), .ref (v 5), .ref (v 6), .ref (v 7), .ref (v 8), .ref (v 9), .ref (v 10), .ref (v 11), .ref (v 12), .ref (v 13), .ref (v 14), .ref (v 15), .ref (v 16), .ref (v 17), .ref (v 18), .ref (v 19), .ref (v 20), .int 0, .int 0, .int 0, .int 0, .ref (v 21), .ref (v 22), .ref (v 23), .int 0, .int 0, .ref (v 24), .ref (v 25), .int 0, .int 0, .ref (v 26), .ref (v 27), .ref (v 28), .int 0, .int 0, .int 0])), ((v 0), .inl (K 0, 4, .inl fw)), ((v 1), .inl (K 0, 4, .inl (fun _ => 0))), ((v 2), .inl (K 3, 240, .inr (.inl (fun _ => 0)))), ((v 4), .inl (K 1, 1400, .inl (fun _ => 0))), ((v 5), .inl (K 0, 5, .inl (fun _ => 0))), ((v 6), .inl (K 0, 40, .inl (fun _ => 0))), ((v 7), .inl (K 0, 50, .inl (fun _ => 0))), ((v 8), .inl (K 0, 60, .inl (fun _ => 0))), ((v 9), .inl (K 0, 480, .inl (fun _ => 0))), ((v 10), .inl (K 0, 600, .inl (fun _ => 0))), ((v 11), .inl (K 2, 3, .inl (fun _ => 0)))] H := hP
  have hD : va_D A [(m0, .inr (12, [.int 0, .ref (v 0), .ref (v 1), .ref (v 2), .ref (v 3), .ref (v 4), .int 0, .int 0, .int 0, .int 0, .int 0, .long 0, .int 0, .int 0, .int 0, .int (-1), .ref (v 5), .ref (v 6), .ref (v 7), .ref (v 8), .ref (v 9), .ref (v 10), .ref (v 11), .ref (v 12), .ref (v 13), .ref (v 14), .ref (v 15), .ref (v 16), .ref (v 17), .ref (v 18), .ref (v 19), .ref (v 20), .int 0, .int 0, .int 0, .int 0, .ref (v 21), .ref (v 22), .ref (v 23), .int 0, .int 0, .ref (v 24), .ref (v 25), .int 0, .int 0, .ref (v 26), .ref (v 27), .ref (v 28), .int 0, .int 0, .int 0])), ((v 0), .inl (K 0, 4, .inl fw)), ((v 1), .inl (K 0, 4, .inl (fun _ => 0))), ((v 2), .inl (K 3, 240, .inr (.inl (fun _ => 0)))), ((v 4), .inl (K 1, 1400, .inl (fun _ => 0))), ((v 5), .inl (K 0, 5, .inl (fun _ => 0))), ((v 6), .inl (K 0, 40, .inl (fun _ => 0))), ((v 7), .inl (K 0, 50, .inl (fun _ => 0))), ((v 8), .inl (K 0, 60, .inl (fun _ => 0))), ((v 9), .inl (K 0, 480, .inl (fun _ => 0))), ((v 10), .inl (K 0, 600, .inl (fun _ => 0))), ((v 11), .inl (K 2, 3, .inl (fun _ => 0)))] := hD
  refine lv_aload_n hx hb dL_law_1668 rfl (lv_at hl 1 rfl) ?_
  refine lv_aload_n hx hb dL_law_1669 rfl (lv_at hl 3 rfl) ?_
  refine lv_iload_n hx hb dL_law_1670 rfl (lv_at hl 0 rfl) ?_
  refine lv_iconst (v := 1) hx hb dL_law_1671 (by decide) ?_
  refine lv_iadd hx hb dL_law_1672 ?_
  refine fn_top 1 (by decide) ?_
  refine va_sld hx hb hX hbl hbA hS (by unfold vp_in; decide) dL_law_1673 ?_
  refine fn_top (xs 1) (congrArg xs (by decide)) ?_
  refine fn_goi (wc := [(m0, .inr (12, [.int 0, .ref (v 0), .ref (v 1), .ref (v 2), .ref (v 3), .ref (v 4), .int 0, .int 0, .int 0, .int 0, .int 0, .long 0, .int 0, .int 0, .int 0, .int (-1), .ref (v 5), .ref (v 6), .ref (v 7), .ref (v 8), .ref (v 9), .ref (v 10), .ref (v 11), .ref (v 12), .ref (v 13), .ref (v 14), .ref (v 15), .ref (v 16), .ref (v 17), .ref (v 18), .ref (v 19), .ref (v 20), .int 0, .int 0, .int 0, .int 0, .ref (v 21), .ref (v 22), .ref (v 23), .int 0, .int 0, .ref (v 24), .ref (v 25), .int 0, .int 0, .ref (v 26), .ref (v 27), .ref (v 28), .int 0, .int 0, .int 0])), ((v 5), .inl (K 0, 5, .inl (fun _ => 0))), ((v 6), .inl (K 0, 40, .inl (fun _ => 0)))]) (wr := []) hK hP hD hS hA [0, 5, 6] [] rfl rfl (by decide) (fun hp => va_runV (C := RX12) (As := [.int (xs 1)]) (rest := [.int (-2)]) ⟨hx, hb, hml, hown, hts⟩ (c_X12_drawn (l := l) (D := D) (K := K) (m0 := (m0)) (p0 := ((xs 1))) (fm := ([.int 0, .ref (v 0), .ref (v 1), .ref (v 2), .ref (v 3), .ref (v 4), .int 0, .int 0, .int 0, .int 0, .int 0, .long 0, .int 0, .int 0, .int 0, .int (-1), .ref (v 5), .ref (v 6), .ref (v 7), .ref (v 8), .ref (v 9), .ref (v 10), .ref (v 11), .ref (v 12), .ref (v 13), .ref (v 14), .ref (v 15), .ref (v 16), .ref (v 17), .ref (v 18), .ref (v 19), .ref (v 20), .int 0, .int 0, .int 0, .int 0, .ref (v 21), .ref (v 22), .ref (v 23), .int 0, .int 0, .ref (v 24), .ref (v 25), .int 0, .int 0, .ref (v 26), .ref (v 27), .ref (v 28), .int 0, .int 0, .int 0])) (hmn := rfl) (al := ((v 5))) (hm16 := rfl) (ah := ((v 6))) (hm17 := rfl) (fl := (fun _ => 0)) (hfl := (fun _ => rfl)) (fh := (fun _ => 0)) (hfh := (fun _ => rfl)) _) (cwV 1 hts (fn_ginV (fn_gin wd_1916) wd_1913 wd_1914 wd_1915 wd_13) rfl rfl rfl (by decide +kernel) ⟨Nat.le_of_ble_eq_true rfl, Nat.le_of_ble_eq_true rfl⟩) ⟨fn_blind, va_recv hK.1 hP (ci := 12) (q0 := 0) rfl rfl, hp⟩ rfl rfl hl.1 rfl (lv_room (Nat.le_of_ble_eq_true rfl)) dL_law_1674 ⟨Nat.le_of_ble_eq_true rfl, Nat.le_of_ble_eq_true rfl⟩) (fun r4 u3 H locs hwu3 hP hD hS => ?_)
  have r4_e : r4 = (-2) := hwu3
  subst r4_e
  have hP : va_P D vwCl [] H := hP
  have hD : va_D A [] := hD
  refine lv_icmp_eq (tgt := 1996) hx hb dL_law_1677 (by decide) (fun _ => ?_) (fun h9 => absurd (by decide) h9)
  refine lv_iinc (v := 6) (lv' := [(3, .int 6), (2, .ref m0), (1, .ref x0), (0, .ref b)]) hx hb dL_law_1996 hl (k := 0) rfl (by decide) (by decide) rfl (fun ls hl => ?_)
  refine lv_goto (tgt := 18) hx hb dL_law_1999 (by decide) ?_
  refine lv_iload_n hx hb dL_law_18 rfl (lv_at hl 0 rfl) ?_
  refine lv_aload_n hx hb dL_law_19 rfl (lv_at hl 3 rfl) ?_
  refine fn_at 20 rfl ?_
  refine va_slen hx hb hX hbl hbA hS dL_law_20 ?_
  refine fn_top 6 (by decide) ?_
  refine lv_bipush (v := 6) hx hb dL_law_21 (by decide) ?_
  refine lv_isub hx hb dL_law_23 ?_
  refine fn_top 0 (by decide) ?_
  refine lv_icmp_gt (tgt := 2002) hx hb dL_law_24 (by decide) (fun _ => ?_) (fun h9 => absurd (by decide) h9)
  refine lv_iconst (v := 1) hx hb dL_law_2002 (by decide) ?_
  refine va_forget (fun q hq => by have h9 := hS.2.2 q hq; rw [← hAe] at h9; exact h9) ?_
  refine W.widen (k := 600000) (n := 7302250) (Nat.le_of_ble_eq_true rfl) (Nat.le_of_ble_eq_true rfl) ?_
  exact lw_ret hx hb hr hlocks dL_law_2003
theorem dL_law_1682 : decode cL_law 1682 = .ok (.aload_n 1, 1) := by decide +kernel
theorem dL_law_1683 : decode cL_law 1683 = .ok (.aload_n 0, 1) := by decide +kernel
theorem dL_law_1684 : decode cL_law 1684 = .ok (.iload_n 3, 1) := by decide +kernel
theorem dL_law_1685 : decode cL_law 1685 = .ok (.iconst 1, 1) := by decide +kernel
theorem dL_law_1686 : decode cL_law 1686 = .ok (.iadd, 1) := by decide +kernel
theorem dL_law_1687 : decode cL_law 1687 = .ok (.iaload, 1) := by decide +kernel
theorem dL_law_1688 : decode cL_law 1688 = .ok (.invokevirtual 242, 3) := by decide +kernel
theorem dL_law_1691 : decode cL_law 1691 = .ok (.aload_n 2, 1) := by decide +kernel
theorem dL_law_1692 : decode cL_law 1692 = .ok (.aload_n 0, 1) := by decide +kernel
theorem dL_law_1693 : decode cL_law 1693 = .ok (.iload_n 3, 1) := by decide +kernel
theorem dL_law_1694 : decode cL_law 1694 = .ok (.iconst 1, 1) := by decide +kernel
theorem dL_law_1695 : decode cL_law 1695 = .ok (.iadd, 1) := by decide +kernel
theorem dL_law_1696 : decode cL_law 1696 = .ok (.iaload, 1) := by decide +kernel
theorem dL_law_1697 : decode cL_law 1697 = .ok (.invokevirtual 245, 3) := by decide +kernel
theorem dL_law_1700 : decode cL_law 1700 = .ok (.if_icmp .eq 296, 3) := by decide +kernel
set_option maxHeartbeats 4000000 in
set_option maxRecDepth 100000 in
theorem law_56 {p : Program} {l : Launch} {e : Env} {s : State} {m : MethodId} {below : List Frame} {meth : Method} {c : Code} {b : Nat} {xs : Nat → Int32} (hx : p.tables.exec = Jvm.exec) (hb : c.code = cL_law) (hr : meth.sig.returnType = ret) (hml : c.maxLocals = 4) (hown : s.vm.findClass RL = some m.cls) (hts : ∀ w ∈ fn_big, w.before #[Value.ref b] s = true) (hX : va_X b 6 xs s s.heap) (hbl : b < s.heap.size) (hlocks : meth.locks = false) {D : va_G} {K : Nat → ClassId} (hK : fn_KK D K s) {x0 m0 : Nat} {u v : Nat → Nat} {fw : Nat → Int32} (hfw : ∀ j, j < 4 → fw j = -1) {A : Nat → Prop} (hAe : (fun q : Nat => s.heap.size ≤ q) = A) : ∀ (H : Heap) (locs : List Loc) (ls : Array Slot), va_P D vwCl (fn_world K x0 m0 u v fw) H → va_D A (fn_world K x0 m0 u v fw) → va_S A s.heap H locs → lv_has ls 4 [(3, .int 0), (2, .ref m0), (1, .ref x0), (0, .ref b)] → W p l e room_1 s m #[Value.ref b] below meth c H locs 144 12710 (lw_Z below #[Value.ref b] s) (F0 m 1682 ls []) := by
  intro H locs ls hP hD hS hl
  have hA : ∀ q : Nat, s.heap.size ≤ q → A q := fun q h => by rw [← hAe]; exact h
  have hbA : ¬ A b := by rw [← hAe]; exact Nat.not_le.mpr hbl
  refine lv_aload_n hx hb dL_law_1682 rfl (lv_at hl 2 rfl) ?_
  refine lv_aload_n hx hb dL_law_1683 rfl (lv_at hl 3 rfl) ?_
  refine lv_iload_n hx hb dL_law_1684 rfl (lv_at hl 0 rfl) ?_
  refine lv_iconst (v := 1) hx hb dL_law_1685 (by decide) ?_
  refine lv_iadd hx hb dL_law_1686 ?_
  refine fn_top 1 (by decide) ?_
  refine va_sld hx hb hX hbl hbA hS (by unfold vp_in; decide) dL_law_1687 ?_
  refine fn_top (xs 1) (congrArg xs (by decide)) ?_
  refine fn_goi (wc := [(x0, .inr (11, [.ref (u 0), .ref (u 10), .ref (u 17), .ref (u 25), .ref (u 26), .ref (u 27), .ref (u 28), .ref (u 29), .ref (u 34), .ref (u 39), .ref (u 43), .ref (u 51), .ref (u 55)])), ((u 10), .inr (7, [.int 0, .int 0, .int 0, .int 0, .int 0, .int 0, .int 0, .int 0, .int 0, .ref (u 11), .ref (u 12), .ref (u 13), .ref (u 14), .ref (u 15), .ref (u 16)]))]) (wr := [(m0, .inr (12, [.int 0, .ref (v 0), .ref (v 1), .ref (v 2), .ref (v 3), .ref (v 4), .int 0, .int 0, .int 0, .int 0, .int 0, .long 0, .int 0, .int 0, .int 0, .int (-1), .ref (v 5), .ref (v 6), .ref (v 7), .ref (v 8), .ref (v 9), .ref (v 10), .ref (v 11), .ref (v 12), .ref (v 13), .ref (v 14), .ref (v 15), .ref (v 16), .ref (v 17), .ref (v 18), .ref (v 19), .ref (v 20), .int 0, .int 0, .int 0, .int 0, .ref (v 21), .ref (v 22), .ref (v 23), .int 0, .int 0, .ref (v 24), .ref (v 25), .int 0, .int 0, .ref (v 26), .ref (v 27), .ref (v 28), .int 0, .int 0, .int 0])), ((v 0), .inl (K 0, 4, .inl fw)), ((v 1), .inl (K 0, 4, .inl (fun _ => 0))), ((v 2), .inl (K 3, 240, .inr (.inl (fun _ => 0)))), ((v 4), .inl (K 1, 1400, .inl (fun _ => 0))), ((v 5), .inl (K 0, 5, .inl (fun _ => 0))), ((v 6), .inl (K 0, 40, .inl (fun _ => 0))), ((v 7), .inl (K 0, 50, .inl (fun _ => 0))), ((v 8), .inl (K 0, 60, .inl (fun _ => 0))), ((v 9), .inl (K 0, 480, .inl (fun _ => 0))), ((v 10), .inl (K 0, 600, .inl (fun _ => 0))), ((v 11), .inl (K 2, 3, .inl (fun _ => 0)))]) hK hP hD hS hA [0, 11] [88, 89, 90, 91, 92, 93, 94, 95, 96, 97, 98, 99] rfl rfl (by decide) (fun hp => va_runV (C := RX11) (As := [.int (xs 1)]) (rest := []) ⟨hx, hb, hml, hown, hts⟩ (c_X11_shaken (l := l) (D := D) (K := K) (x0 := (x0)) (p0 := ((xs 1))) (fx := ([.ref (u 0), .ref (u 10), .ref (u 17), .ref (u 25), .ref (u 26), .ref (u 27), .ref (u 28), .ref (u 29), .ref (u 34), .ref (u 39), .ref (u 43), .ref (u 51), .ref (u 55)])) (t0 := ((u 10))) (hx1 := rfl) (ft := ([.int 0, .int 0, .int 0, .int 0, .int 0, .int 0, .int 0, .int 0, .int 0, .ref (u 11), .ref (u 12), .ref (u 13), .ref (u 14), .ref (u 15), .ref (u 16)])) (ht0 := rfl) (ht3 := rfl) (ht4 := rfl) (ht5 := rfl) _) (cwV 1 hts (fn_ginV (fn_gin wd_1168) wd_1165 wd_1166 wd_1167 wd_1) rfl rfl rfl (by decide +kernel) ⟨Nat.le_of_ble_eq_true rfl, Nat.le_of_ble_eq_true rfl⟩) ⟨fn_blind, va_recv hK.1 hP (ci := 11) (q0 := 0) rfl rfl, hp⟩ rfl rfl hl.1 rfl (lv_room (Nat.le_of_ble_eq_true rfl)) dL_law_1688 ⟨Nat.le_of_ble_eq_true rfl, Nat.le_of_ble_eq_true rfl⟩) (fun r2 u1 H locs hwu1 hP hD hS => ?_)
  have r2_e : r2 = (-2) := hwu1
  subst r2_e
  have hP : va_P D vwCl [(m0, .inr (12, [.int 0, .ref (v 0), .ref (v 1), .ref (v 2), .ref (v 3), .ref (v 4), .int 0, .int 0, .int 0, .int 0, .int 0, .long 0, .int 0, .int 0, .int 0, .int (-1), .ref (v 5), .ref (v 6), .ref (v 7), .ref (v 8), .ref (v 9), .ref (v 10), .ref (v 11), .ref (v 12), .ref (v 13), .ref (v 14), .ref (v 15), .ref (v 16), .ref (v 17), .ref (v 18), .ref (v 19), .ref (v 20), .int 0, .int 0, .int 0, .int 0, .ref (v 21), .ref (v 22), .ref (v 23), .int 0, .int 0, .ref (v 24), .ref (v 25), .int 0, .int 0, .ref (v 26), .ref (v 27), .ref (v 28), .int 0, .int 0, .int 0])), ((v 0), .inl (K 0, 4, .inl fw)), ((v 1), .inl (K 0, 4, .inl (fun _ => 0))), ((v 2), .inl (K 3, 240, .inr (.inl (fun _ => 0)))), ((v 4), .inl (K 1, 1400, .inl (fun _ => 0))), ((v 5), .inl (K 0, 5, .inl (fun _ => 0))), ((v 6), .inl (K 0, 40, .inl (fun _ => 0))), ((v 7), .inl (K 0, 50, .inl (fun _ => 0))), ((v 8), .inl (K 0, 60, .inl (fun _ => 0))), ((v 9), .inl (K 0, 480, .inl (fun _ => 0))), ((v 10), .inl (K 0, 600, .inl (fun _ => 0))), ((v 11), .inl (K 2, 3, .inl (fun _ => 0)))] H := hP
  have hD : va_D A [(m0, .inr (12, [.int 0, .ref (v 0), .ref (v 1), .ref (v 2), .ref (v 3), .ref (v 4), .int 0, .int 0, .int 0, .int 0, .int 0, .long 0, .int 0, .int 0, .int 0, .int (-1), .ref (v 5), .ref (v 6), .ref (v 7), .ref (v 8), .ref (v 9), .ref (v 10), .ref (v 11), .ref (v 12), .ref (v 13), .ref (v 14), .ref (v 15), .ref (v 16), .ref (v 17), .ref (v 18), .ref (v 19), .ref (v 20), .int 0, .int 0, .int 0, .int 0, .ref (v 21), .ref (v 22), .ref (v 23), .int 0, .int 0, .ref (v 24), .ref (v 25), .int 0, .int 0, .ref (v 26), .ref (v 27), .ref (v 28), .int 0, .int 0, .int 0])), ((v 0), .inl (K 0, 4, .inl fw)), ((v 1), .inl (K 0, 4, .inl (fun _ => 0))), ((v 2), .inl (K 3, 240, .inr (.inl (fun _ => 0)))), ((v 4), .inl (K 1, 1400, .inl (fun _ => 0))), ((v 5), .inl (K 0, 5, .inl (fun _ => 0))), ((v 6), .inl (K 0, 40, .inl (fun _ => 0))), ((v 7), .inl (K 0, 50, .inl (fun _ => 0))), ((v 8), .inl (K 0, 60, .inl (fun _ => 0))), ((v 9), .inl (K 0, 480, .inl (fun _ => 0))), ((v 10), .inl (K 0, 600, .inl (fun _ => 0))), ((v 11), .inl (K 2, 3, .inl (fun _ => 0)))] := hD
  refine lv_aload_n hx hb dL_law_1691 rfl (lv_at hl 1 rfl) ?_
  refine lv_aload_n hx hb dL_law_1692 rfl (lv_at hl 3 rfl) ?_
  refine lv_iload_n hx hb dL_law_1693 rfl (lv_at hl 0 rfl) ?_
  refine lv_iconst (v := 1) hx hb dL_law_1694 (by decide) ?_
  refine lv_iadd hx hb dL_law_1695 ?_
  refine fn_top 1 (by decide) ?_
  refine va_sld hx hb hX hbl hbA hS (by unfold vp_in; decide) dL_law_1696 ?_
  refine fn_top (xs 1) (congrArg xs (by decide)) ?_
  refine fn_goi (wc := [(m0, .inr (12, [.int 0, .ref (v 0), .ref (v 1), .ref (v 2), .ref (v 3), .ref (v 4), .int 0, .int 0, .int 0, .int 0, .int 0, .long 0, .int 0, .int 0, .int 0, .int (-1), .ref (v 5), .ref (v 6), .ref (v 7), .ref (v 8), .ref (v 9), .ref (v 10), .ref (v 11), .ref (v 12), .ref (v 13), .ref (v 14), .ref (v 15), .ref (v 16), .ref (v 17), .ref (v 18), .ref (v 19), .ref (v 20), .int 0, .int 0, .int 0, .int 0, .ref (v 21), .ref (v 22), .ref (v 23), .int 0, .int 0, .ref (v 24), .ref (v 25), .int 0, .int 0, .ref (v 26), .ref (v 27), .ref (v 28), .int 0, .int 0, .int 0])), ((v 5), .inl (K 0, 5, .inl (fun _ => 0))), ((v 6), .inl (K 0, 40, .inl (fun _ => 0)))]) (wr := []) hK hP hD hS hA [0, 5, 6] [] rfl rfl (by decide) (fun hp => va_runV (C := RX12) (As := [.int (xs 1)]) (rest := [.int (-2)]) ⟨hx, hb, hml, hown, hts⟩ (c_X12_shaken (l := l) (D := D) (K := K) (m0 := (m0)) (p0 := ((xs 1))) (fm := ([.int 0, .ref (v 0), .ref (v 1), .ref (v 2), .ref (v 3), .ref (v 4), .int 0, .int 0, .int 0, .int 0, .int 0, .long 0, .int 0, .int 0, .int 0, .int (-1), .ref (v 5), .ref (v 6), .ref (v 7), .ref (v 8), .ref (v 9), .ref (v 10), .ref (v 11), .ref (v 12), .ref (v 13), .ref (v 14), .ref (v 15), .ref (v 16), .ref (v 17), .ref (v 18), .ref (v 19), .ref (v 20), .int 0, .int 0, .int 0, .int 0, .ref (v 21), .ref (v 22), .ref (v 23), .int 0, .int 0, .ref (v 24), .ref (v 25), .int 0, .int 0, .ref (v 26), .ref (v 27), .ref (v 28), .int 0, .int 0, .int 0])) (hmn := rfl) (al := ((v 5))) (hm16 := rfl) (ah := ((v 6))) (hm17 := rfl) (fl := (fun _ => 0)) (hfl := (fun _ => rfl)) (fh := (fun _ => 0)) (hfh := (fun _ => rfl)) _) (cwV 1 hts (fn_ginV (fn_gin wd_1934) wd_1931 wd_1932 wd_1933 wd_13) rfl rfl rfl (by decide +kernel) ⟨Nat.le_of_ble_eq_true rfl, Nat.le_of_ble_eq_true rfl⟩) ⟨fn_blind, va_recv hK.1 hP (ci := 12) (q0 := 0) rfl rfl, hp⟩ rfl rfl hl.1 rfl (lv_room (Nat.le_of_ble_eq_true rfl)) dL_law_1697 ⟨Nat.le_of_ble_eq_true rfl, Nat.le_of_ble_eq_true rfl⟩) (fun r4 u3 H locs hwu3 hP hD hS => ?_)
  have r4_e : r4 = (-2) := hwu3
  subst r4_e
  have hP : va_P D vwCl [] H := hP
  have hD : va_D A [] := hD
  refine lv_icmp_eq (tgt := 1996) hx hb dL_law_1700 (by decide) (fun _ => ?_) (fun h9 => absurd (by decide) h9)
  refine lv_iinc (v := 6) (lv' := [(3, .int 6), (2, .ref m0), (1, .ref x0), (0, .ref b)]) hx hb dL_law_1996 hl (k := 0) rfl (by decide) (by decide) rfl (fun ls hl => ?_)
  refine lv_goto (tgt := 18) hx hb dL_law_1999 (by decide) ?_
  refine lv_iload_n hx hb dL_law_18 rfl (lv_at hl 0 rfl) ?_
  refine lv_aload_n hx hb dL_law_19 rfl (lv_at hl 3 rfl) ?_
  refine fn_at 20 rfl ?_
  refine va_slen hx hb hX hbl hbA hS dL_law_20 ?_
  refine fn_top 6 (by decide) ?_
  refine lv_bipush (v := 6) hx hb dL_law_21 (by decide) ?_
  refine lv_isub hx hb dL_law_23 ?_
  refine fn_top 0 (by decide) ?_
  refine lv_icmp_gt (tgt := 2002) hx hb dL_law_24 (by decide) (fun _ => ?_) (fun h9 => absurd (by decide) h9)
  refine lv_iconst (v := 1) hx hb dL_law_2002 (by decide) ?_
  refine va_forget (fun q hq => by have h9 := hS.2.2 q hq; rw [← hAe] at h9; exact h9) ?_
  refine W.widen (k := 600000) (n := 7302250) (Nat.le_of_ble_eq_true rfl) (Nat.le_of_ble_eq_true rfl) ?_
  exact lw_ret hx hb hr hlocks dL_law_2003
theorem dL_law_1705 : decode cL_law 1705 = .ok (.aload_n 1, 1) := by decide +kernel
theorem dL_law_1706 : decode cL_law 1706 = .ok (.aload_n 0, 1) := by decide +kernel
theorem dL_law_1707 : decode cL_law 1707 = .ok (.iload_n 3, 1) := by decide +kernel
theorem dL_law_1708 : decode cL_law 1708 = .ok (.iconst 1, 1) := by decide +kernel
theorem dL_law_1709 : decode cL_law 1709 = .ok (.iadd, 1) := by decide +kernel
theorem dL_law_1710 : decode cL_law 1710 = .ok (.iaload, 1) := by decide +kernel
theorem dL_law_1711 : decode cL_law 1711 = .ok (.aload_n 0, 1) := by decide +kernel
theorem dL_law_1712 : decode cL_law 1712 = .ok (.iload_n 3, 1) := by decide +kernel
theorem dL_law_1713 : decode cL_law 1713 = .ok (.iconst 2, 1) := by decide +kernel
theorem dL_law_1714 : decode cL_law 1714 = .ok (.iadd, 1) := by decide +kernel
theorem dL_law_1715 : decode cL_law 1715 = .ok (.iaload, 1) := by decide +kernel
theorem dL_law_1716 : decode cL_law 1716 = .ok (.aload_n 0, 1) := by decide +kernel
theorem dL_law_1717 : decode cL_law 1717 = .ok (.iload_n 3, 1) := by decide +kernel
theorem dL_law_1718 : decode cL_law 1718 = .ok (.iconst 3, 1) := by decide +kernel
theorem dL_law_1719 : decode cL_law 1719 = .ok (.iadd, 1) := by decide +kernel
theorem dL_law_1720 : decode cL_law 1720 = .ok (.iaload, 1) := by decide +kernel
theorem dL_law_1721 : decode cL_law 1721 = .ok (.invokevirtual 246, 3) := by decide +kernel
theorem dL_law_1724 : decode cL_law 1724 = .ok (.aload_n 2, 1) := by decide +kernel
theorem dL_law_1725 : decode cL_law 1725 = .ok (.aload_n 0, 1) := by decide +kernel
theorem dL_law_1726 : decode cL_law 1726 = .ok (.iload_n 3, 1) := by decide +kernel
theorem dL_law_1727 : decode cL_law 1727 = .ok (.iconst 1, 1) := by decide +kernel
theorem dL_law_1728 : decode cL_law 1728 = .ok (.iadd, 1) := by decide +kernel
theorem dL_law_1729 : decode cL_law 1729 = .ok (.iaload, 1) := by decide +kernel
theorem dL_law_1730 : decode cL_law 1730 = .ok (.aload_n 0, 1) := by decide +kernel
theorem dL_law_1731 : decode cL_law 1731 = .ok (.iload_n 3, 1) := by decide +kernel
theorem dL_law_1732 : decode cL_law 1732 = .ok (.iconst 2, 1) := by decide +kernel
theorem dL_law_1733 : decode cL_law 1733 = .ok (.iadd, 1) := by decide +kernel
theorem dL_law_1734 : decode cL_law 1734 = .ok (.iaload, 1) := by decide +kernel
theorem dL_law_1735 : decode cL_law 1735 = .ok (.aload_n 0, 1) := by decide +kernel
theorem dL_law_1736 : decode cL_law 1736 = .ok (.iload_n 3, 1) := by decide +kernel
theorem dL_law_1737 : decode cL_law 1737 = .ok (.iconst 3, 1) := by decide +kernel
theorem dL_law_1738 : decode cL_law 1738 = .ok (.iadd, 1) := by decide +kernel
theorem dL_law_1739 : decode cL_law 1739 = .ok (.iaload, 1) := by decide +kernel
theorem dL_law_1740 : decode cL_law 1740 = .ok (.invokevirtual 249, 3) := by decide +kernel
theorem dL_law_1743 : decode cL_law 1743 = .ok (.if_icmp .eq 253, 3) := by decide +kernel
set_option maxHeartbeats 4000000 in
set_option maxRecDepth 100000 in
theorem law_57 {p : Program} {l : Launch} {e : Env} {s : State} {m : MethodId} {below : List Frame} {meth : Method} {c : Code} {b : Nat} {xs : Nat → Int32} (hx : p.tables.exec = Jvm.exec) (hb : c.code = cL_law) (hr : meth.sig.returnType = ret) (hml : c.maxLocals = 4) (hown : s.vm.findClass RL = some m.cls) (hts : ∀ w ∈ fn_big, w.before #[Value.ref b] s = true) (hX : va_X b 6 xs s s.heap) (hbl : b < s.heap.size) (hlocks : meth.locks = false) {D : va_G} {K : Nat → ClassId} (hK : fn_KK D K s) {x0 m0 : Nat} {u v : Nat → Nat} {fw : Nat → Int32} (hfw : ∀ j, j < 4 → fw j = -1) {A : Nat → Prop} (hAe : (fun q : Nat => s.heap.size ≤ q) = A) : ∀ (H : Heap) (locs : List Loc) (ls : Array Slot), va_P D vwCl (fn_world K x0 m0 u v fw) H → va_D A (fn_world K x0 m0 u v fw) → va_S A s.heap H locs → lv_has ls 4 [(3, .int 0), (2, .ref m0), (1, .ref x0), (0, .ref b)] → W p l e room_1 s m #[Value.ref b] below meth c H locs 144 12710 (lw_Z below #[Value.ref b] s) (F0 m 1705 ls []) := by
  intro H locs ls hP hD hS hl
  have hA : ∀ q : Nat, s.heap.size ≤ q → A q := fun q h => by rw [← hAe]; exact h
  have hbA : ¬ A b := by rw [← hAe]; exact Nat.not_le.mpr hbl
  refine lv_aload_n hx hb dL_law_1705 rfl (lv_at hl 2 rfl) ?_
  refine lv_aload_n hx hb dL_law_1706 rfl (lv_at hl 3 rfl) ?_
  refine lv_iload_n hx hb dL_law_1707 rfl (lv_at hl 0 rfl) ?_
  refine lv_iconst (v := 1) hx hb dL_law_1708 (by decide) ?_
  refine lv_iadd hx hb dL_law_1709 ?_
  refine fn_top 1 (by decide) ?_
  refine va_sld hx hb hX hbl hbA hS (by unfold vp_in; decide) dL_law_1710 ?_
  refine fn_top (xs 1) (congrArg xs (by decide)) ?_
  refine lv_aload_n hx hb dL_law_1711 rfl (lv_at hl 3 rfl) ?_
  refine lv_iload_n hx hb dL_law_1712 rfl (lv_at hl 0 rfl) ?_
  refine lv_iconst (v := 2) hx hb dL_law_1713 (by decide) ?_
  refine lv_iadd hx hb dL_law_1714 ?_
  refine fn_top 2 (by decide) ?_
  refine va_sld hx hb hX hbl hbA hS (by unfold vp_in; decide) dL_law_1715 ?_
  refine fn_top (xs 2) (congrArg xs (by decide)) ?_
  refine lv_aload_n hx hb dL_law_1716 rfl (lv_at hl 3 rfl) ?_
  refine lv_iload_n hx hb dL_law_1717 rfl (lv_at hl 0 rfl) ?_
  refine lv_iconst (v := 3) hx hb dL_law_1718 (by decide) ?_
  refine lv_iadd hx hb dL_law_1719 ?_
  refine fn_top 3 (by decide) ?_
  refine va_sld hx hb hX hbl hbA hS (by unfold vp_in; decide) dL_law_1720 ?_
  refine fn_top (xs 3) (congrArg xs (by decide)) ?_
  refine fn_goi (wc := [(x0, .inr (11, [.ref (u 0), .ref (u 10), .ref (u 17), .ref (u 25), .ref (u 26), .ref (u 27), .ref (u 28), .ref (u 29), .ref (u 34), .ref (u 39), .ref (u 43), .ref (u 51), .ref (u 55)])), ((u 10), .inr (7, [.int 0, .int 0, .int 0, .int 0, .int 0, .int 0, .int 0, .int 0, .int 0, .ref (u 11), .ref (u 12), .ref (u 13), .ref (u 14), .ref (u 15), .ref (u 16)]))]) (wr := [(m0, .inr (12, [.int 0, .ref (v 0), .ref (v 1), .ref (v 2), .ref (v 3), .ref (v 4), .int 0, .int 0, .int 0, .int 0, .int 0, .long 0, .int 0, .int 0, .int 0, .int (-1), .ref (v 5), .ref (v 6), .ref (v 7), .ref (v 8), .ref (v 9), .ref (v 10), .ref (v 11), .ref (v 12), .ref (v 13), .ref (v 14), .ref (v 15), .ref (v 16), .ref (v 17), .ref (v 18), .ref (v 19), .ref (v 20), .int 0, .int 0, .int 0, .int 0, .ref (v 21), .ref (v 22), .ref (v 23), .int 0, .int 0, .ref (v 24), .ref (v 25), .int 0, .int 0, .ref (v 26), .ref (v 27), .ref (v 28), .int 0, .int 0, .int 0])), ((v 0), .inl (K 0, 4, .inl fw)), ((v 1), .inl (K 0, 4, .inl (fun _ => 0))), ((v 2), .inl (K 3, 240, .inr (.inl (fun _ => 0)))), ((v 4), .inl (K 1, 1400, .inl (fun _ => 0))), ((v 5), .inl (K 0, 5, .inl (fun _ => 0))), ((v 6), .inl (K 0, 40, .inl (fun _ => 0))), ((v 7), .inl (K 0, 50, .inl (fun _ => 0))), ((v 8), .inl (K 0, 60, .inl (fun _ => 0))), ((v 9), .inl (K 0, 480, .inl (fun _ => 0))), ((v 10), .inl (K 0, 600, .inl (fun _ => 0))), ((v 11), .inl (K 2, 3, .inl (fun _ => 0)))]) hK hP hD hS hA [0, 11] [88, 89, 90, 91, 92, 93, 94, 95, 96, 97, 98, 99] rfl rfl (by decide) (fun hp => va_runV (C := RX11) (As := [.int (xs 1), .int (xs 2), .int (xs 3)]) (rest := []) ⟨hx, hb, hml, hown, hts⟩ (c_X11_years (l := l) (D := D) (K := K) (x0 := (x0)) (p0 := ((xs 1))) (p1 := ((xs 2))) (p2 := ((xs 3))) (fx := ([.ref (u 0), .ref (u 10), .ref (u 17), .ref (u 25), .ref (u 26), .ref (u 27), .ref (u 28), .ref (u 29), .ref (u 34), .ref (u 39), .ref (u 43), .ref (u 51), .ref (u 55)])) (t0 := ((u 10))) (hx1 := rfl) (ft := ([.int 0, .int 0, .int 0, .int 0, .int 0, .int 0, .int 0, .int 0, .int 0, .ref (u 11), .ref (u 12), .ref (u 13), .ref (u 14), .ref (u 15), .ref (u 16)])) (ht0 := rfl) (ht3 := rfl) (ht4 := rfl) (ht5 := rfl) _) (cwV 3 hts (fn_ginV (fn_gin wd_1176) wd_1173 wd_1174 wd_1175 wd_1) rfl rfl rfl (by decide +kernel) ⟨Nat.le_of_ble_eq_true rfl, Nat.le_of_ble_eq_true rfl⟩) ⟨fn_blind, va_recv hK.1 hP (ci := 11) (q0 := 0) rfl rfl, hp⟩ rfl rfl hl.1 rfl (lv_room (Nat.le_of_ble_eq_true rfl)) dL_law_1721 ⟨Nat.le_of_ble_eq_true rfl, Nat.le_of_ble_eq_true rfl⟩) (fun r2 u1 H locs hwu1 hP hD hS => ?_)
  have r2_e : r2 = (-2) := hwu1
  subst r2_e
  have hP : va_P D vwCl [(m0, .inr (12, [.int 0, .ref (v 0), .ref (v 1), .ref (v 2), .ref (v 3), .ref (v 4), .int 0, .int 0, .int 0, .int 0, .int 0, .long 0, .int 0, .int 0, .int 0, .int (-1), .ref (v 5), .ref (v 6), .ref (v 7), .ref (v 8), .ref (v 9), .ref (v 10), .ref (v 11), .ref (v 12), .ref (v 13), .ref (v 14), .ref (v 15), .ref (v 16), .ref (v 17), .ref (v 18), .ref (v 19), .ref (v 20), .int 0, .int 0, .int 0, .int 0, .ref (v 21), .ref (v 22), .ref (v 23), .int 0, .int 0, .ref (v 24), .ref (v 25), .int 0, .int 0, .ref (v 26), .ref (v 27), .ref (v 28), .int 0, .int 0, .int 0])), ((v 0), .inl (K 0, 4, .inl fw)), ((v 1), .inl (K 0, 4, .inl (fun _ => 0))), ((v 2), .inl (K 3, 240, .inr (.inl (fun _ => 0)))), ((v 4), .inl (K 1, 1400, .inl (fun _ => 0))), ((v 5), .inl (K 0, 5, .inl (fun _ => 0))), ((v 6), .inl (K 0, 40, .inl (fun _ => 0))), ((v 7), .inl (K 0, 50, .inl (fun _ => 0))), ((v 8), .inl (K 0, 60, .inl (fun _ => 0))), ((v 9), .inl (K 0, 480, .inl (fun _ => 0))), ((v 10), .inl (K 0, 600, .inl (fun _ => 0))), ((v 11), .inl (K 2, 3, .inl (fun _ => 0)))] H := hP
  have hD : va_D A [(m0, .inr (12, [.int 0, .ref (v 0), .ref (v 1), .ref (v 2), .ref (v 3), .ref (v 4), .int 0, .int 0, .int 0, .int 0, .int 0, .long 0, .int 0, .int 0, .int 0, .int (-1), .ref (v 5), .ref (v 6), .ref (v 7), .ref (v 8), .ref (v 9), .ref (v 10), .ref (v 11), .ref (v 12), .ref (v 13), .ref (v 14), .ref (v 15), .ref (v 16), .ref (v 17), .ref (v 18), .ref (v 19), .ref (v 20), .int 0, .int 0, .int 0, .int 0, .ref (v 21), .ref (v 22), .ref (v 23), .int 0, .int 0, .ref (v 24), .ref (v 25), .int 0, .int 0, .ref (v 26), .ref (v 27), .ref (v 28), .int 0, .int 0, .int 0])), ((v 0), .inl (K 0, 4, .inl fw)), ((v 1), .inl (K 0, 4, .inl (fun _ => 0))), ((v 2), .inl (K 3, 240, .inr (.inl (fun _ => 0)))), ((v 4), .inl (K 1, 1400, .inl (fun _ => 0))), ((v 5), .inl (K 0, 5, .inl (fun _ => 0))), ((v 6), .inl (K 0, 40, .inl (fun _ => 0))), ((v 7), .inl (K 0, 50, .inl (fun _ => 0))), ((v 8), .inl (K 0, 60, .inl (fun _ => 0))), ((v 9), .inl (K 0, 480, .inl (fun _ => 0))), ((v 10), .inl (K 0, 600, .inl (fun _ => 0))), ((v 11), .inl (K 2, 3, .inl (fun _ => 0)))] := hD
  refine lv_aload_n hx hb dL_law_1724 rfl (lv_at hl 1 rfl) ?_
  refine lv_aload_n hx hb dL_law_1725 rfl (lv_at hl 3 rfl) ?_
  refine fn_at 1726 rfl ?_
  refine lv_iload_n hx hb dL_law_1726 rfl (lv_at hl 0 rfl) ?_
  refine lv_iconst (v := 1) hx hb dL_law_1727 (by decide) ?_
  refine lv_iadd hx hb dL_law_1728 ?_
  refine fn_top 1 (by decide) ?_
  refine va_sld hx hb hX hbl hbA hS (by unfold vp_in; decide) dL_law_1729 ?_
  refine fn_top (xs 1) (congrArg xs (by decide)) ?_
  refine lv_aload_n hx hb dL_law_1730 rfl (lv_at hl 3 rfl) ?_
  refine lv_iload_n hx hb dL_law_1731 rfl (lv_at hl 0 rfl) ?_
  refine lv_iconst (v := 2) hx hb dL_law_1732 (by decide) ?_
  refine lv_iadd hx hb dL_law_1733 ?_
  refine fn_top 2 (by decide) ?_
  refine va_sld hx hb hX hbl hbA hS (by unfold vp_in; decide) dL_law_1734 ?_
  refine fn_top (xs 2) (congrArg xs (by decide)) ?_
  refine lv_aload_n hx hb dL_law_1735 rfl (lv_at hl 3 rfl) ?_
  refine lv_iload_n hx hb dL_law_1736 rfl (lv_at hl 0 rfl) ?_
  refine lv_iconst (v := 3) hx hb dL_law_1737 (by decide) ?_
  refine lv_iadd hx hb dL_law_1738 ?_
  refine fn_top 3 (by decide) ?_
  refine va_sld hx hb hX hbl hbA hS (by unfold vp_in; decide) dL_law_1739 ?_
  refine fn_top (xs 3) (congrArg xs (by decide)) ?_
  refine fn_goi (wc := [(m0, .inr (12, [.int 0, .ref (v 0), .ref (v 1), .ref (v 2), .ref (v 3), .ref (v 4), .int 0, .int 0, .int 0, .int 0, .int 0, .long 0, .int 0, .int 0, .int 0, .int (-1), .ref (v 5), .ref (v 6), .ref (v 7), .ref (v 8), .ref (v 9), .ref (v 10), .ref (v 11), .ref (v 12), .ref (v 13), .ref (v 14), .ref (v 15), .ref (v 16), .ref (v 17), .ref (v 18), .ref (v 19), .ref (v 20), .int 0, .int 0, .int 0, .int 0, .ref (v 21), .ref (v 22), .ref (v 23), .int 0, .int 0, .ref (v 24), .ref (v 25), .int 0, .int 0, .ref (v 26), .ref (v 27), .ref (v 28), .int 0, .int 0, .int 0])), ((v 5), .inl (K 0, 5, .inl (fun _ => 0))), ((v 6), .inl (K 0, 40, .inl (fun _ => 0)))]) (wr := []) hK hP hD hS hA [0, 5, 6] [] rfl rfl (by decide) (fun hp => va_runV (C := RX12) (As := [.int (xs 1), .int (xs 2), .int (xs 3)]) (rest := [.int (-2)]) ⟨hx, hb, hml, hown, hts⟩ (c_X12_years (l := l) (D := D) (K := K) (m0 := (m0)) (p0 := ((xs 1))) (p1 := ((xs 2))) (p2 := ((xs 3))) (fm := ([.int 0, .ref (v 0), .ref (v 1), .ref (v 2), .ref (v 3), .ref (v 4), .int 0, .int 0, .int 0, .int 0, .int 0, .long 0, .int 0, .int 0, .int 0, .int (-1), .ref (v 5), .ref (v 6), .ref (v 7), .ref (v 8), .ref (v 9), .ref (v 10), .ref (v 11), .ref (v 12), .ref (v 13), .ref (v 14), .ref (v 15), .ref (v 16), .ref (v 17), .ref (v 18), .ref (v 19), .ref (v 20), .int 0, .int 0, .int 0, .int 0, .ref (v 21), .ref (v 22), .ref (v 23), .int 0, .int 0, .ref (v 24), .ref (v 25), .int 0, .int 0, .ref (v 26), .ref (v 27), .ref (v 28), .int 0, .int 0, .int 0])) (hmn := rfl) (al := ((v 5))) (hm16 := rfl) (ah := ((v 6))) (hm17 := rfl) (fl := (fun _ => 0)) (hfl := (fun _ => rfl)) (fh := (fun _ => 0)) (hfh := (fun _ => rfl)) _) (cwV 3 hts (fn_ginV (fn_gin wd_1938) wd_1935 wd_1936 wd_1937 wd_13) rfl rfl rfl (by decide +kernel) ⟨Nat.le_of_ble_eq_true rfl, Nat.le_of_ble_eq_true rfl⟩) ⟨fn_blind, va_recv hK.1 hP (ci := 12) (q0 := 0) rfl rfl, hp⟩ rfl rfl hl.1 rfl (lv_room (Nat.le_of_ble_eq_true rfl)) dL_law_1740 ⟨Nat.le_of_ble_eq_true rfl, Nat.le_of_ble_eq_true rfl⟩) (fun r4 u3 H locs hwu3 hP hD hS => ?_)
  have r4_e : r4 = (-2) := hwu3
  subst r4_e
  have hP : va_P D vwCl [] H := hP
  have hD : va_D A [] := hD
  refine lv_icmp_eq (tgt := 1996) hx hb dL_law_1743 (by decide) (fun _ => ?_) (fun h9 => absurd (by decide) h9)
  refine lv_iinc (v := 6) (lv' := [(3, .int 6), (2, .ref m0), (1, .ref x0), (0, .ref b)]) hx hb dL_law_1996 hl (k := 0) rfl (by decide) (by decide) rfl (fun ls hl => ?_)
  refine lv_goto (tgt := 18) hx hb dL_law_1999 (by decide) ?_
  refine lv_iload_n hx hb dL_law_18 rfl (lv_at hl 0 rfl) ?_
  refine lv_aload_n hx hb dL_law_19 rfl (lv_at hl 3 rfl) ?_
  refine fn_at 20 rfl ?_
  refine va_slen hx hb hX hbl hbA hS dL_law_20 ?_
  refine fn_top 6 (by decide) ?_
  refine lv_bipush (v := 6) hx hb dL_law_21 (by decide) ?_
  refine lv_isub hx hb dL_law_23 ?_
  refine fn_top 0 (by decide) ?_
  refine lv_icmp_gt (tgt := 2002) hx hb dL_law_24 (by decide) (fun _ => ?_) (fun h9 => absurd (by decide) h9)
  refine lv_iconst (v := 1) hx hb dL_law_2002 (by decide) ?_
  refine va_forget (fun q hq => by have h9 := hS.2.2 q hq; rw [← hAe] at h9; exact h9) ?_
  refine W.widen (k := 600000) (n := 7302250) (Nat.le_of_ble_eq_true rfl) (Nat.le_of_ble_eq_true rfl) ?_
  exact lw_ret hx hb hr hlocks dL_law_2003
theorem dL_law_1748 : decode cL_law 1748 = .ok (.aload_n 1, 1) := by decide +kernel
theorem dL_law_1749 : decode cL_law 1749 = .ok (.aload_n 0, 1) := by decide +kernel
theorem dL_law_1750 : decode cL_law 1750 = .ok (.iload_n 3, 1) := by decide +kernel
theorem dL_law_1751 : decode cL_law 1751 = .ok (.iconst 1, 1) := by decide +kernel
theorem dL_law_1752 : decode cL_law 1752 = .ok (.iadd, 1) := by decide +kernel
theorem dL_law_1753 : decode cL_law 1753 = .ok (.iaload, 1) := by decide +kernel
theorem dL_law_1754 : decode cL_law 1754 = .ok (.invokevirtual 250, 3) := by decide +kernel
theorem dL_law_1757 : decode cL_law 1757 = .ok (.aload_n 2, 1) := by decide +kernel
theorem dL_law_1758 : decode cL_law 1758 = .ok (.aload_n 0, 1) := by decide +kernel
theorem dL_law_1759 : decode cL_law 1759 = .ok (.iload_n 3, 1) := by decide +kernel
theorem dL_law_1760 : decode cL_law 1760 = .ok (.iconst 1, 1) := by decide +kernel
theorem dL_law_1761 : decode cL_law 1761 = .ok (.iadd, 1) := by decide +kernel
theorem dL_law_1762 : decode cL_law 1762 = .ok (.iaload, 1) := by decide +kernel
theorem dL_law_1763 : decode cL_law 1763 = .ok (.invokevirtual 253, 3) := by decide +kernel
theorem dL_law_1766 : decode cL_law 1766 = .ok (.if_icmp .eq 230, 3) := by decide +kernel
set_option maxHeartbeats 4000000 in
set_option maxRecDepth 100000 in
theorem law_58 {p : Program} {l : Launch} {e : Env} {s : State} {m : MethodId} {below : List Frame} {meth : Method} {c : Code} {b : Nat} {xs : Nat → Int32} (hx : p.tables.exec = Jvm.exec) (hb : c.code = cL_law) (hr : meth.sig.returnType = ret) (hml : c.maxLocals = 4) (hown : s.vm.findClass RL = some m.cls) (hts : ∀ w ∈ fn_big, w.before #[Value.ref b] s = true) (hX : va_X b 6 xs s s.heap) (hbl : b < s.heap.size) (hlocks : meth.locks = false) {D : va_G} {K : Nat → ClassId} (hK : fn_KK D K s) {x0 m0 : Nat} {u v : Nat → Nat} {fw : Nat → Int32} (hfw : ∀ j, j < 4 → fw j = -1) {A : Nat → Prop} (hAe : (fun q : Nat => s.heap.size ≤ q) = A) : ∀ (H : Heap) (locs : List Loc) (ls : Array Slot), va_P D vwCl (fn_world K x0 m0 u v fw) H → va_D A (fn_world K x0 m0 u v fw) → va_S A s.heap H locs → lv_has ls 4 [(3, .int 0), (2, .ref m0), (1, .ref x0), (0, .ref b)] → W p l e room_1 s m #[Value.ref b] below meth c H locs 144 12710 (lw_Z below #[Value.ref b] s) (F0 m 1748 ls []) := by
  intro H locs ls hP hD hS hl
  have hA : ∀ q : Nat, s.heap.size ≤ q → A q := fun q h => by rw [← hAe]; exact h
  have hbA : ¬ A b := by rw [← hAe]; exact Nat.not_le.mpr hbl
  refine lv_aload_n hx hb dL_law_1748 rfl (lv_at hl 2 rfl) ?_
  refine lv_aload_n hx hb dL_law_1749 rfl (lv_at hl 3 rfl) ?_
  refine lv_iload_n hx hb dL_law_1750 rfl (lv_at hl 0 rfl) ?_
  refine lv_iconst (v := 1) hx hb dL_law_1751 (by decide) ?_
  refine lv_iadd hx hb dL_law_1752 ?_
  refine fn_top 1 (by decide) ?_
  refine va_sld hx hb hX hbl hbA hS (by unfold vp_in; decide) dL_law_1753 ?_
  refine fn_top (xs 1) (congrArg xs (by decide)) ?_
  refine fn_goi (wc := [(x0, .inr (11, [.ref (u 0), .ref (u 10), .ref (u 17), .ref (u 25), .ref (u 26), .ref (u 27), .ref (u 28), .ref (u 29), .ref (u 34), .ref (u 39), .ref (u 43), .ref (u 51), .ref (u 55)])), ((u 0), .inr (3, [.ref (u 1), .ref (u 3), .int 0, .int (-1)])), ((u 1), .inr (6, [.int 0, .ref (u 2), .int 0, .int 0, .int 0])), ((u 10), .inr (7, [.int 0, .int 0, .int 0, .int 0, .int 0, .int 0, .int 0, .int 0, .int 0, .ref (u 11), .ref (u 12), .ref (u 13), .ref (u 14), .ref (u 15), .ref (u 16)])), ((u 17), .inr (5, [.int 0, .ref (u 18), .ref (u 19), .ref (u 20), .ref (u 21), .ref (u 22), .ref (u 23), .ref (u 24)])), ((u 28), .inl (K 6, 4, .inr (.inr (.inr (.inr (va_up (va_up (va_up (va_up (fun _ => none) (Int32.toNatClampNeg 0) (some (u 105))) (Int32.toNatClampNeg 1) (some (u 107))) (Int32.toNatClampNeg 2) (some (u 109))) (Int32.toNatClampNeg 3) (some (u 111)))))))), ((u 105), .inr (4, [.int 0, .int 0, .int 0, .ref (u 106)])), ((u 107), .inr (4, [.int 0, .int 0, .int 0, .ref (u 108)])), ((u 109), .inr (4, [.int 0, .int 0, .int 0, .ref (u 110)])), ((u 111), .inr (4, [.int 0, .int 0, .int 0, .ref (u 112)]))]) (wr := [(m0, .inr (12, [.int 0, .ref (v 0), .ref (v 1), .ref (v 2), .ref (v 3), .ref (v 4), .int 0, .int 0, .int 0, .int 0, .int 0, .long 0, .int 0, .int 0, .int 0, .int (-1), .ref (v 5), .ref (v 6), .ref (v 7), .ref (v 8), .ref (v 9), .ref (v 10), .ref (v 11), .ref (v 12), .ref (v 13), .ref (v 14), .ref (v 15), .ref (v 16), .ref (v 17), .ref (v 18), .ref (v 19), .ref (v 20), .int 0, .int 0, .int 0, .int 0, .ref (v 21), .ref (v 22), .ref (v 23), .int 0, .int 0, .ref (v 24), .ref (v 25), .int 0, .int 0, .ref (v 26), .ref (v 27), .ref (v 28), .int 0, .int 0, .int 0])), ((v 0), .inl (K 0, 4, .inl fw)), ((v 1), .inl (K 0, 4, .inl (fun _ => 0))), ((v 2), .inl (K 3, 240, .inr (.inl (fun _ => 0)))), ((v 4), .inl (K 1, 1400, .inl (fun _ => 0))), ((v 5), .inl (K 0, 5, .inl (fun _ => 0))), ((v 6), .inl (K 0, 40, .inl (fun _ => 0))), ((v 7), .inl (K 0, 50, .inl (fun _ => 0))), ((v 8), .inl (K 0, 60, .inl (fun _ => 0))), ((v 9), .inl (K 0, 480, .inl (fun _ => 0))), ((v 10), .inl (K 0, 600, .inl (fun _ => 0))), ((v 11), .inl (K 2, 3, .inl (fun _ => 0)))]) hK hP hD hS hA [0, 1, 2, 11, 18, 29, 80, 82, 84, 86] [88, 89, 90, 91, 92, 93, 94, 95, 96, 97, 98, 99] rfl rfl (by decide) (fun hp => va_runV (C := RX11) (As := [.int (xs 1)]) (rest := []) ⟨hx, hb, hml, hown, hts⟩ (c_X11_count (l := l) (D := D) (K := K) (x0 := (x0)) (p0 := ((xs 1))) (fx := ([.ref (u 0), .ref (u 10), .ref (u 17), .ref (u 25), .ref (u 26), .ref (u 27), .ref (u 28), .ref (u 29), .ref (u 34), .ref (u 39), .ref (u 43), .ref (u 51), .ref (u 55)])) (rd := ((u 0))) (hx0 := rfl) (t0 := ((u 10))) (hx1 := rfl) (sh := ((u 17))) (hx2 := rfl) (rw := ((u 28))) (hx6 := rfl) (tp := ((u 1))) (td := ((u 3))) (tb := ((u 2))) (t0_ := ((u 11))) (t1_ := ((u 12))) (t2_ := ((u 13))) (t3_ := ((u 14))) (t4_ := ((u 15))) (t5_ := ((u 16))) (s0 := ((u 18))) (s1 := ((u 19))) (s2 := ((u 20))) (s3 := ((u 21))) (s4 := ((u 22))) (s5 := ((u 23))) (s6 := ((u 24))) (r0 := ((u 105))) (hrw_0 := rfl) (r1 := ((u 107))) (hrw_1 := rfl) (r2 := ((u 109))) (hrw_2 := rfl) (r3 := ((u 111))) (hrw_3 := rfl) (frw := (va_up (va_up (va_up (va_up (fun _ => none) (Int32.toNatClampNeg 0) (some (u 105))) (Int32.toNatClampNeg 1) (some (u 107))) (Int32.toNatClampNeg 2) (some (u 109))) (Int32.toNatClampNeg 3) (some (u 111)))) (n0 := ((u 106))) (n1 := ((u 108))) (n2 := ((u 110))) (n3 := ((u 112))) _) (cwV 1 hts (fn_ginV (fn_gin wd_1180) wd_1177 wd_1178 wd_1179 wd_1) rfl rfl rfl (by decide +kernel) ⟨Nat.le_of_ble_eq_true rfl, Nat.le_of_ble_eq_true rfl⟩) ⟨fn_blind, va_recv hK.1 hP (ci := 11) (q0 := 0) rfl rfl, hp⟩ rfl rfl hl.1 rfl (lv_room (Nat.le_of_ble_eq_true rfl)) dL_law_1754 ⟨Nat.le_of_ble_eq_true rfl, Nat.le_of_ble_eq_true rfl⟩) (fun r2 u1 H locs hwu1 hP hD hS => ?_)
  have r2_e : r2 = (fn_sCnt ((xs 1))) := hwu1
  subst r2_e
  have hP : va_P D vwCl [(m0, .inr (12, [.int 0, .ref (v 0), .ref (v 1), .ref (v 2), .ref (v 3), .ref (v 4), .int 0, .int 0, .int 0, .int 0, .int 0, .long 0, .int 0, .int 0, .int 0, .int (-1), .ref (v 5), .ref (v 6), .ref (v 7), .ref (v 8), .ref (v 9), .ref (v 10), .ref (v 11), .ref (v 12), .ref (v 13), .ref (v 14), .ref (v 15), .ref (v 16), .ref (v 17), .ref (v 18), .ref (v 19), .ref (v 20), .int 0, .int 0, .int 0, .int 0, .ref (v 21), .ref (v 22), .ref (v 23), .int 0, .int 0, .ref (v 24), .ref (v 25), .int 0, .int 0, .ref (v 26), .ref (v 27), .ref (v 28), .int 0, .int 0, .int 0])), ((v 0), .inl (K 0, 4, .inl fw)), ((v 1), .inl (K 0, 4, .inl (fun _ => 0))), ((v 2), .inl (K 3, 240, .inr (.inl (fun _ => 0)))), ((v 4), .inl (K 1, 1400, .inl (fun _ => 0))), ((v 5), .inl (K 0, 5, .inl (fun _ => 0))), ((v 6), .inl (K 0, 40, .inl (fun _ => 0))), ((v 7), .inl (K 0, 50, .inl (fun _ => 0))), ((v 8), .inl (K 0, 60, .inl (fun _ => 0))), ((v 9), .inl (K 0, 480, .inl (fun _ => 0))), ((v 10), .inl (K 0, 600, .inl (fun _ => 0))), ((v 11), .inl (K 2, 3, .inl (fun _ => 0)))] H := hP
  have hD : va_D A [(m0, .inr (12, [.int 0, .ref (v 0), .ref (v 1), .ref (v 2), .ref (v 3), .ref (v 4), .int 0, .int 0, .int 0, .int 0, .int 0, .long 0, .int 0, .int 0, .int 0, .int (-1), .ref (v 5), .ref (v 6), .ref (v 7), .ref (v 8), .ref (v 9), .ref (v 10), .ref (v 11), .ref (v 12), .ref (v 13), .ref (v 14), .ref (v 15), .ref (v 16), .ref (v 17), .ref (v 18), .ref (v 19), .ref (v 20), .int 0, .int 0, .int 0, .int 0, .ref (v 21), .ref (v 22), .ref (v 23), .int 0, .int 0, .ref (v 24), .ref (v 25), .int 0, .int 0, .ref (v 26), .ref (v 27), .ref (v 28), .int 0, .int 0, .int 0])), ((v 0), .inl (K 0, 4, .inl fw)), ((v 1), .inl (K 0, 4, .inl (fun _ => 0))), ((v 2), .inl (K 3, 240, .inr (.inl (fun _ => 0)))), ((v 4), .inl (K 1, 1400, .inl (fun _ => 0))), ((v 5), .inl (K 0, 5, .inl (fun _ => 0))), ((v 6), .inl (K 0, 40, .inl (fun _ => 0))), ((v 7), .inl (K 0, 50, .inl (fun _ => 0))), ((v 8), .inl (K 0, 60, .inl (fun _ => 0))), ((v 9), .inl (K 0, 480, .inl (fun _ => 0))), ((v 10), .inl (K 0, 600, .inl (fun _ => 0))), ((v 11), .inl (K 2, 3, .inl (fun _ => 0)))] := hD
  refine lv_aload_n hx hb dL_law_1757 rfl (lv_at hl 1 rfl) ?_
  refine lv_aload_n hx hb dL_law_1758 rfl (lv_at hl 3 rfl) ?_
  refine lv_iload_n hx hb dL_law_1759 rfl (lv_at hl 0 rfl) ?_
  refine lv_iconst (v := 1) hx hb dL_law_1760 (by decide) ?_
  refine lv_iadd hx hb dL_law_1761 ?_
  refine fn_top 1 (by decide) ?_
  refine va_sld hx hb hX hbl hbA hS (by unfold vp_in; decide) dL_law_1762 ?_
  refine fn_top (xs 1) (congrArg xs (by decide)) ?_
  refine fn_goi (wc := [(m0, .inr (12, [.int 0, .ref (v 0), .ref (v 1), .ref (v 2), .ref (v 3), .ref (v 4), .int 0, .int 0, .int 0, .int 0, .int 0, .long 0, .int 0, .int 0, .int 0, .int (-1), .ref (v 5), .ref (v 6), .ref (v 7), .ref (v 8), .ref (v 9), .ref (v 10), .ref (v 11), .ref (v 12), .ref (v 13), .ref (v 14), .ref (v 15), .ref (v 16), .ref (v 17), .ref (v 18), .ref (v 19), .ref (v 20), .int 0, .int 0, .int 0, .int 0, .ref (v 21), .ref (v 22), .ref (v 23), .int 0, .int 0, .ref (v 24), .ref (v 25), .int 0, .int 0, .ref (v 26), .ref (v 27), .ref (v 28), .int 0, .int 0, .int 0])), ((v 0), .inl (K 0, 4, .inl fw)), ((v 5), .inl (K 0, 5, .inl (fun _ => 0))), ((v 6), .inl (K 0, 40, .inl (fun _ => 0)))]) (wr := []) hK hP hD hS hA [0, 1, 5, 6] [] rfl rfl (by decide) (fun hp => va_runV (C := RX12) (As := [.int (xs 1)]) (rest := [.int (fn_sCnt ((xs 1)))]) ⟨hx, hb, hml, hown, hts⟩ (c_X12_count (l := l) (D := D) (K := K) (m0 := (m0)) (p0 := ((xs 1))) (fm := ([.int 0, .ref (v 0), .ref (v 1), .ref (v 2), .ref (v 3), .ref (v 4), .int 0, .int 0, .int 0, .int 0, .int 0, .long 0, .int 0, .int 0, .int 0, .int (-1), .ref (v 5), .ref (v 6), .ref (v 7), .ref (v 8), .ref (v 9), .ref (v 10), .ref (v 11), .ref (v 12), .ref (v 13), .ref (v 14), .ref (v 15), .ref (v 16), .ref (v 17), .ref (v 18), .ref (v 19), .ref (v 20), .int 0, .int 0, .int 0, .int 0, .ref (v 21), .ref (v 22), .ref (v 23), .int 0, .int 0, .ref (v 24), .ref (v 25), .int 0, .int 0, .ref (v 26), .ref (v 27), .ref (v 28), .int 0, .int 0, .int 0])) (hmn := rfl) (aw := ((v 0))) (hm1 := rfl) (hm6 := rfl) (al := ((v 5))) (hm16 := rfl) (ah := ((v 6))) (hm17 := rfl) (faw := (fw)) (fal := (fun _ => 0)) (hfal := (fun _ => rfl)) (fah := (fun _ => 0)) (hfah := (fun _ => rfl)) (hfaw := hfw) _) (cwV 1 hts (fn_ginV (fn_gin wd_1943) wd_1940 wd_1941 wd_1942 wd_13) rfl rfl rfl (by decide +kernel) ⟨Nat.le_of_ble_eq_true rfl, Nat.le_of_ble_eq_true rfl⟩) ⟨fn_blind, va_recv hK.1 hP (ci := 12) (q0 := 0) rfl rfl, hp⟩ rfl rfl hl.1 rfl (lv_room (Nat.le_of_ble_eq_true rfl)) dL_law_1763 ⟨Nat.le_of_ble_eq_true rfl, Nat.le_of_ble_eq_true rfl⟩) (fun r4 u3 H locs hwu3 hP hD hS => ?_)
  have r4_e : r4 = (fn_sCnt ((xs 1))) := hwu3
  subst r4_e
  have hP : va_P D vwCl [] H := hP
  have hD : va_D A [] := hD
  refine lv_icmp_eq (tgt := 1996) hx hb dL_law_1766 (by decide) (fun _ => ?_) (fun h9 => absurd rfl h9)
  refine lv_iinc (v := 6) (lv' := [(3, .int 6), (2, .ref m0), (1, .ref x0), (0, .ref b)]) hx hb dL_law_1996 hl (k := 0) rfl (by decide) (by decide) rfl (fun ls hl => ?_)
  refine lv_goto (tgt := 18) hx hb dL_law_1999 (by decide) ?_
  refine lv_iload_n hx hb dL_law_18 rfl (lv_at hl 0 rfl) ?_
  refine lv_aload_n hx hb dL_law_19 rfl (lv_at hl 3 rfl) ?_
  refine fn_at 20 rfl ?_
  refine va_slen hx hb hX hbl hbA hS dL_law_20 ?_
  refine fn_top 6 (by decide) ?_
  refine lv_bipush (v := 6) hx hb dL_law_21 (by decide) ?_
  refine lv_isub hx hb dL_law_23 ?_
  refine fn_top 0 (by decide) ?_
  refine lv_icmp_gt (tgt := 2002) hx hb dL_law_24 (by decide) (fun _ => ?_) (fun h9 => absurd (by decide) h9)
  refine lv_iconst (v := 1) hx hb dL_law_2002 (by decide) ?_
  refine va_forget (fun q hq => by have h9 := hS.2.2 q hq; rw [← hAe] at h9; exact h9) ?_
  refine W.widen (k := 600000) (n := 7302250) (Nat.le_of_ble_eq_true rfl) (Nat.le_of_ble_eq_true rfl) ?_
  exact lw_ret hx hb hr hlocks dL_law_2003
theorem dL_law_1771 : decode cL_law 1771 = .ok (.aload_n 1, 1) := by decide +kernel
theorem dL_law_1772 : decode cL_law 1772 = .ok (.aload_n 0, 1) := by decide +kernel
theorem dL_law_1773 : decode cL_law 1773 = .ok (.iload_n 3, 1) := by decide +kernel
theorem dL_law_1774 : decode cL_law 1774 = .ok (.iconst 1, 1) := by decide +kernel
theorem dL_law_1775 : decode cL_law 1775 = .ok (.iadd, 1) := by decide +kernel
theorem dL_law_1776 : decode cL_law 1776 = .ok (.iaload, 1) := by decide +kernel
theorem dL_law_1777 : decode cL_law 1777 = .ok (.invokevirtual 254, 3) := by decide +kernel
theorem dL_law_1780 : decode cL_law 1780 = .ok (.aload_n 2, 1) := by decide +kernel
theorem dL_law_1781 : decode cL_law 1781 = .ok (.aload_n 0, 1) := by decide +kernel
theorem dL_law_1782 : decode cL_law 1782 = .ok (.iload_n 3, 1) := by decide +kernel
theorem dL_law_1783 : decode cL_law 1783 = .ok (.iconst 1, 1) := by decide +kernel
theorem dL_law_1784 : decode cL_law 1784 = .ok (.iadd, 1) := by decide +kernel
theorem dL_law_1785 : decode cL_law 1785 = .ok (.iaload, 1) := by decide +kernel
theorem dL_law_1786 : decode cL_law 1786 = .ok (.invokevirtual 257, 3) := by decide +kernel
theorem dL_law_1789 : decode cL_law 1789 = .ok (.if_icmp .eq 207, 3) := by decide +kernel
set_option maxHeartbeats 4000000 in
set_option maxRecDepth 100000 in
theorem law_59 {p : Program} {l : Launch} {e : Env} {s : State} {m : MethodId} {below : List Frame} {meth : Method} {c : Code} {b : Nat} {xs : Nat → Int32} (hx : p.tables.exec = Jvm.exec) (hb : c.code = cL_law) (hr : meth.sig.returnType = ret) (hml : c.maxLocals = 4) (hown : s.vm.findClass RL = some m.cls) (hts : ∀ w ∈ fn_big, w.before #[Value.ref b] s = true) (hX : va_X b 6 xs s s.heap) (hbl : b < s.heap.size) (hlocks : meth.locks = false) {D : va_G} {K : Nat → ClassId} (hK : fn_KK D K s) {x0 m0 : Nat} {u v : Nat → Nat} {fw : Nat → Int32} (hfw : ∀ j, j < 4 → fw j = -1) {A : Nat → Prop} (hAe : (fun q : Nat => s.heap.size ≤ q) = A) : ∀ (H : Heap) (locs : List Loc) (ls : Array Slot), va_P D vwCl (fn_world K x0 m0 u v fw) H → va_D A (fn_world K x0 m0 u v fw) → va_S A s.heap H locs → lv_has ls 4 [(3, .int 0), (2, .ref m0), (1, .ref x0), (0, .ref b)] → W p l e room_1 s m #[Value.ref b] below meth c H locs 144 12710 (lw_Z below #[Value.ref b] s) (F0 m 1771 ls []) := by
  intro H locs ls hP hD hS hl
  have hA : ∀ q : Nat, s.heap.size ≤ q → A q := fun q h => by rw [← hAe]; exact h
  have hbA : ¬ A b := by rw [← hAe]; exact Nat.not_le.mpr hbl
  refine lv_aload_n hx hb dL_law_1771 rfl (lv_at hl 2 rfl) ?_
  refine lv_aload_n hx hb dL_law_1772 rfl (lv_at hl 3 rfl) ?_
  refine lv_iload_n hx hb dL_law_1773 rfl (lv_at hl 0 rfl) ?_
  refine lv_iconst (v := 1) hx hb dL_law_1774 (by decide) ?_
  refine lv_iadd hx hb dL_law_1775 ?_
  refine fn_top 1 (by decide) ?_
  refine va_sld hx hb hX hbl hbA hS (by unfold vp_in; decide) dL_law_1776 ?_
  refine fn_top (xs 1) (congrArg xs (by decide)) ?_
  refine fn_goi (wc := [(x0, .inr (11, [.ref (u 0), .ref (u 10), .ref (u 17), .ref (u 25), .ref (u 26), .ref (u 27), .ref (u 28), .ref (u 29), .ref (u 34), .ref (u 39), .ref (u 43), .ref (u 51), .ref (u 55)])), ((u 10), .inr (7, [.int 0, .int 0, .int 0, .int 0, .int 0, .int 0, .int 0, .int 0, .int 0, .ref (u 11), .ref (u 12), .ref (u 13), .ref (u 14), .ref (u 15), .ref (u 16)])), ((u 11), .inl (K 0, 5, .inl (fun _ => 0))), ((u 12), .inl (K 0, 6, .inl (fun _ => 0))), ((u 13), .inl (K 0, 12, .inl (fun _ => 0))), ((u 14), .inl (K 0, 24, .inl (fun _ => 0))), ((u 15), .inl (K 0, 24, .inl (fun _ => 0))), ((u 16), .inl (K 0, 24, .inl (fun _ => 0))), ((u 17), .inr (5, [.int 0, .ref (u 18), .ref (u 19), .ref (u 20), .ref (u 21), .ref (u 22), .ref (u 23), .ref (u 24)])), ((u 18), .inl (K 0, 5, .inl (fun _ => 0))), ((u 19), .inl (K 0, 150, .inl (fun _ => 0))), ((u 20), .inl (K 0, 24, .inl (fun _ => 0))), ((u 21), .inl (K 0, 40, .inl (fun _ => 0))), ((u 22), .inl (K 0, 40, .inl (fun _ => 0))), ((u 23), .inl (K 0, 40, .inl (fun _ => 0))), ((u 24), .inl (K 0, 40, .inl (fun _ => 0))), ((u 25), .inl (K 4, 3, .inr (.inr (.inr (.inr (va_up (va_up (va_up (fun _ => none) (Int32.toNatClampNeg 0) (some (u 60))) (Int32.toNatClampNeg 1) (some (u 75))) (Int32.toNatClampNeg 2) (some (u 90)))))))), ((u 26), .inl (K 5, 3, .inr (.inr (.inr (.inr (va_up (va_up (va_up (fun _ => none) (Int32.toNatClampNeg 0) (some (u 67))) (Int32.toNatClampNeg 1) (some (u 82))) (Int32.toNatClampNeg 2) (some (u 97)))))))), ((u 27), .inl (K 2, 3, .inl (fun _ => 0))), ((u 60), .inr (7, [.int 0, .int 0, .int 0, .int 0, .int 0, .int 0, .int 0, .int 0, .int 0, .ref (u 61), .ref (u 62), .ref (u 63), .ref (u 64), .ref (u 65), .ref (u 66)])), ((u 61), .inl (K 0, 5, .inl (fun _ => 0))), ((u 62), .inl (K 0, 6, .inl (fun _ => 0))), ((u 63), .inl (K 0, 12, .inl (fun _ => 0))), ((u 64), .inl (K 0, 24, .inl (fun _ => 0))), ((u 65), .inl (K 0, 24, .inl (fun _ => 0))), ((u 66), .inl (K 0, 24, .inl (fun _ => 0))), ((u 67), .inr (5, [.int 0, .ref (u 68), .ref (u 69), .ref (u 70), .ref (u 71), .ref (u 72), .ref (u 73), .ref (u 74)])), ((u 68), .inl (K 0, 5, .inl (fun _ => 0))), ((u 69), .inl (K 0, 150, .inl (fun _ => 0))), ((u 70), .inl (K 0, 24, .inl (fun _ => 0))), ((u 71), .inl (K 0, 40, .inl (fun _ => 0))), ((u 72), .inl (K 0, 40, .inl (fun _ => 0))), ((u 73), .inl (K 0, 40, .inl (fun _ => 0))), ((u 74), .inl (K 0, 40, .inl (fun _ => 0))), ((u 75), .inr (7, [.int 0, .int 0, .int 0, .int 0, .int 0, .int 0, .int 0, .int 0, .int 0, .ref (u 76), .ref (u 77), .ref (u 78), .ref (u 79), .ref (u 80), .ref (u 81)])), ((u 76), .inl (K 0, 5, .inl (fun _ => 0))), ((u 77), .inl (K 0, 6, .inl (fun _ => 0))), ((u 78), .inl (K 0, 12, .inl (fun _ => 0))), ((u 79), .inl (K 0, 24, .inl (fun _ => 0))), ((u 80), .inl (K 0, 24, .inl (fun _ => 0))), ((u 81), .inl (K 0, 24, .inl (fun _ => 0))), ((u 82), .inr (5, [.int 0, .ref (u 83), .ref (u 84), .ref (u 85), .ref (u 86), .ref (u 87), .ref (u 88), .ref (u 89)])), ((u 83), .inl (K 0, 5, .inl (fun _ => 0))), ((u 84), .inl (K 0, 150, .inl (fun _ => 0))), ((u 85), .inl (K 0, 24, .inl (fun _ => 0))), ((u 86), .inl (K 0, 40, .inl (fun _ => 0))), ((u 87), .inl (K 0, 40, .inl (fun _ => 0))), ((u 88), .inl (K 0, 40, .inl (fun _ => 0))), ((u 89), .inl (K 0, 40, .inl (fun _ => 0))), ((u 90), .inr (7, [.int 0, .int 0, .int 0, .int 0, .int 0, .int 0, .int 0, .int 0, .int 0, .ref (u 91), .ref (u 92), .ref (u 93), .ref (u 94), .ref (u 95), .ref (u 96)])), ((u 91), .inl (K 0, 5, .inl (fun _ => 0))), ((u 92), .inl (K 0, 6, .inl (fun _ => 0))), ((u 93), .inl (K 0, 12, .inl (fun _ => 0))), ((u 94), .inl (K 0, 24, .inl (fun _ => 0))), ((u 95), .inl (K 0, 24, .inl (fun _ => 0))), ((u 96), .inl (K 0, 24, .inl (fun _ => 0))), ((u 97), .inr (5, [.int 0, .ref (u 98), .ref (u 99), .ref (u 100), .ref (u 101), .ref (u 102), .ref (u 103), .ref (u 104)])), ((u 98), .inl (K 0, 5, .inl (fun _ => 0))), ((u 99), .inl (K 0, 150, .inl (fun _ => 0))), ((u 100), .inl (K 0, 24, .inl (fun _ => 0))), ((u 101), .inl (K 0, 40, .inl (fun _ => 0))), ((u 102), .inl (K 0, 40, .inl (fun _ => 0))), ((u 103), .inl (K 0, 40, .inl (fun _ => 0))), ((u 104), .inl (K 0, 40, .inl (fun _ => 0)))]) (wr := [(m0, .inr (12, [.int 0, .ref (v 0), .ref (v 1), .ref (v 2), .ref (v 3), .ref (v 4), .int 0, .int 0, .int 0, .int 0, .int 0, .long 0, .int 0, .int 0, .int 0, .int (-1), .ref (v 5), .ref (v 6), .ref (v 7), .ref (v 8), .ref (v 9), .ref (v 10), .ref (v 11), .ref (v 12), .ref (v 13), .ref (v 14), .ref (v 15), .ref (v 16), .ref (v 17), .ref (v 18), .ref (v 19), .ref (v 20), .int 0, .int 0, .int 0, .int 0, .ref (v 21), .ref (v 22), .ref (v 23), .int 0, .int 0, .ref (v 24), .ref (v 25), .int 0, .int 0, .ref (v 26), .ref (v 27), .ref (v 28), .int 0, .int 0, .int 0])), ((v 0), .inl (K 0, 4, .inl fw)), ((v 1), .inl (K 0, 4, .inl (fun _ => 0))), ((v 2), .inl (K 3, 240, .inr (.inl (fun _ => 0)))), ((v 4), .inl (K 1, 1400, .inl (fun _ => 0))), ((v 5), .inl (K 0, 5, .inl (fun _ => 0))), ((v 6), .inl (K 0, 40, .inl (fun _ => 0))), ((v 7), .inl (K 0, 50, .inl (fun _ => 0))), ((v 8), .inl (K 0, 60, .inl (fun _ => 0))), ((v 9), .inl (K 0, 480, .inl (fun _ => 0))), ((v 10), .inl (K 0, 600, .inl (fun _ => 0))), ((v 11), .inl (K 2, 3, .inl (fun _ => 0)))]) hK hP hD hS hA [0, 11, 12, 13, 14, 15, 16, 17, 18, 19, 20, 21, 22, 23, 24, 25, 26, 27, 28, 35, 36, 37, 38, 39, 40, 41, 42, 43, 44, 45, 46, 47, 48, 49, 50, 51, 52, 53, 54, 55, 56, 57, 58, 59, 60, 61, 62, 63, 64, 65, 66, 67, 68, 69, 70, 71, 72, 73, 74, 75, 76, 77, 78, 79] [88, 89, 90, 91, 92, 93, 94, 95, 96, 97, 98, 99] rfl rfl (by decide) (fun hp => va_runV (C := RX11) (As := [.int (xs 1)]) (rest := []) ⟨hx, hb, hml, hown, hts⟩ (c_X11_image (l := l) (D := D) (K := K) (x0 := (x0)) (p0 := ((xs 1))) (fx := ([.ref (u 0), .ref (u 10), .ref (u 17), .ref (u 25), .ref (u 26), .ref (u 27), .ref (u 28), .ref (u 29), .ref (u 34), .ref (u 39), .ref (u 43), .ref (u 51), .ref (u 55)])) (t0 := ((u 10))) (hx1 := rfl) (sh := ((u 17))) (hx2 := rfl) (it := ((u 25))) (hx3 := rfl) (iz := ((u 26))) (hx4 := rfl) (ik := ((u 27))) (hx5 := rfl) (t0_ := ((u 11))) (t1_ := ((u 12))) (t2_ := ((u 13))) (t3_ := ((u 14))) (t4_ := ((u 15))) (t5_ := ((u 16))) (ft0_ := (fun _ => 0)) (ft1_ := (fun _ => 0)) (ft2_ := (fun _ => 0)) (ft3_ := (fun _ => 0)) (ft4_ := (fun _ => 0)) (ft5_ := (fun _ => 0)) (s0 := ((u 18))) (s1 := ((u 19))) (s2 := ((u 20))) (s3 := ((u 21))) (s4 := ((u 22))) (s5 := ((u 23))) (s6 := ((u 24))) (fs0 := (fun _ => 0)) (fs1 := (fun _ => 0)) (fs2 := (fun _ => 0)) (fs3 := (fun _ => 0)) (fs4 := (fun _ => 0)) (fs5 := (fun _ => 0)) (fs6 := (fun _ => 0)) (jt0 := ((u 60))) (hit_0 := rfl) (jt1 := ((u 75))) (hit_1 := rfl) (jt2 := ((u 90))) (hit_2 := rfl) (fit := (va_up (va_up (va_up (fun _ => none) (Int32.toNatClampNeg 0) (some (u 60))) (Int32.toNatClampNeg 1) (some (u 75))) (Int32.toNatClampNeg 2) (some (u 90)))) (js0 := ((u 67))) (hiz_0 := rfl) (js1 := ((u 82))) (hiz_1 := rfl) (js2 := ((u 97))) (hiz_2 := rfl) (fiz := (va_up (va_up (va_up (fun _ => none) (Int32.toNatClampNeg 0) (some (u 67))) (Int32.toNatClampNeg 1) (some (u 82))) (Int32.toNatClampNeg 2) (some (u 97)))) (fik := (fun _ => 0)) (jt0_0 := ((u 61))) (jt0_1 := ((u 62))) (jt0_2 := ((u 63))) (jt0_3 := ((u 64))) (jt0_4 := ((u 65))) (jt0_5 := ((u 66))) (fjt0_0 := (fun _ => 0)) (fjt0_1 := (fun _ => 0)) (fjt0_2 := (fun _ => 0)) (fjt0_3 := (fun _ => 0)) (fjt0_4 := (fun _ => 0)) (fjt0_5 := (fun _ => 0)) (js0_0 := ((u 68))) (js0_1 := ((u 69))) (js0_2 := ((u 70))) (js0_3 := ((u 71))) (js0_4 := ((u 72))) (js0_5 := ((u 73))) (js0_6 := ((u 74))) (fjs0_0 := (fun _ => 0)) (fjs0_1 := (fun _ => 0)) (fjs0_2 := (fun _ => 0)) (fjs0_3 := (fun _ => 0)) (fjs0_4 := (fun _ => 0)) (fjs0_5 := (fun _ => 0)) (fjs0_6 := (fun _ => 0)) (jt1_0 := ((u 76))) (jt1_1 := ((u 77))) (jt1_2 := ((u 78))) (jt1_3 := ((u 79))) (jt1_4 := ((u 80))) (jt1_5 := ((u 81))) (fjt1_0 := (fun _ => 0)) (fjt1_1 := (fun _ => 0)) (fjt1_2 := (fun _ => 0)) (fjt1_3 := (fun _ => 0)) (fjt1_4 := (fun _ => 0)) (fjt1_5 := (fun _ => 0)) (js1_0 := ((u 83))) (js1_1 := ((u 84))) (js1_2 := ((u 85))) (js1_3 := ((u 86))) (js1_4 := ((u 87))) (js1_5 := ((u 88))) (js1_6 := ((u 89))) (fjs1_0 := (fun _ => 0)) (fjs1_1 := (fun _ => 0)) (fjs1_2 := (fun _ => 0)) (fjs1_3 := (fun _ => 0)) (fjs1_4 := (fun _ => 0)) (fjs1_5 := (fun _ => 0)) (fjs1_6 := (fun _ => 0)) (jt2_0 := ((u 91))) (jt2_1 := ((u 92))) (jt2_2 := ((u 93))) (jt2_3 := ((u 94))) (jt2_4 := ((u 95))) (jt2_5 := ((u 96))) (fjt2_0 := (fun _ => 0)) (fjt2_1 := (fun _ => 0)) (fjt2_2 := (fun _ => 0)) (fjt2_3 := (fun _ => 0)) (fjt2_4 := (fun _ => 0)) (fjt2_5 := (fun _ => 0)) (js2_0 := ((u 98))) (js2_1 := ((u 99))) (js2_2 := ((u 100))) (js2_3 := ((u 101))) (js2_4 := ((u 102))) (js2_5 := ((u 103))) (js2_6 := ((u 104))) (fjs2_0 := (fun _ => 0)) (fjs2_1 := (fun _ => 0)) (fjs2_2 := (fun _ => 0)) (fjs2_3 := (fun _ => 0)) (fjs2_4 := (fun _ => 0)) (fjs2_5 := (fun _ => 0)) (fjs2_6 := (fun _ => 0)) _) (cwV 1 hts (fn_ginV (fn_gin wd_1188) wd_1185 wd_1186 wd_1187 wd_1) rfl rfl rfl (by decide +kernel) ⟨Nat.le_of_ble_eq_true rfl, Nat.le_of_ble_eq_true rfl⟩) ⟨fn_blind, va_recv hK.1 hP (ci := 11) (q0 := 0) rfl rfl, hp⟩ rfl rfl hl.1 rfl (lv_room (Nat.le_of_ble_eq_true rfl)) dL_law_1777 ⟨Nat.le_of_ble_eq_true rfl, Nat.le_of_ble_eq_true rfl⟩) (fun r2 u1 H locs hwu1 hP hD hS => ?_)
  have r2_e : r2 = (fn_sImg ((xs 1))) := hwu1
  subst r2_e
  have hP : va_P D vwCl [(m0, .inr (12, [.int 0, .ref (v 0), .ref (v 1), .ref (v 2), .ref (v 3), .ref (v 4), .int 0, .int 0, .int 0, .int 0, .int 0, .long 0, .int 0, .int 0, .int 0, .int (-1), .ref (v 5), .ref (v 6), .ref (v 7), .ref (v 8), .ref (v 9), .ref (v 10), .ref (v 11), .ref (v 12), .ref (v 13), .ref (v 14), .ref (v 15), .ref (v 16), .ref (v 17), .ref (v 18), .ref (v 19), .ref (v 20), .int 0, .int 0, .int 0, .int 0, .ref (v 21), .ref (v 22), .ref (v 23), .int 0, .int 0, .ref (v 24), .ref (v 25), .int 0, .int 0, .ref (v 26), .ref (v 27), .ref (v 28), .int 0, .int 0, .int 0])), ((v 0), .inl (K 0, 4, .inl fw)), ((v 1), .inl (K 0, 4, .inl (fun _ => 0))), ((v 2), .inl (K 3, 240, .inr (.inl (fun _ => 0)))), ((v 4), .inl (K 1, 1400, .inl (fun _ => 0))), ((v 5), .inl (K 0, 5, .inl (fun _ => 0))), ((v 6), .inl (K 0, 40, .inl (fun _ => 0))), ((v 7), .inl (K 0, 50, .inl (fun _ => 0))), ((v 8), .inl (K 0, 60, .inl (fun _ => 0))), ((v 9), .inl (K 0, 480, .inl (fun _ => 0))), ((v 10), .inl (K 0, 600, .inl (fun _ => 0))), ((v 11), .inl (K 2, 3, .inl (fun _ => 0)))] H := hP
  have hD : va_D A [(m0, .inr (12, [.int 0, .ref (v 0), .ref (v 1), .ref (v 2), .ref (v 3), .ref (v 4), .int 0, .int 0, .int 0, .int 0, .int 0, .long 0, .int 0, .int 0, .int 0, .int (-1), .ref (v 5), .ref (v 6), .ref (v 7), .ref (v 8), .ref (v 9), .ref (v 10), .ref (v 11), .ref (v 12), .ref (v 13), .ref (v 14), .ref (v 15), .ref (v 16), .ref (v 17), .ref (v 18), .ref (v 19), .ref (v 20), .int 0, .int 0, .int 0, .int 0, .ref (v 21), .ref (v 22), .ref (v 23), .int 0, .int 0, .ref (v 24), .ref (v 25), .int 0, .int 0, .ref (v 26), .ref (v 27), .ref (v 28), .int 0, .int 0, .int 0])), ((v 0), .inl (K 0, 4, .inl fw)), ((v 1), .inl (K 0, 4, .inl (fun _ => 0))), ((v 2), .inl (K 3, 240, .inr (.inl (fun _ => 0)))), ((v 4), .inl (K 1, 1400, .inl (fun _ => 0))), ((v 5), .inl (K 0, 5, .inl (fun _ => 0))), ((v 6), .inl (K 0, 40, .inl (fun _ => 0))), ((v 7), .inl (K 0, 50, .inl (fun _ => 0))), ((v 8), .inl (K 0, 60, .inl (fun _ => 0))), ((v 9), .inl (K 0, 480, .inl (fun _ => 0))), ((v 10), .inl (K 0, 600, .inl (fun _ => 0))), ((v 11), .inl (K 2, 3, .inl (fun _ => 0)))] := hD
  refine lv_aload_n hx hb dL_law_1780 rfl (lv_at hl 1 rfl) ?_
  refine lv_aload_n hx hb dL_law_1781 rfl (lv_at hl 3 rfl) ?_
  refine lv_iload_n hx hb dL_law_1782 rfl (lv_at hl 0 rfl) ?_
  refine lv_iconst (v := 1) hx hb dL_law_1783 (by decide) ?_
  refine lv_iadd hx hb dL_law_1784 ?_
  refine fn_top 1 (by decide) ?_
  refine va_sld hx hb hX hbl hbA hS (by unfold vp_in; decide) dL_law_1785 ?_
  refine fn_top (xs 1) (congrArg xs (by decide)) ?_
  refine fn_goi (wc := [(m0, .inr (12, [.int 0, .ref (v 0), .ref (v 1), .ref (v 2), .ref (v 3), .ref (v 4), .int 0, .int 0, .int 0, .int 0, .int 0, .long 0, .int 0, .int 0, .int 0, .int (-1), .ref (v 5), .ref (v 6), .ref (v 7), .ref (v 8), .ref (v 9), .ref (v 10), .ref (v 11), .ref (v 12), .ref (v 13), .ref (v 14), .ref (v 15), .ref (v 16), .ref (v 17), .ref (v 18), .ref (v 19), .ref (v 20), .int 0, .int 0, .int 0, .int 0, .ref (v 21), .ref (v 22), .ref (v 23), .int 0, .int 0, .ref (v 24), .ref (v 25), .int 0, .int 0, .ref (v 26), .ref (v 27), .ref (v 28), .int 0, .int 0, .int 0])), ((v 5), .inl (K 0, 5, .inl (fun _ => 0))), ((v 6), .inl (K 0, 40, .inl (fun _ => 0))), ((v 7), .inl (K 0, 50, .inl (fun _ => 0))), ((v 8), .inl (K 0, 60, .inl (fun _ => 0))), ((v 9), .inl (K 0, 480, .inl (fun _ => 0))), ((v 10), .inl (K 0, 600, .inl (fun _ => 0))), ((v 11), .inl (K 2, 3, .inl (fun _ => 0)))]) (wr := []) hK hP hD hS hA [0, 5, 6, 7, 8, 9, 10, 11] [] rfl rfl (by decide) (fun hp => va_runV (C := RX12) (As := [.int (xs 1)]) (rest := [.int (fn_sImg ((xs 1)))]) ⟨hx, hb, hml, hown, hts⟩ (c_X12_image (l := l) (D := D) (K := K) (m0 := (m0)) (p0 := ((xs 1))) (fm := ([.int 0, .ref (v 0), .ref (v 1), .ref (v 2), .ref (v 3), .ref (v 4), .int 0, .int 0, .int 0, .int 0, .int 0, .long 0, .int 0, .int 0, .int 0, .int (-1), .ref (v 5), .ref (v 6), .ref (v 7), .ref (v 8), .ref (v 9), .ref (v 10), .ref (v 11), .ref (v 12), .ref (v 13), .ref (v 14), .ref (v 15), .ref (v 16), .ref (v 17), .ref (v 18), .ref (v 19), .ref (v 20), .int 0, .int 0, .int 0, .int 0, .ref (v 21), .ref (v 22), .ref (v 23), .int 0, .int 0, .ref (v 24), .ref (v 25), .int 0, .int 0, .ref (v 26), .ref (v 27), .ref (v 28), .int 0, .int 0, .int 0])) (hmn := rfl) (al := ((v 5))) (hm16 := rfl) (ah := ((v 6))) (hm17 := rfl) (ab := ((v 7))) (hm18 := rfl) (ao := ((v 8))) (hm19 := rfl) (an := ((v 9))) (hm20 := rfl) (aa := ((v 10))) (hm21 := rfl) (ak := ((v 11))) (hm22 := rfl) (fal := (fun _ => 0)) (hfal := (fun _ => rfl)) (fah := (fun _ => 0)) (hfah := (fun _ => rfl)) (fab := (fun _ => 0)) (hfab := (fun _ => rfl)) (fao := (fun _ => 0)) (hfao := (fun _ => rfl)) (fan := (fun _ => 0)) (hfan := (fun _ => rfl)) (faa := (fun _ => 0)) (hfaa := (fun _ => rfl)) (fak := (fun _ => 0)) (hfak := (fun _ => rfl)) _) (cwV 1 hts (fn_ginV (fn_gin wd_1947) wd_1944 wd_1945 wd_1946 wd_13) rfl rfl rfl (by decide +kernel) ⟨Nat.le_of_ble_eq_true rfl, Nat.le_of_ble_eq_true rfl⟩) ⟨fn_blind, va_recv hK.1 hP (ci := 12) (q0 := 0) rfl rfl, hp⟩ rfl rfl hl.1 rfl (lv_room (Nat.le_of_ble_eq_true rfl)) dL_law_1786 ⟨Nat.le_of_ble_eq_true rfl, Nat.le_of_ble_eq_true rfl⟩) (fun r4 u3 H locs hwu3 hP hD hS => ?_)
  have r4_e : r4 = (fn_sImg ((xs 1))) := hwu3
  subst r4_e
  have hP : va_P D vwCl [] H := hP
  have hD : va_D A [] := hD
  refine lv_icmp_eq (tgt := 1996) hx hb dL_law_1789 (by decide) (fun _ => ?_) (fun h9 => absurd rfl h9)
  refine lv_iinc (v := 6) (lv' := [(3, .int 6), (2, .ref m0), (1, .ref x0), (0, .ref b)]) hx hb dL_law_1996 hl (k := 0) rfl (by decide) (by decide) rfl (fun ls hl => ?_)
  refine lv_goto (tgt := 18) hx hb dL_law_1999 (by decide) ?_
  refine lv_iload_n hx hb dL_law_18 rfl (lv_at hl 0 rfl) ?_
  refine lv_aload_n hx hb dL_law_19 rfl (lv_at hl 3 rfl) ?_
  refine fn_at 20 rfl ?_
  refine va_slen hx hb hX hbl hbA hS dL_law_20 ?_
  refine fn_top 6 (by decide) ?_
  refine lv_bipush (v := 6) hx hb dL_law_21 (by decide) ?_
  refine lv_isub hx hb dL_law_23 ?_
  refine fn_top 0 (by decide) ?_
  refine lv_icmp_gt (tgt := 2002) hx hb dL_law_24 (by decide) (fun _ => ?_) (fun h9 => absurd (by decide) h9)
  refine lv_iconst (v := 1) hx hb dL_law_2002 (by decide) ?_
  refine va_forget (fun q hq => by have h9 := hS.2.2 q hq; rw [← hAe] at h9; exact h9) ?_
  refine W.widen (k := 600000) (n := 7302250) (Nat.le_of_ble_eq_true rfl) (Nat.le_of_ble_eq_true rfl) ?_
  exact lw_ret hx hb hr hlocks dL_law_2003
theorem dL_law_1794 : decode cL_law 1794 = .ok (.aload_n 1, 1) := by decide +kernel
theorem dL_law_1795 : decode cL_law 1795 = .ok (.aload_n 0, 1) := by decide +kernel
theorem dL_law_1796 : decode cL_law 1796 = .ok (.iload_n 3, 1) := by decide +kernel
theorem dL_law_1797 : decode cL_law 1797 = .ok (.iconst 1, 1) := by decide +kernel
theorem dL_law_1798 : decode cL_law 1798 = .ok (.iadd, 1) := by decide +kernel
theorem dL_law_1799 : decode cL_law 1799 = .ok (.iaload, 1) := by decide +kernel
theorem dL_law_1800 : decode cL_law 1800 = .ok (.invokevirtual 258, 3) := by decide +kernel
theorem dL_law_1803 : decode cL_law 1803 = .ok (.aload_n 2, 1) := by decide +kernel
theorem dL_law_1804 : decode cL_law 1804 = .ok (.aload_n 0, 1) := by decide +kernel
theorem dL_law_1805 : decode cL_law 1805 = .ok (.iload_n 3, 1) := by decide +kernel
theorem dL_law_1806 : decode cL_law 1806 = .ok (.iconst 1, 1) := by decide +kernel
theorem dL_law_1807 : decode cL_law 1807 = .ok (.iadd, 1) := by decide +kernel
theorem dL_law_1808 : decode cL_law 1808 = .ok (.iaload, 1) := by decide +kernel
theorem dL_law_1809 : decode cL_law 1809 = .ok (.invokevirtual 261, 3) := by decide +kernel
theorem dL_law_1812 : decode cL_law 1812 = .ok (.if_icmp .eq 184, 3) := by decide +kernel
set_option maxHeartbeats 4000000 in
set_option maxRecDepth 100000 in
theorem law_60 {p : Program} {l : Launch} {e : Env} {s : State} {m : MethodId} {below : List Frame} {meth : Method} {c : Code} {b : Nat} {xs : Nat → Int32} (hx : p.tables.exec = Jvm.exec) (hb : c.code = cL_law) (hr : meth.sig.returnType = ret) (hml : c.maxLocals = 4) (hown : s.vm.findClass RL = some m.cls) (hts : ∀ w ∈ fn_big, w.before #[Value.ref b] s = true) (hX : va_X b 6 xs s s.heap) (hbl : b < s.heap.size) (hlocks : meth.locks = false) {D : va_G} {K : Nat → ClassId} (hK : fn_KK D K s) {x0 m0 : Nat} {u v : Nat → Nat} {fw : Nat → Int32} (hfw : ∀ j, j < 4 → fw j = -1) {A : Nat → Prop} (hAe : (fun q : Nat => s.heap.size ≤ q) = A) : ∀ (H : Heap) (locs : List Loc) (ls : Array Slot), va_P D vwCl (fn_world K x0 m0 u v fw) H → va_D A (fn_world K x0 m0 u v fw) → va_S A s.heap H locs → lv_has ls 4 [(3, .int 0), (2, .ref m0), (1, .ref x0), (0, .ref b)] → W p l e room_1 s m #[Value.ref b] below meth c H locs 144 12710 (lw_Z below #[Value.ref b] s) (F0 m 1794 ls []) := by
  intro H locs ls hP hD hS hl
  have hA : ∀ q : Nat, s.heap.size ≤ q → A q := fun q h => by rw [← hAe]; exact h
  have hbA : ¬ A b := by rw [← hAe]; exact Nat.not_le.mpr hbl
  refine lv_aload_n hx hb dL_law_1794 rfl (lv_at hl 2 rfl) ?_
  refine lv_aload_n hx hb dL_law_1795 rfl (lv_at hl 3 rfl) ?_
  refine lv_iload_n hx hb dL_law_1796 rfl (lv_at hl 0 rfl) ?_
  refine lv_iconst (v := 1) hx hb dL_law_1797 (by decide) ?_
  refine lv_iadd hx hb dL_law_1798 ?_
  refine fn_top 1 (by decide) ?_
  refine va_sld hx hb hX hbl hbA hS (by unfold vp_in; decide) dL_law_1799 ?_
  refine fn_top (xs 1) (congrArg xs (by decide)) ?_
  refine fn_goi (wc := [(x0, .inr (11, [.ref (u 0), .ref (u 10), .ref (u 17), .ref (u 25), .ref (u 26), .ref (u 27), .ref (u 28), .ref (u 29), .ref (u 34), .ref (u 39), .ref (u 43), .ref (u 51), .ref (u 55)])), ((u 27), .inl (K 2, 3, .inl (fun _ => 0)))]) (wr := [(m0, .inr (12, [.int 0, .ref (v 0), .ref (v 1), .ref (v 2), .ref (v 3), .ref (v 4), .int 0, .int 0, .int 0, .int 0, .int 0, .long 0, .int 0, .int 0, .int 0, .int (-1), .ref (v 5), .ref (v 6), .ref (v 7), .ref (v 8), .ref (v 9), .ref (v 10), .ref (v 11), .ref (v 12), .ref (v 13), .ref (v 14), .ref (v 15), .ref (v 16), .ref (v 17), .ref (v 18), .ref (v 19), .ref (v 20), .int 0, .int 0, .int 0, .int 0, .ref (v 21), .ref (v 22), .ref (v 23), .int 0, .int 0, .ref (v 24), .ref (v 25), .int 0, .int 0, .ref (v 26), .ref (v 27), .ref (v 28), .int 0, .int 0, .int 0])), ((v 0), .inl (K 0, 4, .inl fw)), ((v 1), .inl (K 0, 4, .inl (fun _ => 0))), ((v 2), .inl (K 3, 240, .inr (.inl (fun _ => 0)))), ((v 4), .inl (K 1, 1400, .inl (fun _ => 0))), ((v 5), .inl (K 0, 5, .inl (fun _ => 0))), ((v 6), .inl (K 0, 40, .inl (fun _ => 0))), ((v 7), .inl (K 0, 50, .inl (fun _ => 0))), ((v 8), .inl (K 0, 60, .inl (fun _ => 0))), ((v 9), .inl (K 0, 480, .inl (fun _ => 0))), ((v 10), .inl (K 0, 600, .inl (fun _ => 0))), ((v 11), .inl (K 2, 3, .inl (fun _ => 0)))]) hK hP hD hS hA [0, 28] [88, 89, 90, 91, 92, 93, 94, 95, 96, 97, 98, 99] rfl rfl (by decide) (fun hp => va_runV (C := RX11) (As := [.int (xs 1)]) (rest := []) ⟨hx, hb, hml, hown, hts⟩ (c_X11_back (l := l) (D := D) (K := K) (x0 := (x0)) (p0 := ((xs 1))) (fx := ([.ref (u 0), .ref (u 10), .ref (u 17), .ref (u 25), .ref (u 26), .ref (u 27), .ref (u 28), .ref (u 29), .ref (u 34), .ref (u 39), .ref (u 43), .ref (u 51), .ref (u 55)])) (ik := ((u 27))) (hx5 := rfl) (fik := (fun _ => 0)) (hik := (fun _ => rfl)) _) (cwV 1 hts (fn_ginV (fn_gin wd_1199) wd_1196 wd_1197 wd_1198 wd_1) rfl rfl rfl (by decide +kernel) ⟨Nat.le_of_ble_eq_true rfl, Nat.le_of_ble_eq_true rfl⟩) ⟨fn_blind, va_recv hK.1 hP (ci := 11) (q0 := 0) rfl rfl, hp⟩ rfl rfl hl.1 rfl (lv_room (Nat.le_of_ble_eq_true rfl)) dL_law_1800 ⟨Nat.le_of_ble_eq_true rfl, Nat.le_of_ble_eq_true rfl⟩) (fun r2 u1 H locs hwu1 hP hD hS => ?_)
  have r2_e : r2 = (fn_sBack ((xs 1))) := hwu1
  subst r2_e
  have hP : va_P D vwCl [(m0, .inr (12, [.int 0, .ref (v 0), .ref (v 1), .ref (v 2), .ref (v 3), .ref (v 4), .int 0, .int 0, .int 0, .int 0, .int 0, .long 0, .int 0, .int 0, .int 0, .int (-1), .ref (v 5), .ref (v 6), .ref (v 7), .ref (v 8), .ref (v 9), .ref (v 10), .ref (v 11), .ref (v 12), .ref (v 13), .ref (v 14), .ref (v 15), .ref (v 16), .ref (v 17), .ref (v 18), .ref (v 19), .ref (v 20), .int 0, .int 0, .int 0, .int 0, .ref (v 21), .ref (v 22), .ref (v 23), .int 0, .int 0, .ref (v 24), .ref (v 25), .int 0, .int 0, .ref (v 26), .ref (v 27), .ref (v 28), .int 0, .int 0, .int 0])), ((v 0), .inl (K 0, 4, .inl fw)), ((v 1), .inl (K 0, 4, .inl (fun _ => 0))), ((v 2), .inl (K 3, 240, .inr (.inl (fun _ => 0)))), ((v 4), .inl (K 1, 1400, .inl (fun _ => 0))), ((v 5), .inl (K 0, 5, .inl (fun _ => 0))), ((v 6), .inl (K 0, 40, .inl (fun _ => 0))), ((v 7), .inl (K 0, 50, .inl (fun _ => 0))), ((v 8), .inl (K 0, 60, .inl (fun _ => 0))), ((v 9), .inl (K 0, 480, .inl (fun _ => 0))), ((v 10), .inl (K 0, 600, .inl (fun _ => 0))), ((v 11), .inl (K 2, 3, .inl (fun _ => 0)))] H := hP
  have hD : va_D A [(m0, .inr (12, [.int 0, .ref (v 0), .ref (v 1), .ref (v 2), .ref (v 3), .ref (v 4), .int 0, .int 0, .int 0, .int 0, .int 0, .long 0, .int 0, .int 0, .int 0, .int (-1), .ref (v 5), .ref (v 6), .ref (v 7), .ref (v 8), .ref (v 9), .ref (v 10), .ref (v 11), .ref (v 12), .ref (v 13), .ref (v 14), .ref (v 15), .ref (v 16), .ref (v 17), .ref (v 18), .ref (v 19), .ref (v 20), .int 0, .int 0, .int 0, .int 0, .ref (v 21), .ref (v 22), .ref (v 23), .int 0, .int 0, .ref (v 24), .ref (v 25), .int 0, .int 0, .ref (v 26), .ref (v 27), .ref (v 28), .int 0, .int 0, .int 0])), ((v 0), .inl (K 0, 4, .inl fw)), ((v 1), .inl (K 0, 4, .inl (fun _ => 0))), ((v 2), .inl (K 3, 240, .inr (.inl (fun _ => 0)))), ((v 4), .inl (K 1, 1400, .inl (fun _ => 0))), ((v 5), .inl (K 0, 5, .inl (fun _ => 0))), ((v 6), .inl (K 0, 40, .inl (fun _ => 0))), ((v 7), .inl (K 0, 50, .inl (fun _ => 0))), ((v 8), .inl (K 0, 60, .inl (fun _ => 0))), ((v 9), .inl (K 0, 480, .inl (fun _ => 0))), ((v 10), .inl (K 0, 600, .inl (fun _ => 0))), ((v 11), .inl (K 2, 3, .inl (fun _ => 0)))] := hD
  refine lv_aload_n hx hb dL_law_1803 rfl (lv_at hl 1 rfl) ?_
  refine lv_aload_n hx hb dL_law_1804 rfl (lv_at hl 3 rfl) ?_
  refine lv_iload_n hx hb dL_law_1805 rfl (lv_at hl 0 rfl) ?_
  refine lv_iconst (v := 1) hx hb dL_law_1806 (by decide) ?_
  refine lv_iadd hx hb dL_law_1807 ?_
  refine fn_top 1 (by decide) ?_
  refine va_sld hx hb hX hbl hbA hS (by unfold vp_in; decide) dL_law_1808 ?_
  refine fn_top (xs 1) (congrArg xs (by decide)) ?_
  refine fn_goi (wc := [(m0, .inr (12, [.int 0, .ref (v 0), .ref (v 1), .ref (v 2), .ref (v 3), .ref (v 4), .int 0, .int 0, .int 0, .int 0, .int 0, .long 0, .int 0, .int 0, .int 0, .int (-1), .ref (v 5), .ref (v 6), .ref (v 7), .ref (v 8), .ref (v 9), .ref (v 10), .ref (v 11), .ref (v 12), .ref (v 13), .ref (v 14), .ref (v 15), .ref (v 16), .ref (v 17), .ref (v 18), .ref (v 19), .ref (v 20), .int 0, .int 0, .int 0, .int 0, .ref (v 21), .ref (v 22), .ref (v 23), .int 0, .int 0, .ref (v 24), .ref (v 25), .int 0, .int 0, .ref (v 26), .ref (v 27), .ref (v 28), .int 0, .int 0, .int 0])), ((v 11), .inl (K 2, 3, .inl (fun _ => 0)))]) (wr := []) hK hP hD hS hA [0, 11] [] rfl rfl (by decide) (fun hp => va_runV (C := RX12) (As := [.int (xs 1)]) (rest := [.int (fn_sBack ((xs 1)))]) ⟨hx, hb, hml, hown, hts⟩ (c_X12_back (l := l) (D := D) (K := K) (m0 := (m0)) (p0 := ((xs 1))) (fm := ([.int 0, .ref (v 0), .ref (v 1), .ref (v 2), .ref (v 3), .ref (v 4), .int 0, .int 0, .int 0, .int 0, .int 0, .long 0, .int 0, .int 0, .int 0, .int (-1), .ref (v 5), .ref (v 6), .ref (v 7), .ref (v 8), .ref (v 9), .ref (v 10), .ref (v 11), .ref (v 12), .ref (v 13), .ref (v 14), .ref (v 15), .ref (v 16), .ref (v 17), .ref (v 18), .ref (v 19), .ref (v 20), .int 0, .int 0, .int 0, .int 0, .ref (v 21), .ref (v 22), .ref (v 23), .int 0, .int 0, .ref (v 24), .ref (v 25), .int 0, .int 0, .ref (v 26), .ref (v 27), .ref (v 28), .int 0, .int 0, .int 0])) (hmn := rfl) (ak := ((v 11))) (hm22 := rfl) (fak := (fun _ => 0)) (hfak := (fun _ => rfl)) _) (cwV 1 hts (fn_ginV (fn_gin wd_1952) wd_1949 wd_1950 wd_1951 wd_13) rfl rfl rfl (by decide +kernel) ⟨Nat.le_of_ble_eq_true rfl, Nat.le_of_ble_eq_true rfl⟩) ⟨fn_blind, va_recv hK.1 hP (ci := 12) (q0 := 0) rfl rfl, hp⟩ rfl rfl hl.1 rfl (lv_room (Nat.le_of_ble_eq_true rfl)) dL_law_1809 ⟨Nat.le_of_ble_eq_true rfl, Nat.le_of_ble_eq_true rfl⟩) (fun r4 u3 H locs hwu3 hP hD hS => ?_)
  have r4_e : r4 = (fn_sBack ((xs 1))) := hwu3
  subst r4_e
  have hP : va_P D vwCl [] H := hP
  have hD : va_D A [] := hD
  refine lv_icmp_eq (tgt := 1996) hx hb dL_law_1812 (by decide) (fun _ => ?_) (fun h9 => absurd rfl h9)
  refine lv_iinc (v := 6) (lv' := [(3, .int 6), (2, .ref m0), (1, .ref x0), (0, .ref b)]) hx hb dL_law_1996 hl (k := 0) rfl (by decide) (by decide) rfl (fun ls hl => ?_)
  refine lv_goto (tgt := 18) hx hb dL_law_1999 (by decide) ?_
  refine lv_iload_n hx hb dL_law_18 rfl (lv_at hl 0 rfl) ?_
  refine lv_aload_n hx hb dL_law_19 rfl (lv_at hl 3 rfl) ?_
  refine fn_at 20 rfl ?_
  refine va_slen hx hb hX hbl hbA hS dL_law_20 ?_
  refine fn_top 6 (by decide) ?_
  refine lv_bipush (v := 6) hx hb dL_law_21 (by decide) ?_
  refine lv_isub hx hb dL_law_23 ?_
  refine fn_top 0 (by decide) ?_
  refine lv_icmp_gt (tgt := 2002) hx hb dL_law_24 (by decide) (fun _ => ?_) (fun h9 => absurd (by decide) h9)
  refine lv_iconst (v := 1) hx hb dL_law_2002 (by decide) ?_
  refine va_forget (fun q hq => by have h9 := hS.2.2 q hq; rw [← hAe] at h9; exact h9) ?_
  refine W.widen (k := 600000) (n := 7302250) (Nat.le_of_ble_eq_true rfl) (Nat.le_of_ble_eq_true rfl) ?_
  exact lw_ret hx hb hr hlocks dL_law_2003
theorem dL_law_1817 : decode cL_law 1817 = .ok (.aload_n 1, 1) := by decide +kernel
theorem dL_law_1818 : decode cL_law 1818 = .ok (.aload_n 0, 1) := by decide +kernel
theorem dL_law_1819 : decode cL_law 1819 = .ok (.iload_n 3, 1) := by decide +kernel
theorem dL_law_1820 : decode cL_law 1820 = .ok (.iconst 1, 1) := by decide +kernel
theorem dL_law_1821 : decode cL_law 1821 = .ok (.iadd, 1) := by decide +kernel
theorem dL_law_1822 : decode cL_law 1822 = .ok (.iaload, 1) := by decide +kernel
theorem dL_law_1823 : decode cL_law 1823 = .ok (.aload_n 0, 1) := by decide +kernel
theorem dL_law_1824 : decode cL_law 1824 = .ok (.iload_n 3, 1) := by decide +kernel
theorem dL_law_1825 : decode cL_law 1825 = .ok (.iconst 2, 1) := by decide +kernel
theorem dL_law_1826 : decode cL_law 1826 = .ok (.iadd, 1) := by decide +kernel
theorem dL_law_1827 : decode cL_law 1827 = .ok (.iaload, 1) := by decide +kernel
theorem dL_law_1828 : decode cL_law 1828 = .ok (.aload_n 0, 1) := by decide +kernel
theorem dL_law_1829 : decode cL_law 1829 = .ok (.iload_n 3, 1) := by decide +kernel
theorem dL_law_1830 : decode cL_law 1830 = .ok (.iconst 3, 1) := by decide +kernel
theorem dL_law_1831 : decode cL_law 1831 = .ok (.iadd, 1) := by decide +kernel
theorem dL_law_1832 : decode cL_law 1832 = .ok (.iaload, 1) := by decide +kernel
theorem dL_law_1833 : decode cL_law 1833 = .ok (.invokevirtual 262, 3) := by decide +kernel
theorem dL_law_1836 : decode cL_law 1836 = .ok (.aload_n 2, 1) := by decide +kernel
theorem dL_law_1837 : decode cL_law 1837 = .ok (.aload_n 0, 1) := by decide +kernel
theorem dL_law_1838 : decode cL_law 1838 = .ok (.iload_n 3, 1) := by decide +kernel
theorem dL_law_1839 : decode cL_law 1839 = .ok (.iconst 1, 1) := by decide +kernel
theorem dL_law_1840 : decode cL_law 1840 = .ok (.iadd, 1) := by decide +kernel
theorem dL_law_1841 : decode cL_law 1841 = .ok (.iaload, 1) := by decide +kernel
theorem dL_law_1842 : decode cL_law 1842 = .ok (.aload_n 0, 1) := by decide +kernel
theorem dL_law_1843 : decode cL_law 1843 = .ok (.iload_n 3, 1) := by decide +kernel
theorem dL_law_1844 : decode cL_law 1844 = .ok (.iconst 2, 1) := by decide +kernel
theorem dL_law_1845 : decode cL_law 1845 = .ok (.iadd, 1) := by decide +kernel
theorem dL_law_1846 : decode cL_law 1846 = .ok (.iaload, 1) := by decide +kernel
theorem dL_law_1847 : decode cL_law 1847 = .ok (.aload_n 0, 1) := by decide +kernel
theorem dL_law_1848 : decode cL_law 1848 = .ok (.iload_n 3, 1) := by decide +kernel
theorem dL_law_1849 : decode cL_law 1849 = .ok (.iconst 3, 1) := by decide +kernel
theorem dL_law_1850 : decode cL_law 1850 = .ok (.iadd, 1) := by decide +kernel
theorem dL_law_1851 : decode cL_law 1851 = .ok (.iaload, 1) := by decide +kernel
theorem dL_law_1852 : decode cL_law 1852 = .ok (.invokevirtual 265, 3) := by decide +kernel
theorem dL_law_1855 : decode cL_law 1855 = .ok (.if_icmp .eq 141, 3) := by decide +kernel
set_option maxHeartbeats 4000000 in
set_option maxRecDepth 100000 in
theorem law_61 {p : Program} {l : Launch} {e : Env} {s : State} {m : MethodId} {below : List Frame} {meth : Method} {c : Code} {b : Nat} {xs : Nat → Int32} (hx : p.tables.exec = Jvm.exec) (hb : c.code = cL_law) (hr : meth.sig.returnType = ret) (hml : c.maxLocals = 4) (hown : s.vm.findClass RL = some m.cls) (hts : ∀ w ∈ fn_big, w.before #[Value.ref b] s = true) (hX : va_X b 6 xs s s.heap) (hbl : b < s.heap.size) (hlocks : meth.locks = false) {D : va_G} {K : Nat → ClassId} (hK : fn_KK D K s) {x0 m0 : Nat} {u v : Nat → Nat} {fw : Nat → Int32} (hfw : ∀ j, j < 4 → fw j = -1) {A : Nat → Prop} (hAe : (fun q : Nat => s.heap.size ≤ q) = A) : ∀ (H : Heap) (locs : List Loc) (ls : Array Slot), va_P D vwCl (fn_world K x0 m0 u v fw) H → va_D A (fn_world K x0 m0 u v fw) → va_S A s.heap H locs → lv_has ls 4 [(3, .int 0), (2, .ref m0), (1, .ref x0), (0, .ref b)] → W p l e room_1 s m #[Value.ref b] below meth c H locs 144 12710 (lw_Z below #[Value.ref b] s) (F0 m 1817 ls []) := by
  intro H locs ls hP hD hS hl
  have hA : ∀ q : Nat, s.heap.size ≤ q → A q := fun q h => by rw [← hAe]; exact h
  have hbA : ¬ A b := by rw [← hAe]; exact Nat.not_le.mpr hbl
  refine lv_aload_n hx hb dL_law_1817 rfl (lv_at hl 2 rfl) ?_
  refine lv_aload_n hx hb dL_law_1818 rfl (lv_at hl 3 rfl) ?_
  refine lv_iload_n hx hb dL_law_1819 rfl (lv_at hl 0 rfl) ?_
  refine lv_iconst (v := 1) hx hb dL_law_1820 (by decide) ?_
  refine lv_iadd hx hb dL_law_1821 ?_
  refine fn_top 1 (by decide) ?_
  refine va_sld hx hb hX hbl hbA hS (by unfold vp_in; decide) dL_law_1822 ?_
  refine fn_top (xs 1) (congrArg xs (by decide)) ?_
  refine lv_aload_n hx hb dL_law_1823 rfl (lv_at hl 3 rfl) ?_
  refine lv_iload_n hx hb dL_law_1824 rfl (lv_at hl 0 rfl) ?_
  refine lv_iconst (v := 2) hx hb dL_law_1825 (by decide) ?_
  refine lv_iadd hx hb dL_law_1826 ?_
  refine fn_top 2 (by decide) ?_
  refine va_sld hx hb hX hbl hbA hS (by unfold vp_in; decide) dL_law_1827 ?_
  refine fn_top (xs 2) (congrArg xs (by decide)) ?_
  refine lv_aload_n hx hb dL_law_1828 rfl (lv_at hl 3 rfl) ?_
  refine lv_iload_n hx hb dL_law_1829 rfl (lv_at hl 0 rfl) ?_
  refine lv_iconst (v := 3) hx hb dL_law_1830 (by decide) ?_
  refine lv_iadd hx hb dL_law_1831 ?_
  refine fn_top 3 (by decide) ?_
  refine va_sld hx hb hX hbl hbA hS (by unfold vp_in; decide) dL_law_1832 ?_
  refine fn_top (xs 3) (congrArg xs (by decide)) ?_
  refine fn_goi (wc := [(x0, .inr (11, [.ref (u 0), .ref (u 10), .ref (u 17), .ref (u 25), .ref (u 26), .ref (u 27), .ref (u 28), .ref (u 29), .ref (u 34), .ref (u 39), .ref (u 43), .ref (u 51), .ref (u 55)])), ((u 28), .inl (K 6, 4, .inr (.inr (.inr (.inr (va_up (va_up (va_up (va_up (fun _ => none) (Int32.toNatClampNeg 0) (some (u 105))) (Int32.toNatClampNeg 1) (some (u 107))) (Int32.toNatClampNeg 2) (some (u 109))) (Int32.toNatClampNeg 3) (some (u 111)))))))), ((u 105), .inr (4, [.int 0, .int 0, .int 0, .ref (u 106)])), ((u 107), .inr (4, [.int 0, .int 0, .int 0, .ref (u 108)])), ((u 109), .inr (4, [.int 0, .int 0, .int 0, .ref (u 110)])), ((u 111), .inr (4, [.int 0, .int 0, .int 0, .ref (u 112)])), ((u 106), .inl (K 3, 60, .inr (.inl (fun _ => 0)))), ((u 108), .inl (K 3, 60, .inr (.inl (fun _ => 0)))), ((u 110), .inl (K 3, 60, .inr (.inl (fun _ => 0)))), ((u 112), .inl (K 3, 60, .inr (.inl (fun _ => 0))))]) (wr := [(m0, .inr (12, [.int 0, .ref (v 0), .ref (v 1), .ref (v 2), .ref (v 3), .ref (v 4), .int 0, .int 0, .int 0, .int 0, .int 0, .long 0, .int 0, .int 0, .int 0, .int (-1), .ref (v 5), .ref (v 6), .ref (v 7), .ref (v 8), .ref (v 9), .ref (v 10), .ref (v 11), .ref (v 12), .ref (v 13), .ref (v 14), .ref (v 15), .ref (v 16), .ref (v 17), .ref (v 18), .ref (v 19), .ref (v 20), .int 0, .int 0, .int 0, .int 0, .ref (v 21), .ref (v 22), .ref (v 23), .int 0, .int 0, .ref (v 24), .ref (v 25), .int 0, .int 0, .ref (v 26), .ref (v 27), .ref (v 28), .int 0, .int 0, .int 0])), ((v 0), .inl (K 0, 4, .inl fw)), ((v 1), .inl (K 0, 4, .inl (fun _ => 0))), ((v 2), .inl (K 3, 240, .inr (.inl (fun _ => 0)))), ((v 4), .inl (K 1, 1400, .inl (fun _ => 0))), ((v 5), .inl (K 0, 5, .inl (fun _ => 0))), ((v 6), .inl (K 0, 40, .inl (fun _ => 0))), ((v 7), .inl (K 0, 50, .inl (fun _ => 0))), ((v 8), .inl (K 0, 60, .inl (fun _ => 0))), ((v 9), .inl (K 0, 480, .inl (fun _ => 0))), ((v 10), .inl (K 0, 600, .inl (fun _ => 0))), ((v 11), .inl (K 2, 3, .inl (fun _ => 0)))]) hK hP hD hS hA [0, 29, 80, 82, 84, 86, 81, 83, 85, 87] [88, 89, 90, 91, 92, 93, 94, 95, 96, 97, 98, 99] rfl rfl (by decide) (fun hp => va_runV (C := RX11) (As := [.int (xs 1), .int (xs 2), .int (xs 3)]) (rest := []) ⟨hx, hb, hml, hown, hts⟩ (c_X11_row (l := l) (D := D) (K := K) (x0 := (x0)) (p0 := ((xs 1))) (p1 := ((xs 2))) (p2 := ((xs 3))) (fx := ([.ref (u 0), .ref (u 10), .ref (u 17), .ref (u 25), .ref (u 26), .ref (u 27), .ref (u 28), .ref (u 29), .ref (u 34), .ref (u 39), .ref (u 43), .ref (u 51), .ref (u 55)])) (rw := ((u 28))) (hx6 := rfl) (r0 := ((u 105))) (hrw_0 := rfl) (r1 := ((u 107))) (hrw_1 := rfl) (r2 := ((u 109))) (hrw_2 := rfl) (r3 := ((u 111))) (hrw_3 := rfl) (frw := (va_up (va_up (va_up (va_up (fun _ => none) (Int32.toNatClampNeg 0) (some (u 105))) (Int32.toNatClampNeg 1) (some (u 107))) (Int32.toNatClampNeg 2) (some (u 109))) (Int32.toNatClampNeg 3) (some (u 111)))) (n0 := ((u 106))) (n1 := ((u 108))) (n2 := ((u 110))) (n3 := ((u 112))) (fn0 := (fun _ => 0)) (fn1 := (fun _ => 0)) (fn2 := (fun _ => 0)) (fn3 := (fun _ => 0)) _) (cwV 3 hts (fn_ginV (fn_gin wd_1203) wd_1200 wd_1201 wd_1202 wd_1) rfl rfl rfl (by decide +kernel) ⟨Nat.le_of_ble_eq_true rfl, Nat.le_of_ble_eq_true rfl⟩) ⟨fn_blind, va_recv hK.1 hP (ci := 11) (q0 := 0) rfl rfl, hp⟩ rfl rfl hl.1 rfl (lv_room (Nat.le_of_ble_eq_true rfl)) dL_law_1833 ⟨Nat.le_of_ble_eq_true rfl, Nat.le_of_ble_eq_true rfl⟩) (fun r2 u1 H locs hwu1 hP hD hS => ?_)
  have r2_e : r2 = (fn_sRow ((xs 1)) ((xs 2)) ((xs 3))) := hwu1
  subst r2_e
  have hP : va_P D vwCl [(m0, .inr (12, [.int 0, .ref (v 0), .ref (v 1), .ref (v 2), .ref (v 3), .ref (v 4), .int 0, .int 0, .int 0, .int 0, .int 0, .long 0, .int 0, .int 0, .int 0, .int (-1), .ref (v 5), .ref (v 6), .ref (v 7), .ref (v 8), .ref (v 9), .ref (v 10), .ref (v 11), .ref (v 12), .ref (v 13), .ref (v 14), .ref (v 15), .ref (v 16), .ref (v 17), .ref (v 18), .ref (v 19), .ref (v 20), .int 0, .int 0, .int 0, .int 0, .ref (v 21), .ref (v 22), .ref (v 23), .int 0, .int 0, .ref (v 24), .ref (v 25), .int 0, .int 0, .ref (v 26), .ref (v 27), .ref (v 28), .int 0, .int 0, .int 0])), ((v 0), .inl (K 0, 4, .inl fw)), ((v 1), .inl (K 0, 4, .inl (fun _ => 0))), ((v 2), .inl (K 3, 240, .inr (.inl (fun _ => 0)))), ((v 4), .inl (K 1, 1400, .inl (fun _ => 0))), ((v 5), .inl (K 0, 5, .inl (fun _ => 0))), ((v 6), .inl (K 0, 40, .inl (fun _ => 0))), ((v 7), .inl (K 0, 50, .inl (fun _ => 0))), ((v 8), .inl (K 0, 60, .inl (fun _ => 0))), ((v 9), .inl (K 0, 480, .inl (fun _ => 0))), ((v 10), .inl (K 0, 600, .inl (fun _ => 0))), ((v 11), .inl (K 2, 3, .inl (fun _ => 0)))] H := hP
  have hD : va_D A [(m0, .inr (12, [.int 0, .ref (v 0), .ref (v 1), .ref (v 2), .ref (v 3), .ref (v 4), .int 0, .int 0, .int 0, .int 0, .int 0, .long 0, .int 0, .int 0, .int 0, .int (-1), .ref (v 5), .ref (v 6), .ref (v 7), .ref (v 8), .ref (v 9), .ref (v 10), .ref (v 11), .ref (v 12), .ref (v 13), .ref (v 14), .ref (v 15), .ref (v 16), .ref (v 17), .ref (v 18), .ref (v 19), .ref (v 20), .int 0, .int 0, .int 0, .int 0, .ref (v 21), .ref (v 22), .ref (v 23), .int 0, .int 0, .ref (v 24), .ref (v 25), .int 0, .int 0, .ref (v 26), .ref (v 27), .ref (v 28), .int 0, .int 0, .int 0])), ((v 0), .inl (K 0, 4, .inl fw)), ((v 1), .inl (K 0, 4, .inl (fun _ => 0))), ((v 2), .inl (K 3, 240, .inr (.inl (fun _ => 0)))), ((v 4), .inl (K 1, 1400, .inl (fun _ => 0))), ((v 5), .inl (K 0, 5, .inl (fun _ => 0))), ((v 6), .inl (K 0, 40, .inl (fun _ => 0))), ((v 7), .inl (K 0, 50, .inl (fun _ => 0))), ((v 8), .inl (K 0, 60, .inl (fun _ => 0))), ((v 9), .inl (K 0, 480, .inl (fun _ => 0))), ((v 10), .inl (K 0, 600, .inl (fun _ => 0))), ((v 11), .inl (K 2, 3, .inl (fun _ => 0)))] := hD
  refine lv_aload_n hx hb dL_law_1836 rfl (lv_at hl 1 rfl) ?_
  refine lv_aload_n hx hb dL_law_1837 rfl (lv_at hl 3 rfl) ?_
  refine fn_at 1838 rfl ?_
  refine lv_iload_n hx hb dL_law_1838 rfl (lv_at hl 0 rfl) ?_
  refine lv_iconst (v := 1) hx hb dL_law_1839 (by decide) ?_
  refine lv_iadd hx hb dL_law_1840 ?_
  refine fn_top 1 (by decide) ?_
  refine va_sld hx hb hX hbl hbA hS (by unfold vp_in; decide) dL_law_1841 ?_
  refine fn_top (xs 1) (congrArg xs (by decide)) ?_
  refine lv_aload_n hx hb dL_law_1842 rfl (lv_at hl 3 rfl) ?_
  refine lv_iload_n hx hb dL_law_1843 rfl (lv_at hl 0 rfl) ?_
  refine lv_iconst (v := 2) hx hb dL_law_1844 (by decide) ?_
  refine lv_iadd hx hb dL_law_1845 ?_
  refine fn_top 2 (by decide) ?_
  refine va_sld hx hb hX hbl hbA hS (by unfold vp_in; decide) dL_law_1846 ?_
  refine fn_top (xs 2) (congrArg xs (by decide)) ?_
  refine lv_aload_n hx hb dL_law_1847 rfl (lv_at hl 3 rfl) ?_
  refine lv_iload_n hx hb dL_law_1848 rfl (lv_at hl 0 rfl) ?_
  refine lv_iconst (v := 3) hx hb dL_law_1849 (by decide) ?_
  refine lv_iadd hx hb dL_law_1850 ?_
  refine fn_top 3 (by decide) ?_
  refine va_sld hx hb hX hbl hbA hS (by unfold vp_in; decide) dL_law_1851 ?_
  refine fn_top (xs 3) (congrArg xs (by decide)) ?_
  refine fn_goi (wc := [(m0, .inr (12, [.int 0, .ref (v 0), .ref (v 1), .ref (v 2), .ref (v 3), .ref (v 4), .int 0, .int 0, .int 0, .int 0, .int 0, .long 0, .int 0, .int 0, .int 0, .int (-1), .ref (v 5), .ref (v 6), .ref (v 7), .ref (v 8), .ref (v 9), .ref (v 10), .ref (v 11), .ref (v 12), .ref (v 13), .ref (v 14), .ref (v 15), .ref (v 16), .ref (v 17), .ref (v 18), .ref (v 19), .ref (v 20), .int 0, .int 0, .int 0, .int 0, .ref (v 21), .ref (v 22), .ref (v 23), .int 0, .int 0, .ref (v 24), .ref (v 25), .int 0, .int 0, .ref (v 26), .ref (v 27), .ref (v 28), .int 0, .int 0, .int 0])), ((v 0), .inl (K 0, 4, .inl fw)), ((v 1), .inl (K 0, 4, .inl (fun _ => 0))), ((v 2), .inl (K 3, 240, .inr (.inl (fun _ => 0))))]) (wr := []) hK hP hD hS hA [0, 1, 2, 3] [] rfl rfl (by decide) (fun hp => va_runV (C := RX12) (As := [.int (xs 1), .int (xs 2), .int (xs 3)]) (rest := [.int (fn_sRow ((xs 1)) ((xs 2)) ((xs 3)))]) ⟨hx, hb, hml, hown, hts⟩ (c_X12_row (l := l) (D := D) (K := K) (m0 := (m0)) (p0 := ((xs 1))) (p1 := ((xs 2))) (p2 := ((xs 3))) (fm := ([.int 0, .ref (v 0), .ref (v 1), .ref (v 2), .ref (v 3), .ref (v 4), .int 0, .int 0, .int 0, .int 0, .int 0, .long 0, .int 0, .int 0, .int 0, .int (-1), .ref (v 5), .ref (v 6), .ref (v 7), .ref (v 8), .ref (v 9), .ref (v 10), .ref (v 11), .ref (v 12), .ref (v 13), .ref (v 14), .ref (v 15), .ref (v 16), .ref (v 17), .ref (v 18), .ref (v 19), .ref (v 20), .int 0, .int 0, .int 0, .int 0, .ref (v 21), .ref (v 22), .ref (v 23), .int 0, .int 0, .ref (v 24), .ref (v 25), .int 0, .int 0, .ref (v 26), .ref (v 27), .ref (v 28), .int 0, .int 0, .int 0])) (hmn := rfl) (aw := ((v 0))) (hm1 := rfl) (am := ((v 1))) (hm2 := rfl) (ac := ((v 2))) (hm3 := rfl) (faw := (fw)) (fam := (fun _ => 0)) (fac := (fun _ => 0)) _) (cwV 3 hts (fn_ginV (fn_gin wd_1391) wd_1388 wd_1389 wd_1390 wd_13) rfl rfl rfl (by decide +kernel) ⟨Nat.le_of_ble_eq_true rfl, Nat.le_of_ble_eq_true rfl⟩) ⟨fn_blind, va_recv hK.1 hP (ci := 12) (q0 := 0) rfl rfl, hp⟩ rfl rfl hl.1 rfl (lv_room (Nat.le_of_ble_eq_true rfl)) dL_law_1852 ⟨Nat.le_of_ble_eq_true rfl, Nat.le_of_ble_eq_true rfl⟩) (fun r4 u3 H locs hwu3 hP hD hS => ?_)
  have r4_e : r4 = (fn_sRow ((xs 1)) ((xs 2)) ((xs 3))) := hwu3
  subst r4_e
  have hP : va_P D vwCl [] H := hP
  have hD : va_D A [] := hD
  refine lv_icmp_eq (tgt := 1996) hx hb dL_law_1855 (by decide) (fun _ => ?_) (fun h9 => absurd rfl h9)
  refine lv_iinc (v := 6) (lv' := [(3, .int 6), (2, .ref m0), (1, .ref x0), (0, .ref b)]) hx hb dL_law_1996 hl (k := 0) rfl (by decide) (by decide) rfl (fun ls hl => ?_)
  refine lv_goto (tgt := 18) hx hb dL_law_1999 (by decide) ?_
  refine lv_iload_n hx hb dL_law_18 rfl (lv_at hl 0 rfl) ?_
  refine lv_aload_n hx hb dL_law_19 rfl (lv_at hl 3 rfl) ?_
  refine fn_at 20 rfl ?_
  refine va_slen hx hb hX hbl hbA hS dL_law_20 ?_
  refine fn_top 6 (by decide) ?_
  refine lv_bipush (v := 6) hx hb dL_law_21 (by decide) ?_
  refine lv_isub hx hb dL_law_23 ?_
  refine fn_top 0 (by decide) ?_
  refine lv_icmp_gt (tgt := 2002) hx hb dL_law_24 (by decide) (fun _ => ?_) (fun h9 => absurd (by decide) h9)
  refine lv_iconst (v := 1) hx hb dL_law_2002 (by decide) ?_
  refine va_forget (fun q hq => by have h9 := hS.2.2 q hq; rw [← hAe] at h9; exact h9) ?_
  refine W.widen (k := 600000) (n := 7302250) (Nat.le_of_ble_eq_true rfl) (Nat.le_of_ble_eq_true rfl) ?_
  exact lw_ret hx hb hr hlocks dL_law_2003
theorem dL_law_1860 : decode cL_law 1860 = .ok (.aload_n 1, 1) := by decide +kernel
theorem dL_law_1861 : decode cL_law 1861 = .ok (.aload_n 0, 1) := by decide +kernel
theorem dL_law_1862 : decode cL_law 1862 = .ok (.iload_n 3, 1) := by decide +kernel
theorem dL_law_1863 : decode cL_law 1863 = .ok (.iconst 1, 1) := by decide +kernel
theorem dL_law_1864 : decode cL_law 1864 = .ok (.iadd, 1) := by decide +kernel
theorem dL_law_1865 : decode cL_law 1865 = .ok (.iaload, 1) := by decide +kernel
theorem dL_law_1866 : decode cL_law 1866 = .ok (.aload_n 0, 1) := by decide +kernel
theorem dL_law_1867 : decode cL_law 1867 = .ok (.iload_n 3, 1) := by decide +kernel
theorem dL_law_1868 : decode cL_law 1868 = .ok (.iconst 2, 1) := by decide +kernel
theorem dL_law_1869 : decode cL_law 1869 = .ok (.iadd, 1) := by decide +kernel
theorem dL_law_1870 : decode cL_law 1870 = .ok (.iaload, 1) := by decide +kernel
theorem dL_law_1871 : decode cL_law 1871 = .ok (.aload_n 0, 1) := by decide +kernel
theorem dL_law_1872 : decode cL_law 1872 = .ok (.iload_n 3, 1) := by decide +kernel
theorem dL_law_1873 : decode cL_law 1873 = .ok (.iconst 3, 1) := by decide +kernel
theorem dL_law_1874 : decode cL_law 1874 = .ok (.iadd, 1) := by decide +kernel
theorem dL_law_1875 : decode cL_law 1875 = .ok (.iaload, 1) := by decide +kernel
theorem dL_law_1876 : decode cL_law 1876 = .ok (.i2l, 1) := by decide +kernel
theorem dL_law_1877 : decode cL_law 1877 = .ok (.bipush 32, 2) := by decide +kernel
theorem dL_law_1879 : decode cL_law 1879 = .ok (.lshl, 1) := by decide +kernel
theorem dL_law_1880 : decode cL_law 1880 = .ok (.aload_n 0, 1) := by decide +kernel
theorem dL_law_1881 : decode cL_law 1881 = .ok (.iload_n 3, 1) := by decide +kernel
theorem dL_law_1882 : decode cL_law 1882 = .ok (.iconst 4, 1) := by decide +kernel
theorem dL_law_1883 : decode cL_law 1883 = .ok (.iadd, 1) := by decide +kernel
theorem dL_law_1884 : decode cL_law 1884 = .ok (.iaload, 1) := by decide +kernel
theorem dL_law_1885 : decode cL_law 1885 = .ok (.i2l, 1) := by decide +kernel
theorem dL_law_1886 : decode cL_law 1886 = .ok (.ldc2_w 266, 3) := by decide +kernel
theorem dL_law_1889 : decode cL_law 1889 = .ok (.land, 1) := by decide +kernel
theorem dL_law_1890 : decode cL_law 1890 = .ok (.lor, 1) := by decide +kernel
theorem dL_law_1891 : decode cL_law 1891 = .ok (.invokevirtual 268, 3) := by decide +kernel
theorem dL_law_1894 : decode cL_law 1894 = .ok (.aload_n 2, 1) := by decide +kernel
theorem dL_law_1895 : decode cL_law 1895 = .ok (.aload_n 0, 1) := by decide +kernel
theorem dL_law_1896 : decode cL_law 1896 = .ok (.iload_n 3, 1) := by decide +kernel
theorem dL_law_1897 : decode cL_law 1897 = .ok (.iconst 1, 1) := by decide +kernel
theorem dL_law_1898 : decode cL_law 1898 = .ok (.iadd, 1) := by decide +kernel
theorem dL_law_1899 : decode cL_law 1899 = .ok (.iaload, 1) := by decide +kernel
theorem dL_law_1900 : decode cL_law 1900 = .ok (.aload_n 0, 1) := by decide +kernel
theorem dL_law_1901 : decode cL_law 1901 = .ok (.iload_n 3, 1) := by decide +kernel
theorem dL_law_1902 : decode cL_law 1902 = .ok (.iconst 2, 1) := by decide +kernel
theorem dL_law_1903 : decode cL_law 1903 = .ok (.iadd, 1) := by decide +kernel
theorem dL_law_1904 : decode cL_law 1904 = .ok (.iaload, 1) := by decide +kernel
theorem dL_law_1905 : decode cL_law 1905 = .ok (.aload_n 0, 1) := by decide +kernel
theorem dL_law_1906 : decode cL_law 1906 = .ok (.iload_n 3, 1) := by decide +kernel
theorem dL_law_1907 : decode cL_law 1907 = .ok (.iconst 3, 1) := by decide +kernel
theorem dL_law_1908 : decode cL_law 1908 = .ok (.iadd, 1) := by decide +kernel
theorem dL_law_1909 : decode cL_law 1909 = .ok (.iaload, 1) := by decide +kernel
theorem dL_law_1910 : decode cL_law 1910 = .ok (.i2l, 1) := by decide +kernel
theorem dL_law_1911 : decode cL_law 1911 = .ok (.bipush 32, 2) := by decide +kernel
theorem dL_law_1913 : decode cL_law 1913 = .ok (.lshl, 1) := by decide +kernel
theorem dL_law_1914 : decode cL_law 1914 = .ok (.aload_n 0, 1) := by decide +kernel
theorem dL_law_1915 : decode cL_law 1915 = .ok (.iload_n 3, 1) := by decide +kernel
theorem dL_law_1916 : decode cL_law 1916 = .ok (.iconst 4, 1) := by decide +kernel
theorem dL_law_1917 : decode cL_law 1917 = .ok (.iadd, 1) := by decide +kernel
theorem dL_law_1918 : decode cL_law 1918 = .ok (.iaload, 1) := by decide +kernel
theorem dL_law_1919 : decode cL_law 1919 = .ok (.i2l, 1) := by decide +kernel
theorem dL_law_1920 : decode cL_law 1920 = .ok (.ldc2_w 266, 3) := by decide +kernel
theorem dL_law_1923 : decode cL_law 1923 = .ok (.land, 1) := by decide +kernel
theorem dL_law_1924 : decode cL_law 1924 = .ok (.lor, 1) := by decide +kernel
theorem dL_law_1925 : decode cL_law 1925 = .ok (.invokevirtual 272, 3) := by decide +kernel
theorem dL_law_1928 : decode cL_law 1928 = .ok (.if_icmp .eq 68, 3) := by decide +kernel
set_option maxHeartbeats 4000000 in
set_option maxRecDepth 100000 in
theorem law_62 {p : Program} {l : Launch} {e : Env} {s : State} {m : MethodId} {below : List Frame} {meth : Method} {c : Code} {b : Nat} {xs : Nat → Int32} (hx : p.tables.exec = Jvm.exec) (hb : c.code = cL_law) (hr : meth.sig.returnType = ret) (hml : c.maxLocals = 4) (hown : s.vm.findClass RL = some m.cls) (hts : ∀ w ∈ fn_big, w.before #[Value.ref b] s = true) (hX : va_X b 6 xs s s.heap) (hbl : b < s.heap.size) (hlocks : meth.locks = false) {D : va_G} {K : Nat → ClassId} (hK : fn_KK D K s) {x0 m0 : Nat} {u v : Nat → Nat} {fw : Nat → Int32} (hfw : ∀ j, j < 4 → fw j = -1) {A : Nat → Prop} (hAe : (fun q : Nat => s.heap.size ≤ q) = A) : ∀ (H : Heap) (locs : List Loc) (ls : Array Slot), va_P D vwCl (fn_world K x0 m0 u v fw) H → va_D A (fn_world K x0 m0 u v fw) → va_S A s.heap H locs → lv_has ls 4 [(3, .int 0), (2, .ref m0), (1, .ref x0), (0, .ref b)] → W p l e room_1 s m #[Value.ref b] below meth c H locs 144 12710 (lw_Z below #[Value.ref b] s) (F0 m 1860 ls []) := by
  intro H locs ls hP hD hS hl
  have hA : ∀ q : Nat, s.heap.size ≤ q → A q := fun q h => by rw [← hAe]; exact h
  have hbA : ¬ A b := by rw [← hAe]; exact Nat.not_le.mpr hbl
  refine lv_aload_n hx hb dL_law_1860 rfl (lv_at hl 2 rfl) ?_
  refine lv_aload_n hx hb dL_law_1861 rfl (lv_at hl 3 rfl) ?_
  refine lv_iload_n hx hb dL_law_1862 rfl (lv_at hl 0 rfl) ?_
  refine lv_iconst (v := 1) hx hb dL_law_1863 (by decide) ?_
  refine lv_iadd hx hb dL_law_1864 ?_
  refine fn_top 1 (by decide) ?_
  refine va_sld hx hb hX hbl hbA hS (by unfold vp_in; decide) dL_law_1865 ?_
  refine fn_top (xs 1) (congrArg xs (by decide)) ?_
  refine lv_aload_n hx hb dL_law_1866 rfl (lv_at hl 3 rfl) ?_
  refine lv_iload_n hx hb dL_law_1867 rfl (lv_at hl 0 rfl) ?_
  refine lv_iconst (v := 2) hx hb dL_law_1868 (by decide) ?_
  refine lv_iadd hx hb dL_law_1869 ?_
  refine fn_top 2 (by decide) ?_
  refine va_sld hx hb hX hbl hbA hS (by unfold vp_in; decide) dL_law_1870 ?_
  refine fn_top (xs 2) (congrArg xs (by decide)) ?_
  refine lv_aload_n hx hb dL_law_1871 rfl (lv_at hl 3 rfl) ?_
  refine lv_iload_n hx hb dL_law_1872 rfl (lv_at hl 0 rfl) ?_
  refine lv_iconst (v := 3) hx hb dL_law_1873 (by decide) ?_
  refine lv_iadd hx hb dL_law_1874 ?_
  refine fn_top 3 (by decide) ?_
  refine va_sld hx hb hX hbl hbA hS (by unfold vp_in; decide) dL_law_1875 ?_
  refine fn_top (xs 3) (congrArg xs (by decide)) ?_
  refine lv_i2l hx hb dL_law_1876 rfl ?_
  refine lv_bipush (v := 32) hx hb dL_law_1877 (by decide) ?_
  refine lv_lshl hx hb dL_law_1879 rfl ?_
  refine lv_topl (fun v1 ev1 => ?_)
  refine fn_at 1880 rfl ?_
  refine lv_aload_n hx hb dL_law_1880 rfl (lv_at hl 3 rfl) ?_
  refine lv_iload_n hx hb dL_law_1881 rfl (lv_at hl 0 rfl) ?_
  refine lv_iconst (v := 4) hx hb dL_law_1882 (by decide) ?_
  refine lv_iadd hx hb dL_law_1883 ?_
  refine fn_top 4 (by decide) ?_
  refine va_sld hx hb hX hbl hbA hS (by unfold vp_in; decide) dL_law_1884 ?_
  refine fn_top (xs 4) (congrArg xs (by decide)) ?_
  refine lv_i2l hx hb dL_law_1885 rfl ?_
  refine lv_ldc2 (own := RL) (v := 4294967295) hx hb hown (hts _ wd_1953) dL_law_1886 ?_
  refine lv_land hx hb dL_law_1889 ?_
  refine lv_topl (fun v2 ev2 => ?_)
  refine lv_lor hx hb dL_law_1890 ?_
  refine lv_topl (fun v3 ev3 => ?_)
  refine fn_goi (wc := [(x0, .inr (11, [.ref (u 0), .ref (u 10), .ref (u 17), .ref (u 25), .ref (u 26), .ref (u 27), .ref (u 28), .ref (u 29), .ref (u 34), .ref (u 39), .ref (u 43), .ref (u 51), .ref (u 55)])), ((u 28), .inl (K 6, 4, .inr (.inr (.inr (.inr (va_up (va_up (va_up (va_up (fun _ => none) (Int32.toNatClampNeg 0) (some (u 105))) (Int32.toNatClampNeg 1) (some (u 107))) (Int32.toNatClampNeg 2) (some (u 109))) (Int32.toNatClampNeg 3) (some (u 111)))))))), ((u 105), .inr (4, [.int 0, .int 0, .int 0, .ref (u 106)])), ((u 107), .inr (4, [.int 0, .int 0, .int 0, .ref (u 108)])), ((u 109), .inr (4, [.int 0, .int 0, .int 0, .ref (u 110)])), ((u 111), .inr (4, [.int 0, .int 0, .int 0, .ref (u 112)]))]) (wr := [(m0, .inr (12, [.int 0, .ref (v 0), .ref (v 1), .ref (v 2), .ref (v 3), .ref (v 4), .int 0, .int 0, .int 0, .int 0, .int 0, .long 0, .int 0, .int 0, .int 0, .int (-1), .ref (v 5), .ref (v 6), .ref (v 7), .ref (v 8), .ref (v 9), .ref (v 10), .ref (v 11), .ref (v 12), .ref (v 13), .ref (v 14), .ref (v 15), .ref (v 16), .ref (v 17), .ref (v 18), .ref (v 19), .ref (v 20), .int 0, .int 0, .int 0, .int 0, .ref (v 21), .ref (v 22), .ref (v 23), .int 0, .int 0, .ref (v 24), .ref (v 25), .int 0, .int 0, .ref (v 26), .ref (v 27), .ref (v 28), .int 0, .int 0, .int 0])), ((v 0), .inl (K 0, 4, .inl fw)), ((v 1), .inl (K 0, 4, .inl (fun _ => 0))), ((v 2), .inl (K 3, 240, .inr (.inl (fun _ => 0)))), ((v 4), .inl (K 1, 1400, .inl (fun _ => 0))), ((v 5), .inl (K 0, 5, .inl (fun _ => 0))), ((v 6), .inl (K 0, 40, .inl (fun _ => 0))), ((v 7), .inl (K 0, 50, .inl (fun _ => 0))), ((v 8), .inl (K 0, 60, .inl (fun _ => 0))), ((v 9), .inl (K 0, 480, .inl (fun _ => 0))), ((v 10), .inl (K 0, 600, .inl (fun _ => 0))), ((v 11), .inl (K 2, 3, .inl (fun _ => 0)))]) hK hP hD hS hA [0, 29, 80, 82, 84, 86] [88, 89, 90, 91, 92, 93, 94, 95, 96, 97, 98, 99] rfl rfl (by decide) (fun hp => va_runV (C := RX11) (As := [.int (xs 1), .int (xs 2), .long v3]) (rest := []) ⟨hx, hb, hml, hown, hts⟩ (c_X11_write (l := l) (D := D) (K := K) (x0 := (x0)) (p0 := ((xs 1))) (p1 := ((xs 2))) (p2 := (v3)) (fx := ([.ref (u 0), .ref (u 10), .ref (u 17), .ref (u 25), .ref (u 26), .ref (u 27), .ref (u 28), .ref (u 29), .ref (u 34), .ref (u 39), .ref (u 43), .ref (u 51), .ref (u 55)])) (rw := ((u 28))) (hx6 := rfl) (r0 := ((u 105))) (hrw_0 := rfl) (r1 := ((u 107))) (hrw_1 := rfl) (r2 := ((u 109))) (hrw_2 := rfl) (r3 := ((u 111))) (hrw_3 := rfl) (frw := (va_up (va_up (va_up (va_up (fun _ => none) (Int32.toNatClampNeg 0) (some (u 105))) (Int32.toNatClampNeg 1) (some (u 107))) (Int32.toNatClampNeg 2) (some (u 109))) (Int32.toNatClampNeg 3) (some (u 111)))) (n0 := ((u 106))) (n1 := ((u 108))) (n2 := ((u 110))) (n3 := ((u 112))) _) (cwV 3 hts (fn_ginV (fn_gin wd_1214) wd_1211 wd_1212 wd_1213 wd_1) rfl rfl rfl (by decide +kernel) ⟨Nat.le_of_ble_eq_true rfl, Nat.le_of_ble_eq_true rfl⟩) ⟨fn_blind, va_recv hK.1 hP (ci := 11) (q0 := 0) rfl rfl, hp⟩ rfl rfl hl.1 rfl (lv_room (Nat.le_of_ble_eq_true rfl)) dL_law_1891 ⟨Nat.le_of_ble_eq_true rfl, Nat.le_of_ble_eq_true rfl⟩) (fun r5 u4 H locs hwu4 hP hD hS => ?_)
  have r5_e : r5 = (fn_sWr ((xs 1))) := hwu4
  subst r5_e
  have hP : va_P D vwCl [(m0, .inr (12, [.int 0, .ref (v 0), .ref (v 1), .ref (v 2), .ref (v 3), .ref (v 4), .int 0, .int 0, .int 0, .int 0, .int 0, .long 0, .int 0, .int 0, .int 0, .int (-1), .ref (v 5), .ref (v 6), .ref (v 7), .ref (v 8), .ref (v 9), .ref (v 10), .ref (v 11), .ref (v 12), .ref (v 13), .ref (v 14), .ref (v 15), .ref (v 16), .ref (v 17), .ref (v 18), .ref (v 19), .ref (v 20), .int 0, .int 0, .int 0, .int 0, .ref (v 21), .ref (v 22), .ref (v 23), .int 0, .int 0, .ref (v 24), .ref (v 25), .int 0, .int 0, .ref (v 26), .ref (v 27), .ref (v 28), .int 0, .int 0, .int 0])), ((v 0), .inl (K 0, 4, .inl fw)), ((v 1), .inl (K 0, 4, .inl (fun _ => 0))), ((v 2), .inl (K 3, 240, .inr (.inl (fun _ => 0)))), ((v 4), .inl (K 1, 1400, .inl (fun _ => 0))), ((v 5), .inl (K 0, 5, .inl (fun _ => 0))), ((v 6), .inl (K 0, 40, .inl (fun _ => 0))), ((v 7), .inl (K 0, 50, .inl (fun _ => 0))), ((v 8), .inl (K 0, 60, .inl (fun _ => 0))), ((v 9), .inl (K 0, 480, .inl (fun _ => 0))), ((v 10), .inl (K 0, 600, .inl (fun _ => 0))), ((v 11), .inl (K 2, 3, .inl (fun _ => 0)))] H := hP
  have hD : va_D A [(m0, .inr (12, [.int 0, .ref (v 0), .ref (v 1), .ref (v 2), .ref (v 3), .ref (v 4), .int 0, .int 0, .int 0, .int 0, .int 0, .long 0, .int 0, .int 0, .int 0, .int (-1), .ref (v 5), .ref (v 6), .ref (v 7), .ref (v 8), .ref (v 9), .ref (v 10), .ref (v 11), .ref (v 12), .ref (v 13), .ref (v 14), .ref (v 15), .ref (v 16), .ref (v 17), .ref (v 18), .ref (v 19), .ref (v 20), .int 0, .int 0, .int 0, .int 0, .ref (v 21), .ref (v 22), .ref (v 23), .int 0, .int 0, .ref (v 24), .ref (v 25), .int 0, .int 0, .ref (v 26), .ref (v 27), .ref (v 28), .int 0, .int 0, .int 0])), ((v 0), .inl (K 0, 4, .inl fw)), ((v 1), .inl (K 0, 4, .inl (fun _ => 0))), ((v 2), .inl (K 3, 240, .inr (.inl (fun _ => 0)))), ((v 4), .inl (K 1, 1400, .inl (fun _ => 0))), ((v 5), .inl (K 0, 5, .inl (fun _ => 0))), ((v 6), .inl (K 0, 40, .inl (fun _ => 0))), ((v 7), .inl (K 0, 50, .inl (fun _ => 0))), ((v 8), .inl (K 0, 60, .inl (fun _ => 0))), ((v 9), .inl (K 0, 480, .inl (fun _ => 0))), ((v 10), .inl (K 0, 600, .inl (fun _ => 0))), ((v 11), .inl (K 2, 3, .inl (fun _ => 0)))] := hD
  refine lv_aload_n hx hb dL_law_1894 rfl (lv_at hl 1 rfl) ?_
  refine lv_aload_n hx hb dL_law_1895 rfl (lv_at hl 3 rfl) ?_
  refine lv_iload_n hx hb dL_law_1896 rfl (lv_at hl 0 rfl) ?_
  refine lv_iconst (v := 1) hx hb dL_law_1897 (by decide) ?_
  refine lv_iadd hx hb dL_law_1898 ?_
  refine fn_top 1 (by decide) ?_
  refine va_sld hx hb hX hbl hbA hS (by unfold vp_in; decide) dL_law_1899 ?_
  refine fn_top (xs 1) (congrArg xs (by decide)) ?_
  refine lv_aload_n hx hb dL_law_1900 rfl (lv_at hl 3 rfl) ?_
  refine lv_iload_n hx hb dL_law_1901 rfl (lv_at hl 0 rfl) ?_
  refine lv_iconst (v := 2) hx hb dL_law_1902 (by decide) ?_
  refine lv_iadd hx hb dL_law_1903 ?_
  refine fn_top 2 (by decide) ?_
  refine fn_at 1904 rfl ?_
  refine va_sld hx hb hX hbl hbA hS (by unfold vp_in; decide) dL_law_1904 ?_
  refine fn_top (xs 2) (congrArg xs (by decide)) ?_
  refine lv_aload_n hx hb dL_law_1905 rfl (lv_at hl 3 rfl) ?_
  refine lv_iload_n hx hb dL_law_1906 rfl (lv_at hl 0 rfl) ?_
  refine lv_iconst (v := 3) hx hb dL_law_1907 (by decide) ?_
  refine lv_iadd hx hb dL_law_1908 ?_
  refine fn_top 3 (by decide) ?_
  refine va_sld hx hb hX hbl hbA hS (by unfold vp_in; decide) dL_law_1909 ?_
  refine fn_top (xs 3) (congrArg xs (by decide)) ?_
  refine lv_i2l hx hb dL_law_1910 rfl ?_
  refine lv_bipush (v := 32) hx hb dL_law_1911 (by decide) ?_
  refine lv_lshl hx hb dL_law_1913 rfl ?_
  refine lv_topl (fun v6 ev6 => ?_)
  refine lv_aload_n hx hb dL_law_1914 rfl (lv_at hl 3 rfl) ?_
  refine lv_iload_n hx hb dL_law_1915 rfl (lv_at hl 0 rfl) ?_
  refine lv_iconst (v := 4) hx hb dL_law_1916 (by decide) ?_
  refine lv_iadd hx hb dL_law_1917 ?_
  refine fn_top 4 (by decide) ?_
  refine va_sld hx hb hX hbl hbA hS (by unfold vp_in; decide) dL_law_1918 ?_
  refine fn_top (xs 4) (congrArg xs (by decide)) ?_
  refine lv_i2l hx hb dL_law_1919 rfl ?_
  refine lv_ldc2 (own := RL) (v := 4294967295) hx hb hown (hts _ wd_1953) dL_law_1920 ?_
  refine lv_land hx hb dL_law_1923 ?_
  refine lv_topl (fun v7 ev7 => ?_)
  refine lv_lor hx hb dL_law_1924 ?_
  refine lv_topl (fun v8 ev8 => ?_)
  refine fn_goi (wc := [(m0, .inr (12, [.int 0, .ref (v 0), .ref (v 1), .ref (v 2), .ref (v 3), .ref (v 4), .int 0, .int 0, .int 0, .int 0, .int 0, .long 0, .int 0, .int 0, .int 0, .int (-1), .ref (v 5), .ref (v 6), .ref (v 7), .ref (v 8), .ref (v 9), .ref (v 10), .ref (v 11), .ref (v 12), .ref (v 13), .ref (v 14), .ref (v 15), .ref (v 16), .ref (v 17), .ref (v 18), .ref (v 19), .ref (v 20), .int 0, .int 0, .int 0, .int 0, .ref (v 21), .ref (v 22), .ref (v 23), .int 0, .int 0, .ref (v 24), .ref (v 25), .int 0, .int 0, .ref (v 26), .ref (v 27), .ref (v 28), .int 0, .int 0, .int 0])), ((v 0), .inl (K 0, 4, .inl fw))]) (wr := []) hK hP hD hS hA [0, 1] [] rfl rfl (by decide) (fun hp => va_runV (C := RX12) (As := [.int (xs 1), .int (xs 2), .long v8]) (rest := [.int (fn_sWr ((xs 1)))]) ⟨hx, hb, hml, hown, hts⟩ (c_X12_write (l := l) (D := D) (K := K) (m0 := (m0)) (p0 := ((xs 1))) (p1 := ((xs 2))) (p2 := (v8)) (fm := ([.int 0, .ref (v 0), .ref (v 1), .ref (v 2), .ref (v 3), .ref (v 4), .int 0, .int 0, .int 0, .int 0, .int 0, .long 0, .int 0, .int 0, .int 0, .int (-1), .ref (v 5), .ref (v 6), .ref (v 7), .ref (v 8), .ref (v 9), .ref (v 10), .ref (v 11), .ref (v 12), .ref (v 13), .ref (v 14), .ref (v 15), .ref (v 16), .ref (v 17), .ref (v 18), .ref (v 19), .ref (v 20), .int 0, .int 0, .int 0, .int 0, .ref (v 21), .ref (v 22), .ref (v 23), .int 0, .int 0, .ref (v 24), .ref (v 25), .int 0, .int 0, .ref (v 26), .ref (v 27), .ref (v 28), .int 0, .int 0, .int 0])) (hmn := rfl) (aw := ((v 0))) (hm1 := rfl) (faw := (fw)) (hfaw := hfw) _) (cwV 3 hts (fn_ginV (fn_gin wd_1402) wd_1399 wd_1400 wd_1401 wd_13) rfl rfl rfl (by decide +kernel) ⟨Nat.le_of_ble_eq_true rfl, Nat.le_of_ble_eq_true rfl⟩) ⟨fn_blind, va_recv hK.1 hP (ci := 12) (q0 := 0) rfl rfl, hp⟩ rfl rfl hl.1 rfl (lv_room (Nat.le_of_ble_eq_true rfl)) dL_law_1925 ⟨Nat.le_of_ble_eq_true rfl, Nat.le_of_ble_eq_true rfl⟩) (fun r10 u9 H locs hwu9 hP hD hS => ?_)
  have r10_e : r10 = (fn_sWr ((xs 1))) := hwu9
  subst r10_e
  have hP : va_P D vwCl [] H := hP
  have hD : va_D A [] := hD
  refine lv_icmp_eq (tgt := 1996) hx hb dL_law_1928 (by decide) (fun _ => ?_) (fun h9 => absurd rfl h9)
  refine fn_at 1996 rfl ?_
  refine lv_iinc (v := 6) (lv' := [(3, .int 6), (2, .ref m0), (1, .ref x0), (0, .ref b)]) hx hb dL_law_1996 hl (k := 0) rfl (by decide) (by decide) rfl (fun ls hl => ?_)
  refine lv_goto (tgt := 18) hx hb dL_law_1999 (by decide) ?_
  refine lv_iload_n hx hb dL_law_18 rfl (lv_at hl 0 rfl) ?_
  refine lv_aload_n hx hb dL_law_19 rfl (lv_at hl 3 rfl) ?_
  refine va_slen hx hb hX hbl hbA hS dL_law_20 ?_
  refine fn_top 6 (by decide) ?_
  refine lv_bipush (v := 6) hx hb dL_law_21 (by decide) ?_
  refine lv_isub hx hb dL_law_23 ?_
  refine fn_top 0 (by decide) ?_
  refine lv_icmp_gt (tgt := 2002) hx hb dL_law_24 (by decide) (fun _ => ?_) (fun h9 => absurd (by decide) h9)
  refine lv_iconst (v := 1) hx hb dL_law_2002 (by decide) ?_
  refine va_forget (fun q hq => by have h9 := hS.2.2 q hq; rw [← hAe] at h9; exact h9) ?_
  refine W.widen (k := 600000) (n := 7302250) (Nat.le_of_ble_eq_true rfl) (Nat.le_of_ble_eq_true rfl) ?_
  exact lw_ret hx hb hr hlocks dL_law_2003
theorem dL_law_1933 : decode cL_law 1933 = .ok (.aload_n 1, 1) := by decide +kernel
theorem dL_law_1934 : decode cL_law 1934 = .ok (.aload_n 0, 1) := by decide +kernel
theorem dL_law_1935 : decode cL_law 1935 = .ok (.iload_n 3, 1) := by decide +kernel
theorem dL_law_1936 : decode cL_law 1936 = .ok (.iconst 1, 1) := by decide +kernel
theorem dL_law_1937 : decode cL_law 1937 = .ok (.iadd, 1) := by decide +kernel
theorem dL_law_1938 : decode cL_law 1938 = .ok (.iaload, 1) := by decide +kernel
theorem dL_law_1939 : decode cL_law 1939 = .ok (.aload_n 0, 1) := by decide +kernel
theorem dL_law_1940 : decode cL_law 1940 = .ok (.iload_n 3, 1) := by decide +kernel
theorem dL_law_1941 : decode cL_law 1941 = .ok (.iconst 2, 1) := by decide +kernel
theorem dL_law_1942 : decode cL_law 1942 = .ok (.iadd, 1) := by decide +kernel
theorem dL_law_1943 : decode cL_law 1943 = .ok (.iaload, 1) := by decide +kernel
theorem dL_law_1944 : decode cL_law 1944 = .ok (.aload_n 0, 1) := by decide +kernel
theorem dL_law_1945 : decode cL_law 1945 = .ok (.iload_n 3, 1) := by decide +kernel
theorem dL_law_1946 : decode cL_law 1946 = .ok (.iconst 3, 1) := by decide +kernel
theorem dL_law_1947 : decode cL_law 1947 = .ok (.iadd, 1) := by decide +kernel
theorem dL_law_1948 : decode cL_law 1948 = .ok (.iaload, 1) := by decide +kernel
theorem dL_law_1949 : decode cL_law 1949 = .ok (.aload_n 0, 1) := by decide +kernel
theorem dL_law_1950 : decode cL_law 1950 = .ok (.iload_n 3, 1) := by decide +kernel
theorem dL_law_1951 : decode cL_law 1951 = .ok (.iconst 4, 1) := by decide +kernel
theorem dL_law_1952 : decode cL_law 1952 = .ok (.iadd, 1) := by decide +kernel
theorem dL_law_1953 : decode cL_law 1953 = .ok (.iaload, 1) := by decide +kernel
theorem dL_law_1954 : decode cL_law 1954 = .ok (.aload_n 0, 1) := by decide +kernel
theorem dL_law_1955 : decode cL_law 1955 = .ok (.iload_n 3, 1) := by decide +kernel
theorem dL_law_1956 : decode cL_law 1956 = .ok (.iconst 5, 1) := by decide +kernel
theorem dL_law_1957 : decode cL_law 1957 = .ok (.iadd, 1) := by decide +kernel
theorem dL_law_1958 : decode cL_law 1958 = .ok (.iaload, 1) := by decide +kernel
theorem dL_law_1959 : decode cL_law 1959 = .ok (.invokevirtual 273, 3) := by decide +kernel
theorem dL_law_1962 : decode cL_law 1962 = .ok (.aload_n 2, 1) := by decide +kernel
theorem dL_law_1963 : decode cL_law 1963 = .ok (.aload_n 0, 1) := by decide +kernel
theorem dL_law_1964 : decode cL_law 1964 = .ok (.iload_n 3, 1) := by decide +kernel
theorem dL_law_1965 : decode cL_law 1965 = .ok (.iconst 1, 1) := by decide +kernel
theorem dL_law_1966 : decode cL_law 1966 = .ok (.iadd, 1) := by decide +kernel
theorem dL_law_1967 : decode cL_law 1967 = .ok (.iaload, 1) := by decide +kernel
theorem dL_law_1968 : decode cL_law 1968 = .ok (.aload_n 0, 1) := by decide +kernel
theorem dL_law_1969 : decode cL_law 1969 = .ok (.iload_n 3, 1) := by decide +kernel
theorem dL_law_1970 : decode cL_law 1970 = .ok (.iconst 2, 1) := by decide +kernel
theorem dL_law_1971 : decode cL_law 1971 = .ok (.iadd, 1) := by decide +kernel
theorem dL_law_1972 : decode cL_law 1972 = .ok (.iaload, 1) := by decide +kernel
theorem dL_law_1973 : decode cL_law 1973 = .ok (.aload_n 0, 1) := by decide +kernel
theorem dL_law_1974 : decode cL_law 1974 = .ok (.iload_n 3, 1) := by decide +kernel
theorem dL_law_1975 : decode cL_law 1975 = .ok (.iconst 3, 1) := by decide +kernel
theorem dL_law_1976 : decode cL_law 1976 = .ok (.iadd, 1) := by decide +kernel
theorem dL_law_1977 : decode cL_law 1977 = .ok (.iaload, 1) := by decide +kernel
theorem dL_law_1978 : decode cL_law 1978 = .ok (.aload_n 0, 1) := by decide +kernel
theorem dL_law_1979 : decode cL_law 1979 = .ok (.iload_n 3, 1) := by decide +kernel
theorem dL_law_1980 : decode cL_law 1980 = .ok (.iconst 4, 1) := by decide +kernel
theorem dL_law_1981 : decode cL_law 1981 = .ok (.iadd, 1) := by decide +kernel
theorem dL_law_1982 : decode cL_law 1982 = .ok (.iaload, 1) := by decide +kernel
theorem dL_law_1983 : decode cL_law 1983 = .ok (.aload_n 0, 1) := by decide +kernel
theorem dL_law_1984 : decode cL_law 1984 = .ok (.iload_n 3, 1) := by decide +kernel
theorem dL_law_1985 : decode cL_law 1985 = .ok (.iconst 5, 1) := by decide +kernel
theorem dL_law_1986 : decode cL_law 1986 = .ok (.iadd, 1) := by decide +kernel
theorem dL_law_1987 : decode cL_law 1987 = .ok (.iaload, 1) := by decide +kernel
theorem dL_law_1988 : decode cL_law 1988 = .ok (.invokevirtual 276, 3) := by decide +kernel
theorem dL_law_1991 : decode cL_law 1991 = .ok (.if_icmp .eq 5, 3) := by decide +kernel
set_option maxHeartbeats 4000000 in
set_option maxRecDepth 100000 in
theorem law_63 {p : Program} {l : Launch} {e : Env} {s : State} {m : MethodId} {below : List Frame} {meth : Method} {c : Code} {b : Nat} {xs : Nat → Int32} (hx : p.tables.exec = Jvm.exec) (hb : c.code = cL_law) (hr : meth.sig.returnType = ret) (hml : c.maxLocals = 4) (hown : s.vm.findClass RL = some m.cls) (hts : ∀ w ∈ fn_big, w.before #[Value.ref b] s = true) (hX : va_X b 6 xs s s.heap) (hbl : b < s.heap.size) (hlocks : meth.locks = false) {D : va_G} {K : Nat → ClassId} (hK : fn_KK D K s) {x0 m0 : Nat} {u v : Nat → Nat} {fw : Nat → Int32} (hfw : ∀ j, j < 4 → fw j = -1) {A : Nat → Prop} (hAe : (fun q : Nat => s.heap.size ≤ q) = A) : ∀ (H : Heap) (locs : List Loc) (ls : Array Slot), va_P D vwCl (fn_world K x0 m0 u v fw) H → va_D A (fn_world K x0 m0 u v fw) → va_S A s.heap H locs → lv_has ls 4 [(3, .int 0), (2, .ref m0), (1, .ref x0), (0, .ref b)] → W p l e room_1 s m #[Value.ref b] below meth c H locs 144 12710 (lw_Z below #[Value.ref b] s) (F0 m 1933 ls []) := by
  intro H locs ls hP hD hS hl
  have hA : ∀ q : Nat, s.heap.size ≤ q → A q := fun q h => by rw [← hAe]; exact h
  have hbA : ¬ A b := by rw [← hAe]; exact Nat.not_le.mpr hbl
  refine lv_aload_n hx hb dL_law_1933 rfl (lv_at hl 2 rfl) ?_
  refine lv_aload_n hx hb dL_law_1934 rfl (lv_at hl 3 rfl) ?_
  refine lv_iload_n hx hb dL_law_1935 rfl (lv_at hl 0 rfl) ?_
  refine lv_iconst (v := 1) hx hb dL_law_1936 (by decide) ?_
  refine lv_iadd hx hb dL_law_1937 ?_
  refine fn_top 1 (by decide) ?_
  refine va_sld hx hb hX hbl hbA hS (by unfold vp_in; decide) dL_law_1938 ?_
  refine fn_top (xs 1) (congrArg xs (by decide)) ?_
  refine lv_aload_n hx hb dL_law_1939 rfl (lv_at hl 3 rfl) ?_
  refine lv_iload_n hx hb dL_law_1940 rfl (lv_at hl 0 rfl) ?_
  refine lv_iconst (v := 2) hx hb dL_law_1941 (by decide) ?_
  refine lv_iadd hx hb dL_law_1942 ?_
  refine fn_top 2 (by decide) ?_
  refine va_sld hx hb hX hbl hbA hS (by unfold vp_in; decide) dL_law_1943 ?_
  refine fn_top (xs 2) (congrArg xs (by decide)) ?_
  refine lv_aload_n hx hb dL_law_1944 rfl (lv_at hl 3 rfl) ?_
  refine lv_iload_n hx hb dL_law_1945 rfl (lv_at hl 0 rfl) ?_
  refine lv_iconst (v := 3) hx hb dL_law_1946 (by decide) ?_
  refine lv_iadd hx hb dL_law_1947 ?_
  refine fn_top 3 (by decide) ?_
  refine va_sld hx hb hX hbl hbA hS (by unfold vp_in; decide) dL_law_1948 ?_
  refine fn_top (xs 3) (congrArg xs (by decide)) ?_
  refine lv_aload_n hx hb dL_law_1949 rfl (lv_at hl 3 rfl) ?_
  refine lv_iload_n hx hb dL_law_1950 rfl (lv_at hl 0 rfl) ?_
  refine lv_iconst (v := 4) hx hb dL_law_1951 (by decide) ?_
  refine fn_at 1952 rfl ?_
  refine lv_iadd hx hb dL_law_1952 ?_
  refine fn_top 4 (by decide) ?_
  refine va_sld hx hb hX hbl hbA hS (by unfold vp_in; decide) dL_law_1953 ?_
  refine fn_top (xs 4) (congrArg xs (by decide)) ?_
  refine lv_aload_n hx hb dL_law_1954 rfl (lv_at hl 3 rfl) ?_
  refine lv_iload_n hx hb dL_law_1955 rfl (lv_at hl 0 rfl) ?_
  refine lv_iconst (v := 5) hx hb dL_law_1956 (by decide) ?_
  refine lv_iadd hx hb dL_law_1957 ?_
  refine fn_top 5 (by decide) ?_
  refine va_sld hx hb hX hbl hbA hS (by unfold vp_in; decide) dL_law_1958 ?_
  refine fn_top (xs 5) (congrArg xs (by decide)) ?_
  refine fn_goi (wc := [(x0, .inr (11, [.ref (u 0), .ref (u 10), .ref (u 17), .ref (u 25), .ref (u 26), .ref (u 27), .ref (u 28), .ref (u 29), .ref (u 34), .ref (u 39), .ref (u 43), .ref (u 51), .ref (u 55)])), ((u 28), .inl (K 6, 4, .inr (.inr (.inr (.inr (va_up (va_up (va_up (va_up (fun _ => none) (Int32.toNatClampNeg 0) (some (u 105))) (Int32.toNatClampNeg 1) (some (u 107))) (Int32.toNatClampNeg 2) (some (u 109))) (Int32.toNatClampNeg 3) (some (u 111)))))))), ((u 105), .inr (4, [.int 0, .int 0, .int 0, .ref (u 106)])), ((u 107), .inr (4, [.int 0, .int 0, .int 0, .ref (u 108)])), ((u 109), .inr (4, [.int 0, .int 0, .int 0, .ref (u 110)])), ((u 111), .inr (4, [.int 0, .int 0, .int 0, .ref (u 112)]))]) (wr := [(m0, .inr (12, [.int 0, .ref (v 0), .ref (v 1), .ref (v 2), .ref (v 3), .ref (v 4), .int 0, .int 0, .int 0, .int 0, .int 0, .long 0, .int 0, .int 0, .int 0, .int (-1), .ref (v 5), .ref (v 6), .ref (v 7), .ref (v 8), .ref (v 9), .ref (v 10), .ref (v 11), .ref (v 12), .ref (v 13), .ref (v 14), .ref (v 15), .ref (v 16), .ref (v 17), .ref (v 18), .ref (v 19), .ref (v 20), .int 0, .int 0, .int 0, .int 0, .ref (v 21), .ref (v 22), .ref (v 23), .int 0, .int 0, .ref (v 24), .ref (v 25), .int 0, .int 0, .ref (v 26), .ref (v 27), .ref (v 28), .int 0, .int 0, .int 0])), ((v 0), .inl (K 0, 4, .inl fw)), ((v 1), .inl (K 0, 4, .inl (fun _ => 0))), ((v 2), .inl (K 3, 240, .inr (.inl (fun _ => 0)))), ((v 4), .inl (K 1, 1400, .inl (fun _ => 0))), ((v 5), .inl (K 0, 5, .inl (fun _ => 0))), ((v 6), .inl (K 0, 40, .inl (fun _ => 0))), ((v 7), .inl (K 0, 50, .inl (fun _ => 0))), ((v 8), .inl (K 0, 60, .inl (fun _ => 0))), ((v 9), .inl (K 0, 480, .inl (fun _ => 0))), ((v 10), .inl (K 0, 600, .inl (fun _ => 0))), ((v 11), .inl (K 2, 3, .inl (fun _ => 0)))]) hK hP hD hS hA [0, 29, 80, 82, 84, 86] [88, 89, 90, 91, 92, 93, 94, 95, 96, 97, 98, 99] rfl rfl (by decide) (fun hp => va_runV (C := RX11) (As := [.int (xs 1), .int (xs 2), .int (xs 3), .int (xs 4), .int (xs 5)]) (rest := []) ⟨hx, hb, hml, hown, hts⟩ (c_X11_paste (l := l) (D := D) (K := K) (x0 := (x0)) (p0 := ((xs 1))) (p1 := ((xs 2))) (p2 := ((xs 3))) (p3 := ((xs 4))) (p4 := ((xs 5))) (fx := ([.ref (u 0), .ref (u 10), .ref (u 17), .ref (u 25), .ref (u 26), .ref (u 27), .ref (u 28), .ref (u 29), .ref (u 34), .ref (u 39), .ref (u 43), .ref (u 51), .ref (u 55)])) (rw := ((u 28))) (hx6 := rfl) (r0 := ((u 105))) (hrw_0 := rfl) (r1 := ((u 107))) (hrw_1 := rfl) (r2 := ((u 109))) (hrw_2 := rfl) (r3 := ((u 111))) (hrw_3 := rfl) (frw := (va_up (va_up (va_up (va_up (fun _ => none) (Int32.toNatClampNeg 0) (some (u 105))) (Int32.toNatClampNeg 1) (some (u 107))) (Int32.toNatClampNeg 2) (some (u 109))) (Int32.toNatClampNeg 3) (some (u 111)))) (n0 := ((u 106))) (n1 := ((u 108))) (n2 := ((u 110))) (n3 := ((u 112))) _) (cwV 5 hts (fn_ginV (fn_gin wd_1222) wd_1219 wd_1220 wd_1221 wd_1) rfl rfl rfl (by decide +kernel) ⟨Nat.le_of_ble_eq_true rfl, Nat.le_of_ble_eq_true rfl⟩) ⟨fn_blind, va_recv hK.1 hP (ci := 11) (q0 := 0) rfl rfl, hp⟩ rfl rfl hl.1 rfl (lv_room (Nat.le_of_ble_eq_true rfl)) dL_law_1959 ⟨Nat.le_of_ble_eq_true rfl, Nat.le_of_ble_eq_true rfl⟩) (fun r2 u1 H locs hwu1 hP hD hS => ?_)
  have r2_e : r2 = (fn_sPst ((xs 1)) ((xs 3))) := hwu1
  subst r2_e
  have hP : va_P D vwCl [(m0, .inr (12, [.int 0, .ref (v 0), .ref (v 1), .ref (v 2), .ref (v 3), .ref (v 4), .int 0, .int 0, .int 0, .int 0, .int 0, .long 0, .int 0, .int 0, .int 0, .int (-1), .ref (v 5), .ref (v 6), .ref (v 7), .ref (v 8), .ref (v 9), .ref (v 10), .ref (v 11), .ref (v 12), .ref (v 13), .ref (v 14), .ref (v 15), .ref (v 16), .ref (v 17), .ref (v 18), .ref (v 19), .ref (v 20), .int 0, .int 0, .int 0, .int 0, .ref (v 21), .ref (v 22), .ref (v 23), .int 0, .int 0, .ref (v 24), .ref (v 25), .int 0, .int 0, .ref (v 26), .ref (v 27), .ref (v 28), .int 0, .int 0, .int 0])), ((v 0), .inl (K 0, 4, .inl fw)), ((v 1), .inl (K 0, 4, .inl (fun _ => 0))), ((v 2), .inl (K 3, 240, .inr (.inl (fun _ => 0)))), ((v 4), .inl (K 1, 1400, .inl (fun _ => 0))), ((v 5), .inl (K 0, 5, .inl (fun _ => 0))), ((v 6), .inl (K 0, 40, .inl (fun _ => 0))), ((v 7), .inl (K 0, 50, .inl (fun _ => 0))), ((v 8), .inl (K 0, 60, .inl (fun _ => 0))), ((v 9), .inl (K 0, 480, .inl (fun _ => 0))), ((v 10), .inl (K 0, 600, .inl (fun _ => 0))), ((v 11), .inl (K 2, 3, .inl (fun _ => 0)))] H := hP
  have hD : va_D A [(m0, .inr (12, [.int 0, .ref (v 0), .ref (v 1), .ref (v 2), .ref (v 3), .ref (v 4), .int 0, .int 0, .int 0, .int 0, .int 0, .long 0, .int 0, .int 0, .int 0, .int (-1), .ref (v 5), .ref (v 6), .ref (v 7), .ref (v 8), .ref (v 9), .ref (v 10), .ref (v 11), .ref (v 12), .ref (v 13), .ref (v 14), .ref (v 15), .ref (v 16), .ref (v 17), .ref (v 18), .ref (v 19), .ref (v 20), .int 0, .int 0, .int 0, .int 0, .ref (v 21), .ref (v 22), .ref (v 23), .int 0, .int 0, .ref (v 24), .ref (v 25), .int 0, .int 0, .ref (v 26), .ref (v 27), .ref (v 28), .int 0, .int 0, .int 0])), ((v 0), .inl (K 0, 4, .inl fw)), ((v 1), .inl (K 0, 4, .inl (fun _ => 0))), ((v 2), .inl (K 3, 240, .inr (.inl (fun _ => 0)))), ((v 4), .inl (K 1, 1400, .inl (fun _ => 0))), ((v 5), .inl (K 0, 5, .inl (fun _ => 0))), ((v 6), .inl (K 0, 40, .inl (fun _ => 0))), ((v 7), .inl (K 0, 50, .inl (fun _ => 0))), ((v 8), .inl (K 0, 60, .inl (fun _ => 0))), ((v 9), .inl (K 0, 480, .inl (fun _ => 0))), ((v 10), .inl (K 0, 600, .inl (fun _ => 0))), ((v 11), .inl (K 2, 3, .inl (fun _ => 0)))] := hD
  refine lv_aload_n hx hb dL_law_1962 rfl (lv_at hl 1 rfl) ?_
  refine lv_aload_n hx hb dL_law_1963 rfl (lv_at hl 3 rfl) ?_
  refine lv_iload_n hx hb dL_law_1964 rfl (lv_at hl 0 rfl) ?_
  refine lv_iconst (v := 1) hx hb dL_law_1965 (by decide) ?_
  refine lv_iadd hx hb dL_law_1966 ?_
  refine fn_top 1 (by decide) ?_
  refine va_sld hx hb hX hbl hbA hS (by unfold vp_in; decide) dL_law_1967 ?_
  refine fn_top (xs 1) (congrArg xs (by decide)) ?_
  refine lv_aload_n hx hb dL_law_1968 rfl (lv_at hl 3 rfl) ?_
  refine lv_iload_n hx hb dL_law_1969 rfl (lv_at hl 0 rfl) ?_
  refine lv_iconst (v := 2) hx hb dL_law_1970 (by decide) ?_
  refine lv_iadd hx hb dL_law_1971 ?_
  refine fn_top 2 (by decide) ?_
  refine va_sld hx hb hX hbl hbA hS (by unfold vp_in; decide) dL_law_1972 ?_
  refine fn_top (xs 2) (congrArg xs (by decide)) ?_
  refine lv_aload_n hx hb dL_law_1973 rfl (lv_at hl 3 rfl) ?_
  refine fn_at 1974 rfl ?_
  refine lv_iload_n hx hb dL_law_1974 rfl (lv_at hl 0 rfl) ?_
  refine lv_iconst (v := 3) hx hb dL_law_1975 (by decide) ?_
  refine lv_iadd hx hb dL_law_1976 ?_
  refine fn_top 3 (by decide) ?_
  refine va_sld hx hb hX hbl hbA hS (by unfold vp_in; decide) dL_law_1977 ?_
  refine fn_top (xs 3) (congrArg xs (by decide)) ?_
  refine lv_aload_n hx hb dL_law_1978 rfl (lv_at hl 3 rfl) ?_
  refine lv_iload_n hx hb dL_law_1979 rfl (lv_at hl 0 rfl) ?_
  refine lv_iconst (v := 4) hx hb dL_law_1980 (by decide) ?_
  refine lv_iadd hx hb dL_law_1981 ?_
  refine fn_top 4 (by decide) ?_
  refine va_sld hx hb hX hbl hbA hS (by unfold vp_in; decide) dL_law_1982 ?_
  refine fn_top (xs 4) (congrArg xs (by decide)) ?_
  refine lv_aload_n hx hb dL_law_1983 rfl (lv_at hl 3 rfl) ?_
  refine lv_iload_n hx hb dL_law_1984 rfl (lv_at hl 0 rfl) ?_
  refine lv_iconst (v := 5) hx hb dL_law_1985 (by decide) ?_
  refine lv_iadd hx hb dL_law_1986 ?_
  refine fn_top 5 (by decide) ?_
  refine va_sld hx hb hX hbl hbA hS (by unfold vp_in; decide) dL_law_1987 ?_
  refine fn_top (xs 5) (congrArg xs (by decide)) ?_
  refine fn_goi (wc := [(m0, .inr (12, [.int 0, .ref (v 0), .ref (v 1), .ref (v 2), .ref (v 3), .ref (v 4), .int 0, .int 0, .int 0, .int 0, .int 0, .long 0, .int 0, .int 0, .int 0, .int (-1), .ref (v 5), .ref (v 6), .ref (v 7), .ref (v 8), .ref (v 9), .ref (v 10), .ref (v 11), .ref (v 12), .ref (v 13), .ref (v 14), .ref (v 15), .ref (v 16), .ref (v 17), .ref (v 18), .ref (v 19), .ref (v 20), .int 0, .int 0, .int 0, .int 0, .ref (v 21), .ref (v 22), .ref (v 23), .int 0, .int 0, .ref (v 24), .ref (v 25), .int 0, .int 0, .ref (v 26), .ref (v 27), .ref (v 28), .int 0, .int 0, .int 0])), ((v 0), .inl (K 0, 4, .inl fw))]) (wr := []) hK hP hD hS hA [0, 1] [] rfl rfl (by decide) (fun hp => va_runV (C := RX12) (As := [.int (xs 1), .int (xs 2), .int (xs 3), .int (xs 4), .int (xs 5)]) (rest := [.int (fn_sPst ((xs 1)) ((xs 3)))]) ⟨hx, hb, hml, hown, hts⟩ (c_X12_paste (l := l) (D := D) (K := K) (m0 := (m0)) (p0 := ((xs 1))) (p1 := ((xs 2))) (p2 := ((xs 3))) (p3 := ((xs 4))) (p4 := ((xs 5))) (fm := ([.int 0, .ref (v 0), .ref (v 1), .ref (v 2), .ref (v 3), .ref (v 4), .int 0, .int 0, .int 0, .int 0, .int 0, .long 0, .int 0, .int 0, .int 0, .int (-1), .ref (v 5), .ref (v 6), .ref (v 7), .ref (v 8), .ref (v 9), .ref (v 10), .ref (v 11), .ref (v 12), .ref (v 13), .ref (v 14), .ref (v 15), .ref (v 16), .ref (v 17), .ref (v 18), .ref (v 19), .ref (v 20), .int 0, .int 0, .int 0, .int 0, .ref (v 21), .ref (v 22), .ref (v 23), .int 0, .int 0, .ref (v 24), .ref (v 25), .int 0, .int 0, .ref (v 26), .ref (v 27), .ref (v 28), .int 0, .int 0, .int 0])) (hmn := rfl) (aw := ((v 0))) (hm1 := rfl) (faw := (fw)) (hfaw := hfw) _) (cwV 5 hts (fn_ginV (fn_gin wd_1409) wd_1406 wd_1407 wd_1408 wd_13) rfl rfl rfl (by decide +kernel) ⟨Nat.le_of_ble_eq_true rfl, Nat.le_of_ble_eq_true rfl⟩) ⟨fn_blind, va_recv hK.1 hP (ci := 12) (q0 := 0) rfl rfl, hp⟩ rfl rfl hl.1 rfl (lv_room (Nat.le_of_ble_eq_true rfl)) dL_law_1988 ⟨Nat.le_of_ble_eq_true rfl, Nat.le_of_ble_eq_true rfl⟩) (fun r4 u3 H locs hwu3 hP hD hS => ?_)
  have r4_e : r4 = (fn_sPst ((xs 1)) ((xs 3))) := hwu3
  subst r4_e
  have hP : va_P D vwCl [] H := hP
  have hD : va_D A [] := hD
  refine lv_icmp_eq (tgt := 1996) hx hb dL_law_1991 (by decide) (fun _ => ?_) (fun h9 => absurd rfl h9)
  refine lv_iinc (v := 6) (lv' := [(3, .int 6), (2, .ref m0), (1, .ref x0), (0, .ref b)]) hx hb dL_law_1996 hl (k := 0) rfl (by decide) (by decide) rfl (fun ls hl => ?_)
  refine lv_goto (tgt := 18) hx hb dL_law_1999 (by decide) ?_
  refine lv_iload_n hx hb dL_law_18 rfl (lv_at hl 0 rfl) ?_
  refine lv_aload_n hx hb dL_law_19 rfl (lv_at hl 3 rfl) ?_
  refine fn_at 20 rfl ?_
  refine va_slen hx hb hX hbl hbA hS dL_law_20 ?_
  refine fn_top 6 (by decide) ?_
  refine lv_bipush (v := 6) hx hb dL_law_21 (by decide) ?_
  refine lv_isub hx hb dL_law_23 ?_
  refine fn_top 0 (by decide) ?_
  refine lv_icmp_gt (tgt := 2002) hx hb dL_law_24 (by decide) (fun _ => ?_) (fun h9 => absurd (by decide) h9)
  refine lv_iconst (v := 1) hx hb dL_law_2002 (by decide) ?_
  refine va_forget (fun q hq => by have h9 := hS.2.2 q hq; rw [← hAe] at h9; exact h9) ?_
  refine W.widen (k := 600000) (n := 7302250) (Nat.le_of_ble_eq_true rfl) (Nat.le_of_ble_eq_true rfl) ?_
  exact lw_ret hx hb hr hlocks dL_law_2003
